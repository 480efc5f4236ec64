/-! the cases of the law: slats, ungrade, change, job, on, count -/
section ZF1
variable {Q : Int32 → (zSt × zSt × zSt × zSt × zSt × zSt) → Prop} {QV : (zSt × zSt × zSt × zSt × zSt × zSt) → Prop} {QX : String → (zSt × zSt × zSt × zSt × zSt × zSt) → Prop} {QM : Int32 → zSt → Prop} {QN : zSt → Prop} {p1 p2 p3 p4 : Int32} {u0 u1 u2 u3 u4 u5 u w : zSt} {nj : Nat} {sl : Nat → Nat}
def vQ (p1 p2 : Int32) : Prop := (0 ≤ p1.toInt ∧ p1.toInt ≤ 9) ∧ 0 ≤ p2.toInt ∧ p2.toInt ≤ 200
theorem m_sum (hs : ∀ q, sl q ≤ 200) (h : u.2 30 = zN sl) (hQ : QM (nI (fb_sm sl 10)) u) : TX7_slatsOfAll QM u := by
  refine ⟨fun n x1 x2 v => ∃ q : Nat, q ≤ 10 ∧ n = 10 - q ∧ x1 = nI (fb_sm sl q) ∧ x2 = nI q ∧ v = u, ?_, ?_⟩
  · unfold wp_X7_slatsOfAll_0
    rintro _ rfl _ rfl
    exact ⟨_, 0, by omega, rfl, rfl, rfl, rfl⟩
  · rintro n _ _ _ ⟨q, hq, hn, rfl, rfl, rfl⟩
    unfold wp_X7_slatsOfAll_4
    refine pk_le 10 q (fun h1 => ?_) (fun h1 => ⟨vp_in_nI (by omega) (by omega), ?_⟩)
    · have : q = 10 := by omega
      subst this
      exact hQ
    · rintro _ rfl _ rfl
      refine ⟨10 - (q + 1), by omega, q + 1, by omega, rfl, ?_, nI_1 q, rfl⟩
      rw [nI_clamp (by omega), h, zN_at, nI_add, fb_sm_succ]
theorem s_upd {q n : Nat} (hs : ∀ q, sl q ≤ 200) (hq : q < 10) (hn : n ≤ 200) : nI (fb_sm sl 10) + (nI n - nI (sl q)) = nI (fb_sm (zUp sl q n) 10) := by
  have h1 := fb_sm_upd sl n hq
  have h2 : fb_sm sl 10 ≤ 10 * 200 := fb_sm_bound (fun k _ => hs k)
  have h3 := hs q
  have h4 : fb_sm (zUp sl q n) 10 + sl q = fb_sm sl 10 + n := h1
  have e1 : (nI n - nI (sl q)).toInt = (n : Int) - sl q := pk_sub_toInt (by omega) (by omega)
  have e2 : (nI (fb_sm sl 10)).toInt = (fb_sm sl 10 : Int) := nI_toInt (by omega)
  rw [fa_eq, fb_addI (by omega) (by omega), e1, e2, nI_toInt (by omega)]
  omega
theorem cl_slats (hs : ∀ q, sl q ≤ 200) (h1 : u2.1 1 = nI (fb_sm sl 10)) (h0 : u2.2 0 = zN sl) (hno : ¬ vQ p1 p2 → QX zIAE (u0, u1, u2, u3, u4, u5))
    (hok : vQ p1 p2 → Q (nI (fb_sm (zUp sl p1.toNatClampNeg p2.toNatClampNeg) 10)) (u0, u1, zA (zI u2 1 (nI (fb_sm (zUp sl p1.toNatClampNeg p2.toNatClampNeg) 10))) 0 (zN (zUp sl p1.toNatClampNeg p2.toNatClampNeg)), u3, u4, u5)) : TX6_slats Q QX p1 p2 u0 u1 u2 u3 u4 u5 := by
  unfold TX6_slats wp_X6_slats_0
  have z0 := i_0
  have z1 : (9 : Int32).toInt = 9 := rfl
  have z2 : (200 : Int32).toInt = 200 := rfl
  have no : ¬ vQ p1 p2 → wp_X6_slats_21 Q QX u0 u1 u2 u3 u4 u5 := hno
  refine t_within (fun a1 => ⟨fun h => absurd h (by decide), fun _ => ?_⟩) (fun a1 => ⟨fun _ => no (fun g => a1 (by unfold vQ at g; omega)), fun h => absurd rfl h⟩)
  refine t_within (fun a2 => ⟨fun h => absurd h (by decide), fun _ => ?_⟩) (fun a2 => ⟨fun _ => no (fun g => a2 (by unfold vQ at g; omega)), fun h => absurd rfl h⟩)
  have A : vQ p1 p2 := ⟨⟨by omega, by omega⟩, by omega, by omega⟩
  obtain ⟨q, hq, rfl⟩ := i_of (x := p1) (hi := 9) (by decide) (by omega) (by omega)
  obtain ⟨n, hn, rfl⟩ := i_of (x := p2) (hi := 200) (by decide) (by omega) (by omega)
  have hc : (nI q).toNatClampNeg = q := nI_clamp (by omega)
  have hc2 : (nI n).toNatClampNeg = n := nI_clamp (by omega)
  have := hok A
  rw [hc, hc2] at this
  unfold TX2_putSlats wp_X2_putSlats_0
  have hin : vp_in (nI q) 10 := vp_in_nI (by omega) (by omega)
  rw [hc, h1, h0, zN_at, s_upd hs (by omega) hn]
  refine ⟨hin, ?_⟩
  rintro _ rfl
  refine ⟨hin, ?_⟩
  rintro _ rfl
  show Q (nI (fb_sm (zUp sl q n) 10)) (u0, u1, zA (zI u2 1 (nI (fb_sm (zUp sl q n) 10))) 0 (upd (u2.2 0) q (nI n)), u3, u4, u5)
  rw [h0, zN_upd]
  exact this
theorem ml_slats (hs : ∀ q, sl q ≤ 200) (h0 : u.2 30 = zN sl) (hno : ¬ vQ p1 p2 → QM 0 (zI (zI u 0 0) 0 1))
    (hok : vQ p1 p2 → QM (nI (fb_sm (zUp sl p1.toNatClampNeg p2.toNatClampNeg) 10)) (zA (zI u 0 0) 30 (zN (zUp sl p1.toNatClampNeg p2.toNatClampNeg)))) : TX7_slats QM p1 p2 u := by
  unfold TX7_slats wp_X7_slats_0
  have z0 := i_0
  have z1 : (9 : Int32).toInt = 9 := rfl
  have z2 : (200 : Int32).toInt = 200 := rfl
  rintro _ rfl
  have no : ¬ vQ p1 p2 → wp_X7_slats_27 QM p1 p2 (zI u 0 0) := fun h => by
    unfold wp_X7_slats_27 wp_X7_slats_32
    exact t_throws1 ⟨fun h => absurd h (by decide), fun _ => hno h⟩
  refine t_in (fun a1 => ⟨fun h => absurd h (by decide), fun _ => ?_⟩) (fun a1 => ⟨fun _ => no (fun g => a1 (by unfold vQ at g; omega)), fun h => absurd rfl h⟩)
  refine t_in (fun a2 => ⟨fun h => absurd h (by decide), fun _ => ?_⟩) (fun a2 => ⟨fun _ => no (fun g => a2 (by unfold vQ at g; omega)), fun h => absurd rfl h⟩)
  have A : vQ p1 p2 := ⟨⟨by omega, by omega⟩, by omega, by omega⟩
  obtain ⟨q, hq, rfl⟩ := i_of (x := p1) (hi := 9) (by decide) (by omega) (by omega)
  obtain ⟨n, hn, rfl⟩ := i_of (x := p2) (hi := 200) (by decide) (by omega) (by omega)
  have hc : (nI q).toNatClampNeg = q := nI_clamp (by omega)
  have hc2 : (nI n).toNatClampNeg = n := nI_clamp (by omega)
  have := hok A
  rw [hc, hc2] at this
  unfold wp_X7_slats_32
  refine t_throws0 ⟨fun _ => ⟨vp_in_nI (by omega) (by omega), ?_⟩, fun h => absurd rfl h⟩
  rw [hc]
  rintro _ rfl
  have e : (zI u 0 0).2 30 = zN sl := h0
  rw [e, zN_upd]
  refine m_sum (sl := zUp sl q n) (fun k => ?_) rfl this
  have := hs k
  unfold zUp
  split <;> omega
end ZF1
set_option maxHeartbeats 2000000 in
theorem cs_1011 {L : Nat} {xs : Nat → Int32} {J23 : Int32 → Nat → Nat → zSt → zSt → zSt → zSt → zSt → zSt → zSt → (Nat → Int64) → Prop} {x4 : Int32} {cs sl : Nat} {u0 u1 u2 u3 u4 u5 u7 : zSt} {u8 : Nat → Int64} (hb : cs + 1 ≤ 601024 ∧ sl + 6 ≤ 7293034) (hi : vp_in (x4 + 1) L ∧ vp_in (x4 + 2) L ∧ vp_in (x4 + 3) L ∧ vp_in (x4 + 4) L) (hR : rAll u1 u2 u3 u4 u5 u7) (hJ : ∀ (cs' sl' : Nat) (v0 v1 v2 v3 v4 v5 v7 : zSt) (v8 : Nat → Int64), cs' ≤ cs + 1 → sl' ≤ sl + 6 → rAll v1 v2 v3 v4 v5 v7 → J23 (x4 + 5) cs' sl' v0 v1 v2 v3 v4 v5 v7 v8) : wp_L_law_1011 L xs J23 x4 cs sl u0 u1 u2 u3 u4 u5 u7 u8 := by
  obtain ⟨hE, hL, hT, hG, hM⟩ := id hR
  obtain ⟨ng, sq, le, wo, ro, sg, b1, hsl, g0, g30, g1, gr⟩ := id hG
  unfold wp_L_law_1011 TL_slats
  refine ⟨hb, hi.1, hi.2.1, ?_⟩
  generalize xs (x4 + 1).toNatClampNeg = p1
  generalize xs (x4 + 2).toNatClampNeg = p2
  refine cl_slats hsl g1 g0 (fun g => ⟨rfl, ?_⟩) (fun g => ?_)
  · rintro _ rfl
    refine ⟨hi.1, hi.2.1, ml_slats hsl g30 (fun _ => z_fin rfl (fun h => absurd h (by decide)) ?_) (fun q => absurd q g)⟩
    exact hJ _ _ _ _ _ _ _ _ _ _ (by omega) (by omega) ((hR.t 0).t 1)
  · rintro _ rfl
    refine ⟨hi.1, hi.2.1, ml_slats hsl g30 (fun q => absurd g q) (fun _ => z_fin rfl (fun _ => rfl) ?_)⟩
    obtain ⟨kE, kL, kT, kG, kM⟩ := hR.t 0
    refine hJ _ _ _ _ _ _ _ _ _ _ (by omega) (by omega) ⟨kE.k ⟨rfl, rfl, rfl, rfl, rfl⟩, kL.k ⟨rfl, rfl, rfl, rfl, rfl, rfl, rfl, rfl, rfl⟩, kT.k ⟨rfl, rfl, rfl, rfl, rfl, rfl, rfl⟩, ?_, kM.k ⟨rfl, rfl, rfl, rfl⟩⟩
    refine ⟨ng, zUp sq p1.toNatClampNeg p2.toNatClampNeg, le, wo, ro, sg, b1, fun q => ?_, rfl, rfl, rfl, gr⟩
    obtain ⟨-, g2, g3⟩ := g
    have := hsl q
    unfold zUp
    split
    · obtain ⟨n, hn, rfl⟩ := i_of (x := p2) (hi := 200) (by decide) (by omega) (by omega)
      rw [nI_clamp (by omega)]; exact hn
    · exact this
set_option maxHeartbeats 2000000 in
theorem cs_1159 {L : Nat} {xs : Nat → Int32} {J23 : Int32 → Nat → Nat → zSt → zSt → zSt → zSt → zSt → zSt → zSt → (Nat → Int64) → Prop} {x4 : Int32} {cs sl : Nat} {u0 u1 u2 u3 u4 u5 u7 : zSt} {u8 : Nat → Int64} (hb : cs + 1 ≤ 601024 ∧ sl + 6 ≤ 7293034) (hi : vp_in (x4 + 1) L ∧ vp_in (x4 + 2) L ∧ vp_in (x4 + 3) L ∧ vp_in (x4 + 4) L) (hR : rAll u1 u2 u3 u4 u5 u7) (hJ : ∀ (cs' sl' : Nat) (v0 v1 v2 v3 v4 v5 v7 : zSt) (v8 : Nat → Int64), cs' ≤ cs + 1 → sl' ≤ sl + 6 → rAll v1 v2 v3 v4 v5 v7 → J23 (x4 + 5) cs' sl' v0 v1 v2 v3 v4 v5 v7 v8) : wp_L_law_1159 L xs J23 x4 cs sl u0 u1 u2 u3 u4 u5 u7 u8 := by
  obtain ⟨hE, hL, hT, hG, hM⟩ := id hR
  obtain ⟨ng, sq, le, wo, ro, sg, b1, hsl, g0, g30, g1, g5, g34, a31, a32, a33, ab, -⟩ := id hG
  unfold wp_L_law_1159 TX6_ungrade wp_X6_ungrade_0 TX7_ungrade wp_X7_ungrade_0
  refine ⟨hb, ?_⟩
  rintro _ rfl _ rfl _ rfl _ rfl _ rfl
  refine ⟨fun _ => ?_, fun h => h (g5.trans g34.symm)⟩
  rintro _ rfl
  obtain ⟨kE, kL, kT, kG, kM⟩ := hR.t 0
  refine hJ _ _ _ _ _ _ _ _ _ _ (by omega) (by omega) ⟨kE.k ⟨rfl, rfl, rfl, rfl, rfl⟩, kL.k ⟨rfl, rfl, rfl, rfl, rfl, rfl, rfl, rfl, rfl⟩, kT.k ⟨rfl, rfl, rfl, rfl, rfl, rfl, rfl⟩, ?_, kM.k ⟨rfl, rfl, rfl, rfl⟩⟩
  exact ⟨0, sq, le, wo, ro, sg, by omega, hsl, g0, g30, g1, rfl, rfl, a31, a32, a33, ab, fun i h => absurd h (by omega), fun i j _ h => absurd h (by omega), fun i h => absurd h (by omega)⟩
section ZF2
variable {Q : Int32 → (zSt × zSt × zSt × zSt × zSt × zSt) → Prop} {QV : (zSt × zSt × zSt × zSt × zSt × zSt) → Prop} {QX : String → (zSt × zSt × zSt × zSt × zSt × zSt) → Prop} {QM : Int32 → zSt → Prop} {QN : zSt → Prop} {p1 p2 p3 p4 : Int32} {u0 u1 u2 u3 u4 u5 u w : zSt} {nj : Nat} {sl : Nat → Nat}
def vC (p1 p2 p3 : Int32) : Prop := (0 ≤ p3.toInt ∧ p3.toInt ≤ 1000) ∧ ¬ p1 = p2
theorem cl_change (hno : ¬ (vN 6 p1 ∧ vN 6 p2) → QX zIOB (u0, u1, u2, u3, u4, u5)) (hbad : (vN 6 p1 ∧ vN 6 p2) → ¬ vC p1 p2 p3 → QX zIAE (u0, u1, u2, u3, u4, u5))
    (hok : ∀ a b n : Nat, a < 6 → b < 6 → n ≤ 1000 → a ≠ b → p1 = nI a → p2 = nI b → p3 = nI n → vC p1 p2 p3 → QV (u0, u1, u2, u3, zA u4 0 (upd (u4.2 0) (6 * a + b) (nI n)), u5)) : TX6_change QV QX p1 p2 p3 u0 u1 u2 u3 u4 u5 := by
  unfold TX6_change wp_X6_change_0
  have z0 := i_0
  have z1 : (6 : Int32).toInt = 6 := rfl
  have z2 := i_1000
  have no : ¬ (vN 6 p1 ∧ vN 6 p2) → wp_X6_change_18 QV QX u0 u1 u2 u3 u4 u5 := hno
  refine t_number (fun a1 => ⟨fun h => absurd h (by decide), fun _ => ?_⟩) (fun a1 => ⟨fun _ => no (fun g => a1 (by have := g.1; unfold vN at this; omega)), fun h => absurd rfl h⟩)
  refine t_number (fun a2 => ⟨fun h => absurd h (by decide), fun _ => ?_⟩) (fun a2 => ⟨fun _ => no (fun g => a2 (by have := g.2; unfold vN at this; omega)), fun h => absurd rfl h⟩)
  have A : vN 6 p1 ∧ vN 6 p2 := ⟨⟨by omega, by omega⟩, by omega, by omega⟩
  have bad : ¬ vC p1 p2 p3 → wp_X6_change_44 QV QX u0 u1 u2 u3 u4 u5 := hbad A
  refine t_within (fun a3 => ⟨fun h => absurd h (by decide), fun _ => ⟨fun h => bad (fun g => g.2 h), fun h => ?_⟩⟩) (fun a3 => ⟨fun _ => bad (fun g => a3 (by have := g.1; omega)), fun h => absurd rfl h⟩)
  have B : vC p1 p2 p3 := ⟨⟨by omega, by omega⟩, h⟩
  obtain ⟨a, ha, rfl⟩ := i_of (x := p1) (hi := 5) (by decide) (by omega) (by omega)
  obtain ⟨b, hb, rfl⟩ := i_of (x := p2) (hi := 5) (by decide) (by omega) (by omega)
  obtain ⟨n, hn, rfl⟩ := i_of (x := p3) (hi := 1000) (by decide) (by omega) (by omega)
  rw [show (6 : Int32) = nI 6 from rfl, pk_mul, nI_add, nI_clamp (by omega)]
  refine ⟨vp_in_nI (by omega) (by omega), ?_⟩
  rintro _ rfl
  have := hok a b n (by omega) (by omega) hn (fun e => h (by rw [e])) rfl rfl rfl B
  rw [Nat.mul_comm a 6]
  exact this
theorem ml_change (hno : ¬ (vN 6 p1 ∧ vN 6 p2) → QN (zI (zI u 0 0) 0 1)) (hbad : (vN 6 p1 ∧ vN 6 p2) → ¬ vC p1 p2 p3 → QN (zI (zI u 0 0) 0 2))
    (hok : ∀ a b n : Nat, a < 6 → b < 6 → n ≤ 1000 → a ≠ b → p1 = nI a → p2 = nI b → p3 = nI n → vC p1 p2 p3 → QN (zA (zI u 0 0) 37 (upd (u.2 37) (6 * a + b) (nI n)))) : TX7_change QN p1 p2 p3 u := by
  unfold TX7_change wp_X7_change_0
  have z0 := i_0
  have z2 := i_1000
  rintro _ rfl
  have no : ¬ (vN 6 p1 ∧ vN 6 p2) → wp_X7_change_20 QN p1 p2 p3 (zI u 0 0) := fun h => by
    unfold wp_X7_change_20 wp_X7_change_25
    exact t_throws1 ⟨fun h => absurd h (by decide), fun _ => hno h⟩
  refine t_noColour (fun a1 => ⟨fun _ => ?_, fun h => absurd rfl h⟩) (fun a1 => ⟨fun h => absurd h (by decide), fun _ => no (fun g => a1 g.1)⟩)
  refine t_noColour (fun a2 => ⟨fun _ => ?_, fun h => absurd rfl h⟩) (fun a2 => ⟨fun h => absurd h (by decide), fun _ => no (fun g => a2 g.2)⟩)
  have A : vN 6 p1 ∧ vN 6 p2 := ⟨a1, a2⟩
  unfold wp_X7_change_25
  refine t_throws0 ⟨fun _ => ?_, fun h => absurd rfl h⟩
  have bad : ¬ vC p1 p2 p3 → wp_X7_change_49 QN p1 p2 p3 (zI u 0 0) := fun h => by
    unfold wp_X7_change_49 wp_X7_change_54
    exact t_throws1 ⟨fun h => absurd h (by decide), fun _ => hbad A h⟩
  refine t_in (fun a3 => ⟨fun h => absurd h (by decide), fun _ => ⟨fun h => bad (fun g => g.2 h), fun h => ?_⟩⟩) (fun a3 => ⟨fun _ => bad (fun g => a3 (by have := g.1; omega)), fun h => absurd rfl h⟩)
  have B : vC p1 p2 p3 := ⟨⟨by omega, by omega⟩, h⟩
  obtain ⟨a, ha, rfl⟩ := i_of (x := p1) (hi := 5) (by decide) (by omega) (by omega)
  obtain ⟨b, hb, rfl⟩ := i_of (x := p2) (hi := 5) (by decide) (by omega) (by omega)
  obtain ⟨n, hn, rfl⟩ := i_of (x := p3) (hi := 1000) (by decide) (by omega) (by omega)
  unfold wp_X7_change_54
  refine t_throws0 ⟨fun _ => ?_, fun h => absurd rfl h⟩
  rw [show (6 : Int32) = nI 6 from rfl, pk_mul, nI_add, nI_clamp (by omega)]
  refine ⟨vp_in_nI (by omega) (by omega), ?_⟩
  rintro _ rfl
  exact hok a b n (by omega) (by omega) hn (fun e => h (by rw [e])) rfl rfl rfl B
theorem cl_job (hj : nj ≤ 10) (h1 : u4.1 1 = nI nj) (hno : ¬ vN 6 p1 → QX zIOB (u0, u1, u2, u3, u4, u5)) (hfull : vN 6 p1 → nj = 10 → Q (-1) (u0, u1, u2, u3, u4, u5))
    (hok : vN 6 p1 → nj < 10 → Q (nI (nj + 1)) (u0, u1, u2, u3, zI (zA u4 3 (upd (u4.2 3) p1.toNatClampNeg (u4.2 3 p1.toNatClampNeg + 1))) 1 (nI (nj + 1)), u5)) : TX6_job Q QX p1 u0 u1 u2 u3 u4 u5 := by
  unfold TX6_job wp_X6_job_0
  have z1 : (6 : Int32).toInt = 6 := rfl
  refine t_number (fun a1 => ⟨fun h => absurd h (by decide), fun _ => ?_⟩) (fun a1 => ⟨fun _ => hno (fun g => a1 (by unfold vN at g; omega)), fun h => absurd rfl h⟩)
  have A : vN 6 p1 := ⟨by omega, by omega⟩
  rw [h1]
  refine pk_lt nj 10 (fun h => ?_) (fun h => hfull A (by omega))
  unfold TX4_add wp_X4_add_0
  refine ⟨v_in A (by omega), v_in A (by omega), ?_⟩
  rintro _ rfl _ rfl
  show Q (u4.1 1 + 1) (u0, u1, u2, u3, zI (zA u4 3 (upd (u4.2 3) p1.toNatClampNeg (u4.2 3 p1.toNatClampNeg + 1))) 1 (u4.1 1 + 1), u5)
  rw [h1, nI_1]
  exact hok A h
theorem ml_job (hj : nj ≤ 10) (h1 : u.1 39 = nI nj) (hno : ¬ vN 6 p1 → QM 0 (zI (zI u 0 0) 0 1)) (hfull : vN 6 p1 → nj = 10 → QM (-1) (zI u 0 0))
    (hok : vN 6 p1 → nj < 10 → QM (nI (nj + 1)) (zI (zA (zI u 0 0) 38 (upd (u.2 38) nj p1)) 39 (nI (nj + 1)))) : TX7_job QM p1 u := by
  unfold TX7_job wp_X7_job_0
  rintro _ rfl
  refine t_noColour (fun a1 => t_throws0 ⟨fun _ => ?_, fun h => absurd rfl h⟩) (fun a1 => t_throws1 ⟨fun h => absurd h (by decide), fun _ => hno a1⟩)
  refine pk_eq nj 10 (fun h => hfull a1 h) (fun h => ?_) (hx := h1)
  refine ⟨by show vp_in (u.1 39) 10; rw [h1]; exact vp_in_nI (by omega) (by omega), ?_⟩
  rintro _ rfl _ rfl
  show QM (u.1 39 + 1) (zI (zA (zI u 0 0) 38 (upd (u.2 38) (u.1 39).toNatClampNeg p1)) 39 (u.1 39 + 1))
  rw [h1, nI_1, nI_clamp (by omega)]
  exact hok a1 (by omega)
def vO (p : Int32) : Prop := p = -1 ∨ vN 6 p
theorem cl_on (hno : ¬ vO p1 → QX zIOB (u0, u1, u2, u3, u4, u5)) (hok : vO p1 → QV (u0, u1, u2, u3, zI u4 2 p1, u5)) : TX6_on QV QX p1 u0 u1 u2 u3 u4 u5 := by
  have z1 : (6 : Int32).toInt = 6 := rfl
  have go : vO p1 → wp_X6_on_24 QV QX p1 u0 u1 u2 u3 u4 u5 := by
    intro h
    unfold wp_X6_on_24
    rintro _ rfl
    exact hok h
  unfold TX6_on wp_X6_on_0
  refine ⟨fun h => go (Or.inl h), fun h => ?_⟩
  refine t_number (fun a1 => ⟨fun h => absurd h (by decide), fun _ => go (Or.inr ⟨by omega, by omega⟩)⟩) (fun a1 => ⟨fun _ => hno (fun g => ?_), fun h => absurd rfl h⟩)
  rcases g with g | g
  · exact h g
  · exact a1 (by unfold vN at g; omega)
theorem ml_on (hno : ¬ vO p1 → QN (zI (zI u 0 0) 0 1)) (hok : vO p1 → QN (zI (zI u 0 0) 40 p1)) : TX7_on QN p1 u := by
  unfold TX7_on wp_X7_on_0
  rintro _ rfl
  have go : vO p1 → wp_X7_on_22 QN p1 (zI u 0 0) := by
    intro h
    unfold wp_X7_on_22 wp_X7_on_23
    refine t_throws0 ⟨fun _ => ?_, fun h => absurd rfl h⟩
    rintro _ rfl
    exact hok h
  refine ⟨fun h => go (Or.inl h), fun h => ?_⟩
  refine t_noColour (fun a1 => ⟨fun _ => go (Or.inr a1), fun h => absurd rfl h⟩) (fun a1 => ⟨fun h => absurd h (by decide), fun _ => ?_⟩)
  unfold wp_X7_on_23
  refine t_throws1 ⟨fun h => absurd h (by decide), fun _ => hno (fun g => ?_)⟩
  rcases g with g | g
  · exact h g
  · exact a1 g
end ZF2
set_option maxHeartbeats 2000000 in
theorem cs_1185 {L : Nat} {xs : Nat → Int32} {J23 : Int32 → Nat → Nat → zSt → zSt → zSt → zSt → zSt → zSt → zSt → (Nat → Int64) → Prop} {x4 : Int32} {cs sl : Nat} {u0 u1 u2 u3 u4 u5 u7 : zSt} {u8 : Nat → Int64} (hb : cs + 1 ≤ 601024 ∧ sl + 6 ≤ 7293034) (hi : vp_in (x4 + 1) L ∧ vp_in (x4 + 2) L ∧ vp_in (x4 + 3) L ∧ vp_in (x4 + 4) L) (hR : rAll u1 u2 u3 u4 u5 u7) (hJ : ∀ (cs' sl' : Nat) (v0 v1 v2 v3 v4 v5 v7 : zSt) (v8 : Nat → Int64), cs' ≤ cs + 1 → sl' ≤ sl + 6 → rAll v1 v2 v3 v4 v5 v7 → J23 (x4 + 5) cs' sl' v0 v1 v2 v3 v4 v5 v7 v8) : wp_L_law_1185 L xs J23 x4 cs sl u0 u1 u2 u3 u4 u5 u7 u8 := by
  obtain ⟨hE, hL, hT, hG, hM⟩ := id hR
  obtain ⟨nj, co, jb, j1, j2, j3, j4, j5, j6, j7, j8, j9, j10, j11, j12, j13, j14⟩ := id hM
  unfold wp_L_law_1185 TL_change
  refine ⟨hb, hi.1, hi.2.1, hi.2.2.1, ?_⟩
  generalize xs (x4 + 1).toNatClampNeg = p1
  generalize xs (x4 + 2).toNatClampNeg = p2
  generalize xs (x4 + 3).toNatClampNeg = p3
  refine cl_change (fun g => Or.inl ⟨rfl, ?_⟩) (fun g1 g => Or.inr ⟨rfl, ?_⟩) (fun a b n ha hb2 hn hab hp1 hp2 hp3 hv => ?_)
  · rintro _ rfl
    refine ⟨hi.1, hi.2.1, hi.2.2.1, ml_change (fun _ => z_fin2 rfl ?_) (fun q => absurd q g) (fun a b n ha hb2 hn hab hp1 hp2 hp3 hv => absurd ?_ g)⟩
    · exact hJ _ _ _ _ _ _ _ _ _ _ (by omega) (by omega) ((hR.t 0).t 1)
    · rw [hp1, hp2]; unfold vN; rw [nI_toInt (by omega), nI_toInt (by omega)]; omega
  · rintro _ rfl
    refine ⟨hi.1, hi.2.1, hi.2.2.1, ml_change (fun q => absurd g1 q) (fun _ _ => z_fin2 rfl ?_) (fun a b n ha hb2 hn hab hp1 hp2 hp3 hv => absurd hv g)⟩
    exact hJ _ _ _ _ _ _ _ _ _ _ (by omega) (by omega) ((hR.t 0).t 2)
  · rintro _ rfl
    refine ⟨hi.1, hi.2.1, hi.2.2.1, ml_change (fun q => absurd ?_ q) (fun _ q => absurd hv q) (fun a' b' n' ha' hb' hn' hab' hp1' hp2' hp3' _ => z_fin2 rfl ?_)⟩
    · rw [hp1, hp2]; unfold vN; rw [nI_toInt (by omega), nI_toInt (by omega)]; omega
    obtain rfl : a = a' := (nI_eq (by omega) (by omega)).mp (hp1.symm.trans hp1')
    obtain rfl : b = b' := (nI_eq (by omega) (by omega)).mp (hp2.symm.trans hp2')
    obtain rfl : n = n' := (nI_eq (by omega) (by omega)).mp (hp3.symm.trans hp3')
    obtain ⟨kE, kL, kT, kG, kM⟩ := hR.t 0
    refine hJ _ _ _ _ _ _ _ _ _ _ (by omega) (by omega) ⟨kE.k ⟨rfl, rfl, rfl, rfl, rfl⟩, kL.k ⟨rfl, rfl, rfl, rfl, rfl, rfl, rfl, rfl, rfl⟩, kT.k ⟨rfl, rfl, rfl, rfl, rfl, rfl, rfl⟩, kG.k ⟨rfl, rfl, rfl, rfl, rfl⟩, ?_⟩
    refine ⟨nj, zUp co (6 * a + b) n, jb, j1, fun i => ?_, fun c hc => ?_, j4, j5, j6, j7, j8, ?_, fun i hi2 => ?_, fun i h1 h2 => ?_, j12, j13, j14⟩
    · unfold zUp
      have := j2 i
      split <;> omega
    · unfold zUp
      rw [if_neg (by omega)]
      exact j3 c hc
    · show upd (u7.2 37) _ _ = _; rw [j9, zN_upd]
    · show upd (u4.2 0) _ _ i = nI (zUp co (6 * a + b) n i)
      unfold zUp
      by_cases h : i = 6 * a + b
      · rw [if_pos h, h, pk_us]
      · rw [if_neg h, pk_un h]; exact j10 i hi2
    · show upd (u4.2 0) _ _ i = 0
      rw [pk_un (by omega)]; exact j11 i h1 h2
set_option maxHeartbeats 2000000 in
theorem cs_1245 {L : Nat} {xs : Nat → Int32} {J23 : Int32 → Nat → Nat → zSt → zSt → zSt → zSt → zSt → zSt → zSt → (Nat → Int64) → Prop} {x4 : Int32} {cs sl : Nat} {u0 u1 u2 u3 u4 u5 u7 : zSt} {u8 : Nat → Int64} (hb : cs + 1 ≤ 601024 ∧ sl + 6 ≤ 7293034) (hi : vp_in (x4 + 1) L ∧ vp_in (x4 + 2) L ∧ vp_in (x4 + 3) L ∧ vp_in (x4 + 4) L) (hR : rAll u1 u2 u3 u4 u5 u7) (hJ : ∀ (cs' sl' : Nat) (v0 v1 v2 v3 v4 v5 v7 : zSt) (v8 : Nat → Int64), cs' ≤ cs + 1 → sl' ≤ sl + 6 → rAll v1 v2 v3 v4 v5 v7 → J23 (x4 + 5) cs' sl' v0 v1 v2 v3 v4 v5 v7 v8) : wp_L_law_1245 L xs J23 x4 cs sl u0 u1 u2 u3 u4 u5 u7 u8 := by
  obtain ⟨hE, hL, hT, hG, hM⟩ := id hR
  obtain ⟨nj, co, jb, j1, j2, j3, j4, j5, j6, j7, j8, j9, j10, j11, j12, j13, j14⟩ := id hM
  unfold wp_L_law_1245 TL_job
  refine ⟨hb, hi.1, ?_⟩
  generalize xs (x4 + 1).toNatClampNeg = p1
  refine cl_job j1 j5 (fun g => ⟨rfl, ?_⟩) (fun g g2 => ?_) (fun g g2 => ?_)
  · rintro _ rfl
    refine ⟨hi.1, ml_job j1 j6 (fun _ => z_fin rfl (fun h => absurd h (by decide)) ?_) (fun q => absurd q g) (fun q => absurd q g)⟩
    exact hJ _ _ _ _ _ _ _ _ _ _ (by omega) (by omega) ((hR.t 0).t 1)
  · rintro _ rfl
    refine ⟨hi.1, ml_job j1 j6 (fun q => absurd g q) (fun _ _ => z_fin rfl (fun _ => rfl) ?_) (fun _ q => absurd g2 (by omega))⟩
    exact hJ _ _ _ _ _ _ _ _ _ _ (by omega) (by omega) (hR.t 0)
  · rintro _ rfl
    refine ⟨hi.1, ml_job j1 j6 (fun q => absurd g q) (fun _ q => absurd g2 (by omega)) (fun _ _ => z_fin rfl (fun _ => rfl) ?_)⟩
    obtain ⟨kE, kL, kT, kG, kM⟩ := hR.t 0
    refine hJ _ _ _ _ _ _ _ _ _ _ (by omega) (by omega) ⟨kE.k ⟨rfl, rfl, rfl, rfl, rfl⟩, kL.k ⟨rfl, rfl, rfl, rfl, rfl, rfl, rfl, rfl, rfl⟩, kT.k ⟨rfl, rfl, rfl, rfl, rfl, rfl, rfl⟩, kG.k ⟨rfl, rfl, rfl, rfl, rfl⟩, ?_⟩
    obtain ⟨gg1, gg2⟩ := g
    obtain ⟨c, hc, rfl⟩ := i_of (x := p1) (hi := 5) (by decide) (by omega) (by omega)
    refine ⟨nj + 1, co, zUp jb nj c, by omega, j2, j3, fun j => ?_, rfl, rfl, j7, j8, j9, j10, j11, ?_, fun d hd => ?_, j14⟩
    · unfold zUp
      have := j4 j
      split <;> omega
    · show upd (u7.2 38) _ _ = _; rw [j12, zN_upd]
    · show upd (u4.2 3) (nI c).toNatClampNeg (u4.2 3 (nI c).toNatClampNeg + 1) d = _
      have e : fb_ct (fun j => zUp jb nj c j == d) nj = fb_ct (fun j => jb j == d) nj := fb_ct_cong (fun k hk => by unfold zUp; rw [if_neg (by omega)])
      rw [nI_clamp (by omega), fb_ct_succ, e]
      have e2 : zUp jb nj c nj = c := if_pos rfl
      rw [e2]
      by_cases h : d = c
      · subst h; rw [pk_us, j13 d hd, nI_1]; simp
      · rw [pk_un h, j13 d hd]
        have : (c == d) = false := by simp; omega
        rw [this]; simp
set_option maxHeartbeats 2000000 in
theorem cs_1301 {L : Nat} {xs : Nat → Int32} {J23 : Int32 → Nat → Nat → zSt → zSt → zSt → zSt → zSt → zSt → zSt → (Nat → Int64) → Prop} {x4 : Int32} {cs sl : Nat} {u0 u1 u2 u3 u4 u5 u7 : zSt} {u8 : Nat → Int64} (hb : cs + 1 ≤ 601024 ∧ sl + 6 ≤ 7293034) (hi : vp_in (x4 + 1) L ∧ vp_in (x4 + 2) L ∧ vp_in (x4 + 3) L ∧ vp_in (x4 + 4) L) (hR : rAll u1 u2 u3 u4 u5 u7) (hJ : ∀ (cs' sl' : Nat) (v0 v1 v2 v3 v4 v5 v7 : zSt) (v8 : Nat → Int64), cs' ≤ cs + 1 → sl' ≤ sl + 6 → rAll v1 v2 v3 v4 v5 v7 → J23 (x4 + 5) cs' sl' v0 v1 v2 v3 v4 v5 v7 v8) : wp_L_law_1301 L xs J23 x4 cs sl u0 u1 u2 u3 u4 u5 u7 u8 := by
  obtain ⟨hE, hL, hT, hG, hM⟩ := id hR
  obtain ⟨nj, co, jb, j1, j2, j3, j4, j5, j6, j7, j8, j9, j10, j11, j12, j13, j14⟩ := id hM
  unfold wp_L_law_1301 TL_on
  refine ⟨hb, hi.1, ?_⟩
  generalize xs (x4 + 1).toNatClampNeg = p1
  refine cl_on (fun g => ⟨rfl, ?_⟩) (fun g => ?_)
  · rintro _ rfl
    refine ⟨hi.1, ml_on (fun _ => z_fin2 rfl ?_) (fun q => absurd q g)⟩
    exact hJ _ _ _ _ _ _ _ _ _ _ (by omega) (by omega) ((hR.t 0).t 1)
  · rintro _ rfl
    refine ⟨hi.1, ml_on (fun q => absurd g q) (fun _ => z_fin2 rfl ?_)⟩
    obtain ⟨kE, kL, kT, kG, kM⟩ := hR.t 0
    refine hJ _ _ _ _ _ _ _ _ _ _ (by omega) (by omega) ⟨kE.k ⟨rfl, rfl, rfl, rfl, rfl⟩, kL.k ⟨rfl, rfl, rfl, rfl, rfl, rfl, rfl, rfl, rfl⟩, kT.k ⟨rfl, rfl, rfl, rfl, rfl, rfl, rfl⟩, kG.k ⟨rfl, rfl, rfl, rfl, rfl⟩, ?_⟩
    refine ⟨nj, co, jb, j1, j2, j3, j4, j5, j6, rfl, ?_, j9, j10, j11, j12, j13, j14⟩
    rcases g with g | ⟨g1, g2⟩
    · exact Or.inl g
    · obtain ⟨c, hc, rfl⟩ := i_of (x := p1) (hi := 5) (by decide) (by omega) (by omega)
      exact Or.inr ⟨c, by omega, rfl⟩
set_option maxHeartbeats 2000000 in
theorem cs_1350 {L : Nat} {xs : Nat → Int32} {J23 : Int32 → Nat → Nat → zSt → zSt → zSt → zSt → zSt → zSt → zSt → (Nat → Int64) → Prop} {x4 : Int32} {cs sl : Nat} {u0 u1 u2 u3 u4 u5 u7 : zSt} {u8 : Nat → Int64} (hb : cs + 1 ≤ 601024 ∧ sl + 6 ≤ 7293034) (hi : vp_in (x4 + 1) L ∧ vp_in (x4 + 2) L ∧ vp_in (x4 + 3) L ∧ vp_in (x4 + 4) L) (hR : rAll u1 u2 u3 u4 u5 u7) (hJ : ∀ (cs' sl' : Nat) (v0 v1 v2 v3 v4 v5 v7 : zSt) (v8 : Nat → Int64), cs' ≤ cs + 1 → sl' ≤ sl + 6 → rAll v1 v2 v3 v4 v5 v7 → J23 (x4 + 5) cs' sl' v0 v1 v2 v3 v4 v5 v7 v8) : wp_L_law_1350 L xs J23 x4 cs sl u0 u1 u2 u3 u4 u5 u7 u8 := by
  obtain ⟨hE, hL, hT, hG, hM⟩ := id hR
  obtain ⟨ne, lo, hi', pc, ha, hne, hx, e4, e0, e1, e2, e3, m6, -⟩ := id hE
  obtain ⟨nl, nb, mk, hl, hnb, hmk, l5, l17, l7, m19, l8, -⟩ := id hL
  obtain ⟨nb', nt, td, tb, -, ht, -, -, t4, t25, t5, t1, -⟩ := id hT
  obtain ⟨ng, sq, le, wo, ro, sg, b1, hsl, g0, g30, g1, g5, g34, -⟩ := id hG
  obtain ⟨nj, co, jb, -, -, -, -, j1, j39, j2, -⟩ := id hM
  unfold wp_L_law_1350 TX6_count wp_X6_count_0
  refine ⟨hb, hi.1, ?_⟩
  generalize xs (x4 + 1).toNatClampNeg = p1
  rintro _ rfl
  refine ⟨fun h0 => ?_, fun n0 => ⟨fun h1 => ?_, fun n1 => ⟨fun h2 => ?_, fun n2 => ⟨fun h3 => ?_, fun n3 => ⟨fun h4 => ?_, fun n4 => ⟨fun h5 => ?_, fun n5 => ⟨fun h6 => ?_, fun n6 => ⟨fun h7 => ?_, fun n7 => ⟨fun h8 => ?_, fun n8 => ⟨fun h9 => ?_, fun n9 => ?_⟩⟩⟩⟩⟩⟩⟩⟩⟩⟩
  · refine ⟨hi.1, ?_⟩
    unfold TX7_count wp_X7_count_0
    rintro _ rfl _ rfl
    exact ⟨fun _ => ⟨fun _ => (by rintro _ rfl; exact hJ _ _ _ _ _ _ _ _ _ _ (by omega) (by omega) (hR.t 0)), fun q => q (t5.trans t1.symm)⟩, fun h => absurd h0 h⟩
  · refine ⟨hi.1, ?_⟩
    unfold TX7_count wp_X7_count_0
    rintro _ rfl _ rfl
    exact ⟨fun h => absurd h n0, fun _ => ⟨fun _ => ⟨fun _ => (by rintro _ rfl; exact hJ _ _ _ _ _ _ _ _ _ _ (by omega) (by omega) (hR.t 0)), fun q => q (e4.trans m6.symm)⟩, fun h => absurd h1 h⟩⟩
  · refine ⟨hi.1, ?_⟩
    unfold TX7_count wp_X7_count_0
    rintro _ rfl _ rfl
    exact ⟨fun h => absurd h n0, fun _ => ⟨fun h => absurd h n1, fun _ => ⟨fun _ => ⟨fun _ => (by rintro _ rfl; exact hJ _ _ _ _ _ _ _ _ _ _ (by omega) (by omega) (hR.t 0)), fun q => q (l5.trans l17.symm)⟩, fun h => absurd h2 h⟩⟩⟩
  · refine ⟨hi.1, ?_⟩
    unfold TX7_count wp_X7_count_0
    rintro _ rfl _ rfl
    exact ⟨fun h => absurd h n0, fun _ => ⟨fun h => absurd h n1, fun _ => ⟨fun h => absurd h n2, fun _ => ⟨fun _ => ⟨fun _ => (by rintro _ rfl; exact hJ _ _ _ _ _ _ _ _ _ _ (by omega) (by omega) (hR.t 0)), fun q => q (l7.trans m19.symm)⟩, fun h => absurd h3 h⟩⟩⟩⟩
  · refine ⟨hi.1, ?_⟩
    unfold TX7_count wp_X7_count_0
    rintro _ rfl _ rfl
    exact ⟨fun h => absurd h n0, fun _ => ⟨fun h => absurd h n1, fun _ => ⟨fun h => absurd h n2, fun _ => ⟨fun h => absurd h n3, fun _ => ⟨fun _ => ⟨fun _ => (by rintro _ rfl; exact hJ _ _ _ _ _ _ _ _ _ _ (by omega) (by omega) (hR.t 0)), fun q => q (l8)⟩, fun h => absurd h4 h⟩⟩⟩⟩⟩
  · refine ⟨hi.1, ?_⟩
    unfold TX7_count wp_X7_count_0
    rintro _ rfl _ rfl
    exact ⟨fun h => absurd h n0, fun _ => ⟨fun h => absurd h n1, fun _ => ⟨fun h => absurd h n2, fun _ => ⟨fun h => absurd h n3, fun _ => ⟨fun h => absurd h n4, fun _ => ⟨fun _ => ⟨fun _ => (by rintro _ rfl; exact hJ _ _ _ _ _ _ _ _ _ _ (by omega) (by omega) (hR.t 0)), fun q => q (t4.trans t25.symm)⟩, fun h => absurd h5 h⟩⟩⟩⟩⟩⟩
  · refine ⟨hi.1, ?_⟩
    unfold TX7_count wp_X7_count_0
    rintro _ rfl _ rfl
    exact ⟨fun h => absurd h n0, fun _ => ⟨fun h => absurd h n1, fun _ => ⟨fun h => absurd h n2, fun _ => ⟨fun h => absurd h n3, fun _ => ⟨fun h => absurd h n4, fun _ => ⟨fun h => absurd h n5, fun _ => ⟨fun _ => m_sum (u := zI u7 0 0) hsl g30 ⟨fun _ => (by rintro _ rfl; exact hJ _ _ _ _ _ _ _ _ _ _ (by omega) (by omega) (hR.t 0)), fun q => q (g1)⟩, fun h => absurd h6 h⟩⟩⟩⟩⟩⟩⟩
  · refine ⟨hi.1, ?_⟩
    unfold TX7_count wp_X7_count_0
    rintro _ rfl _ rfl
    exact ⟨fun h => absurd h n0, fun _ => ⟨fun h => absurd h n1, fun _ => ⟨fun h => absurd h n2, fun _ => ⟨fun h => absurd h n3, fun _ => ⟨fun h => absurd h n4, fun _ => ⟨fun h => absurd h n5, fun _ => ⟨fun h => absurd h n6, fun _ => ⟨fun _ => ⟨fun _ => (by rintro _ rfl; exact hJ _ _ _ _ _ _ _ _ _ _ (by omega) (by omega) (hR.t 0)), fun q => q (g5.trans g34.symm)⟩, fun h => absurd h7 h⟩⟩⟩⟩⟩⟩⟩⟩
  · refine ⟨hi.1, ?_⟩
    unfold TX7_count wp_X7_count_0
    rintro _ rfl _ rfl
    exact ⟨fun h => absurd h n0, fun _ => ⟨fun h => absurd h n1, fun _ => ⟨fun h => absurd h n2, fun _ => ⟨fun h => absurd h n3, fun _ => ⟨fun h => absurd h n4, fun _ => ⟨fun h => absurd h n5, fun _ => ⟨fun h => absurd h n6, fun _ => ⟨fun h => absurd h n7, fun _ => ⟨fun _ => ⟨fun _ => (by rintro _ rfl; exact hJ _ _ _ _ _ _ _ _ _ _ (by omega) (by omega) (hR.t 0)), fun q => q (j1.trans j39.symm)⟩, fun h => absurd h8 h⟩⟩⟩⟩⟩⟩⟩⟩⟩
  · refine ⟨hi.1, ?_⟩
    unfold TX7_count wp_X7_count_0
    rintro _ rfl _ rfl
    exact ⟨fun h => absurd h n0, fun _ => ⟨fun h => absurd h n1, fun _ => ⟨fun h => absurd h n2, fun _ => ⟨fun h => absurd h n3, fun _ => ⟨fun h => absurd h n4, fun _ => ⟨fun h => absurd h n5, fun _ => ⟨fun h => absurd h n6, fun _ => ⟨fun h => absurd h n7, fun _ => ⟨fun h => absurd h n8, fun _ => ⟨fun _ => ⟨fun _ => (by rintro _ rfl; exact hJ _ _ _ _ _ _ _ _ _ _ (by omega) (by omega) (hR.t 0)), fun q => q (j2)⟩, fun h => absurd h9 h⟩⟩⟩⟩⟩⟩⟩⟩⟩⟩
  · refine ⟨hi.1, ?_⟩
    unfold TX7_count wp_X7_count_0
    rintro _ rfl _ rfl
    exact ⟨fun h => absurd h n0, fun _ => ⟨fun h => absurd h n1, fun _ => ⟨fun h => absurd h n2, fun _ => ⟨fun h => absurd h n3, fun _ => ⟨fun h => absurd h n4, fun _ => ⟨fun h => absurd h n5, fun _ => ⟨fun h => absurd h n6, fun _ => ⟨fun h => absurd h n7, fun _ => ⟨fun h => absurd h n8, fun _ => ⟨fun h => absurd h n9, fun _ => ⟨fun _ => (by rintro _ rfl; exact hJ _ _ _ _ _ _ _ _ _ _ (by omega) (by omega) (hR.t 0)), fun q => q (rfl)⟩⟩⟩⟩⟩⟩⟩⟩⟩⟩⟩
