/-! the cases of the law: bring, blend, parts -/
section ZB
variable {Q : Int32 → (zSt × zSt × zSt × zSt × zSt × zSt) → Prop} {QX : String → (zSt × zSt × zSt × zSt × zSt × zSt) → Prop} {QM : Int32 → zSt → Prop} {p1 p2 p3 p4 : Int32} {u0 u1 u2 u3 u4 u5 u w : zSt} {ne : Nat} {lo hi pc ha : Nat → Nat}
theorem zKeep.wk {is as is' as' : List Nat} {u v : zSt} (h : zKeep is as u v) (h1 : ∀ k ∈ is, k ∈ is') (h2 : ∀ k ∈ as, k ∈ as') : zKeep is' as' u v := ⟨fun k hk => h.1 k (fun q => hk (h1 k q)), fun k hk => h.2 k (fun q => hk (h2 k q))⟩
def vN (n : Nat) (p : Int32) : Prop := 0 ≤ p.toInt ∧ p.toInt < n
def vB (ha : Nat → Nat) (p1 p2 : Int32) : Prop := 0 ≤ p2.toInt ∧ p2.toInt + ha p1.toNatClampNeg ≤ 1000
def vS (a b : Int32) : Prop := 0 ≤ a.toInt ∧ a.toInt ≤ b.toInt ∧ b.toInt ≤ 1000
theorem cl_bring (hne : ne ≤ 6) (h4 : u1.1 4 = nI ne) (h3 : u1.2 3 = zN ha) (hh : ∀ i, ha i ≤ 1000)
    (hno : ¬ vN ne p1 → QX zIOB (u0, u1, u2, u3, u4, u5)) (hbad : vN ne p1 → ¬ vB ha p1 p2 → QX zIAE (u0, u1, u2, u3, u4, u5))
    (hok : vN ne p1 → vB ha p1 p2 → Q (nI (ha p1.toNatClampNeg + p2.toNatClampNeg)) (u0, zA u1 3 (upd (u1.2 3) p1.toNatClampNeg (nI (ha p1.toNatClampNeg + p2.toNatClampNeg))), u2, u3, u4, u5)) : TX6_bring Q QX p1 p2 u0 u1 u2 u3 u4 u5 := by
  unfold TX6_bring wp_X6_bring_0
  have hn : (nI ne).toInt = ne := nI_toInt (by omega)
  have z0 := i_0
  have z1 := i_1000
  rw [h4]
  refine t_number (fun a1 => ⟨fun h => absurd h (by decide), fun _ => ?_⟩) (fun a1 => ⟨fun _ => hno (fun g => a1 (by unfold vN at g; omega)), fun h => absurd rfl h⟩)
  have a1' : vN ne p1 := ⟨a1.1, by omega⟩
  obtain ⟨e, he, rfl⟩ := i_of (x := p1) (hi := 5) (by decide) (by omega) (by omega)
  have hc : (nI e).toNatClampNeg = e := nI_clamp (by omega)
  have hin : vp_in (nI e) 6 := vp_in_nI (by omega) (by omega)
  have hb := hh e
  refine t_within (fun a2 => ⟨fun h => absurd h (by decide), fun _ => ⟨hin, ?_⟩⟩) (fun a2 => ⟨fun _ => hbad a1' (fun g => a2 (by unfold vB at g; omega)), fun h => absurd rfl h⟩)
  obtain ⟨n, hn2, rfl⟩ := i_of (x := p2) (hi := 1000) (by decide) (by omega) (by omega)
  have hc2 : (nI n).toNatClampNeg = n := nI_clamp (by omega)
  have hn3 : (nI n).toInt = n := nI_toInt (by omega)
  rw [hc, hc2] at hok
  rw [hc, h3, zN_at, nI_add]
  rw [h3] at hok
  refine pk_le (ha e + n) 1000 (fun h => ⟨hin, hin, ?_⟩) (fun h => hbad a1' (fun g => ?_))
  · rintro _ rfl
    refine ⟨hin, ?_⟩
    show Q (upd (zN ha) e (nI (ha e + n)) e) _
    rw [pk_us]
    exact hok a1' (by unfold vB; rw [hc, hn3]; omega)
  · unfold vB at g
    rw [hc, hn3] at g
    omega
theorem ml_bring (hne : ne ≤ 6) (h4 : u.1 6 = nI ne) (h3 : u.2 5 = zN ha) (hh : ∀ i, ha i ≤ 1000)
    (hno : ¬ vN ne p1 → QM 0 (zI (zI u 0 0) 0 1)) (hbad : vN ne p1 → ¬ vB ha p1 p2 → QM 0 (zI (zI u 0 0) 0 2))
    (hok : vN ne p1 → vB ha p1 p2 → QM (nI (ha p1.toNatClampNeg + p2.toNatClampNeg)) (zA (zI u 0 0) 5 (upd (u.2 5) p1.toNatClampNeg (nI (ha p1.toNatClampNeg + p2.toNatClampNeg))))) : TX7_bring QM p1 p2 u := by
  unfold TX7_bring wp_X7_bring_0
  have z0 := i_0
  have z1 := i_1000
  rintro _ rfl
  refine t_no (n := ne) (by omega) h4 (fun a1 => t_throws0 ⟨fun _ => ?_, fun h => absurd rfl h⟩) (fun a1 => t_throws1 ⟨fun h => absurd h (by decide), fun _ => hno a1⟩)
  obtain ⟨e, he, rfl⟩ := i_of (x := p1) (hi := 5) (by decide) (by omega) (by omega)
  have hc : (nI e).toNatClampNeg = e := nI_clamp (by omega)
  have hin : vp_in (nI e) 6 := vp_in_nI (by omega) (by omega)
  have hb := hh e
  have bad : ¬ vB ha (nI e) p2 → wp_X7_bring_44 QM (nI e) p2 (zI u 0 0) := fun h => by
    unfold wp_X7_bring_44 wp_X7_bring_49
    exact t_throws1 ⟨fun h => absurd h (by decide), fun _ => hbad a1 h⟩
  refine t_in (fun a2 => ⟨fun h => absurd h (by decide), fun _ => ⟨hin, ?_⟩⟩) (fun a2 => ⟨fun _ => bad (fun g => a2 (by unfold vB at g; omega)), fun h => absurd rfl h⟩)
  obtain ⟨n, hn2, rfl⟩ := i_of (x := p2) (hi := 1000) (by decide) (by omega) (by omega)
  have hc2 : (nI n).toNatClampNeg = n := nI_clamp (by omega)
  have hn3 : (nI n).toInt = n := nI_toInt (by omega)
  rw [hc, hc2, h3] at hok
  have e5 : (zI u 0 0).2 5 = zN ha := h3
  rw [hc, e5, zN_at, nI_add]
  refine pk_le (ha e + n) 1000 (fun h => ?_) (fun h => bad (fun g => ?_))
  · unfold wp_X7_bring_49
    refine t_throws0 ⟨fun _ => ⟨hin, hin, ?_⟩, fun h => absurd rfl h⟩
    rw [e5, hc, zN_at, nI_add]
    rintro _ rfl
    refine ⟨hin, ?_⟩
    show QM (upd (zN ha) e (nI (ha e + n)) e) _
    rw [pk_us]
    exact hok a1 (by unfold vB; rw [hc, hn3]; omega)
  · unfold vB at g
    rw [hc, hn3] at g
    omega
end ZB
set_option maxHeartbeats 2000000 in
theorem cs_228 {L : Nat} {xs : Nat → Int32} {J23 : Int32 → Nat → Nat → zSt → zSt → zSt → zSt → zSt → zSt → zSt → (Nat → Int64) → Prop} {x4 : Int32} {cs sl : Nat} {u0 u1 u2 u3 u4 u5 u7 : zSt} {u8 : Nat → Int64} (hb : cs + 1 ≤ 601024 ∧ sl + 6 ≤ 7293034) (hi : vp_in (x4 + 1) L ∧ vp_in (x4 + 2) L ∧ vp_in (x4 + 3) L ∧ vp_in (x4 + 4) L) (hR : rAll u1 u2 u3 u4 u5 u7) (hJ : ∀ (cs' sl' : Nat) (v0 v1 v2 v3 v4 v5 v7 : zSt) (v8 : Nat → Int64), cs' ≤ cs + 1 → sl' ≤ sl + 6 → rAll v1 v2 v3 v4 v5 v7 → J23 (x4 + 5) cs' sl' v0 v1 v2 v3 v4 v5 v7 v8) : wp_L_law_228 L xs J23 x4 cs sl u0 u1 u2 u3 u4 u5 u7 u8 := by
  obtain ⟨⟨ne, lo, hi', pc, ha, hne, hx, e4, e0, e1, e2, e3, m6, m2, m3, m4, m5⟩, hL, hT, hG, hM⟩ := id hR
  unfold wp_L_law_228 TL_bring
  refine ⟨hb, hi.1, hi.2.1, ?_⟩
  generalize xs (x4 + 1).toNatClampNeg = p1
  generalize xs (x4 + 2).toNatClampNeg = p2
  have hh : ∀ i, ha i ≤ 1000 := fun i => (hx i).2.2.2
  refine cl_bring hne e4 e3 hh (fun g => Or.inl ⟨rfl, ?_⟩) (fun g1 g => Or.inr ⟨rfl, ?_⟩) (fun g1 g => ?_)
  · rintro _ rfl
    refine ⟨hi.1, hi.2.1, ml_bring hne m6 m5 hh (fun _ => z_fin rfl (fun h => absurd h (by decide)) ?_) (fun q => absurd q g) (fun q => absurd q g)⟩
    exact hJ _ _ _ _ _ _ _ _ _ _ (by omega) (by omega) ((hR.t 0).t 1)
  · rintro _ rfl
    refine ⟨hi.1, hi.2.1, ml_bring hne m6 m5 hh (fun q => absurd g1 q) (fun _ _ => z_fin rfl (fun h => absurd h (by decide)) ?_) (fun _ q => absurd q g)⟩
    exact hJ _ _ _ _ _ _ _ _ _ _ (by omega) (by omega) ((hR.t 0).t 2)
  · rintro _ rfl
    refine ⟨hi.1, hi.2.1, ml_bring hne m6 m5 hh (fun q => absurd g1 q) (fun _ q => absurd g q) (fun _ _ => z_fin rfl (fun _ => rfl) ?_)⟩
    refine hJ _ _ _ _ _ _ _ _ _ _ (by omega) (by omega) ⟨?_, hL.k ⟨rfl, rfl, rfl, rfl, rfl, rfl, rfl, rfl, rfl⟩, hT.k ⟨rfl, rfl, rfl, rfl, rfl, rfl, rfl⟩, hG.k ⟨rfl, rfl, rfl, rfl, rfl⟩, hM.k ⟨rfl, rfl, rfl, rfl⟩⟩
    have hp2 : (p2.toNatClampNeg : Int) = p2.toInt := by
      obtain ⟨n, hn, rfl⟩ := i_of (x := p2) (hi := 1000) (by decide) g.1 (by have := g.2; omega)
      rw [nI_clamp (by omega), nI_toInt (by omega)]
    have h2 := g.2
    refine ⟨ne, lo, hi', pc, zUp ha p1.toNatClampNeg (ha p1.toNatClampNeg + p2.toNatClampNeg), hne, ?_, e4, e0, e1, e2, ?_, m6, m2, m3, m4, ?_⟩
    · intro i
      have := hx i
      simp only [zUp]
      split <;> omega
    · show upd (u1.2 3) _ _ = _; rw [e3, zN_upd]
    · show upd (u7.2 5) _ _ = _; rw [m5, zN_upd]
section ZB2
variable {Q : Int32 → (zSt × zSt × zSt × zSt × zSt × zSt) → Prop} {QX : String → (zSt × zSt × zSt × zSt × zSt × zSt) → Prop} {QM : Int32 → zSt → Prop} {p1 p2 p3 p4 : Int32} {u0 u1 u2 u3 u4 u5 u w : zSt} {ne : Nat} {lo hi pc ha : Nat → Nat}
def bR (ne : Nat) (lo hi pc ha : Nat → Nat) (p1 p2 : Int32) : bS := b_go lo hi pc ha p1.toNatClampNeg p2.toNatClampNeg ne 0 10 0 0 0 (fun _ => 0) (false, 0, 0, 0, fun _ => 0)
def rC (ne : Nat) (lo hi pc ha : Nat → Nat) (u1 : zSt) : Prop := u1.1 4 = nI ne ∧ u1.2 0 = zN lo ∧ u1.2 1 = zN hi ∧ u1.2 2 = zN pc ∧ u1.2 3 = zN ha
theorem c_seek {Q : zSt → Prop} (hx : bX lo hi pc ha) (hne : ne ≤ 6) (hs : vS p1 p2) (hu : rC ne lo hi pc ha u1) (hQ : ∀ v, rC ne lo hi pc ha v → bB ne 6 7 8 5 v (bR ne lo hi pc ha p1 p2) → bOk ne ha (bR ne lo hi pc ha p1 p2) → Q v) : TX1_seek Q p1 p2 u1 := by
  obtain ⟨g1, g2, g3⟩ := hs
  obtain ⟨a, ha1, rfl⟩ := i_of (x := p1) (hi := 1000) (by decide) (by omega) (by omega)
  obtain ⟨b, hb1, rfl⟩ := i_of (x := p2) (hi := 1000) (by decide) (by omega) (by omega)
  have hc : (nI a).toNatClampNeg = a := nI_clamp (by omega)
  have hc2 : (nI b).toNatClampNeg = b := nI_clamp (by omega)
  unfold bR at hQ
  rw [hc, hc2] at hQ
  obtain ⟨a1, a2, a3, a4, a5⟩ := hu
  exact b_seek hx hne ha1 hb1 a1 a2 a3 a4 a5 (fun v q1 q2 q3 q4 q5 q6 q7 => hQ v ⟨q1, q2, q3, q4, q5⟩ q6 q7)
theorem m_blends (hx : bX lo hi pc ha) (hne : ne ≤ 6) (hs : vS p1 p2) (hu : mU ne lo hi pc ha u) (hQ : ∀ v, zKeep [9, 10, 11] [7, 8] u v → bB ne 9 10 11 8 v (bR ne lo hi pc ha p1 p2) → bOk ne ha (bR ne lo hi pc ha p1 p2) → QM (v.1 9) v) : TX7_blends QM p1 p2 u := by
  obtain ⟨g1, g2, g3⟩ := hs
  obtain ⟨a, ha1, rfl⟩ := i_of (x := p1) (hi := 1000) (by decide) (by omega) (by omega)
  obtain ⟨b, hb1, rfl⟩ := i_of (x := p2) (hi := 1000) (by decide) (by omega) (by omega)
  have hc : (nI a).toNatClampNeg = a := nI_clamp (by omega)
  have hc2 : (nI b).toNatClampNeg = b := nI_clamp (by omega)
  unfold bR at hQ
  rw [hc, hc2] at hQ
  exact b_blends hx hne ha1 hb1 hu hQ
theorem bB.same {ka kb kc kd la lb lc ld : Nat} {v w : zSt} {st : bS} (h : bB ne ka kb kc kd v st) (g : bB ne la lb lc ld w st) : v.1 ka = w.1 la := by
  rcases hs : st.1 with _ | _
  · rw [h.1 hs, g.1 hs]
  · rw [(h.2 hs).1, (g.2 hs).1]
theorem cl_blend (hx : bX lo hi pc ha) (hne : ne ≤ 6) (hu : rC ne lo hi pc ha u1) (hbad : ¬ vS p1 p2 → QX zIAE (u0, u1, u2, u3, u4, u5))
    (hok : vS p1 p2 → ∀ v, rC ne lo hi pc ha v → bB ne 6 7 8 5 v (bR ne lo hi pc ha p1 p2) → bOk ne ha (bR ne lo hi pc ha p1 p2) → Q (v.1 6) (u0, v, u2, u3, u4, u5)) : TX6_blend Q QX p1 p2 u0 u1 u2 u3 u4 u5 := by
  unfold TX6_blend wp_X6_blend_0
  exact t_span (fun a1 => ⟨fun h => absurd h (by decide), fun _ => c_seek hx hne a1 hu (hok a1)⟩) (fun a1 => ⟨fun _ => hbad a1, fun h => absurd rfl h⟩)
theorem ml_blend (hx : bX lo hi pc ha) (hne : ne ≤ 6) (hu : mU ne lo hi pc ha u) (hbad : ¬ vS p1 p2 → QM 0 (zI (zI u 0 0) 0 1))
    (hok : vS p1 p2 → ∀ v, zKeep [9, 10, 11] [7, 8] (zI u 0 0) v → bB ne 9 10 11 8 v (bR ne lo hi pc ha p1 p2) → QM (v.1 9) v) : TX7_blend QM p1 p2 u := by
  unfold TX7_blend wp_X7_blend_0
  rintro _ rfl
  refine t_noGrade (fun a1 => t_throws0 ⟨fun _ => m_blends hx hne a1 hu (fun v q1 q2 _ => hok a1 v q1 q2), fun h => absurd rfl h⟩) (fun a1 => t_throws1 ⟨fun h => absurd h (by decide), fun _ => hbad a1⟩)
theorem rE.mk' (hx : bX lo hi pc ha) (hne : ne ≤ 6) (hu : rC ne lo hi pc ha u1) (hw : mU ne lo hi pc ha w) : rE u1 w := ⟨ne, lo, hi, pc, ha, hne, hx, hu.1, hu.2.1, hu.2.2.1, hu.2.2.2.1, hu.2.2.2.2, hw⟩
theorem rO {u7 : zSt} (hL : rL u3 u7) (hT : rT u5 u7) (hG : rG u2 u7) (hM : rM u4 u7) (g : zKeep [0, 6, 9, 10, 11] [2, 3, 4, 5, 7, 8] u7 w) : rL u3 w ∧ rT u5 w ∧ rG u2 w ∧ rM u4 w :=
  ⟨hL.k ⟨g.1 _ (by decide), g.1 _ (by decide), g.1 _ (by decide), g.2 _ (by decide), g.2 _ (by decide), g.2 _ (by decide), g.2 _ (by decide), g.2 _ (by decide), g.2 _ (by decide)⟩, hT.k ⟨g.1 _ (by decide), g.1 _ (by decide), g.1 _ (by decide), g.2 _ (by decide), g.2 _ (by decide), g.2 _ (by decide), g.2 _ (by decide)⟩, hG.k ⟨g.1 _ (by decide), g.2 _ (by decide), g.2 _ (by decide), g.2 _ (by decide), g.2 _ (by decide)⟩, hM.k ⟨g.1 _ (by decide), g.1 _ (by decide), g.2 _ (by decide), g.2 _ (by decide)⟩⟩
end ZB2
set_option maxHeartbeats 2000000 in
theorem cs_296 {L : Nat} {xs : Nat → Int32} {J23 : Int32 → Nat → Nat → zSt → zSt → zSt → zSt → zSt → zSt → zSt → (Nat → Int64) → Prop} {x4 : Int32} {cs sl : Nat} {u0 u1 u2 u3 u4 u5 u7 : zSt} {u8 : Nat → Int64} (hb : cs + 1 ≤ 601024 ∧ sl + 6 ≤ 7293034) (hi : vp_in (x4 + 1) L ∧ vp_in (x4 + 2) L ∧ vp_in (x4 + 3) L ∧ vp_in (x4 + 4) L) (hR : rAll u1 u2 u3 u4 u5 u7) (hJ : ∀ (cs' sl' : Nat) (v0 v1 v2 v3 v4 v5 v7 : zSt) (v8 : Nat → Int64), cs' ≤ cs + 1 → sl' ≤ sl + 6 → rAll v1 v2 v3 v4 v5 v7 → J23 (x4 + 5) cs' sl' v0 v1 v2 v3 v4 v5 v7 v8) : wp_L_law_296 L xs J23 x4 cs sl u0 u1 u2 u3 u4 u5 u7 u8 := by
  obtain ⟨⟨ne, lo, hi', pc, ha, hne, hx, e4, e0, e1, e2, e3, mm⟩, hL, hT, hG, hM⟩ := id hR
  have hu : rC ne lo hi' pc ha u1 := ⟨e4, e0, e1, e2, e3⟩
  unfold wp_L_law_296 TL_blend
  refine ⟨hb, hi.1, hi.2.1, ?_⟩
  generalize xs (x4 + 1).toNatClampNeg = p1
  generalize xs (x4 + 2).toNatClampNeg = p2
  refine cl_blend hx hne hu (fun g => ⟨rfl, ?_⟩) (fun g v hv hB hO => ?_)
  · rintro _ rfl
    refine ⟨hi.1, hi.2.1, ml_blend hx hne mm (fun _ => z_fin rfl (fun h => absurd h (by decide)) ?_) (fun q => absurd q g)⟩
    exact hJ _ _ _ _ _ _ _ _ _ _ (by omega) (by omega) ((hR.t 0).t 1)
  · rintro _ rfl
    refine ⟨hi.1, hi.2.1, ml_blend hx hne mm (fun q => absurd g q) (fun _ w hk hB2 => z_fin (hk.1 0 (by decide)) (fun _ => congrArg Int32.toInt64 (hB.same hB2)) ?_)⟩
    have hk' : zKeep [0, 6, 9, 10, 11] [2, 3, 4, 5, 7, 8] u7 w := (zKeep.rf.i (by decide)).tr (hk.wk (by decide) (by decide))
    exact hJ _ _ _ _ _ _ _ _ _ _ (by omega) (by omega) ⟨rE.mk' hx hne hv (mU.keep (u := zI u7 0 0) mm hk), rO hL hT hG hM hk'⟩
