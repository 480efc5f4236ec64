/-! the case grade -/
section ZH
variable {Q : Int32 → (zSt × zSt × zSt × zSt × zSt × zSt) → Prop} {QX : String → (zSt × zSt × zSt × zSt × zSt × zSt) → Prop} {QM : Int32 → zSt → Prop} {p1 p2 p3 p4 : Int32} {u0 u1 u2 u3 u4 u5 u w : zSt} {ng : Nat} {wo sg : Nat → Nat}
def vG (p1 p2 p3 : Int32) : Prop := (0 ≤ p1.toInt ∧ p1.toInt ≤ 9) ∧ (1 ≤ p2.toInt ∧ p2.toInt ≤ 1000) ∧ 0 ≤ p3.toInt ∧ p3.toInt ≤ 500
/-- an element put in at p -/
def zIns (f g : Nat → Int32) (p ng : Nat) : Prop := (∀ i, i < p → g i = f i) ∧ (∀ i, p < i → i ≤ ng → g i = f (i - 1))
theorem zIns.step {f g : Nat → Int32} {p ng : Nat} (h : zIns f g (p + 1) ng) : zIns f (upd g (p + 1) (g p)) p ng := by
  refine ⟨fun i hi => ?_, fun i h1 h2 => ?_⟩
  · rw [pk_un (by omega)]; exact h.1 i (by omega)
  · by_cases e : i = p + 1
    · subst e; rw [pk_us, h.1 p (by omega)]; congr 1
    · rw [pk_un e]; exact h.2 i (by omega) h2
theorem zIns.put {f g : Nat → Int32} {p ng : Nat} {x : Int32} (h : zIns f g p ng) : zIns f (upd g p x) p ng := ⟨fun i hi => by rw [pk_un (by omega)]; exact h.1 i hi, fun i h1 h2 => by rw [pk_un (by omega)]; exact h.2 i h1 h2⟩
theorem c_gadd {a W r : Nat} (hng : ng < 6) (hw : ∀ g, wo g ≤ 1000) (hW : W ≤ 1000) (h5 : u.1 5 = nI ng) (h3 : ∀ i, i < ng → u.2 3 i = nI (wo (sg i)))
    (hQ : ∀ (v : zSt) (p : Nat), p ≤ ng → v.1 5 = nI (ng + 1) → v.1 1 = u.1 1 → v.2 0 = u.2 0 → zIns (u.2 2) (v.2 2) p ng → zIns (u.2 3) (v.2 3) p ng → zIns (u.2 4) (v.2 4) p ng → v.2 2 p = nI a → v.2 3 p = nI W → v.2 4 p = nI r → (∀ i, p ≤ i → i < ng → wo (sg i) < W) → (0 < p → W ≤ wo (sg (p - 1))) → QM (nI ng) v) : TX2_add QM (nI a) (nI W) (nI r) u := by
  refine ⟨fun n x1 x2 x3 x4 v => ∃ p : Nat, p ≤ ng ∧ n = p ∧ x1 = nI a ∧ x2 = nI W ∧ x3 = nI r ∧ x4 = nI p ∧ v.1 = u.1 ∧ v.2 0 = u.2 0 ∧ zIns (u.2 2) (v.2 2) p ng ∧ zIns (u.2 3) (v.2 3) p ng ∧ zIns (u.2 4) (v.2 4) p ng ∧ (∀ i, p ≤ i → i < ng → wo (sg i) < W), ?_, ?_⟩
  · unfold wp_X2_add_0
    rw [h5]
    rintro _ rfl
    exact ⟨_, ng, by omega, rfl, rfl, rfl, rfl, rfl, rfl, rfl, ⟨fun _ _ => rfl, fun i q1 q2 => absurd q1 (by omega)⟩, ⟨fun _ _ => rfl, fun i q1 q2 => absurd q1 (by omega)⟩, ⟨fun _ _ => rfl, fun i q1 q2 => absurd q1 (by omega)⟩, fun i q1 q2 => absurd q1 (by omega)⟩
  · rintro n _ _ _ _ v ⟨p, hp, hn, rfl, rfl, rfl, rfl, e1, e0, i2, i3, i4, hlt⟩
    have hin : vp_in (nI p) 6 := vp_in_nI (by omega) (by omega)
    have hc : (nI p).toNatClampNeg = p := nI_clamp (by omega)
    have fin : (0 < p → W ≤ wo (sg (p - 1))) → wp_X2_add_78 (fun x1 x2 x3 x4 v => ∃ k : Nat, k < n ∧ ∃ p : Nat, p ≤ ng ∧ k = p ∧ x1 = nI a ∧ x2 = nI W ∧ x3 = nI r ∧ x4 = nI p ∧ v.1 = u.1 ∧ v.2 0 = u.2 0 ∧ zIns (u.2 2) (v.2 2) p ng ∧ zIns (u.2 3) (v.2 3) p ng ∧ zIns (u.2 4) (v.2 4) p ng ∧ (∀ i, p ≤ i → i < ng → wo (sg i) < W)) QM (nI a) (nI W) (nI r) (nI p) v := by
      intro hg
      unfold wp_X2_add_78
      rw [hc]
      refine ⟨hin, ?_⟩
      rintro _ rfl
      refine ⟨hin, ?_⟩
      rintro _ rfl
      refine ⟨hin, ?_⟩
      rintro _ rfl _ rfl
      have e5 : v.1 5 = nI ng := by rw [e1]; exact h5
      show QM (v.1 5 + 1 - 1) (zI (zA (zA (zA v 2 (upd (v.2 2) p (nI a))) 3 (upd (v.2 3) p (nI W))) 4 (upd (v.2 4) p (nI r))) 5 (v.1 5 + 1))
      rw [e5, nI_1, nI_pred]
      exact hQ _ p hp rfl (congrFun e1 1) e0 i2.put i3.put i4.put pk_us pk_us pk_us hlt hg
    unfold wp_X2_add_6
    refine pk_le p 0 (fun h => fin (fun q => absurd q (by omega))) (fun h => ?_)
    obtain ⟨p, rfl⟩ : ∃ p', p = p' + 1 := ⟨p - 1, by omega⟩
    have hin0 : vp_in (nI p) 6 := vp_in_nI (by omega) (by omega)
    have hc0 : (nI p).toNatClampNeg = p := nI_clamp (by omega)
    rw [nI_pred, hc0, hc]
    have e3 : v.2 3 p = nI (wo (sg p)) := by rw [i3.1 p (by omega)]; exact h3 p (by omega)
    have hwp := hw (sg p)
    refine ⟨hin0, ?_⟩
    rw [e3]
    refine pk_le W (wo (sg p)) (fun h => fin (fun _ => h)) (fun h => ⟨hin0, hin, ?_⟩)
    rintro _ rfl
    refine ⟨hin0, hin, ?_⟩
    rintro _ rfl
    refine ⟨hin0, hin, ?_⟩
    rintro _ rfl _ rfl
    refine ⟨p, by omega, p, by omega, rfl, rfl, rfl, rfl, pk_m1 p, e1, e0, i2.step, ?_, i4.step, fun i h1 h2 => ?_⟩
    · exact i3.step
    · by_cases e : i = p
      · subst e; exact h
      · exact hlt i (by omega) h2
theorem m_grade (hng : ng ≤ 6) (h34 : u.1 34 = nI ng) (hbad : ¬ vG p1 p2 p3 → QM 0 (zI (zI u 0 0) 0 1)) (hfull : vG p1 p2 p3 → ng = 6 → QM (-1) (zI u 0 0))
    (hok : vG p1 p2 p3 → ng < 6 → QM (nI ng) (zI (zA (zA (zA (zI u 0 0) 31 (upd (u.2 31) ng p1)) 32 (upd (u.2 32) ng p2)) 33 (upd (u.2 33) ng p3)) 34 (nI (ng + 1)))) : TX7_grade QM p1 p2 p3 u := by
  have z0 := i_0
  have z1 := i_1
  have z2 := i_1000
  have z3 : (9 : Int32).toInt = 9 := rfl
  have z4 : (500 : Int32).toInt = 500 := rfl
  unfold TX7_grade wp_X7_grade_0
  rintro _ rfl
  have bad : ¬ vG p1 p2 p3 → wp_X7_grade_38 QM p1 p2 p3 (zI u 0 0) := fun h => by
    unfold wp_X7_grade_38 wp_X7_grade_43
    exact t_throws1 ⟨fun h => absurd h (by decide), fun _ => hbad h⟩
  refine t_in (fun a1 => ⟨fun h => absurd h (by decide), fun _ => ?_⟩) (fun a1 => ⟨fun _ => bad (fun g => a1 (by unfold vG at g; omega)), fun h => absurd rfl h⟩)
  refine t_in (fun a2 => ⟨fun h => absurd h (by decide), fun _ => ?_⟩) (fun a2 => ⟨fun _ => bad (fun g => a2 (by unfold vG at g; omega)), fun h => absurd rfl h⟩)
  refine t_in (fun a3 => ⟨fun h => absurd h (by decide), fun _ => ?_⟩) (fun a3 => ⟨fun _ => bad (fun g => a3 (by unfold vG at g; omega)), fun h => absurd rfl h⟩)
  have A : vG p1 p2 p3 := ⟨⟨by omega, by omega⟩, ⟨by omega, by omega⟩, by omega, by omega⟩
  unfold wp_X7_grade_43
  refine t_throws0 ⟨fun _ => ?_, fun h => absurd rfl h⟩
  refine pk_eq ng 6 (fun h => hfull A h) (fun h => ?_) (hx := h34)
  have hin : vp_in (u.1 34) 6 := by rw [h34]; exact vp_in_nI (by omega) (by omega)
  have hc : (u.1 34).toNatClampNeg = ng := by rw [h34]; exact nI_clamp (by omega)
  refine ⟨hin, ?_⟩
  rintro _ rfl
  refine ⟨hin, ?_⟩
  rintro _ rfl
  refine ⟨hin, ?_⟩
  rintro _ rfl _ rfl
  show QM (u.1 34 + 1 - 1) (zI (zA (zA (zA (zI u 0 0) 31 (upd (u.2 31) (u.1 34).toNatClampNeg p1)) 32 (upd (u.2 32) (u.1 34).toNatClampNeg p2)) 33 (upd (u.2 33) (u.1 34).toNatClampNeg p3)) 34 (u.1 34 + 1))
  rw [hc, h34, nI_1, nI_pred]
  exact hok A (by omega)
end ZH
set_option maxHeartbeats 2000000 in
theorem cs_1079 {L : Nat} {xs : Nat → Int32} {J23 : Int32 → Nat → Nat → zSt → zSt → zSt → zSt → zSt → zSt → zSt → (Nat → Int64) → Prop} {x4 : Int32} {cs sl : Nat} {u0 u1 u2 u3 u4 u5 u7 : zSt} {u8 : Nat → Int64} (hb : cs + 1 ≤ 601024 ∧ sl + 6 ≤ 7293034) (hi : vp_in (x4 + 1) L ∧ vp_in (x4 + 2) L ∧ vp_in (x4 + 3) L ∧ vp_in (x4 + 4) L) (hR : rAll u1 u2 u3 u4 u5 u7) (hJ : ∀ (cs' sl' : Nat) (v0 v1 v2 v3 v4 v5 v7 : zSt) (v8 : Nat → Int64), cs' ≤ cs + 1 → sl' ≤ sl + 6 → rAll v1 v2 v3 v4 v5 v7 → J23 (x4 + 5) cs' sl' v0 v1 v2 v3 v4 v5 v7 v8) : wp_L_law_1079 L xs J23 x4 cs sl u0 u1 u2 u3 u4 u5 u7 u8 := by
  obtain ⟨hE, hL, hT, hG, hM⟩ := id hR
  obtain ⟨ng, sq, le, wo, ro, sg, b1, hsl, g0, g30, g1, g5, g34, a31, a32, a33, ab, s1, s2, s3⟩ := id hG
  have z0 := i_0
  have z1 := i_1
  have z2 := i_1000
  have z3 : (9 : Int32).toInt = 9 := rfl
  have z4 : (500 : Int32).toInt = 500 := rfl
  unfold wp_L_law_1079 TL_grade
  refine ⟨hb, hi.1, hi.2.1, hi.2.2.1, ?_⟩
  generalize xs (x4 + 1).toNatClampNeg = p1
  generalize xs (x4 + 2).toNatClampNeg = p2
  generalize xs (x4 + 3).toNatClampNeg = p3
  unfold TX6_grade wp_X6_grade_0 wp_X6_grade_32
  have no : ¬ vG p1 p2 p3 → ∀ x5_9 : Int32, x5_9 = 1 → vp_in (x4 + 1) L ∧ (vp_in (x4 + 2) L ∧ (vp_in (x4 + 3) L ∧ (TX7_grade (fun (r_11 : Int32) (u7_10 : zSt) => ∀ x6_12 : Int32, x6_12 = r_11 → TX7_thrown (fun (r_14 : Int32) (u7_13 : zSt) => (r_14 = x5_9 → (x5_9 = (0 : Int32) → ((lg_cmp (u8 (0 : Int32).toNatClampNeg) ((x6_12 : Int32).toInt64)) = (0 : Int32) → ∀ x4_16 : Int32, x4_16 = x4 + 5 → J23 x4_16 (cs + 1) (sl + 6) u0 u1 u2 u3 u4 u5 u7_13 u8) ∧ (¬ (lg_cmp (u8 (0 : Int32).toNatClampNeg) ((x6_12 : Int32).toInt64)) = (0 : Int32) → False)) ∧ (¬ x5_9 = (0 : Int32) → ∀ x4_15 : Int32, x4_15 = x4 + 5 → J23 x4_15 (cs + 1) (sl + 6) u0 u1 u2 u3 u4 u5 u7_13 u8)) ∧ (¬ r_14 = x5_9 → False)) u7_10) p1 p2 p3 u7))) := by
    rintro g _ rfl
    refine ⟨hi.1, hi.2.1, hi.2.2.1, m_grade b1 g34 (fun _ => z_fin (J := fun y u => J23 y (cs + 1) (sl + 6) u0 u1 u2 u3 u4 u5 u u8) rfl (fun h => absurd h (by decide)) ?_) (fun q => absurd q g) (fun q => absurd q g)⟩
    exact hJ _ _ _ _ _ _ _ _ _ _ (by omega) (by omega) ((hR.t 0).t 1)
  refine t_within (fun a1 => ⟨fun h => absurd h (by decide), fun _ => ?_⟩) (fun a1 => ⟨fun _ => ⟨rfl, no (fun g => a1 (by unfold vG at g; omega))⟩, fun h => absurd rfl h⟩)
  refine t_within (fun a2 => ⟨fun h => absurd h (by decide), fun _ => ?_⟩) (fun a2 => ⟨fun _ => ⟨rfl, no (fun g => a2 (by unfold vG at g; omega))⟩, fun h => absurd rfl h⟩)
  refine t_within (fun a3 => ⟨fun h => absurd h (by decide), fun _ => ?_⟩) (fun a3 => ⟨fun _ => ⟨rfl, no (fun g => a3 (by unfold vG at g; omega))⟩, fun h => absurd rfl h⟩)
  have A : vG p1 p2 p3 := ⟨⟨by omega, by omega⟩, ⟨by omega, by omega⟩, by omega, by omega⟩
  obtain ⟨a, ha, rfl⟩ := i_of (x := p1) (hi := 9) (by decide) (by omega) (by omega)
  obtain ⟨W, hW, rfl⟩ := i_of (x := p2) (hi := 1000) (by decide) (by omega) (by omega)
  obtain ⟨r, hr, rfl⟩ := i_of (x := p3) (hi := 500) (by decide) (by omega) (by omega)
  rw [g5]
  refine pk_lt ng 6 (fun hng => ?_) (fun hng => ?_)
  · refine c_gadd (wo := wo) (sg := sg) hng (fun g => (ab g).2.1) hW g5 (fun i h => (s3 i h).2.1) (fun v p hp v5 v1 v0 i2 i3 i4 w2 w3 w4 hlt hge => ?_)
    rintro _ rfl
    refine ⟨hi.1, hi.2.1, hi.2.2.1, m_grade b1 g34 (fun q => absurd A q) (fun _ q => absurd q (by omega)) (fun _ _ => z_fin rfl (fun _ => rfl) ?_)⟩
    obtain ⟨kE, kL, kT, kG, kM⟩ := hR.t 0
    refine hJ _ _ _ _ _ _ _ _ _ _ (by omega) (by omega) ⟨kE.k ⟨rfl, rfl, rfl, rfl, rfl⟩, kL.k ⟨rfl, rfl, rfl, rfl, rfl, rfl, rfl, rfl, rfl⟩, kT.k ⟨rfl, rfl, rfl, rfl, rfl, rfl, rfl⟩, ?_, kM.k ⟨rfl, rfl, rfl, rfl⟩⟩
    have hge2 : ∀ i, i < p → W ≤ wo (sg i) := by
      intro i hip
      have h1 := hge (by omega)
      by_cases e : i = p - 1
      · rw [e]; exact h1
      · rcases (s2 i (p - 1) (by omega) (by omega)).2 with q | q <;> omega
    have up : ∀ (f : Nat → Nat) (x i : Nat), i < ng → zUp f ng x (sg i) = f (sg i) := fun f x i h => by
      unfold zUp; rw [if_neg (by have := s1 i h; omega)]
    have upn : ∀ (f : Nat → Nat) (x : Nat), zUp f ng x ng = x := fun f x => if_pos rfl
    obtain ⟨s', n1, n2, n3⟩ : ∃ s : Nat → Nat, (∀ i, i < p → s i = sg i) ∧ s p = ng ∧ (∀ i, p < i → s i = sg (i - 1)) := ⟨fun i => if i < p then sg i else if i = p then ng else sg (i - 1), fun i h => if_pos h, (if_neg (Nat.lt_irrefl p)).trans (if_pos rfl), fun i h => (if_neg (by omega)).trans (if_neg (by omega))⟩
    refine ⟨ng + 1, sq, zUp le ng a, zUp wo ng W, zUp ro ng r, s', by omega, hsl, v0.trans g0, g30, v1.trans g1, v5, rfl, ?_, ?_, ?_, fun g => ?_, fun i h => ?_, fun i j hij hj => ?_, fun i h => ?_⟩
    · show upd (u7.2 31) _ _ = _; rw [a31, zN_upd]
    · show upd (u7.2 32) _ _ = _; rw [a32, zN_upd]
    · show upd (u7.2 33) _ _ = _; rw [a33, zN_upd]
    · have := ab g
      unfold zUp
      split <;> omega
    · rcases Nat.lt_trichotomy i p with h1 | h1 | h1
      · rw [n1 i h1]; have := s1 i (by omega); omega
      · rw [h1, n2]; omega
      · rw [n3 i h1]; have := s1 (i - 1) (by omega); omega
    · rcases Nat.lt_trichotomy j p with h1 | h1 | h1
      · rw [n1 j h1, n1 i (by omega), up wo W i (by omega), up wo W j (by omega)]
        exact s2 i j hij (by omega)
      · rw [h1, n2, n1 i (by omega), upn, up wo W i (by omega)]
        have h3 := s1 i (by omega)
        have h4 := hge2 i (by omega)
        omega
      · rw [n3 j h1, up wo W (j - 1) (by omega)]
        rcases Nat.lt_trichotomy i p with h2 | h2 | h2
        · rw [n1 i h2, up wo W i (by omega)]
          exact s2 i (j - 1) (by omega) (by omega)
        · rw [h2, n2, upn]
          have h5 := s1 (j - 1) (by omega)
          have h6 := hlt (j - 1) (by omega) (by omega)
          omega
        · rw [n3 i h2, up wo W (i - 1) (by omega)]
          exact s2 (i - 1) (j - 1) (by omega) (by omega)
    · rcases Nat.lt_trichotomy i p with h1 | h1 | h1
      · rw [n1 i h1, up le a i (by omega), up wo W i (by omega), up ro r i (by omega)]
        exact ⟨(i2.1 i h1).trans (s3 i (by omega)).1, (i3.1 i h1).trans (s3 i (by omega)).2.1, (i4.1 i h1).trans (s3 i (by omega)).2.2⟩
      · rw [h1, n2, upn, upn, upn]
        exact ⟨w2, w3, w4⟩
      · rw [n3 i h1, up le a (i - 1) (by omega), up wo W (i - 1) (by omega), up ro r (i - 1) (by omega)]
        exact ⟨(i2.2 i (by omega) (by omega)).trans (s3 (i - 1) (by omega)).1, (i3.2 i (by omega) (by omega)).trans (s3 (i - 1) (by omega)).2.1, (i4.2 i (by omega) (by omega)).trans (s3 (i - 1) (by omega)).2.2⟩
  · rintro _ rfl
    refine ⟨hi.1, hi.2.1, hi.2.2.1, m_grade b1 g34 (fun q => absurd A q) (fun _ _ => z_fin rfl (fun _ => rfl) ?_) (fun _ q => absurd q (by omega))⟩
    exact hJ _ _ _ _ _ _ _ _ _ _ (by omega) (by omega) (hR.t 0)
