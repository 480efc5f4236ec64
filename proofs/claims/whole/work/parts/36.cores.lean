/-! the cases of the law: parts, cores, lot -/
section ZC1
variable {Q : Int32 → (zSt × zSt × zSt × zSt × zSt × zSt) → Prop} {QX : String → (zSt × zSt × zSt × zSt × zSt × zSt) → Prop} {QM : Int32 → zSt → Prop} {p1 p2 p3 p4 : Int32} {u0 u1 u2 u3 u4 u5 u w : zSt} {ne nl : Nat} {lo hi pc ha : Nat → Nat}
theorem cl_parts (hx : bX lo hi pc ha) (hne : ne ≤ 6) (hu : rC ne lo hi pc ha u1) (hno : ¬ vN ne p3 → QX zIOB (u0, u1, u2, u3, u4, u5)) (hbad : vN ne p3 → ¬ vS p1 p2 → QX zIAE (u0, u1, u2, u3, u4, u5))
    (hok : vN ne p3 → vS p1 p2 → ∀ v, rC ne lo hi pc ha v → Q (if (bR ne lo hi pc ha p1 p2).1 then nI ((bR ne lo hi pc ha p1 p2).2.2.2.2 p3.toNatClampNeg) else -1) (u0, v, u2, u3, u4, u5)) : TX6_parts Q QX p1 p2 p3 u0 u1 u2 u3 u4 u5 := by
  unfold TX6_parts wp_X6_parts_0
  have hn : (nI ne).toInt = ne := nI_toInt (by omega)
  rw [hu.1]
  refine t_number (fun a1 => ⟨fun h => absurd h (by decide), fun _ => ?_⟩) (fun a1 => ⟨fun _ => hno (fun g => a1 (by unfold vN at g; omega)), fun h => absurd rfl h⟩)
  have a1' : vN ne p3 := ⟨a1.1, by omega⟩
  refine t_span (fun a2 => ⟨fun h => absurd h (by decide), fun _ => c_seek hx hne a2 hu (fun v hv hB hO => ?_)⟩) (fun a2 => ⟨fun _ => hbad a1' a2, fun h => absurd rfl h⟩)
  have := hok a1' a2 v hv
  rcases hs : (bR ne lo hi pc ha p1 p2).1 with _ | _
  · rw [hs] at this
    exact ⟨fun _ => this, fun h => absurd (hB.1 hs) h⟩
  · rw [hs] at this
    obtain ⟨e, he, rfl⟩ := i_of (x := p3) (hi := 5) (by decide) (by omega) (by omega)
    have he2 : (nI e).toInt = e := nI_toInt (by omega)
    have hc : (nI e).toNatClampNeg = e := nI_clamp (by omega)
    rw [hc] at this ⊢
    rw [(hB.2 hs).1]
    refine ⟨fun h => absurd h (b_neg1 (by have := (hO hs).1; omega)), fun _ => ⟨vp_in_nI (by omega) (by omega), ?_⟩⟩
    rw [(hB.2 hs).2.2.2 e (by omega)]
    exact this
theorem ml_parts (hx : bX lo hi pc ha) (hne : ne ≤ 6) (hu : mU ne lo hi pc ha u) (hno : ¬ vN ne p3 → QM 0 (zI (zI u 0 0) 0 1)) (hbad : vN ne p3 → ¬ vS p1 p2 → QM 0 (zI (zI u 0 0) 0 2))
    (hok : vN ne p3 → vS p1 p2 → ∀ v, zKeep [9, 10, 11] [7, 8] (zI u 0 0) v → QM (if (bR ne lo hi pc ha p1 p2).1 then nI ((bR ne lo hi pc ha p1 p2).2.2.2.2 p3.toNatClampNeg) else -1) v) : TX7_parts QM p1 p2 p3 u := by
  unfold TX7_parts wp_X7_parts_0
  rintro _ rfl
  refine t_no (n := ne) (by omega) hu.1 (fun a1 => t_throws0 ⟨fun _ => ?_, fun h => absurd rfl h⟩) (fun a1 => t_throws1 ⟨fun h => absurd h (by decide), fun _ => hno a1⟩)
  refine t_noGrade (fun a2 => t_throws0 ⟨fun _ => m_blends hx hne a2 hu (fun v hk hB hO => ?_), fun h => absurd rfl h⟩) (fun a2 => t_throws1 ⟨fun h => absurd h (by decide), fun _ => hbad a1 a2⟩)
  have := hok a1 a2 v hk
  rcases hs : (bR ne lo hi pc ha p1 p2).1 with _ | _
  · rw [hs] at this
    exact ⟨fun _ => this, fun h => absurd (hB.1 hs) h⟩
  · rw [hs] at this
    obtain ⟨e, he, rfl⟩ := i_of (x := p3) (hi := 5) (by decide) (by omega) (by omega)
    have he2 : (nI e).toInt = e := nI_toInt (by omega)
    have hc : (nI e).toNatClampNeg = e := nI_clamp (by omega)
    rw [hc] at this ⊢
    rw [(hB.2 hs).1]
    refine ⟨fun h => absurd h (b_neg1 (by have := (hO hs).1; omega)), fun _ => ⟨vp_in_nI (by omega) (by omega), ?_⟩⟩
    rw [(hB.2 hs).2.2.2 e (by omega)]
    exact this
theorem c_take {Q : zSt → Prop} {bb : Nat → Nat} (hne : ne ≤ 6) (hu : rC ne lo hi pc ha u) (hb : ∀ i, i < ne → u.2 5 i = nI (bb i)) (hle : ∀ i, i < ne → bb i ≤ ha i)
    (hQ : ∀ v, rC ne lo hi pc (fun i => if i < ne then ha i - bb i else ha i) v → v.1 7 = u.1 7 → v.1 8 = u.1 8 → Q v) : TX1_takeBest Q u := by
  refine ⟨fun n x1 v => ∃ j : Nat, x1 = nI j ∧ j ≤ ne ∧ n = ne - j ∧ v = zA u 3 (zN (fun i => if i < j then ha i - bb i else ha i)), ?_, ?_⟩
  · unfold wp_X1_takeBest_0
    rintro _ rfl
    refine ⟨_, 0, rfl, by omega, rfl, ?_⟩
    show u = (u.1, va_up u.2 3 _)
    have : (fun i => if i < 0 then ha i - bb i else ha i) = ha := funext fun i => if_neg (by omega)
    rw [this, ← hu.2.2.2.2]
    refine Prod.ext rfl (funext fun k => ?_)
    show u.2 k = if k = 3 then u.2 3 else u.2 k
    split
    · next h => rw [h]
    · rfl
  · rintro n _ _ ⟨j, rfl, hj, hn, rfl⟩
    unfold wp_X1_takeBest_2
    show (u.1 4 ≤ nI j → _) ∧ (¬ u.1 4 ≤ nI j → _)
    rw [hu.1]
    refine pk_le ne j (fun h => ?_) (fun h => ?_)
    · have : j = ne := by omega
      subst this
      exact hQ _ ⟨hu.1, hu.2.1, hu.2.2.1, hu.2.2.2.1, rfl⟩ rfl rfl
    · have hin : vp_in (nI j) 6 := vp_in_nI (by omega) (by omega)
      refine ⟨hin, hin, hin, ?_⟩
      rintro _ rfl _ rfl
      refine ⟨ne - (j + 1), by omega, j + 1, nI_1 j, by omega, rfl, ?_⟩
      rw [nI_clamp (by omega)]
      show zA (zA u 3 _) 3 (upd (zN (fun i => if i < j then ha i - bb i else ha i)) j (nI (if j < j then ha j - bb j else ha j) - u.2 5 j)) = _
      rw [hb j h, if_neg (by omega), pk_sub (hle j h), zN_upd]
      refine Prod.ext rfl (funext fun k => ?_)
      show (if k = 3 then _ else if k = 3 then _ else u.2 k) = if k = 3 then _ else u.2 k
      split
      · congr 1
        funext i
        simp only [zUp]
        by_cases h1 : i = j
        · subst h1; rw [if_pos rfl, if_pos (by omega)]
        · rw [if_neg h1]
          by_cases h2 : i < j
          · rw [if_pos h2, if_pos (by omega)]
          · rw [if_neg h2, if_neg (by omega)]
      · rfl
theorem c_add3 (h : nl < 12) (h5 : u.1 5 = nI nl) (hQ : QM (nI nl) (zI (zA (zA (zA (zA u 0 (upd (u.2 0) nl p1)) 1 (upd (u.2 1) nl p2)) 3 (upd (u.2 3) nl p3)) 4 (upd (u.2 4) nl p4)) 5 (nI (nl + 1)))) : TX3_add QM p1 p2 p3 p4 u := by
  unfold TX3_add wp_X3_add_0
  have hin : vp_in (nI nl) 12 := vp_in_nI (by omega) (by omega)
  have hc : (nI nl).toNatClampNeg = nl := nI_clamp (by omega)
  rw [h5]
  rintro _ rfl
  rw [hc]
  refine ⟨hin, ?_⟩
  rintro _ rfl
  refine ⟨hin, ?_⟩
  rintro _ rfl
  refine ⟨hin, ?_⟩
  rintro _ rfl
  refine ⟨hin, ?_⟩
  rintro _ rfl _ rfl
  show QM (nI nl) (zI (zA (zA (zA (zA u 0 (upd (u.2 0) nl p1)) 1 (upd (u.2 1) nl p2)) 3 (upd (u.2 3) nl p3)) 4 (upd (u.2 4) nl p4)) 5 (u.1 5 + 1))
  rw [h5, nI_1]
  exact hQ
theorem m_adds (h : nl < 12) (h5 : u.1 17 = nI nl) (hQ : QM (nI nl) (zI (zA (zA (zA (zA u 12 (upd (u.2 12) nl p1)) 13 (upd (u.2 13) nl p2)) 15 (upd (u.2 15) nl p3)) 16 (upd (u.2 16) nl p4)) 17 (nI (nl + 1)))) : TX7_adds QM p1 p2 p3 p4 u := by
  unfold TX7_adds wp_X7_adds_0
  have hin : vp_in (u.1 17) 12 := by rw [h5]; exact vp_in_nI (by omega) (by omega)
  have hc : (u.1 17).toNatClampNeg = nl := by rw [h5]; exact nI_clamp (by omega)
  refine ⟨hin, ?_⟩
  rintro _ rfl
  refine ⟨hin, ?_⟩
  rintro _ rfl
  refine ⟨hin, ?_⟩
  rintro _ rfl
  refine ⟨hin, ?_⟩
  rintro _ rfl _ rfl
  show QM (u.1 17 + 1 - 1) (zI (zA (zA (zA (zA u 12 (upd (u.2 12) (u.1 17).toNatClampNeg p1)) 13 (upd (u.2 13) (u.1 17).toNatClampNeg p2)) 15 (upd (u.2 15) (u.1 17).toNatClampNeg p3)) 16 (upd (u.2 16) (u.1 17).toNatClampNeg p4)) 17 (u.1 17 + 1))
  rw [hc, h5, nI_1, nI_pred]
  exact hQ
theorem rL_add {v : zSt} (hL : rL u3 v) (h5 : u3.1 5 = nI nl) (h : nl < 12) : rL (zI (zA (zA (zA (zA u3 0 (upd (u3.2 0) nl p1)) 1 (upd (u3.2 1) nl p2)) 3 (upd (u3.2 3) nl p3)) 4 (upd (u3.2 4) nl p4)) 5 (nI (nl + 1))) (zI (zA (zA (zA (zA v 12 (upd (v.2 12) nl p1)) 13 (upd (v.2 13) nl p2)) 15 (upd (v.2 15) nl p3)) 16 (upd (v.2 16) nl p4)) 17 (nI (nl + 1))) := by
  obtain ⟨nl', nb, mk, h1, h2, h3, e5, m17, e7, m19, e8, c0, c1, c2, c3, c4, c6, m18⟩ := hL
  have : nl' = nl := (nI_eq (by omega) (by omega)).mp (e5.symm.trans h5)
  subst this
  refine ⟨nl' + 1, nb, mk, by omega, h2, fun b => Nat.lt_of_lt_of_le (h3 b) (Nat.pow_le_pow_right (by decide) (by omega)), rfl, rfl, e7, m19, e8, ?_, ?_, c2, ?_, ?_, c6, m18⟩
  · show upd (u3.2 0) _ _ = upd (v.2 12) _ _; rw [c0]
  · show upd (u3.2 1) _ _ = upd (v.2 13) _ _; rw [c1]
  · show upd (u3.2 3) _ _ = upd (v.2 15) _ _; rw [c3]
  · show upd (u3.2 4) _ _ = upd (v.2 16) _ _; rw [c4]
end ZC1
set_option maxHeartbeats 2000000 in
theorem cs_364 {L : Nat} {xs : Nat → Int32} {J23 : Int32 → Nat → Nat → zSt → zSt → zSt → zSt → zSt → zSt → zSt → (Nat → Int64) → Prop} {x4 : Int32} {cs sl : Nat} {u0 u1 u2 u3 u4 u5 u7 : zSt} {u8 : Nat → Int64} (hb : cs + 1 ≤ 601024 ∧ sl + 6 ≤ 7293034) (hi : vp_in (x4 + 1) L ∧ vp_in (x4 + 2) L ∧ vp_in (x4 + 3) L ∧ vp_in (x4 + 4) L) (hR : rAll u1 u2 u3 u4 u5 u7) (hJ : ∀ (cs' sl' : Nat) (v0 v1 v2 v3 v4 v5 v7 : zSt) (v8 : Nat → Int64), cs' ≤ cs + 1 → sl' ≤ sl + 6 → rAll v1 v2 v3 v4 v5 v7 → J23 (x4 + 5) cs' sl' v0 v1 v2 v3 v4 v5 v7 v8) : wp_L_law_364 L xs J23 x4 cs sl u0 u1 u2 u3 u4 u5 u7 u8 := by
  obtain ⟨⟨ne, lo, hi', pc, ha, hne, hx, e4, e0, e1, e2, e3, mm⟩, hL, hT, hG, hM⟩ := id hR
  have hu : rC ne lo hi' pc ha u1 := ⟨e4, e0, e1, e2, e3⟩
  unfold wp_L_law_364 TL_parts
  refine ⟨hb, hi.1, hi.2.1, hi.2.2.1, ?_⟩
  generalize xs (x4 + 1).toNatClampNeg = p1
  generalize xs (x4 + 2).toNatClampNeg = p2
  generalize xs (x4 + 3).toNatClampNeg = p3
  refine cl_parts hx hne hu (fun g => Or.inl ⟨rfl, ?_⟩) (fun g1 g => Or.inr ⟨rfl, ?_⟩) (fun g1 g v hv => ?_)
  · rintro _ rfl
    refine ⟨hi.1, hi.2.1, hi.2.2.1, ml_parts hx hne mm (fun _ => z_fin rfl (fun h => absurd h (by decide)) ?_) (fun q => absurd q g) (fun q => absurd q g)⟩
    exact hJ _ _ _ _ _ _ _ _ _ _ (by omega) (by omega) ((hR.t 0).t 1)
  · rintro _ rfl
    refine ⟨hi.1, hi.2.1, hi.2.2.1, ml_parts hx hne mm (fun q => absurd g1 q) (fun _ _ => z_fin rfl (fun h => absurd h (by decide)) ?_) (fun _ q => absurd q g)⟩
    exact hJ _ _ _ _ _ _ _ _ _ _ (by omega) (by omega) ((hR.t 0).t 2)
  · rintro _ rfl
    refine ⟨hi.1, hi.2.1, hi.2.2.1, ml_parts hx hne mm (fun q => absurd g1 q) (fun _ q => absurd g q) (fun _ _ w hk => z_fin (hk.1 0 (by decide)) (fun _ => rfl) ?_)⟩
    have hk' : zKeep [0, 6, 9, 10, 11] [2, 3, 4, 5, 7, 8] u7 w := (zKeep.rf.i (by decide)).tr (hk.wk (by decide) (by decide))
    exact hJ _ _ _ _ _ _ _ _ _ _ (by omega) (by omega) ⟨rE.mk' hx hne hv (mU.keep (u := zI u7 0 0) mm hk), rO hL hT hG hM hk'⟩
section ZC2
variable {Q : Int32 → (zSt × zSt × zSt × zSt × zSt × zSt) → Prop} {QX : String → (zSt × zSt × zSt × zSt × zSt × zSt) → Prop} {QM : Int32 → zSt → Prop} {p1 p2 p3 p4 : Int32} {u0 u1 u2 u3 u4 u5 u w : zSt} {ne nl : Nat} {lo hi pc ha : Nat → Nat}
def bTk (ne : Nat) (ha : Nat → Nat) (st : bS) : Nat → Nat := fun i => if i < ne then ha i - st.2.2.2.2 i else ha i
theorem cl_cores (hx : bX lo hi pc ha) (hne : ne ≤ 6) (hl : nl ≤ 12) (h5 : u3.1 5 = nI nl) (hu : rC ne lo hi pc ha u1) (hbad : ¬ vS p1 p2 → QX zIAE (u0, u1, u2, u3, u4, u5)) (hfull : vS p1 p2 → nl = 12 → Q (-1) (u0, u1, u2, u3, u4, u5))
    (hno : vS p1 p2 → nl < 12 → (bR ne lo hi pc ha p1 p2).1 = false → ∀ v, rC ne lo hi pc ha v → Q (-1) (u0, v, u2, u3, u4, u5))
    (hok : vS p1 p2 → nl < 12 → (bR ne lo hi pc ha p1 p2).1 = true → ∀ v, rC ne lo hi pc (bTk ne ha (bR ne lo hi pc ha p1 p2)) v → Q (nI nl) (u0, v, u2, (zI (zA (zA (zA (zA u3 0 (upd (u3.2 0) nl 0)) 1 (upd (u3.2 1) nl 40)) 3 (upd (u3.2 3) nl (nI ((bR ne lo hi pc ha p1 p2).2.2.1 / 10)))) 4 (upd (u3.2 4) nl (nI (((bR ne lo hi pc ha p1 p2).2.2.2.1 + 9) / 10)))) 5 (nI (nl + 1))), u4, u5)) : TX6_cores Q QX p1 p2 u0 u1 u2 u3 u4 u5 := by
  unfold TX6_cores wp_X6_cores_0
  refine t_span (fun a1 => ⟨fun h => absurd h (by decide), fun _ => ?_⟩) (fun a1 => ⟨fun _ => hbad a1, fun h => absurd rfl h⟩)
  rw [h5]
  refine pk_lt nl 12 (fun h => c_seek hx hne a1 hu (fun v hv hB hO => ?_)) (fun h => hfull a1 (by omega))
  rcases hs : (bR ne lo hi pc ha p1 p2).1 with _ | _
  · exact ⟨fun _ => hno a1 h hs v hv, fun q => absurd (hB.1 hs) q⟩
  · rw [(hB.2 hs).1]
    refine ⟨fun q => absurd q (b_neg1 (by have := (hO hs).1; omega)), fun _ => ?_⟩
    refine c_take hne hv (hB.2 hs).2.2.2 (hO hs).2.2.2 (fun v' hv' e7 e8 => ?_)
    rw [e7, e8, (hB.2 hs).2.1, (hB.2 hs).2.2.1]
    exact c_add3 h h5 (hok a1 h hs v' hv')
theorem ml_cores (hx : bX lo hi pc ha) (hne : ne ≤ 6) (hl : nl ≤ 12) (h5 : u.1 17 = nI nl) (hu : mU ne lo hi pc ha u) (hbad : ¬ vS p1 p2 → QM 0 (zI (zI u 0 0) 0 1)) (hfull : vS p1 p2 → nl = 12 → QM (-1) (zI u 0 0))
    (hno : vS p1 p2 → nl < 12 → (bR ne lo hi pc ha p1 p2).1 = false → ∀ v, zKeep [9, 10, 11] [7, 8] (zI u 0 0) v → QM (-1) v)
    (hok : vS p1 p2 → nl < 12 → (bR ne lo hi pc ha p1 p2).1 = true → ∀ v, zKeep [9, 10, 11] [5, 7, 8] (zI u 0 0) v → mU ne lo hi pc (bTk ne ha (bR ne lo hi pc ha p1 p2)) v → QM (nI nl) (zI (zA (zA (zA (zA v 12 (upd (v.2 12) nl 0)) 13 (upd (v.2 13) nl 40)) 15 (upd (v.2 15) nl (nI ((bR ne lo hi pc ha p1 p2).2.2.1 / 10)))) 16 (upd (v.2 16) nl (nI (((bR ne lo hi pc ha p1 p2).2.2.2.1 + 9) / 10)))) 17 (nI (nl + 1)))) : TX7_cores QM p1 p2 u := by
  generalize hst : bR ne lo hi pc ha p1 p2 = st at *
  refine ⟨fun n x3 v => ∃ j : Nat, x3 = nI j ∧ j ≤ ne ∧ n = ne - j ∧ vS p1 p2 ∧ nl < 12 ∧ st.1 = true ∧ bOk ne ha st ∧ zKeep [9, 10, 11] [5, 7, 8] (zI u 0 0) v ∧ bB ne 9 10 11 8 v st ∧ mU ne lo hi pc (fun i => if i < j then ha i - st.2.2.2.2 i else ha i) v, ?_, ?_⟩
  · unfold wp_X7_cores_0
    rintro _ rfl
    refine t_noGrade (fun a1 => t_throws0 ⟨fun _ => ?_, fun h => absurd rfl h⟩) (fun a1 => t_throws1 ⟨fun h => absurd h (by decide), fun _ => ⟨fun h => absurd h (by show ¬ (1 : Int32) = 0; decide), fun _ => hbad a1⟩⟩)
    refine pk_eq nl 12 (fun h => ⟨fun _ => hfull a1 h, fun q => absurd rfl q⟩) (fun h => ?_) (hx := h5)
    refine m_blends hx hne a1 hu (fun v hk hB hO => ?_)
    rw [hst] at hB hO
    rcases hs : st.1 with _ | _
    · refine ⟨fun _ => ⟨fun _ => hno a1 (by omega) hs v hk, fun q => absurd (hk.1 0 (by decide)) q⟩, fun q => absurd (hB.1 hs) q⟩
    · rw [(hB.2 hs).1]
      refine ⟨fun q => absurd q (b_neg1 (by have := (hO hs).1; omega)), fun _ => ?_⟩
      rintro _ rfl
      have e0 : (fun i => if i < 0 then ha i - st.2.2.2.2 i else ha i) = ha := funext fun i => if_neg (by omega)
      refine ⟨_, 0, rfl, by omega, rfl, a1, by omega, rfl, hO, hk.wk (by decide) (by decide), hB, ?_⟩
      rw [e0]
      exact mU.keep (u := zI u 0 0) hu hk
  · rintro n _ v ⟨j, rfl, hj, hn, a1, h12, hs, hO, hk, hB, hm⟩
    unfold wp_X7_cores_52
    rw [hm.1]
    refine pk_le ne j (fun h => ?_) (fun h => ?_)
    · have : j = ne := by omega
      subst this
      rw [(hB.2 hs).2.1, (hB.2 hs).2.2.1]
      exact m_adds h12 ((hk.1 17 (by decide)).trans h5) (hok a1 h12 hs v hk hm)
    · have hin : vp_in (nI j) 6 := vp_in_nI (by omega) (by omega)
      refine ⟨hin, hin, hin, ?_⟩
      rintro _ rfl _ rfl
      refine ⟨ne - (j + 1), by omega, j + 1, nI_1 j, by omega, rfl, a1, h12, hs, hO, hk.a (by decide), ⟨hB.1, hB.2⟩, hm.1, hm.2.1, hm.2.2.1, hm.2.2.2.1, ?_⟩
      show upd (v.2 5) (nI j).toNatClampNeg (v.2 5 (nI j).toNatClampNeg - v.2 8 (nI j).toNatClampNeg) = _
      rw [nI_clamp (by omega), hm.2.2.2.2, (hB.2 hs).2.2.2 j h, zN_at]
      show upd _ j (nI (if j < j then ha j - st.2.2.2.2 j else ha j) - _) = _
      rw [if_neg (by omega), pk_sub ((hO hs).2.2.2 j h), zN_upd]
      congr 1
      funext i
      simp only [zUp]
      by_cases h1 : i = j
      · subst h1; rw [if_pos rfl, if_pos (by omega)]
      · rw [if_neg h1]
        by_cases h2 : i < j
        · rw [if_pos h2, if_pos (by omega)]
        · rw [if_neg h2, if_neg (by omega)]
end ZC2
set_option maxHeartbeats 2000000 in
theorem cs_444 {L : Nat} {xs : Nat → Int32} {J23 : Int32 → Nat → Nat → zSt → zSt → zSt → zSt → zSt → zSt → zSt → (Nat → Int64) → Prop} {x4 : Int32} {cs sl : Nat} {u0 u1 u2 u3 u4 u5 u7 : zSt} {u8 : Nat → Int64} (hb : cs + 1 ≤ 601024 ∧ sl + 6 ≤ 7293034) (hi : vp_in (x4 + 1) L ∧ vp_in (x4 + 2) L ∧ vp_in (x4 + 3) L ∧ vp_in (x4 + 4) L) (hR : rAll u1 u2 u3 u4 u5 u7) (hJ : ∀ (cs' sl' : Nat) (v0 v1 v2 v3 v4 v5 v7 : zSt) (v8 : Nat → Int64), cs' ≤ cs + 1 → sl' ≤ sl + 6 → rAll v1 v2 v3 v4 v5 v7 → J23 (x4 + 5) cs' sl' v0 v1 v2 v3 v4 v5 v7 v8) : wp_L_law_444 L xs J23 x4 cs sl u0 u1 u2 u3 u4 u5 u7 u8 := by
  obtain ⟨⟨ne, lo, hi', pc, ha, hne, hx, e4, e0, e1, e2, e3, mm⟩, hL, hT, hG, hM⟩ := id hR
  have hu : rC ne lo hi' pc ha u1 := ⟨e4, e0, e1, e2, e3⟩
  obtain ⟨nl, nb, mk, hl, -, -, l5, l17, -⟩ := id hL
  unfold wp_L_law_444 TL_cores
  refine ⟨hb, hi.1, hi.2.1, ?_⟩
  generalize xs (x4 + 1).toNatClampNeg = p1
  generalize xs (x4 + 2).toNatClampNeg = p2
  refine cl_cores hx hne hl l5 hu (fun g => ⟨rfl, ?_⟩) (fun g g2 => ?_) (fun g g2 g3 v hv => ?_) (fun g g2 g3 v hv => ?_)
  · rintro _ rfl
    refine ⟨hi.1, hi.2.1, ml_cores hx hne hl l17 mm (fun _ => z_fin rfl (fun h => absurd h (by decide)) ?_) (fun q => absurd q g) (fun q => absurd q g) (fun q => absurd q g)⟩
    exact hJ _ _ _ _ _ _ _ _ _ _ (by omega) (by omega) ((hR.t 0).t 1)
  · rintro _ rfl
    refine ⟨hi.1, hi.2.1, ml_cores hx hne hl l17 mm (fun q => absurd g q) (fun _ _ => z_fin rfl (fun _ => rfl) ?_) (fun _ q => absurd g2 (by omega)) (fun _ q => absurd g2 (by omega))⟩
    exact hJ _ _ _ _ _ _ _ _ _ _ (by omega) (by omega) (hR.t 0)
  · rintro _ rfl
    refine ⟨hi.1, hi.2.1, ml_cores hx hne hl l17 mm (fun q => absurd g q) (fun _ q => absurd g2 (by omega)) (fun _ _ _ w hk => z_fin (hk.1 0 (by decide)) (fun _ => rfl) ?_) (fun _ _ q => absurd (g3.symm.trans q) (by decide))⟩
    have hk' : zKeep [0, 6, 9, 10, 11] [2, 3, 4, 5, 7, 8] u7 w := (zKeep.rf.i (by decide)).tr (hk.wk (by decide) (by decide))
    exact hJ _ _ _ _ _ _ _ _ _ _ (by omega) (by omega) ⟨rE.mk' hx hne hv (mU.keep (u := zI u7 0 0) mm hk), rO hL hT hG hM hk'⟩
  · rintro _ rfl
    refine ⟨hi.1, hi.2.1, ml_cores hx hne hl l17 mm (fun q => absurd g q) (fun _ q => absurd g2 (by omega)) (fun _ _ q => absurd (g3.symm.trans q) (by decide)) (fun _ _ _ w hk hm => z_fin (hk.1 0 (by decide)) (fun _ => rfl) ?_)⟩
    have hk' : zKeep [0, 6, 9, 10, 11] [2, 3, 4, 5, 7, 8] u7 w := (zKeep.rf.i (by decide)).tr (hk.wk (by decide) (by decide))
    obtain ⟨kL, kT, kG, kM⟩ := rO hL hT hG hM hk'
    refine hJ _ _ _ _ _ _ _ _ _ _ (by omega) (by omega) ⟨rE.mk' (fun i => ?_) hne hv hm, rL_add kL l5 g2, kT.k ⟨rfl, rfl, rfl, rfl, rfl, rfl, rfl⟩, kG.k ⟨rfl, rfl, rfl, rfl, rfl⟩, kM.k ⟨rfl, rfl, rfl, rfl⟩⟩
    have := hx i
    unfold bTk
    split <;> omega
