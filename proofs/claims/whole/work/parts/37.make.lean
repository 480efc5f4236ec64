/-! the cases of the law: lot, make -/
section ZD1
variable {Q : Int32 → (zSt × zSt × zSt × zSt × zSt × zSt) → Prop} {QX : String → (zSt × zSt × zSt × zSt × zSt × zSt) → Prop} {QM : Int32 → zSt → Prop} {p1 p2 p3 p4 : Int32} {u0 u1 u2 u3 u4 u5 u w : zSt} {ne nl nb : Nat}
def vL (p1 p2 : Int32) : Prop := 1 ≤ p1.toInt ∧ p1.toInt ≤ 2 ∧ 0 ≤ p2.toInt ∧ p2.toInt ≤ 10000
theorem cl_lot (hl : nl ≤ 12) (h5 : u3.1 5 = nI nl) (hbad : ¬ vL p1 p2 → QX zIAE (u0, u1, u2, u3, u4, u5)) (hfull : vL p1 p2 → nl = 12 → QX zUOE (u0, u1, u2, u3, u4, u5))
    (hok : vL p1 p2 → nl < 12 → Q (nI nl) (u0, u1, u2, (zI (zA (zA (zA (zA u3 0 (upd (u3.2 0) nl p1)) 1 (upd (u3.2 1) nl p2)) 3 (upd (u3.2 3) nl (-1))) 4 (upd (u3.2 4) nl (-1))) 5 (nI (nl + 1))), u4, u5)) : TX6_lot Q QX p1 p2 u0 u1 u2 u3 u4 u5 := by
  have z0 := i_0
  have z1 := i_1
  have z2 : (2 : Int32).toInt = 2 := rfl
  have z3 : (10000 : Int32).toInt = 10000 := rfl
  have go : 1 ≤ p1.toInt → p1.toInt ≤ 2 → wp_X6_lot_10 Q QX p1 p2 u0 u1 u2 u3 u4 u5 := by
    intro a1 a2
    unfold wp_X6_lot_10
    refine t_within (fun a3 => ⟨fun h => absurd h (by decide), fun _ => ?_⟩) (fun a3 => ⟨fun _ => hbad (fun g => a3 (by unfold vL at g; omega)), fun h => absurd rfl h⟩)
    have a4 : vL p1 p2 := ⟨a1, a2, by omega, by omega⟩
    rw [h5]
    exact pk_lt nl 12 (fun h => c_add3 h h5 (hok a4 h)) (fun h => hfull a4 (by omega))
  unfold TX6_lot wp_X6_lot_0
  refine ⟨fun h => go (by rw [h]; decide) (by rw [h]; decide), fun g1 => ⟨fun h => go (by rw [h]; decide) (by rw [h]; decide), fun g2 => hbad (fun g => ?_)⟩⟩
  rw [fa_eq] at g1 g2
  unfold vL at g
  omega
theorem ml_lot (hl : nl ≤ 12) (h5 : u.1 17 = nI nl) (hbad : ¬ vL p1 p2 → QM 0 (zI (zI u 0 0) 0 1)) (hfull : vL p1 p2 → nl = 12 → QM 0 (zI (zI u 0 0) 0 2))
    (hok : vL p1 p2 → nl < 12 → QM (nI nl) (zI (zA (zA (zA (zA (zI u 0 0) 12 (upd (u.2 12) nl p1)) 13 (upd (u.2 13) nl p2)) 15 (upd (u.2 15) nl (-1))) 16 (upd (u.2 16) nl (-1))) 17 (nI (nl + 1)))) : TX7_lot QM p1 p2 u := by
  have z0 := i_0
  have z1 := i_1
  have z2 : (2 : Int32).toInt = 2 := rfl
  have z3 : (10000 : Int32).toInt = 10000 := rfl
  unfold TX7_lot wp_X7_lot_0
  rintro _ rfl
  have bad : ¬ vL p1 p2 → wp_X7_lot_26 QM p1 p2 (zI u 0 0) := fun h => by
    unfold wp_X7_lot_26 wp_X7_lot_31
    exact t_throws1 ⟨fun h => absurd h (by decide), fun _ => hbad h⟩
  refine t_in (fun a1 => ⟨fun h => absurd h (by decide), fun _ => ?_⟩) (fun a1 => ⟨fun _ => bad (fun g => a1 (by unfold vL at g; omega)), fun h => absurd rfl h⟩)
  refine t_in (fun a2 => ⟨fun h => absurd h (by decide), fun _ => ?_⟩) (fun a2 => ⟨fun _ => bad (fun g => a2 (by unfold vL at g; omega)), fun h => absurd rfl h⟩)
  have a4 : vL p1 p2 := ⟨by omega, by omega, by omega, by omega⟩
  unfold wp_X7_lot_31
  refine t_throws0 ⟨fun _ => ?_, fun h => absurd rfl h⟩
  refine pk_eq nl 12 (fun h => ?_) (fun h => ?_) (hx := h5)
  · unfold wp_X7_lot_53
    exact t_throws1 ⟨fun h => absurd h (by decide), fun _ => hfull a4 h⟩
  · unfold wp_X7_lot_53
    exact t_throws0 ⟨fun _ => m_adds (u := zI u 0 0) (by omega) h5 (hok a4 (by omega)), fun h => absurd rfl h⟩
def zMi (f : Nat → Int32) (k : Nat) (x : Int32) : Nat → Int32 := upd f k (f k - x)
def zPl (f : Nat → Int32) (k : Nat) (x : Int32) : Nat → Int32 := upd f k (f k + x)
def vK (K : Nat → Int32) (p1 p2 p3 p4 : Int32) : Prop := (1 ≤ p4.toInt ∧ p4.toInt ≤ 1000) ∧ K p1.toNatClampNeg = 0 ∧ K p2.toNatClampNeg = 1 ∧ K p3.toNatClampNeg = 2
def vH (nb : Nat) (P : Nat → Int32) (p1 p2 p3 p4 : Int32) : Prop := nb < 60 ∧ ¬ P p1.toNatClampNeg < p4 ∧ ¬ P p2.toNatClampNeg < p4 ∧ ¬ P p3.toNatClampNeg < p4
def v3 (n : Nat) (p1 p2 p3 : Int32) : Prop := vN n p1 ∧ vN n p2 ∧ vN n p3
def zMk (p1 p2 p3 : Int32) : Int32 := (((1 : Int32) <<< ((p1 : Int32) &&& 31)) ||| ((1 : Int32) <<< ((p2 : Int32) &&& 31))) ||| ((1 : Int32) <<< ((p3 : Int32) &&& 31))
theorem z_bit : ∀ c : Nat, c < 12 → (1 : Int32) <<< (nI c &&& 31) = nI (2 ^ c) := by decide
theorem z_mk {n : Nat} (hn : n ≤ 12) (h : v3 n p1 p2 p3) : ∃ m : Nat, m < 2 ^ n ∧ zMk p1 p2 p3 = nI m := by
  obtain ⟨⟨a1, a2⟩, ⟨b1, b2⟩, c1, c2⟩ := h
  obtain ⟨x, hx, rfl⟩ := i_of (x := p1) (hi := 11) (by decide) (by omega) (by omega)
  obtain ⟨y, hy, rfl⟩ := i_of (x := p2) (hi := 11) (by decide) (by omega) (by omega)
  obtain ⟨z, hz, rfl⟩ := i_of (x := p3) (hi := 11) (by decide) (by omega) (by omega)
  rw [nI_toInt (by omega)] at a2 b2 c2
  refine ⟨2 ^ x ||| 2 ^ y ||| 2 ^ z, Nat.or_lt_two_pow (Nat.or_lt_two_pow (Nat.pow_lt_pow_right (by decide) (by omega)) (Nat.pow_lt_pow_right (by decide) (by omega))) (Nat.pow_lt_pow_right (by decide) (by omega)), ?_⟩
  unfold zMk
  rw [z_bit x (by omega), z_bit y (by omega), z_bit z (by omega), fa_or, fa_or]
theorem v_in {n N : Nat} {p : Int32} (h : vN n p) (hn : n ≤ N) : vp_in p N := vp_in_iff.mpr ⟨h.1, by have := h.2; omega⟩
theorem cl_make (hl : nl ≤ 12) (hb : nb ≤ 60) (h5 : u3.1 5 = nI nl) (h7 : u3.1 7 = nI nb) (hno : ¬ v3 nl p1 p2 p3 → QX zIOB (u0, u1, u2, u3, u4, u5)) (hbad : v3 nl p1 p2 p3 → ¬ vK (u3.2 0) p1 p2 p3 p4 → QX zIAE (u0, u1, u2, u3, u4, u5))
    (hnone : v3 nl p1 p2 p3 → vK (u3.2 0) p1 p2 p3 p4 → ¬ vH nb (u3.2 1) p1 p2 p3 p4 → Q (-1) (u0, u1, u2, u3, u4, u5))
    (hok : v3 nl p1 p2 p3 → vK (u3.2 0) p1 p2 p3 p4 → vH nb (u3.2 1) p1 p2 p3 p4 → ∀ v, zKeep [7, 8] [1, 2, 6] u3 v → v.2 1 = zMi (zMi (zMi (u3.2 1) p1.toNatClampNeg p4) p2.toNatClampNeg p4) p3.toNatClampNeg p4 → v.2 2 = zPl (zPl (zPl (u3.2 2) p1.toNatClampNeg p4) p2.toNatClampNeg p4) p3.toNatClampNeg p4 → v.1 8 = u3.1 8 + p4 → v.2 6 = upd (u3.2 6) nb (zMk p1 p2 p3) → v.1 7 = nI (nb + 1) → Q (nI nb) (u0, u1, u2, v, u4, u5)) : TX6_make Q QX p1 p2 p3 p4 u0 u1 u2 u3 u4 u5 := by
  unfold TX6_make wp_X6_make_0
  have hn : (nI nl).toInt = nl := nI_toInt (by omega)
  have z1 := i_1
  have z3 := i_1000
  have no : ¬ v3 nl p1 p2 p3 → wp_X6_make_42 Q QX u0 u1 u2 u3 u4 u5 := hno
  rw [h5]
  refine t_number (fun a1 => ⟨fun h => absurd h (by decide), fun _ => ?_⟩) (fun a1 => ⟨fun _ => no (fun g => a1 (by have := g.1; unfold vN at this; omega)), fun h => absurd rfl h⟩)
  refine t_number (fun a2 => ⟨fun h => absurd h (by decide), fun _ => ?_⟩) (fun a2 => ⟨fun _ => no (fun g => a2 (by have := g.2.1; unfold vN at this; omega)), fun h => absurd rfl h⟩)
  refine t_number (fun a3 => ⟨fun h => absurd h (by decide), fun _ => ?_⟩) (fun a3 => ⟨fun _ => no (fun g => a3 (by have := g.2.2; unfold vN at this; omega)), fun h => absurd rfl h⟩)
  have A : v3 nl p1 p2 p3 := ⟨⟨a1.1, by omega⟩, ⟨a2.1, by omega⟩, ⟨a3.1, by omega⟩⟩
  have i1 := v_in A.1 hl
  have i2 := v_in A.2.1 hl
  have i3 := v_in A.2.2 hl
  have bad : ¬ vK (u3.2 0) p1 p2 p3 p4 → wp_X6_make_77 Q QX u0 u1 u2 u3 u4 u5 := hbad A
  refine t_within (fun a4 => ⟨fun h => absurd h (by decide), fun _ => ?_⟩) (fun a4 => ⟨fun _ => bad (fun g => a4 (by have := g.1; omega)), fun h => absurd rfl h⟩)
  unfold TX3_areOfTheirKinds wp_X3_areOfTheirKinds_0
  refine ⟨i1, fun k1 => ⟨i2, fun k2 => ⟨i3, fun k3 => ⟨fun h => absurd h (by decide), fun _ => ?_⟩, fun k3 => ⟨fun _ => bad (fun g => k3 g.2.2.2), fun h => absurd rfl h⟩⟩, fun k2 => ⟨fun _ => bad (fun g => k2 g.2.2.1), fun h => absurd rfl h⟩⟩, fun k1 => ⟨fun _ => bad (fun g => k1 g.2.1), fun h => absurd rfl h⟩⟩
  have B : vK (u3.2 0) p1 p2 p3 p4 := ⟨⟨by omega, by omega⟩, k1, k2, k3⟩
  rw [h7]
  refine pk_le 60 nb (fun h => hnone A B (fun g => absurd g.1 (by omega))) (fun hnb => ?_)
  unfold TX3_haveAll wp_X3_haveAll_0
  refine ⟨i1, fun k1 => ⟨fun _ => hnone A B (fun g => g.2.1 k1), fun h => absurd rfl h⟩, fun k1 => ⟨i2, fun k2 => ⟨fun _ => hnone A B (fun g => g.2.2.1 k2), fun h => absurd rfl h⟩, fun k2 => ⟨i3, fun k3 => ⟨fun _ => hnone A B (fun g => g.2.2.2 k3), fun h => absurd rfl h⟩, fun k3 => ⟨fun h => absurd h (by decide), fun _ => ?_⟩⟩⟩⟩
  have C : vH nb (u3.2 1) p1 p2 p3 p4 := ⟨hnb, k1, k2, k3⟩
  unfold TX3_addBatch wp_X3_addBatch_0 TX3_use wp_X3_use_0
  refine ⟨i1, i1, ?_⟩
  rintro _ rfl
  refine ⟨i1, i1, ?_⟩
  rintro _ rfl
  refine ⟨i2, i2, ?_⟩
  rintro _ rfl
  refine ⟨i2, i2, ?_⟩
  rintro _ rfl
  refine ⟨i3, i3, ?_⟩
  rintro _ rfl
  refine ⟨i3, i3, ?_⟩
  rintro _ rfl _ rfl _ rfl
  refine ⟨by show vp_in (u3.1 7) 60; rw [h7]; exact vp_in_nI (by omega) (by omega), ?_⟩
  rintro _ rfl _ rfl
  have e7 : ∀ x : Int32, x = u3.1 7 → x = nI nb := fun x h => h.trans h7
  refine Eq.subst (motive := fun r => Q r _) (e7 _ rfl).symm ?_
  refine hok A B C _ ?_ rfl rfl rfl ?_ ?_
  · refine ⟨fun k hk => ?_, fun k hk => ?_⟩
    · have n7 : k ≠ 7 := fun e => hk (by rw [e]; decide)
      have n8 : k ≠ 8 := fun e => hk (by rw [e]; decide)
      show (if k = 7 then _ else if k = 8 then _ else u3.1 k) = _
      rw [if_neg n7, if_neg n8]
    · have n1 : k ≠ 1 := fun e => hk (by rw [e]; decide)
      have n2 : k ≠ 2 := fun e => hk (by rw [e]; decide)
      have n6 : k ≠ 6 := fun e => hk (by rw [e]; decide)
      show (if k = 6 then _ else if k = 2 then _ else if k = 1 then _ else if k = 2 then _ else if k = 1 then _ else if k = 2 then _ else if k = 1 then _ else u3.2 k) = _
      rw [if_neg n6, if_neg n2, if_neg n1, if_neg n2, if_neg n1, if_neg n2, if_neg n1]
  · show upd (u3.2 6) (u3.1 7).toNatClampNeg _ = _
    rw [h7, nI_clamp (by omega)]
    rfl
  · show u3.1 7 + 1 = _
    rw [h7, nI_1]
theorem ml_make (hl : nl ≤ 12) (hb : nb ≤ 60) (h5 : u.1 17 = nI nl) (h7 : u.1 19 = nI nb) (hno : ¬ v3 nl p1 p2 p3 → QM 0 (zI (zI u 0 0) 0 1)) (hbad : v3 nl p1 p2 p3 → ¬ vK (u.2 12) p1 p2 p3 p4 → QM 0 (zI (zI u 0 0) 0 2))
    (hnone : v3 nl p1 p2 p3 → vK (u.2 12) p1 p2 p3 p4 → ¬ vH nb (u.2 13) p1 p2 p3 p4 → QM (-1) (zI u 0 0))
    (hok : v3 nl p1 p2 p3 → vK (u.2 12) p1 p2 p3 p4 → vH nb (u.2 13) p1 p2 p3 p4 → ∀ v, zKeep [0, 19, 20] [13, 14, 18] u v → v.1 0 = 0 → v.2 13 = zMi (zMi (zMi (u.2 13) p1.toNatClampNeg p4) p2.toNatClampNeg p4) p3.toNatClampNeg p4 → v.2 14 = zPl (zPl (zPl (u.2 14) p1.toNatClampNeg p4) p2.toNatClampNeg p4) p3.toNatClampNeg p4 → v.1 20 = u.1 20 + p4 → v.2 18 = upd (u.2 18) nb (zMk p1 p2 p3) → v.1 19 = nI (nb + 1) → QM (nI nb) v) : TX7_make QM p1 p2 p3 p4 u := by
  unfold TX7_make wp_X7_make_0
  have z1 := i_1
  have z3 := i_1000
  rintro _ rfl
  have no : ¬ v3 nl p1 p2 p3 → wp_X7_make_30 QM p1 p2 p3 p4 (zI u 0 0) := fun h => by
    unfold wp_X7_make_30 wp_X7_make_35
    exact t_throws1 ⟨fun h => absurd h (by decide), fun _ => hno h⟩
  refine t_noLot (n := nl) (by omega) h5 (fun a1 => ⟨fun _ => ?_, fun h => absurd rfl h⟩) (fun a1 => ⟨fun h => absurd h (by decide), fun _ => no (fun g => a1 g.1)⟩)
  refine t_noLot (n := nl) (by omega) h5 (fun a2 => ⟨fun _ => ?_, fun h => absurd rfl h⟩) (fun a2 => ⟨fun h => absurd h (by decide), fun _ => no (fun g => a2 g.2.1)⟩)
  refine t_noLot (n := nl) (by omega) h5 (fun a3 => ⟨fun _ => ?_, fun h => absurd rfl h⟩) (fun a3 => ⟨fun h => absurd h (by decide), fun _ => no (fun g => a3 g.2.2)⟩)
  have A : v3 nl p1 p2 p3 := ⟨a1, a2, a3⟩
  have i1 := v_in A.1 hl
  have i2 := v_in A.2.1 hl
  have i3 := v_in A.2.2 hl
  unfold wp_X7_make_35
  refine t_throws0 ⟨fun _ => ?_, fun h => absurd rfl h⟩
  have bad : ¬ vK (u.2 12) p1 p2 p3 p4 → wp_X7_make_84 QM p1 p2 p3 p4 (zI u 0 0) := fun h => by
    unfold wp_X7_make_84 wp_X7_make_89
    exact t_throws1 ⟨fun h => absurd h (by decide), fun _ => hbad A h⟩
  refine t_in (fun a4 => ⟨fun h => absurd h (by decide), fun _ => ?_⟩) (fun a4 => ⟨fun _ => bad (fun g => a4 (by have := g.1; omega)), fun h => absurd rfl h⟩)
  refine ⟨i1, fun k1 => ⟨i2, fun k2 => ⟨i3, fun k3 => ?_, fun k3 => bad (fun g => k3 g.2.2.2)⟩, fun k2 => bad (fun g => k2 g.2.2.1)⟩, fun k1 => bad (fun g => k1 g.2.1)⟩
  have B : vK (u.2 12) p1 p2 p3 p4 := ⟨⟨by omega, by omega⟩, k1, k2, k3⟩
  unfold wp_X7_make_89
  refine t_throws0 ⟨fun _ => ?_, fun h => absurd rfl h⟩
  refine ⟨i1, fun k1 => hnone A B (fun g => g.2.1 k1), fun k1 => ⟨i2, fun k2 => hnone A B (fun g => g.2.2.1 k2), fun k2 => ⟨i3, fun k3 => hnone A B (fun g => g.2.2.2 k3), fun k3 => ?_⟩⟩⟩
  refine pk_eq nb 60 (fun h => hnone A B (fun g => absurd g.1 (by omega))) (fun hnb => ?_) (hx := h7)
  have C : vH nb (u.2 13) p1 p2 p3 p4 := ⟨by omega, k1, k2, k3⟩
  unfold TX7_uses wp_X7_uses_0
  refine ⟨i1, i1, ?_⟩
  rintro _ rfl
  refine ⟨i1, i1, ?_⟩
  rintro _ rfl
  refine ⟨i2, i2, ?_⟩
  rintro _ rfl
  refine ⟨i2, i2, ?_⟩
  rintro _ rfl
  refine ⟨i3, i3, ?_⟩
  rintro _ rfl
  refine ⟨i3, i3, ?_⟩
  rintro _ rfl _ rfl
  refine ⟨by show vp_in (u.1 19) 60; rw [h7]; exact vp_in_nI (by omega) (by omega), ?_⟩
  rintro _ rfl _ rfl
  have e7 : ∀ x : Int32, x = u.1 19 + 1 - 1 → x = nI nb := fun x h => by rw [h, h7, nI_1, nI_pred]
  refine Eq.subst (motive := fun r => QM r _) (e7 _ rfl).symm ?_
  refine hok A B C _ ?_ rfl rfl rfl rfl ?_ ?_
  · refine ⟨fun k hk => ?_, fun k hk => ?_⟩
    · have n7 : k ≠ 19 := fun e => hk (by rw [e]; decide)
      have n8 : k ≠ 20 := fun e => hk (by rw [e]; decide)
      have n0 : k ≠ 0 := fun e => hk (by rw [e]; decide)
      show (if k = 19 then _ else if k = 20 then _ else if k = 0 then _ else u.1 k) = _
      rw [if_neg n7, if_neg n8, if_neg n0]
    · have n1 : k ≠ 13 := fun e => hk (by rw [e]; decide)
      have n2 : k ≠ 14 := fun e => hk (by rw [e]; decide)
      have n6 : k ≠ 18 := fun e => hk (by rw [e]; decide)
      show (if k = 18 then _ else if k = 14 then _ else if k = 13 then _ else if k = 14 then _ else if k = 13 then _ else if k = 14 then _ else if k = 13 then _ else u.2 k) = _
      rw [if_neg n6, if_neg n2, if_neg n1, if_neg n2, if_neg n1, if_neg n2, if_neg n1]
  · show upd (u.2 18) (u.1 19).toNatClampNeg _ = _
    rw [h7, nI_clamp (by omega)]
    rfl
  · show u.1 19 + 1 = _
    rw [h7, nI_1]
end ZD1
set_option maxHeartbeats 2000000 in
theorem cs_512 {L : Nat} {xs : Nat → Int32} {J23 : Int32 → Nat → Nat → zSt → zSt → zSt → zSt → zSt → zSt → zSt → (Nat → Int64) → Prop} {x4 : Int32} {cs sl : Nat} {u0 u1 u2 u3 u4 u5 u7 : zSt} {u8 : Nat → Int64} (hb : cs + 1 ≤ 601024 ∧ sl + 6 ≤ 7293034) (hi : vp_in (x4 + 1) L ∧ vp_in (x4 + 2) L ∧ vp_in (x4 + 3) L ∧ vp_in (x4 + 4) L) (hR : rAll u1 u2 u3 u4 u5 u7) (hJ : ∀ (cs' sl' : Nat) (v0 v1 v2 v3 v4 v5 v7 : zSt) (v8 : Nat → Int64), cs' ≤ cs + 1 → sl' ≤ sl + 6 → rAll v1 v2 v3 v4 v5 v7 → J23 (x4 + 5) cs' sl' v0 v1 v2 v3 v4 v5 v7 v8) : wp_L_law_512 L xs J23 x4 cs sl u0 u1 u2 u3 u4 u5 u7 u8 := by
  obtain ⟨hE, hL, hT, hG, hM⟩ := id hR
  obtain ⟨nl, nb, mk, hl, -, -, l5, l17, -⟩ := id hL
  unfold wp_L_law_512 TL_lot
  refine ⟨hb, hi.1, hi.2.1, ?_⟩
  generalize xs (x4 + 1).toNatClampNeg = p1
  generalize xs (x4 + 2).toNatClampNeg = p2
  refine cl_lot hl l5 (fun g => Or.inl ⟨rfl, ?_⟩) (fun g g2 => Or.inr ⟨rfl, ?_⟩) (fun g g2 => ?_)
  · rintro _ rfl
    refine ⟨hi.1, hi.2.1, ml_lot hl l17 (fun _ => z_fin rfl (fun h => absurd h (by decide)) ?_) (fun q => absurd q g) (fun q => absurd q g)⟩
    exact hJ _ _ _ _ _ _ _ _ _ _ (by omega) (by omega) ((hR.t 0).t 1)
  · rintro _ rfl
    refine ⟨hi.1, hi.2.1, ml_lot hl l17 (fun q => absurd g q) (fun _ _ => z_fin rfl (fun h => absurd h (by decide)) ?_) (fun _ q => absurd g2 (by omega))⟩
    exact hJ _ _ _ _ _ _ _ _ _ _ (by omega) (by omega) ((hR.t 0).t 2)
  · rintro _ rfl
    refine ⟨hi.1, hi.2.1, ml_lot hl l17 (fun q => absurd g q) (fun _ q => absurd g2 (by omega)) (fun _ _ => z_fin rfl (fun _ => rfl) ?_)⟩
    obtain ⟨kE, kL, kT, kG, kM⟩ := hR.t 0
    exact hJ _ _ _ _ _ _ _ _ _ _ (by omega) (by omega) ⟨kE.k ⟨rfl, rfl, rfl, rfl, rfl⟩, rL_add kL l5 g2, kT.k ⟨rfl, rfl, rfl, rfl, rfl, rfl, rfl⟩, kG.k ⟨rfl, rfl, rfl, rfl, rfl⟩, kM.k ⟨rfl, rfl, rfl, rfl⟩⟩
set_option maxHeartbeats 2000000 in
theorem cs_580 {L : Nat} {xs : Nat → Int32} {J23 : Int32 → Nat → Nat → zSt → zSt → zSt → zSt → zSt → zSt → zSt → (Nat → Int64) → Prop} {x4 : Int32} {cs sl : Nat} {u0 u1 u2 u3 u4 u5 u7 : zSt} {u8 : Nat → Int64} (hb : cs + 1 ≤ 601024 ∧ sl + 6 ≤ 7293034) (hi : vp_in (x4 + 1) L ∧ vp_in (x4 + 2) L ∧ vp_in (x4 + 3) L ∧ vp_in (x4 + 4) L) (hR : rAll u1 u2 u3 u4 u5 u7) (hJ : ∀ (cs' sl' : Nat) (v0 v1 v2 v3 v4 v5 v7 : zSt) (v8 : Nat → Int64), cs' ≤ cs + 1 → sl' ≤ sl + 6 → rAll v1 v2 v3 v4 v5 v7 → J23 (x4 + 5) cs' sl' v0 v1 v2 v3 v4 v5 v7 v8) : wp_L_law_580 L xs J23 x4 cs sl u0 u1 u2 u3 u4 u5 u7 u8 := by
  obtain ⟨hE, hL, hT, hG, hM⟩ := id hR
  obtain ⟨nl, nb, mk, hl, hnb, hmk, l5, l17, l7, m19, l8, c0, c1, c2, c3, c4, c6, m18⟩ := id hL
  unfold wp_L_law_580 TL_make
  refine ⟨hb, hi.1, hi.2.1, hi.2.2.1, hi.2.2.2, ?_⟩
  generalize xs (x4 + 1).toNatClampNeg = p1
  generalize xs (x4 + 2).toNatClampNeg = p2
  generalize xs (x4 + 3).toNatClampNeg = p3
  generalize xs (x4 + 4).toNatClampNeg = p4
  refine cl_make hl hnb l5 l7 (fun g => Or.inl ⟨rfl, ?_⟩) (fun g g2 => Or.inr ⟨rfl, ?_⟩) (fun g g2 g3 => ?_) (fun g g2 g3 v hk w1 w2 w8 w6 w7 => ?_)
  · rintro _ rfl
    refine ⟨hi.1, hi.2.1, hi.2.2.1, hi.2.2.2, ml_make hl hnb l17 m19 (fun _ => z_fin rfl (fun h => absurd h (by decide)) ?_) (fun q => absurd q g) (fun q => absurd q g) (fun q => absurd q g)⟩
    exact hJ _ _ _ _ _ _ _ _ _ _ (by omega) (by omega) ((hR.t 0).t 1)
  · rintro _ rfl
    rw [c0] at g2
    refine ⟨hi.1, hi.2.1, hi.2.2.1, hi.2.2.2, ml_make hl hnb l17 m19 (fun q => absurd g q) (fun _ _ => z_fin rfl (fun h => absurd h (by decide)) ?_) (fun _ q => absurd q g2) (fun _ q => absurd q g2)⟩
    exact hJ _ _ _ _ _ _ _ _ _ _ (by omega) (by omega) ((hR.t 0).t 2)
  · rintro _ rfl
    rw [c0] at g2
    rw [c1] at g3
    refine ⟨hi.1, hi.2.1, hi.2.2.1, hi.2.2.2, ml_make hl hnb l17 m19 (fun q => absurd g q) (fun _ q => absurd g2 q) (fun _ _ _ => z_fin rfl (fun _ => rfl) ?_) (fun _ _ q => absurd q g3)⟩
    exact hJ _ _ _ _ _ _ _ _ _ _ (by omega) (by omega) (hR.t 0)
  · rintro _ rfl
    rw [c0] at g2
    rw [c1] at g3 w1
    rw [c2] at w2
    refine ⟨hi.1, hi.2.1, hi.2.2.1, hi.2.2.2, ml_make hl hnb l17 m19 (fun q => absurd g q) (fun _ q => absurd g2 q) (fun _ _ q => absurd g3 q) (fun _ _ _ w hk2 y0 y1 y2 y8 y6 y7 => z_fin y0 (fun _ => rfl) ?_)⟩
    obtain ⟨m, hm, em⟩ := z_mk hl g
    rw [em] at w6 y6
    have hh := g3.1
    refine hJ _ _ _ _ _ _ _ _ _ _ (by omega) (by omega) ⟨hE.k ⟨hk2.1 _ (by decide), hk2.2 _ (by decide), hk2.2 _ (by decide), hk2.2 _ (by decide), hk2.2 _ (by decide)⟩, ?_, ?_, hG.k ⟨hk2.1 _ (by decide), hk2.2 _ (by decide), hk2.2 _ (by decide), hk2.2 _ (by decide), hk2.2 _ (by decide)⟩, hM.k ⟨hk2.1 _ (by decide), hk2.1 _ (by decide), hk2.2 _ (by decide), hk2.2 _ (by decide)⟩⟩
    · refine ⟨nl, nb + 1, zUp mk nb m, hl, by omega, fun b => ?_, (hk.1 5 (by decide)).trans l5, (hk2.1 17 (by decide)).trans l17, w7, y7, ?_, ?_, w1.trans y1.symm, w2.trans y2.symm, ?_, ?_, ?_, ?_⟩
      · unfold zUp
        split
        · exact hm
        · exact hmk b
      · show v.1 8 = w.1 20
        rw [w8, y8, l8]
      · exact (hk.2 0 (by decide)).trans (c0.trans (hk2.2 12 (by decide)).symm)
      · exact (hk.2 3 (by decide)).trans (c3.trans (hk2.2 15 (by decide)).symm)
      · exact (hk.2 4 (by decide)).trans (c4.trans (hk2.2 16 (by decide)).symm)
      · show v.2 6 = _
        rw [w6, c6, zN_upd]
      · rw [y6, m18, zN_upd]
    · obtain ⟨nb', nt, td, tb, q1, q2, q3, q4, q5, q6, q7, q8, q9, q10, q11, q12, q13, q14, q15, q16⟩ := hT
      have : nb' = nb := (nI_eq (by omega) (by omega)).mp (q4.symm.trans m19)
      subst this
      exact ⟨nb' + 1, nt, td, tb, by omega, q2, q3, y7, q5, (hk2.1 _ (by decide)).trans q6, q7, (hk2.1 _ (by decide)).trans q8, q9, (hk2.2 _ (by decide)).trans q10, fun t ht => by have := q11 t ht; omega, q12.trans (hk2.2 22 (by decide)).symm, q13, q14.trans (hk2.2 23 (by decide)).symm, q15.trans (hk2.2 24 (by decide)).symm, q16⟩
