/-! the small methods, in integers -/
theorem t_within {Q : Int32 → Unit → Prop} {v a b : Int32} (h1 : a.toInt ≤ v.toInt ∧ v.toInt ≤ b.toInt → Q 1 ()) (h0 : ¬ (a.toInt ≤ v.toInt ∧ v.toInt ≤ b.toInt) → Q 0 ()) : TX6_isWithin Q v a b := by
  unfold TX6_isWithin wp_X6_isWithin_0
  rw [fa_lt, fa_lt]
  exact ⟨fun h => h0 (by omega), fun h => ⟨fun g => h0 (by omega), fun g => h1 (by omega)⟩⟩
theorem t_number {Q : Int32 → Unit → Prop} {v b : Int32} (h1 : 0 ≤ v.toInt ∧ v.toInt < b.toInt → Q 1 ()) (h0 : ¬ (0 ≤ v.toInt ∧ v.toInt < b.toInt) → Q 0 ()) : TX6_isNumberOf Q v b := by
  unfold TX6_isNumberOf wp_X6_isNumberOf_0
  rw [fa_lt, fa_le]
  have z : (0 : Int32).toInt = 0 := rfl
  exact ⟨fun h => h0 (by omega), fun h => ⟨fun g => h0 (by omega), fun g => h1 (by omega)⟩⟩
theorem t_span {Q : Int32 → Unit → Prop} {v b : Int32} (h1 : 0 ≤ v.toInt ∧ v.toInt ≤ b.toInt ∧ b.toInt ≤ 1000 → Q 1 ()) (h0 : ¬ (0 ≤ v.toInt ∧ v.toInt ≤ b.toInt ∧ b.toInt ≤ 1000) → Q 0 ()) : TX6_isSpan Q v b := by
  unfold TX6_isSpan wp_X6_isSpan_0
  rw [fa_lt, fa_lt, fa_lt]
  have z : (0 : Int32).toInt = 0 := rfl
  have z2 : (1000 : Int32).toInt = 1000 := rfl
  exact ⟨fun h => h0 (by omega), fun h => ⟨fun g => h0 (by omega), fun g => ⟨fun k => h0 (by omega), fun k => h1 (by omega)⟩⟩⟩
theorem t_in {Q : Int32 → Unit → Prop} {v a b : Int32} (h1 : a.toInt ≤ v.toInt ∧ v.toInt ≤ b.toInt → Q 1 ()) (h0 : ¬ (a.toInt ≤ v.toInt ∧ v.toInt ≤ b.toInt) → Q 0 ()) : TX7_in Q v a b := by
  unfold TX7_in wp_X7_in_0
  rw [fa_lt, fa_lt]
  exact ⟨fun h => h0 (by omega), fun h => ⟨fun g => h0 (by omega), fun g => h1 (by omega)⟩⟩
theorem t_noGrade {Q : Int32 → Unit → Prop} {v b : Int32} (h0 : 0 ≤ v.toInt ∧ v.toInt ≤ b.toInt ∧ b.toInt ≤ 1000 → Q 0 ()) (h1 : ¬ (0 ≤ v.toInt ∧ v.toInt ≤ b.toInt ∧ b.toInt ≤ 1000) → Q 1 ()) : TX7_noGrade Q v b := by
  unfold TX7_noGrade wp_X7_noGrade_0
  rw [fa_lt, fa_lt, fa_le]
  have z : (0 : Int32).toInt = 0 := rfl
  have z2 : (1000 : Int32).toInt = 1000 := rfl
  exact ⟨fun h => h1 (by omega), fun h => ⟨fun g => h1 (by omega), fun g => ⟨fun k => h0 (by omega), fun k => h1 (by omega)⟩⟩⟩
theorem t_no {Q : Int32 → zSt → Prop} {v : Int32} {n : Nat} {u : zSt} (hn : n < 2 ^ 30) (hu : u.1 6 = nI n) (h0 : 0 ≤ v.toInt ∧ v.toInt < n → Q 0 u) (h1 : ¬ (0 ≤ v.toInt ∧ v.toInt < n) → Q 1 u) : TX7_noEarth Q v u := by
  unfold TX7_noEarth wp_X7_noEarth_0
  have z : (0 : Int32).toInt = 0 := rfl
  have e : (nI n - 1).toInt = (n : Int) - 1 := by
    rw [show (1 : Int32) = nI 1 from rfl, pk_sub_toInt (by omega) (by omega)]; rfl
  rw [hu]
  exact t_in (fun h => ⟨fun q => absurd q (by decide), fun _ => h0 (by omega)⟩) (fun h => ⟨fun _ => h1 (by omega), fun q => absurd rfl q⟩)
theorem t_noLot {Q : Int32 → zSt → Prop} {v : Int32} {n : Nat} {u : zSt} (hn : n < 2 ^ 30) (hu : u.1 17 = nI n) (h0 : 0 ≤ v.toInt ∧ v.toInt < n → Q 0 u) (h1 : ¬ (0 ≤ v.toInt ∧ v.toInt < n) → Q 1 u) : TX7_noLot Q v u := by
  unfold TX7_noLot wp_X7_noLot_0
  have z : (0 : Int32).toInt = 0 := rfl
  have e : (nI n - 1).toInt = (n : Int) - 1 := by
    rw [show (1 : Int32) = nI 1 from rfl, pk_sub_toInt (by omega) (by omega)]; rfl
  rw [hu]
  exact t_in (fun h => ⟨fun q => absurd q (by decide), fun _ => h0 (by omega)⟩) (fun h => ⟨fun _ => h1 (by omega), fun q => absurd rfl q⟩)
theorem t_noColour {Q : Int32 → Unit → Prop} {v : Int32} (h0 : 0 ≤ v.toInt ∧ v.toInt < 6 → Q 0 ()) (h1 : ¬ (0 ≤ v.toInt ∧ v.toInt < 6) → Q 1 ()) : TX7_noColour Q v := by
  unfold TX7_noColour wp_X7_noColour_0
  have z : (0 : Int32).toInt = 0 := rfl
  have z2 : (5 : Int32).toInt = 5 := rfl
  exact t_in (fun h => ⟨fun q => absurd q (by decide), fun _ => h0 (by omega)⟩) (fun h => ⟨fun _ => h1 (by omega), fun q => absurd rfl q⟩)
theorem t_throws0 {Q : Int32 → zSt → Prop} {k : Int32} {u : zSt} (h : Q 0 u) : TX7_throwsIf Q 0 k u := by
  unfold TX7_throwsIf wp_X7_throwsIf_0
  exact ⟨fun _ => ⟨Or.inl rfl, h⟩, fun q => absurd rfl q⟩
theorem t_throws1 {Q : Int32 → zSt → Prop} {k : Int32} {u : zSt} (h : Q 1 (zI u 0 k)) : TX7_throwsIf Q 1 k u := by
  unfold TX7_throwsIf wp_X7_throwsIf_0
  refine ⟨fun q => absurd q (by decide), fun _ => ?_⟩
  rintro _ rfl
  exact ⟨Or.inr rfl, h⟩
theorem t_thrown {Q : Int32 → zSt → Prop} {u : zSt} (h : Q (u.1 0) u) : TX7_thrown Q u := h
/-! the two sides' common state -/
def rE (u1 u7 : zSt) : Prop := ∃ (ne : Nat) (lo hi pc ha : Nat → Nat), ne ≤ 6 ∧ bX lo hi pc ha ∧ u1.1 4 = nI ne ∧ u1.2 0 = zN lo ∧ u1.2 1 = zN hi ∧ u1.2 2 = zN pc ∧ u1.2 3 = zN ha ∧ mU ne lo hi pc ha u7
def rL (u3 u7 : zSt) : Prop := ∃ (nl nb : Nat) (mk : Nat → Nat), nl ≤ 12 ∧ nb ≤ 60 ∧ (∀ b, mk b < 2 ^ nl) ∧ u3.1 5 = nI nl ∧ u7.1 17 = nI nl ∧ u3.1 7 = nI nb ∧ u7.1 19 = nI nb ∧ u3.1 8 = u7.1 20 ∧ u3.2 0 = u7.2 12 ∧ u3.2 1 = u7.2 13 ∧ u3.2 2 = u7.2 14 ∧ u3.2 3 = u7.2 15 ∧ u3.2 4 = u7.2 16 ∧ u3.2 6 = zN mk ∧ u7.2 18 = zN mk
def rT (u5 u7 : zSt) : Prop := ∃ (nb nt td : Nat) (tb : Nat → Nat), nb ≤ 60 ∧ nt ≤ 100 ∧ td ≤ 1000 ∧ u7.1 19 = nI nb ∧ u5.1 4 = nI nt ∧ u7.1 25 = nI nt ∧ u5.1 5 = nI td ∧ u7.1 1 = nI td ∧ u5.2 0 = zN tb ∧ u7.2 21 = zN tb ∧ (∀ t, t < nt → tb t < nb) ∧ u5.2 1 = u7.2 22 ∧ (∀ t, u5.2 1 t = 0 ∨ u5.2 1 t = 1) ∧ u5.2 2 = u7.2 23 ∧ u5.2 3 = u7.2 24 ∧ (∀ t, t < nt → u5.2 3 t = -1 ∨ 0 ≤ (u5.2 3 t).toInt)
def rG (u2 u7 : zSt) : Prop := ∃ (ng : Nat) (sl le wo ro : Nat → Nat) (sg : Nat → Nat), ng ≤ 6 ∧ (∀ q, sl q ≤ 200) ∧ u2.2 0 = zN sl ∧ u7.2 30 = zN sl ∧ u2.1 1 = nI (fb_sm sl 10) ∧ u2.1 5 = nI ng ∧ u7.1 34 = nI ng ∧ u7.2 31 = zN le ∧ u7.2 32 = zN wo ∧ u7.2 33 = zN ro ∧ (∀ g, le g ≤ 9 ∧ wo g ≤ 1000 ∧ ro g ≤ 500) ∧
  (∀ i, i < ng → sg i < ng) ∧ (∀ i j, i < j → j < ng → sg i ≠ sg j ∧ (wo (sg j) < wo (sg i) ∨ (wo (sg j) = wo (sg i) ∧ sg i < sg j))) ∧ (∀ i, i < ng → u2.2 2 i = nI (le (sg i)) ∧ u2.2 3 i = nI (wo (sg i)) ∧ u2.2 4 i = nI (ro (sg i)))
def rM (u4 u7 : zSt) : Prop := ∃ (nj : Nat) (co jb : Nat → Nat), nj ≤ 10 ∧ (∀ i, co i ≤ 1000) ∧ (∀ c, c < 6 → co (6 * c + c) = 0) ∧ (∀ j, jb j < 6) ∧ u4.1 1 = nI nj ∧ u7.1 39 = nI nj ∧ u4.1 2 = u7.1 40 ∧ (u4.1 2 = -1 ∨ ∃ c : Nat, c < 6 ∧ u4.1 2 = nI c) ∧ u7.2 37 = zN co ∧ (∀ i, i < 36 → u4.2 0 i = nI (co i)) ∧ (∀ i, 36 ≤ i → i < 42 → u4.2 0 i = 0) ∧ u7.2 38 = zN jb ∧ (∀ c, c < 6 → u4.2 3 c = nI (fb_ct (fun j => jb j == c) nj)) ∧ (∀ c, c < 6 → u4.2 6 c = 0)
def rAll (u1 u2 u3 u4 u5 u7 : zSt) : Prop := rE u1 u7 ∧ rL u3 u7 ∧ rT u5 u7 ∧ rG u2 u7 ∧ rM u4 u7
/-! what the reference's slots outside a part do to that part -/
theorem rE.k {u1 u7 v : zSt} (h : rE u1 u7) (g : v.1 6 = u7.1 6 ∧ v.2 2 = u7.2 2 ∧ v.2 3 = u7.2 3 ∧ v.2 4 = u7.2 4 ∧ v.2 5 = u7.2 5) : rE u1 v := by
  obtain ⟨ne, lo, hi, pc, ha, h1, h2, h3, h4, h5, h6, h7, m1, m2, m3, m4, m5⟩ := h
  exact ⟨ne, lo, hi, pc, ha, h1, h2, h3, h4, h5, h6, h7, g.1.trans m1, g.2.1.trans m2, g.2.2.1.trans m3, g.2.2.2.1.trans m4, g.2.2.2.2.trans m5⟩
theorem rL.k {u3 u7 v : zSt} (h : rL u3 u7) (g : v.1 17 = u7.1 17 ∧ v.1 19 = u7.1 19 ∧ v.1 20 = u7.1 20 ∧ v.2 12 = u7.2 12 ∧ v.2 13 = u7.2 13 ∧ v.2 14 = u7.2 14 ∧ v.2 15 = u7.2 15 ∧ v.2 16 = u7.2 16 ∧ v.2 18 = u7.2 18) : rL u3 v := by
  obtain ⟨a1, a2, a3, a4, a5, a6, a7, a8, a9⟩ := g
  unfold rL
  rw [a1, a2, a3, a4, a5, a6, a7, a8, a9]
  exact h
theorem rT.k {u5 u7 v : zSt} (h : rT u5 u7) (g : v.1 19 = u7.1 19 ∧ v.1 25 = u7.1 25 ∧ v.1 1 = u7.1 1 ∧ v.2 21 = u7.2 21 ∧ v.2 22 = u7.2 22 ∧ v.2 23 = u7.2 23 ∧ v.2 24 = u7.2 24) : rT u5 v := by
  obtain ⟨a1, a2, a3, a4, a5, a6, a7⟩ := g
  unfold rT
  rw [a1, a2, a3, a4, a5, a6, a7]
  exact h
theorem rG.k {u2 u7 v : zSt} (h : rG u2 u7) (g : v.1 34 = u7.1 34 ∧ v.2 30 = u7.2 30 ∧ v.2 31 = u7.2 31 ∧ v.2 32 = u7.2 32 ∧ v.2 33 = u7.2 33) : rG u2 v := by
  obtain ⟨a1, a2, a3, a4, a5⟩ := g
  unfold rG
  rw [a1, a2, a3, a4, a5]
  exact h
theorem rM.k {u4 u7 v : zSt} (h : rM u4 u7) (g : v.1 39 = u7.1 39 ∧ v.1 40 = u7.1 40 ∧ v.2 37 = u7.2 37 ∧ v.2 38 = u7.2 38) : rM u4 v := by
  obtain ⟨a1, a2, a3, a4⟩ := g
  unfold rM
  rw [a1, a2, a3, a4]
  exact h
/-- 'thrown' alone has changed -/
theorem rAll.t {u1 u2 u3 u4 u5 u7 : zSt} (h : rAll u1 u2 u3 u4 u5 u7) (k : Int32) : rAll u1 u2 u3 u4 u5 (zI u7 0 k) :=
  ⟨h.1.k ⟨rfl, rfl, rfl, rfl, rfl⟩, h.2.1.k ⟨rfl, rfl, rfl, rfl, rfl, rfl, rfl, rfl, rfl⟩, h.2.2.1.k ⟨rfl, rfl, rfl, rfl, rfl, rfl, rfl⟩, h.2.2.2.1.k ⟨rfl, rfl, rfl, rfl, rfl⟩, h.2.2.2.2.k ⟨rfl, rfl, rfl, rfl⟩⟩
