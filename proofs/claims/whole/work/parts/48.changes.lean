/-! the reference's changes -/
section ZM
variable {co jb : Nat → Nat} {nj : Nat} {u : zSt}
theorem p10 {n : Nat} (h : n ≤ 10) : 2 ^ n ≤ 1024 := show 2 ^ n ≤ 2 ^ 10 from Nat.pow_le_pow_right (by decide) h
theorem sz_kS (hjb : ∀ j, jb j < 6) (D : Nat) : sz (kS nj jb D) = fb_ct (fun j => !D.testBit j) nj := sz_ct hjb (fun j => !D.testBit j) nj
theorem sz_kS0 (hjb : ∀ j, jb j < 6) : sz (kS nj jb 0) = nj := by
  rw [sz_kS hjb]
  exact fb_ct_all.mpr (fun k _ => by simp)
theorem kS_open {D : Nat} (hD : D < 2 ^ nj) (hne : ¬ D = 2 ^ nj - 1) : ∃ i, i < nj ∧ D.testBit i = false := by
  refine Classical.byContradiction (fun q => hne (Nat.eq_of_testBit_eq (fun i => ?_)))
  rw [Nat.testBit_two_pow_sub_one]
  by_cases c : i < nj
  · rw [decide_eq_true c]
    rcases e : D.testBit i with _ | _
    · exact absurd ⟨i, c, e⟩ q
    · rfl
  · rw [decide_eq_false c]
    rcases e : D.testBit i with _ | _
    · rfl
    · exact absurd (bit_lt' hD e) c
theorem all_bit {D i : Nat} (h : D = 2 ^ nj - 1) (hi : i < nj) : D.testBit i = true := by
  rw [h, Nat.testBit_two_pow_sub_one, decide_eq_true hi]
theorem kS_pos {D c : Nat} (h : 0 < kS nj jb D c) : ∃ i, i < nj ∧ D.testBit i = false ∧ jb i = c := by
  obtain ⟨i, h1, h2⟩ := fb_ct_pos.mp h
  simp at h2
  exact ⟨i, h1, h2.1, h2.2⟩
def gD (co jb : Nat → Nat) (nj D b c : Nat) : Nat := gx co (sz (kS nj jb D) - 1) (kS nj jb D) b c
def oD (co jb : Nat → Nat) (nj D b : Nat) : Nat := opt co (sz (kS nj jb D)) (kS nj jb D) b
theorem kS_best {D b : Nat} (hjb : ∀ j, jb j < 6) (hop : ∃ i, i < nj ∧ D.testBit i = false) : ∃ m c, sz (kS nj jb D) = m + 1 ∧ c < 6 ∧ bst (fun c => decide (0 < kS nj jb D c)) (gx co m (kS nj jb D) b) 6 = some c ∧ oD co jb nj D b = gD co jb nj D b c ∧ (∃ i, i < nj ∧ D.testBit i = false ∧ jb i = c) ∧ (∀ i, i < nj → D.testBit i = false → gD co jb nj D b c ≤ gD co jb nj D b (jb i) ∧ (gD co jb nj D b (jb i) = gD co jb nj D b c → c ≤ jb i)) := by
  obtain ⟨i, hi, hbi⟩ := hop
  have hs : 0 < sz (kS nj jb D) := by
    rw [sz_kS hjb]
    exact fb_ct_pos.mpr ⟨i, hi, by simp [hbi]⟩
  obtain ⟨m, em⟩ : ∃ m, sz (kS nj jb D) = m + 1 := ⟨sz (kS nj jb D) - 1, by omega⟩
  obtain ⟨c, e, c1, c2, c3, c4⟩ := bst_ex (g := gx co m (kS nj jb D) b) hs
  have eg : ∀ c, gD co jb nj D b c = gx co m (kS nj jb D) b c := fun c => by unfold gD; rw [em, Nat.add_sub_cancel]
  have kp : ∀ i, i < nj → D.testBit i = false → decide (0 < kS nj jb D (jb i)) = true := fun i h1 h2 => decide_eq_true (kS_add (jb := jb) h1 h2).2
  refine ⟨m, c, em, c1, e, ?_, kS_pos (by simpa using c2), fun i h1 h2 => ⟨?_, fun q => ?_⟩⟩
  · rw [eg]
    unfold oD
    rw [em]
    exact opt_some e
  · rw [eg, eg]
    exact c3 (jb i) (hjb i) (kp i h1 h2)
  · rw [eg, eg] at q
    refine Classical.byContradiction (fun z => ?_)
    have := c4 (jb i) (by omega) (kp i h1 h2)
    omega
theorem or_gt {D j : Nat} (h : D.testBit j = false) : D < D ||| 2 ^ j := by
  have h1 : D ≤ D ||| 2 ^ j := Nat.left_le_or
  refine Nat.lt_of_le_of_ne h1 (fun q => ?_)
  have e := fb_bit_set D j j
  rw [← q, h] at e
  simp at e
def rTb (co jb : Nat → Nat) (nj d : Nat) (v : zSt) : Prop := ∀ D b, d ≤ D → D < 2 ^ nj → b ≤ 6 → v.2 41 (D * 7 + b) = nI (oD co jb nj D b)
theorem gD_le (hn : nj ≤ 10) (hco : ∀ i, co i ≤ 1000) (hjb : ∀ j, jb j < 6) (D b c : Nat) : gD co jb nj D b c ≤ 20000 := by
  have h1 := gx_le hco (sz (kS nj jb D) - 1) (kS nj jb D) b c
  have h2 : sz (kS nj jb D) ≤ nj := by rw [sz_kS hjb]; exact fb_ct_le _ _
  unfold gD
  omega
theorem oD_le (hn : nj ≤ 10) (hco : ∀ i, co i ≤ 1000) (hjb : ∀ j, jb j < 6) (D b : Nat) : oD co jb nj D b ≤ 20000 := by
  have h1 := opt_le hco (sz (kS nj jb D)) (kS nj jb D) b
  have h2 : sz (kS nj jb D) ≤ nj := by rw [sz_kS hjb]; exact fb_ct_le _ _
  unfold oD
  omega
theorem m_next {Q : Int32 → zSt → Prop} {v : zSt} {D b j : Nat} (hn : nj ≤ 10) (hjb : ∀ j, jb j < 6) (h37 : v.2 37 = zN co) (h38 : v.2 38 = zN jb) (hD : D < 2 ^ nj) (hb : b ≤ 6) (hj : j < nj) (hbit : D.testBit j = false) (ht : rTb co jb nj (D + 1) v) (hQ : Q (nI (gD co jb nj D b (jb j))) v) : TX7_next Q (nI D) (nI b) (nI j) v := by
  have h10 := p10 hn
  have hjj := hjb j
  have hor : D ||| 2 ^ j < 2 ^ nj := Nat.or_lt_two_pow hD (Nat.pow_lt_pow_right (by decide) hj)
  have hgt := or_gt hbit
  have hcl : (nI j).toNatClampNeg = j := nI_clamp (by omega)
  obtain ⟨hk, hp⟩ := kS_add (jb := jb) hj hbit
  have hs := sz_kD (hjb j) hp
  have hv : v.2 41 ((D ||| 2 ^ j) * 7 + jb j) = nI (opt co (sz (kS nj jb D) - 1) (kD (kS nj jb D) (jb j)) (jb j)) := by
    rw [ht (D ||| 2 ^ j) (jb j) (by omega) hor (by omega)]
    unfold oD
    rw [hk, show sz (kD (kS nj jb D) (jb j)) = sz (kS nj jb D) - 1 by omega]
  have fin : ∀ r : Int32, r = nI (cs co b (jb j)) → vp_in (nI j) 10 ∧ (vp_in (((nI D ||| ((1 : Int32) <<< ((nI j : Int32) &&& 31))) * 7) + (v.2 38 (nI j).toNatClampNeg)) 7168 ∧ (Q (r + (v.2 41 (((nI D ||| ((1 : Int32) <<< ((nI j : Int32) &&& 31))) * 7) + (v.2 38 (nI j).toNatClampNeg)).toNatClampNeg)) v)) := by
    rintro r rfl
    rw [hcl, h38, zN_at, z_bit2 j (by omega), fa_or]
    generalize D ||| 2 ^ j = E at *
    rw [show (7 : Int32) = nI 7 from rfl, pk_mul, nI_add, nI_clamp (by omega), hv, nI_add]
    exact ⟨vp_in_nI (by omega) (by omega), vp_in_nI (by omega) (by omega), hQ⟩
  unfold TX7_next wp_X7_next_0 TX7_costs wp_X7_costs_0
  refine ⟨vp_in_nI (by omega) (by omega), pk_eq b 6 (fun h => ?_) (fun h => ⟨?_, ?_⟩)⟩
  · exact fin 0 (by unfold cs; rw [if_pos h]; rfl)
  · rw [hcl, h38, zN_at, show (6 : Int32) = nI 6 from rfl, pk_mul, nI_add]
    exact vp_in_nI (by omega) (by omega)
  · refine fin _ ?_
    rw [hcl, h38, zN_at, show (6 : Int32) = nI 6 from rfl, pk_mul, nI_add, nI_clamp (by omega), h37, zN_at]
    unfold cs
    rw [if_neg h]
def rMn (co jb : Nat → Nat) (nj D b j m : Nat) : Prop := (∀ i, i < j → D.testBit i = false → m ≤ gD co jb nj D b (jb i)) ∧ ((∃ i, i < j ∧ D.testBit i = false ∧ m = gD co jb nj D b (jb i)) ∨ (m = (if D = 2 ^ nj - 1 then 0 else 1000000000) ∧ ∀ i, i < j → D.testBit i = true))
theorem rMn_end {D b m : Nat} (hjb : ∀ j, jb j < 6) (hD : D < 2 ^ nj) (h : rMn co jb nj D b nj m) : m = oD co jb nj D b := by
  obtain ⟨h1, h2⟩ := h
  by_cases hall : D = 2 ^ nj - 1
  · have hs : sz (kS nj jb D) = 0 := by
      rw [sz_kS hjb]
      exact fb_ct_zero.mpr (fun k hk => by rw [all_bit hall hk]; rfl)
    have eo : oD co jb nj D b = 0 := by unfold oD; rw [hs]; rfl
    rcases h2 with ⟨i, hi, hb, _⟩ | ⟨e, _⟩
    · rw [all_bit hall hi] at hb; cases hb
    · rw [e, if_pos hall, eo]
  · have hop := kS_open hD hall
    obtain ⟨m', c, em, hc, ec, eo, ⟨i0, hi0, hb0, hj0⟩, hmin⟩ := kS_best (co := co) (b := b) hjb hop
    rcases h2 with ⟨i, hi, hb, e⟩ | ⟨_, hno⟩
    · have a1 := h1 i0 hi0 hb0
      have a2 := (hmin i hi hb).1
      rw [hj0] at a1
      omega
    · rw [hno i0 hi0] at hb0; cases hb0
theorem rMn_skip {D b j m : Nat} (h : rMn co jb nj D b j m) (e : D.testBit j = true) : rMn co jb nj D b (j + 1) m := by
  obtain ⟨h1, h2⟩ := h
  refine ⟨fun i hi hb => ?_, ?_⟩
  · by_cases q : i = j
    · rw [q, e] at hb; cases hb
    · exact h1 i (by omega) hb
  · rcases h2 with ⟨i, hi, hb, e2⟩ | ⟨e2, hno⟩
    · exact Or.inl ⟨i, by omega, hb, e2⟩
    · refine Or.inr ⟨e2, fun i hi => ?_⟩
      by_cases q : i = j
      · rw [q]; exact e
      · exact hno i (by omega)
theorem rMn_step {D b j m : Nat} (hg : gD co jb nj D b (jb j) ≤ 20000) (hj : j < nj) (h : rMn co jb nj D b j m) (e : D.testBit j = false) : rMn co jb nj D b (j + 1) (if gD co jb nj D b (jb j) < m then gD co jb nj D b (jb j) else m) := by
  obtain ⟨h1, h2⟩ := h
  by_cases q : gD co jb nj D b (jb j) < m
  · rw [if_pos q]
    refine ⟨fun i hi hb => ?_, Or.inl ⟨j, by omega, e, rfl⟩⟩
    by_cases q2 : i = j
    · rw [q2]; exact Nat.le_refl _
    · have := h1 i (by omega) hb; omega
  · rw [if_neg q]
    refine ⟨fun i hi hb => ?_, ?_⟩
    · by_cases q2 : i = j
      · rw [q2]; omega
      · exact h1 i (by omega) hb
    · rcases h2 with ⟨i, hi, hb, e2⟩ | ⟨e2, hno⟩
      · exact Or.inl ⟨i, by omega, hb, e2⟩
      · have hne : ¬ D = 2 ^ nj - 1 := fun z => by rw [all_bit z hj] at e; cases e
        rw [if_neg hne] at e2
        omega
def rFd (co jb : Nat → Nat) (nj D b j : Nat) (x : Int32) : Prop := (x = -1 ∧ ∀ i, i < j → D.testBit i = false → ¬ gD co jb nj D b (jb i) = oD co jb nj D b) ∨ ∃ f, f < j ∧ x = nI f ∧ D.testBit f = false ∧ gD co jb nj D b (jb f) = oD co jb nj D b ∧ ∀ i, i < j → D.testBit i = false → gD co jb nj D b (jb i) = oD co jb nj D b → jb f ≤ jb i
theorem rFd_take {D b j : Nat} (e : D.testBit j = false) (g : gD co jb nj D b (jb j) = oD co jb nj D b) (h : ∀ i, i < j → D.testBit i = false → gD co jb nj D b (jb i) = oD co jb nj D b → jb j ≤ jb i) : rFd co jb nj D b (j + 1) (nI j) := by
  refine Or.inr ⟨j, by omega, rfl, e, g, fun i hi hb hg => ?_⟩
  by_cases q : i = j
  · rw [q]; exact Nat.le_refl _
  · exact h i (by omega) hb hg
theorem rFd_keep {D b j : Nat} {x : Int32} (h : rFd co jb nj D b j x) (hs : D.testBit j = false → gD co jb nj D b (jb j) = oD co jb nj D b → ∃ f, x = nI f ∧ f < 2 ^ 31 ∧ jb f ≤ jb j) (hj : j < 2 ^ 31) : rFd co jb nj D b (j + 1) x := by
  rcases h with ⟨e, h⟩ | ⟨f, hf, e, h1, h2, h3⟩
  · refine Or.inl ⟨e, fun i hi hb => ?_⟩
    by_cases q : i = j
    · subst q
      intro g
      obtain ⟨f, ef, hf, _⟩ := hs hb g
      rw [e] at ef
      exact b_neg1 hf ef.symm
    · exact h i (by omega) hb
  · refine Or.inr ⟨f, by omega, e, h1, h2, fun i hi hb hg => ?_⟩
    by_cases q : i = j
    · subst q
      obtain ⟨f', ef, hf', h4⟩ := hs hb hg
      rw [e] at ef
      have : f = f' := by
        have := congrArg Int32.toNatClampNeg ef
        rwa [nI_clamp (by omega), nI_clamp hf'] at this
      rw [this]; exact h4
    · exact h3 i (by omega) hb hg
set_option maxHeartbeats 4000000 in
theorem m_changes {Q : Int32 → zSt → Prop} {on : Nat} (hn : nj ≤ 10) (hco : ∀ i, co i ≤ 1000) (hjb : ∀ j, jb j < 6) (h39 : u.1 39 = nI nj) (h40 : cR (u.1 40) on) (h37 : u.2 37 = zN co) (h38 : u.2 38 = zN jb)
    (hQ : ∀ v, zKeep [0, 39, 40] [41] u v → v.1 39 = 0 → cR (v.1 40) (fc co nj (kS nj jb 0) on) → Q (nI (opt co nj (kS nj jb 0) on)) v) : TX7_changes Q u := by
  have h10 := p10 hn
  have hpos : 0 < 2 ^ nj := Nat.two_pow_pos nj
  have hs0 := sz_kS0 (nj := nj) hjb
  have k37 : ∀ v, zKeep [0] [41] u v → v.2 37 = zN co := fun v hk => (hk.2 37 (by decide)).trans h37
  have k38 : ∀ v, zKeep [0] [41] u v → v.2 38 = zN jb := fun v hk => (hk.2 38 (by decide)).trans h38
  refine ⟨fun n x1 x2 v => ∃ d : Nat, d ≤ 2 ^ nj ∧ n = 2000000 + d * 1000 ∧ x1 = nI (2 ^ nj - 1) ∧ x2 = nI d + (-1) ∧ 0 < nj ∧ zKeep [0] [41] u v ∧ rTb co jb nj d v,
    fun n x1 x2 x3 v => ∃ D b : Nat, D < 2 ^ nj ∧ b ≤ 7 ∧ n = 2000000 + D * 1000 + 500 + (7 - b) * 20 + 19 ∧ x1 = nI (2 ^ nj - 1) ∧ x2 = nI D ∧ x3 = nI b ∧ 0 < nj ∧ zKeep [0] [41] u v ∧ rTb co jb nj (D + 1) v ∧ ∀ b', b' < b → v.2 41 (D * 7 + b') = nI (oD co jb nj D b'),
    fun n x1 x2 x3 x4 x5 v => ∃ D b j m : Nat, D < 2 ^ nj ∧ b ≤ 6 ∧ j ≤ nj ∧ n = 2000000 + D * 1000 + 500 + (7 - b) * 20 + (10 - j) ∧ x1 = nI (2 ^ nj - 1) ∧ x2 = nI D ∧ x3 = nI b ∧ x4 = nI m ∧ m ≤ 1000000000 ∧ x5 = nI j ∧ 0 < nj ∧ zKeep [0] [41] u v ∧ rTb co jb nj (D + 1) v ∧ (∀ b', b' < b → v.2 41 (D * 7 + b') = nI (oD co jb nj D b')) ∧ rMn co jb nj D b j m,
    fun n x1 x2 x3 x4 v => ∃ D b : Nat, D < 2 ^ nj ∧ b ≤ 6 ∧ (b = 6 → D = 0) ∧ n = (1024 - D) * 100 + 99 ∧ x1 = nI (2 ^ nj - 1) ∧ x2 = nI b ∧ x3 = nI (opt co nj (kS nj jb 0) on) ∧ x4 = nI D ∧ 0 < nj ∧ zKeep [0] [41] u v ∧ rTb co jb nj 0 v ∧ fc co (sz (kS nj jb D)) (kS nj jb D) b = fc co nj (kS nj jb 0) on,
    fun n x1 x2 x3 x4 x5 x6 v => ∃ D b j : Nat, D < 2 ^ nj ∧ ¬ D = 2 ^ nj - 1 ∧ b ≤ 6 ∧ j ≤ nj ∧ n = (1024 - D) * 100 + (10 - j) ∧ x1 = nI (2 ^ nj - 1) ∧ x2 = nI b ∧ x3 = nI (opt co nj (kS nj jb 0) on) ∧ x4 = nI D ∧ x6 = nI j ∧ 0 < nj ∧ zKeep [0] [41] u v ∧ rTb co jb nj 0 v ∧ fc co (sz (kS nj jb D)) (kS nj jb D) b = fc co nj (kS nj jb 0) on ∧ rFd co jb nj D b j x5, ?_, ?_, ?_, ?_, ?_, ?_⟩
  · unfold wp_X7_changes_0
    rintro _ rfl
    rw [show (zI u 0 0).1 39 = nI nj from h39, z_bit2 nj (by omega)]
    rintro _ rfl
    refine pk_eq nj 0 (fun h => ?_) (fun h => ?_)
    · subst h
      exact hQ (zI u 0 0) (zKeep.rf.i (by decide)) h39 h40
    · have e1 : nI (2 ^ nj) - 1 = nI (2 ^ nj - 1) := pk_sub (b := 1) (by omega)
      obtain ⟨p, hp⟩ : ∃ p, 2 ^ nj = p + 1 := ⟨2 ^ nj - 1, by omega⟩
      have e2 : nI (2 ^ nj) - 1 = nI (2 ^ nj) + (-1) := by rw [e1, hp, pk_m1, Nat.add_sub_cancel]
      exact ⟨_, 2 ^ nj, Nat.le_refl _, rfl, e1, e2, by omega, zKeep.rf.i (by decide), fun D b h1 h2 => absurd h1 (by omega)⟩
  · rintro n _ _ v ⟨d, hd, hn', rfl, rfl, hnj, hk, ht⟩
    unfold wp_X7_changes_25
    rcases d with _ | d
    · refine ⟨fun _ => ?_, fun q => absurd (by decide) q⟩
      have e0 : on ≤ 6 → v.2 41 on = nI (opt co nj (kS nj jb 0) on) := fun h => by
        have := ht 0 on (Nat.le_refl _) hpos h
        rw [Nat.zero_mul, Nat.zero_add] at this
        rw [this]
        unfold oD
        rw [hs0]
      rw [hk.1 40 (by decide)]
      rcases h40 with ⟨e, e6⟩ | ⟨hb, e⟩
      · rw [e]
        refine ⟨fun q => absurd q (by decide), fun _ => ?_⟩
        rw [show (6 : Int32) = nI on by rw [e6]; rfl]
        unfold wp_X7_changes_133
        rintro _ rfl
        refine ⟨vp_in_nI (by omega) (by omega), ?_⟩
        rw [nI_clamp (by omega), e0 (by omega)]
        rintro _ rfl _ rfl
        exact ⟨(1024 - 0) * 100 + 99, by omega, 0, on, hpos, by omega, fun _ => rfl, rfl, rfl, rfl, rfl, rfl, hnj, hk, ht, by rw [hs0]⟩
      · rw [e]
        refine ⟨fun _ => ?_, fun q => absurd ((nI_leI (a := 0) (by omega) (by omega)).mpr (Nat.zero_le _)) q⟩
        unfold wp_X7_changes_133
        rintro _ rfl
        refine ⟨vp_in_nI (by omega) (by omega), ?_⟩
        rw [nI_clamp (by omega), e0 (by omega)]
        rintro _ rfl _ rfl
        exact ⟨(1024 - 0) * 100 + 99, by omega, 0, on, hpos, by omega, fun _ => rfl, rfl, rfl, rfl, rfl, rfl, hnj, hk, ht, by rw [hs0]⟩
    · rw [pk_m1]
      refine ⟨fun q => absurd q (nI_pos (by omega)), fun _ => ?_⟩
      rintro _ rfl
      exact ⟨2000000 + d * 1000 + 500 + (7 - 0) * 20 + 19, by omega, d, 0, by omega, by omega, rfl, rfl, rfl, rfl, hnj, hk, ht, fun b' hb' => absurd hb' (by omega)⟩
  · rintro n _ _ _ v ⟨D, b, hD, hb, hn', rfl, rfl, rfl, hnj, hk, ht, hrow⟩
    unfold wp_X7_changes_31
    refine pk_lt 6 b (fun h => ?_) (fun h => ?_)
    · rintro _ rfl
      refine ⟨2000000 + D * 1000, by omega, D, by omega, rfl, rfl, rfl, hnj, hk, fun D' b' h1 h2 h3 => ?_⟩
      by_cases q : D' = D
      · rw [q]; exact hrow b' (by omega)
      · exact ht D' b' (by omega) h2 h3
    · refine pk_eq D (2 ^ nj - 1) (fun e => ?_) (fun e => ?_)
      · unfold wp_X7_changes_48
        rintro _ rfl _ rfl
        exact ⟨2000000 + D * 1000 + 500 + (7 - b) * 20 + (10 - 0), by omega, D, b, 0, 0, hD, by omega, by omega, rfl, rfl, rfl, rfl, rfl, by omega, rfl, hnj, hk, ht, hrow, fun i hi => absurd hi (by omega), Or.inr ⟨(if_pos e).symm, fun i hi => absurd hi (by omega)⟩⟩
      · unfold wp_X7_changes_48
        rintro _ rfl _ rfl
        exact ⟨2000000 + D * 1000 + 500 + (7 - b) * 20 + (10 - 0), by omega, D, b, 0, 1000000000, hD, by omega, by omega, rfl, rfl, rfl, rfl, rfl, by omega, rfl, hnj, hk, ht, hrow, fun i hi => absurd hi (by omega), Or.inr ⟨(if_neg e).symm, fun i hi => absurd hi (by omega)⟩⟩
  · rintro n _ _ _ _ _ v ⟨D, b, j, m, hD, hb, hj, hn', rfl, rfl, rfl, rfl, hm, rfl, hnj, hk, ht, hrow, hmn⟩
    unfold wp_X7_changes_53
    rw [show v.1 39 = nI nj from (hk.1 39 (by decide)).trans h39]
    refine pk_le nj j (fun h => ?_) (fun h => ?_)
    · have ej : j = nj := by omega
      rw [ej] at hmn
      have em := rMn_end hjb hD hmn
      rw [show (7 : Int32) = nI 7 from rfl, pk_mul, nI_add, nI_clamp (by omega)]
      refine ⟨vp_in_nI (by omega) (by omega), ?_⟩
      rintro _ rfl _ rfl
      refine ⟨2000000 + D * 1000 + 500 + (7 - (b + 1)) * 20 + 19, by omega, D, b + 1, hD, by omega, rfl, rfl, rfl, nI_1 b, hnj, hk.a (by decide), fun D' b' h1 h2 h3 => ?_, fun b' hb' => ?_⟩
      · show upd (v.2 41) (D * 7 + b) (nI m) (D' * 7 + b') = _
        rw [pk_un (by omega)]
        exact ht D' b' h1 h2 h3
      · show upd (v.2 41) (D * 7 + b) (nI m) (D * 7 + b') = _
        by_cases q : b' = b
        · rw [q, pk_us, em]
        · rw [pk_un (by omega)]
          exact hrow b' (by omega)
    · rw [z_ib (by omega) (by omega)]
      rcases e : D.testBit j with _ | _
      · refine ⟨fun _ => ?_, fun q => absurd rfl q⟩
        have hg := gD_le hn hco hjb D b (jb j)
        refine m_next hn hjb (k37 v hk) (k38 v hk) hD hb h e ht ?_
        rintro _ rfl _ rfl
        refine ⟨2000000 + D * 1000 + 500 + (7 - b) * 20 + (10 - (j + 1)), by omega, D, b, j + 1, if gD co jb nj D b (jb j) < m then gD co jb nj D b (jb j) else m, hD, hb, by omega, rfl, rfl, rfl, rfl, ?_, ?_, nI_1 j, hnj, hk, ht, hrow, rMn_step hg h hmn e⟩
        · by_cases q : gD co jb nj D b (jb j) < m
          · rw [if_pos q, if_pos ((nI_ltI (by omega) (by omega)).mpr q)]
          · rw [if_neg q, if_neg (fun z => q ((nI_ltI (by omega) (by omega)).mp z))]
        · split <;> omega
      · refine ⟨fun q => absurd q (by decide), fun _ => ?_⟩
        rintro _ rfl
        exact ⟨2000000 + D * 1000 + 500 + (7 - b) * 20 + (10 - (j + 1)), by omega, D, b, j + 1, m, hD, hb, by omega, rfl, rfl, rfl, rfl, rfl, hm, nI_1 j, hnj, hk, ht, hrow, rMn_skip hmn e⟩
  · rintro n _ _ _ _ v ⟨D, b, hD, hb, hb6, hn', rfl, rfl, rfl, rfl, hnj, hk, ht, hfc⟩
    unfold wp_X7_changes_144
    refine pk_le (2 ^ nj - 1) D (fun h => ?_) (fun h => ?_)
    · rintro _ rfl _ rfl
      have e : D = 2 ^ nj - 1 := by omega
      have hs : sz (kS nj jb D) = 0 := by
        rw [sz_kS hjb]
        exact fb_ct_zero.mpr (fun k hk => by rw [all_bit e hk]; rfl)
      rw [hs] at hfc
      have h1 : 2 ^ 1 ≤ 2 ^ nj := Nat.pow_le_pow_right (by decide) hnj
      have hb' : b < 6 := by
        rcases Nat.lt_or_ge b 6 with q | q
        · exact q
        · have := hb6 (by omega)
          omega
      refine hQ _ (((hk.wk (by decide) (by decide)).i (by decide)).i (by decide)) rfl ?_
      rw [← show b = fc co nj (kS nj jb 0) on from hfc]
      exact Or.inr ⟨hb', rfl⟩
    · rintro _ rfl _ rfl
      exact ⟨(1024 - D) * 100 + (10 - 0), by omega, D, b, 0, hD, by omega, hb, by omega, rfl, rfl, rfl, rfl, rfl, rfl, hnj, hk, ht, hfc, Or.inl ⟨rfl, fun i hi => absurd hi (by omega)⟩⟩
  · rintro n _ _ _ _ x5 _ v ⟨D, b, j, hD, hDn, hb, hj, hn', rfl, rfl, rfl, rfl, rfl, hnj, hk, ht, hfc, hfd⟩
    unfold wp_X7_changes_156 wp_X7_changes_221
    rw [show v.1 39 = nI nj from (hk.1 39 (by decide)).trans h39]
    obtain ⟨m, c, em, hc, ec, eo, ⟨i0, hi0, hb0, hj0⟩, hmin⟩ := kS_best (co := co) (b := b) hjb (kS_open hD hDn)
    refine pk_le nj j (fun h => ?_) (fun h => ?_)
    · have ej : j = nj := by omega
      rw [ej] at hfd
      rcases hfd with ⟨_, hno⟩ | ⟨f, hf, rfl, hbf, hgf, hlf⟩
      · exact absurd (by rw [hj0]; exact eo.symm) (hno i0 hi0 hb0)
      · have ejc : jb f = c := by
          have a1 := hlf i0 hi0 hb0 (by rw [hj0]; exact eo.symm)
          have a2 := (hmin f hf hbf).2 (hgf.trans eo)
          omega
        have hor : D ||| 2 ^ f < 2 ^ nj := Nat.or_lt_two_pow hD (Nat.pow_lt_pow_right (by decide) hf)
        have hgt := or_gt hbf
        obtain ⟨hk2, hp⟩ := kS_add (jb := jb) hf hbf
        have hs := sz_kD (hjb f) hp
        rintro _ rfl
        refine ⟨vp_in_nI (by omega) (by omega), ?_⟩
        rw [nI_clamp (by omega), k38 v hk, zN_at, z_bit2 f (by omega), fa_or]
        rintro _ rfl
        have h6 := hjb f
        refine ⟨(1024 - (D ||| 2 ^ f)) * 100 + 99, by omega, D ||| 2 ^ f, jb f, hor, by omega, fun q => absurd q (by omega), rfl, rfl, rfl, rfl, rfl, hnj, hk, ht, ?_⟩
        rw [hk2, ejc]
        rw [ejc] at hs
        rw [show sz (kD (kS nj jb D) c) = m by omega, ← fc_some ec, ← em]
        exact hfc
    · rw [z_ib (by omega) (by omega)]
      rcases e : D.testBit j with _ | _
      · refine ⟨fun _ => ?_, fun q => absurd rfl q⟩
        have hg := gD_le hn hco hjb D b (jb j)
        have ho := oD_le hn hco hjb D b
        refine m_next hn hjb (k37 v hk) (k38 v hk) hD hb h e (fun D' b' h1 h2 h3 => ht D' b' (by omega) h2 h3) ?_
        rw [show (7 : Int32) = nI 7 from rfl, pk_mul, nI_add, nI_clamp (by omega), ht D b (by omega) hD hb]
        refine ⟨vp_in_nI (by omega) (by omega), pk_eq (gD co jb nj D b (jb j)) (oD co jb nj D b) (fun q => ?_) (fun q => ?_)⟩
        · rcases hfd with ⟨rfl, hno⟩ | ⟨f, hf, rfl, hbf, hgf, hlf⟩
          · refine ⟨fun _ => ?_, fun z => absurd (by decide) z⟩
            rintro _ rfl _ rfl
            exact ⟨(1024 - D) * 100 + (10 - (j + 1)), by omega, D, b, j + 1, hD, hDn, hb, by omega, rfl, rfl, rfl, rfl, rfl, nI_1 j, hnj, hk, ht, hfc, rFd_take e q (fun i hi hb hg => absurd hg (hno i hi hb))⟩
          · refine ⟨fun z => absurd z (nI_pos (by omega)), fun _ => ⟨vp_in_nI (by omega) (by omega), vp_in_nI (by omega) (by omega), ?_⟩⟩
            have j1 := hjb f
            have j2 := hjb j
            rw [nI_clamp (by omega), nI_clamp (by omega), k38 v hk]
            refine pk_le (jb f) (jb j) (fun z => ?_) (fun z => ?_)
            · rintro _ rfl
              exact ⟨(1024 - D) * 100 + (10 - (j + 1)), by omega, D, b, j + 1, hD, hDn, hb, by omega, rfl, rfl, rfl, rfl, rfl, nI_1 j, hnj, hk, ht, hfc, rFd_keep (Or.inr ⟨f, hf, rfl, hbf, hgf, hlf⟩) (fun _ _ => ⟨f, rfl, by omega, z⟩) (by omega)⟩
            · rintro _ rfl _ rfl
              exact ⟨(1024 - D) * 100 + (10 - (j + 1)), by omega, D, b, j + 1, hD, hDn, hb, by omega, rfl, rfl, rfl, rfl, rfl, nI_1 j, hnj, hk, ht, hfc, rFd_take e q (fun i hi hb hg => by have := hlf i hi hb hg; omega)⟩
        · rintro _ rfl
          exact ⟨(1024 - D) * 100 + (10 - (j + 1)), by omega, D, b, j + 1, hD, hDn, hb, by omega, rfl, rfl, rfl, rfl, rfl, nI_1 j, hnj, hk, ht, hfc, rFd_keep hfd (fun _ z => absurd z q) (by omega)⟩
      · refine ⟨fun q => absurd q (by decide), fun _ => ?_⟩
        rintro _ rfl
        exact ⟨(1024 - D) * 100 + (10 - (j + 1)), by omega, D, b, j + 1, hD, hDn, hb, by omega, rfl, rfl, rfl, rfl, rfl, nI_1 j, hnj, hk, ht, hfc, rFd_keep hfd (fun z => by rw [e] at z; cases z) (by omega)⟩
end ZM
theorem cR_uniq {x y : Int32} {b : Nat} (h : cR x b) (g : cR y b) : x = y := by
  rcases h with ⟨h1, h2⟩ | ⟨h1, h2⟩ <;> rcases g with ⟨g1, g2⟩ | ⟨g1, g2⟩
  · rw [h1, g1]
  · omega
  · omega
  · rw [h2, g2]
set_option maxHeartbeats 2000000 in
theorem cs_1337 {L : Nat} {xs : Nat → Int32} {J23 : Int32 → Nat → Nat → zSt → zSt → zSt → zSt → zSt → zSt → zSt → (Nat → Int64) → Prop} {x4 : Int32} {cs sl : Nat} {u0 u1 u2 u3 u4 u5 u7 : zSt} {u8 : Nat → Int64} (hb : cs + 1 ≤ 601024 ∧ sl + 6 ≤ 7293034) (hi : vp_in (x4 + 1) L ∧ vp_in (x4 + 2) L ∧ vp_in (x4 + 3) L ∧ vp_in (x4 + 4) L) (hR : rAll u1 u2 u3 u4 u5 u7) (hJ : ∀ (cs' sl' : Nat) (v0 v1 v2 v3 v4 v5 v7 : zSt) (v8 : Nat → Int64), cs' ≤ cs + 1 → sl' ≤ sl + 6 → rAll v1 v2 v3 v4 v5 v7 → J23 (x4 + 5) cs' sl' v0 v1 v2 v3 v4 v5 v7 v8) : wp_L_law_1337 L xs J23 x4 cs sl u0 u1 u2 u3 u4 u5 u7 u8 := by
  obtain ⟨hE, hL, hT, hG, hM⟩ := id hR
  obtain ⟨nj, co, jb, hj, hco, hdg, hjb, j1, j39, j2, j2c, c37, c0, c0z, c38, c3, c6⟩ := id hM
  have hk0 : ∀ c, kS nj jb 0 c = fb_ct (fun j => jb j == c) nj := fun c => fb_ct_cong (fun k _ => by simp)
  have hok : kOk (kS nj jb 0) nj := ⟨hj, sz_kS0 hjb, fun d => Nat.le_trans (fb_ct_le _ _) hj, fun d hd => fb_ct_zero.mpr (fun k _ => by have := hjb k; have q : ¬ jb k = d := (by omega); simp [q])⟩
  obtain ⟨on, hon⟩ : ∃ on, cR (u4.1 2) on := by
    rcases j2c with e | ⟨c, hc, e⟩
    · exact ⟨6, Or.inl ⟨e, rfl⟩⟩
    · exact ⟨c, Or.inr ⟨hc, e⟩⟩
  unfold wp_L_law_1337 TX6_changes wp_X6_changes_0
  refine ⟨hb, c_run hok hco ⟨j1, c0, c0z, fun c hc => by rw [hk0]; exact c3 c hc⟩ c6 hon (fun v kv e1 e3 e6 ecr => m_changes hj hco hjb j39 (by rw [← j2]; exact hon) c37 c38 (fun w kw e39 e40 => ⟨fun _ => ?_, fun h => h rfl⟩))⟩
  rintro _ rfl
  refine hJ _ _ _ _ _ _ _ _ _ _ (by omega) (by omega) ⟨hE.k ⟨kw.1 _ (by decide), kw.2 _ (by decide), kw.2 _ (by decide), kw.2 _ (by decide), kw.2 _ (by decide)⟩, hL.k ⟨kw.1 _ (by decide), kw.1 _ (by decide), kw.1 _ (by decide), kw.2 _ (by decide), kw.2 _ (by decide), kw.2 _ (by decide), kw.2 _ (by decide), kw.2 _ (by decide), kw.2 _ (by decide)⟩, hT.k ⟨kw.1 _ (by decide), kw.1 _ (by decide), kw.1 _ (by decide), kw.2 _ (by decide), kw.2 _ (by decide), kw.2 _ (by decide), kw.2 _ (by decide)⟩, hG.k ⟨kw.1 _ (by decide), kw.2 _ (by decide), kw.2 _ (by decide), kw.2 _ (by decide), kw.2 _ (by decide)⟩, ?_⟩
  refine ⟨0, co, jb, by omega, hco, hdg, hjb, e1, e39, cR_uniq ecr e40, ?_, (kw.2 37 (by decide)).trans c37, ?_, ?_, (kw.2 38 (by decide)).trans c38, fun c hc => e3 c hc, e6⟩
  · rcases ecr with ⟨q, _⟩ | ⟨q1, q2⟩
    · exact Or.inl q
    · exact Or.inr ⟨_, q1, q2⟩
  · rw [kv.2 0 (by decide)]; exact c0
  · rw [kv.2 0 (by decide)]; exact c0z
