/-! the class's search -/
def cU (ne A B : Nat) (lo hi pc ha : Nat → Nat) (u : zSt) : Prop := u.1 4 = nI ne ∧ u.2 0 = zN lo ∧ u.2 1 = zN hi ∧ u.2 2 = zN pc ∧ u.2 3 = zN ha ∧ u.1 10 = nI (10 * A) ∧ u.1 11 = nI (10 * B) ∧
  ∀ e k, e + k = ne → u.2 12 e = nI (bP ha k e) ∧ u.2 13 e = nI (bC pc k e) ∧ u.2 14 e = nI (bL lo k e) ∧ u.2 15 e = nI (bC hi k e)
theorem cU.keep {ne A B : Nat} {lo hi pc ha : Nat → Nat} {u v : zSt} (h : cU ne A B lo hi pc ha u) (g : zKeep [6, 7, 8] [5, 9] u v) : cU ne A B lo hi pc ha v :=
  ⟨(g.1 4 (by decide)).trans h.1, (g.2 0 (by decide)).trans h.2.1, (g.2 1 (by decide)).trans h.2.2.1, (g.2 2 (by decide)).trans h.2.2.2.1, (g.2 3 (by decide)).trans h.2.2.2.2.1, (g.1 10 (by decide)).trans h.2.2.2.2.2.1, (g.1 11 (by decide)).trans h.2.2.2.2.2.2.1, fun e k hk => by
    obtain ⟨a1, a2, a3, a4⟩ := h.2.2.2.2.2.2.2 e k hk
    rw [g.2 12 (by decide), g.2 13 (by decide), g.2 14 (by decide), g.2 15 (by decide)]
    exact ⟨a1, a2, a3, a4⟩⟩
set_option maxHeartbeats 1000000 in
theorem b_may {ne A B : Nat} {lo hi pc ha : Nat → Nat} (hx : bX lo hi pc ha) (hne : ne ≤ 6) (hA : A ≤ 1000) (hB : B ≤ 1000) {k e left lows highs pr : Nat} {st : bS} {u : zSt} {Q : Int32 → zSt → Prop} (he : e + k = ne) (hleft : left ≤ 10) (hlows : lows ≤ (10 - left) * 1000) (hhighs : highs ≤ (10 - left) * 1000) (hpr : pr ≤ (10 - left) * 1000) (hu : cU ne A B lo hi pc ha u) (hb : bB ne 6 7 8 5 u st) (hok : bOk ne ha st)
    (h0 : (bP ha k e < left ∨ (st.1 = true ∧ st.2.1 ≤ pr + left * bC pc k e) ∨ lows + left * bL lo k e < 10 * A ∨ 10 * B < highs + left * bC hi k e) → Q 0 u) (h1 : left ≤ bP ha k e → (st.1 = false ∨ pr + left * bC pc k e < st.2.1) → 10 * A ≤ lows + left * bL lo k e → highs + left * bC hi k e ≤ 10 * B → Q 1 u) :
    TX1_mayBeBetter Q (nI e) (nI left) (nI pr) (nI lows) (nI highs) u := by
  have hin : vp_in (nI e) 7 := vp_in_nI (by omega) (by omega)
  have hec : (nI e).toNatClampNeg = e := nI_clamp (by omega)
  obtain ⟨a1, a2, a3, a4⟩ := hu.2.2.2.2.2.2.2 e k he
  have e1 : bP ha k e ≤ 6000 := by
    have h3 := bP_le (fun i => (hx i).2.2.2) k e
    have h4 : k * 1000 ≤ 6 * 1000 := Nat.mul_le_mul_right 1000 (by omega)
    omega
  have e2 : left * bC pc k e ≤ 10 * 1000 := Nat.mul_le_mul hleft (bC_le pc k e)
  have e3 : left * bL lo k e ≤ 10 * 1000 := Nat.mul_le_mul hleft (bL_le (fun i => (hx i).1) k e)
  have e4 : left * bC hi k e ≤ 10 * 1000 := Nat.mul_le_mul hleft (bC_le hi k e)
  unfold TX1_mayBeBetter wp_X1_mayBeBetter_0 wp_X1_mayBeBetter_35
  rw [hec, a1, a2, a3, a4, hu.2.2.2.2.2.1, hu.2.2.2.2.2.2.1, pk_mul, pk_mul, pk_mul, nI_add, nI_add, nI_add]
  refine ⟨hin, ?_⟩
  rw [nI_ltI (by omega) (by omega)]
  refine ⟨fun h => h0 (Or.inl h), fun g1 => ?_⟩
  have tail : (st.1 = false ∨ pr + left * bC pc k e < st.2.1) → vp_in (nI e) 7 ∧ ((nI (lows + left * bL lo k e) < nI (10 * A) → Q 0 u) ∧ (¬ nI (lows + left * bL lo k e) < nI (10 * A) → vp_in (nI e) 7 ∧ ((nI (10 * B) < nI (highs + left * bC hi k e) → Q 0 u) ∧ (¬ nI (10 * B) < nI (highs + left * bC hi k e) → Q 1 u)))) := by
    intro g2
    refine ⟨hin, ?_⟩
    rw [nI_ltI (by omega) (by omega)]
    refine ⟨fun h => h0 (Or.inr (Or.inr (Or.inl h))), fun g3 => ⟨hin, ?_⟩⟩
    rw [nI_ltI (by omega) (by omega)]
    exact ⟨fun h => h0 (Or.inr (Or.inr (Or.inr h))), fun g4 => h1 (by omega) g2 (by omega) (by omega)⟩
  refine ⟨fun h => tail (Or.inl ?_), fun h => ⟨hin, ?_⟩⟩
  · rcases hs : st.1 with _ | _
    · rfl
    · rw [(hb.2 hs).1] at h
      exact absurd h (b_neg1 (by have := (hok hs).1; omega))
  · have hs : st.1 = true := by
      rcases hs : st.1 with _ | _
      · exact absurd (hb.1 hs) h
      · rfl
    have := (hok hs).1
    rw [(hb.2 hs).1, nI_leI (by omega) (by omega)]
    exact ⟨fun h => h0 (Or.inr (Or.inl ⟨hs, h⟩)), fun h => tail (Or.inr (by omega))⟩
set_option maxHeartbeats 1000000 in
theorem b_keep {ne A B : Nat} {lo hi pc ha : Nat → Nat} (hne : ne ≤ 6) {lows highs pr : Nat} {part : Nat → Nat} {u : zSt} {Q : zSt → Prop} (hlows : lows ≤ 10000) (hhighs : highs ≤ 10000) (hu : cU ne A B lo hi pc ha u) (hch : ∀ i, i < ne → u.2 9 i = nI (part i))
    (hQ : ∀ v, zKeep [6, 7, 8] [5, 9] u v → bB ne 6 7 8 5 v (true, pr, lows, highs, part) → (∀ i, i < ne → v.2 9 i = nI (part i)) → Q v) : TX1_keep Q (nI pr) (nI lows) (nI highs) u := by
  refine ⟨fun n x4 v => ∃ j : Nat, x4 = nI j ∧ j ≤ ne ∧ n = ne - j ∧ zKeep [6, 7, 8] [5, 9] u v ∧ v.1 6 = nI pr ∧ v.1 7 = nI (lows / 10) ∧ v.1 8 = nI ((highs + 9) / 10) ∧ (∀ i, i < j → v.2 5 i = nI (part i)) ∧ (∀ i, i < ne → v.2 9 i = nI (part i)), ?_, ?_⟩
  · unfold wp_X1_keep_0
    rw [b_dn (by omega), b_up (by omega)]
    rintro _ rfl _ rfl _ rfl _ rfl
    exact ⟨ne, 0, rfl, by omega, by omega, ((zKeep.rf.i (by decide)).i (by decide)).i (by decide), by simp [zI_1], by simp [zI_1], by simp [zI_1], fun i hi => absurd hi (by omega), hch⟩
  · intro n x4 v hI
    obtain ⟨j, rfl, hj, hn, hk, h6, h7, h8, h5, h9⟩ := hI
    have hv := hu.keep hk
    unfold wp_X1_keep_29
    rw [hv.1, nI_leI (by omega) (by omega)]
    refine ⟨fun h => ?_, fun h => ?_⟩
    · have hje : j = ne := by omega
      subst hje
      exact hQ v hk ⟨fun h => by simp at h, fun _ => ⟨h6, h7, h8, h5⟩⟩ h9
    · have hin : vp_in (nI j) 6 := vp_in_nI (by omega) (by omega)
      refine ⟨hin, hin, ?_⟩
      rintro _ rfl _ rfl
      rw [nI_clamp (by omega)]
      refine ⟨ne - (j + 1), by omega, j + 1, nI_1 j, by omega, rfl, hk.a (by decide), h6, h7, h8, ?_, h9⟩
      intro i hi
      rw [zA_2, if_pos rfl]
      by_cases hij : i = j
      · rw [hij, pk_us]; exact h9 j (by omega)
      · rw [pk_un hij]; exact h5 i (by omega)
set_option maxHeartbeats 2000000 in
theorem b_choose {ne A B : Nat} {lo hi pc ha : Nat → Nat} (hx : bX lo hi pc ha) (hne : ne ≤ 6) (hA : A ≤ 1000) (hB : B ≤ 1000) : ∀ (k d e left lows highs pr : Nat) (part : Nat → Nat) (st : bS) (u : zSt) (Q : zSt → Prop),
    e + k = ne → k < d → left ≤ 10 → lows ≤ (10 - left) * 1000 → highs ≤ (10 - left) * 1000 → pr ≤ (10 - left) * 1000 → (∀ i, i < e → part i ≤ ha i) → cU ne A B lo hi pc ha u → bB ne 6 7 8 5 u st → bOk ne ha st → (∀ i, i < e → u.2 9 i = nI (part i)) →
    (∀ v, zKeep [6, 7, 8] [5, 9] u v → bB ne 6 7 8 5 v (b_go lo hi pc ha A B k e left lows highs pr part st) → bOk ne ha (b_go lo hi pc ha A B k e left lows highs pr part st) → (∀ i, i < e → v.2 9 i = nI (part i)) → Q v) →
    TRX1_choose d Q (nI e) (nI left) (nI pr) (nI lows) (nI highs) u := by
  intro k
  induction k with
  | zero =>
    intro d e left lows highs pr part st u Q he hd hleft hlows hhighs hpr hpart hu hb hok hch hQ
    have he : e = ne := by omega
    subst he
    obtain ⟨d, rfl⟩ : ∃ d', d = d' + 1 := ⟨d - 1, by omega⟩
    show wp_X1_choose_0 _ _ _ _ _ _ _ _
    unfold wp_X1_choose_0
    refine b_may (k := 0) (st := st) hx hne hA hB (by omega) hleft hlows hhighs hpr hu hb hok (fun h => ?_) (fun g1 g2 g3 g4 => ?_)
    · refine ⟨fun _ => ?_, fun h => absurd rfl h⟩
      have hp := b_prune lo hi pc ha A B 0 e left lows highs pr part st h
      exact hQ u zKeep.rf (by rw [hp]; exact hb) (by rw [hp]; exact hok) hch
    · refine ⟨fun h => absurd h (by decide), fun _ => ?_⟩
      rw [hu.1, nI_ltI (by omega) (by omega)]
      refine ⟨fun h => absurd h (by omega), fun _ => ?_⟩
      simp only [bP, bC, bL, Nat.mul_zero, Nat.add_zero] at g1 g2 g3 g4
      have hl0 : left = 0 := by omega
      have hgo : b_go lo hi pc ha A B 0 e left lows highs pr part st = (true, pr, lows, highs, part) := by
        have hc : st.1 = false ∨ pr < st.2.1 := by
          rcases g2 with g2 | g2
          · exact Or.inl g2
          · exact Or.inr (by rw [hl0] at g2; omega)
        rw [b_go, b_leaf, if_pos ⟨hl0, by omega, by omega, hc⟩]
      refine b_keep hne (by omega) (by omega) hu hch (fun v hk hbv hcv => hQ v hk (by rw [hgo]; exact hbv) (by rw [hgo]; exact fun _ => ⟨by show pr ≤ 10000; omega, by show lows ≤ 10000; omega, by show highs ≤ 10000; omega, hpart⟩) hcv)
  | succ k ih =>
    intro d e left lows highs pr part st u Q he hd hleft hlows hhighs hpr hpart hu hb hok hch hQ
    obtain ⟨d, rfl⟩ : ∃ d', d = d' + 1 := ⟨d - 1, by omega⟩
    show wp_X1_choose_0 _ _ _ _ _ _ _ _
    unfold wp_X1_choose_0
    refine b_may (k := k + 1) (st := st) hx hne hA hB (by omega) hleft hlows hhighs hpr hu hb hok (fun h => ?_) (fun g1 g2 g3 g4 => ?_)
    · refine ⟨fun _ => ?_, fun h => absurd rfl h⟩
      have hp := b_prune lo hi pc ha A B (k + 1) e left lows highs pr part st h
      exact hQ u zKeep.rf (by rw [hp]; exact hb) (by rw [hp]; exact hok) hch
    refine ⟨fun h => absurd h (by decide), fun _ => ?_⟩
    rw [hu.1, nI_ltI (by omega) (by omega)]
    refine ⟨fun _ => ?_, fun h => absurd (by omega) h⟩
    have hein : vp_in (nI e) 6 := vp_in_nI (by omega) (by omega)
    have hec : (nI e).toNatClampNeg = e := nI_clamp (by omega)
    obtain ⟨F, hF⟩ : ∃ F : Nat → bS → bS, F = fun n acc => b_go lo hi pc ha A B k (e + 1) (left - n) (lows + n * lo e) (highs + n * hi e) (pr + n * pc e) (zUp part e n) acc := ⟨_, rfl⟩
    have hgo : b_go lo hi pc ha A B (k + 1) e left lows highs pr part st = b_fold F (min left (ha e) + 1) st := by rw [b_go, hF]
    rw [hgo] at hQ
    have hxe := hx e
    refine ⟨fun n x1 x2 x3 x4 x5 x6 x7 v => ∃ j : Nat, x1 = nI e ∧ x2 = nI left ∧ x3 = nI pr ∧ x4 = nI lows ∧ x5 = nI highs ∧ x6 = nI (min left (ha e)) ∧ x7 = nI j ∧ j ≤ min left (ha e) + 1 ∧ n = min left (ha e) + 1 - j ∧ zKeep [6, 7, 8] [5, 9] u v ∧ bB ne 6 7 8 5 v (b_fold F j st) ∧ bOk ne ha (b_fold F j st) ∧ (∀ i, i < e → v.2 9 i = nI (part i)), ?_, ?_⟩
    · unfold wp_X1_chooseParts_0
      refine ⟨hein, ?_⟩
      rintro _ rfl _ rfl
      refine ⟨_, 0, rfl, rfl, rfl, rfl, rfl, ?_, rfl, by omega, rfl, zKeep.rf, hb, hok, hch⟩
      rw [hec, hu.2.2.2.2.1, zN_at]
      by_cases hh : ha e < left
      · rw [if_pos ((nI_ltI (by omega) (by omega)).mpr hh), show min left (ha e) = ha e by omega]
      · rw [if_neg (fun q => hh ((nI_ltI (by omega) (by omega)).mp q)), show min left (ha e) = left by omega]
    · intro n x1 x2 x3 x4 x5 x6 x7 v hI
      obtain ⟨j, rfl, rfl, rfl, rfl, rfl, rfl, rfl, hj, hn, hk, hbj, hokj, hchj⟩ := hI
      have hv := hu.keep hk
      unfold wp_X1_chooseParts_15
      rw [nI_ltI (by omega) (by omega)]
      refine ⟨fun h => ?_, fun h1 => ⟨hein, ?_⟩⟩
      · have hjm : j = min left (ha e) + 1 := by omega
        subst hjm
        exact hQ v hk hbj hokj hchj
      rintro _ rfl
      refine ⟨hein, hein, hein, ?_⟩
      show TRX1_choose d _ (nI e + 1) (nI left - nI j) (nI pr + (nI j * (v.2 2 (nI e).toNatClampNeg))) (nI lows + (nI j * (v.2 0 (nI e).toNatClampNeg))) (nI highs + (nI j * (v.2 1 (nI e).toNatClampNeg))) _
      have q1 : nI e + 1 = nI (e + 1) := nI_1 e
      have q2 : nI left - nI j = nI (left - j) := pk_sub (by omega)
      have q3 : nI lows + (nI j * (v.2 0 (nI e).toNatClampNeg)) = nI (lows + j * lo e) := by rw [hec, hv.2.1, zN_at, pk_mul, nI_add]
      have q4 : nI highs + (nI j * (v.2 1 (nI e).toNatClampNeg)) = nI (highs + j * hi e) := by rw [hec, hv.2.2.1, zN_at, pk_mul, nI_add]
      have q5 : nI pr + (nI j * (v.2 2 (nI e).toNatClampNeg)) = nI (pr + j * pc e) := by rw [hec, hv.2.2.2.1, zN_at, pk_mul, nI_add]
      rw [q1, q2, q3, q4, q5]
      have b1 : j * lo e ≤ j * 1000 := Nat.mul_le_mul_left j hxe.1
      have b2 : j * hi e ≤ j * 1000 := Nat.mul_le_mul_left j hxe.2.1
      have b3 : j * pc e ≤ j * 1000 := Nat.mul_le_mul_left j hxe.2.2.1
      refine ih d (e + 1) (left - j) (lows + j * lo e) (highs + j * hi e) (pr + j * pc e) (zUp part e j) (b_fold F j st) _ _ (by omega) (by omega) (by omega) (by omega) (by omega) (by omega) ?_ ?_ ?_ hokj ?_ ?_
      · intro i hi
        by_cases hie : i = e
        · rw [zUp, if_pos hie, hie]; omega
        · rw [zUp, if_neg hie]; exact hpart i (by omega)
      · exact hv
      · exact hbj
      · intro i hi
        rw [zA_2, if_pos rfl, hec]
        by_cases hie : i = e
        · rw [hie, pk_us, zUp, if_pos rfl]
        · rw [pk_un hie, zUp, if_neg hie]; exact hchj i (by omega)
      · intro w hkw hbw hokw hchw
        rintro _ rfl
        have hst : b_go lo hi pc ha A B k (e + 1) (left - j) (lows + j * lo e) (highs + j * hi e) (pr + j * pc e) (zUp part e j) (b_fold F j st) = b_fold F (j + 1) st := by rw [b_fold, hF]
        rw [hst] at hbw hokw
        refine ⟨min left (ha e) + 1 - (j + 1), ?_, j + 1, rfl, rfl, rfl, rfl, rfl, rfl, nI_1 j, by omega, rfl, (hk.a (by decide)).tr hkw, hbw, hokw, ?_⟩
        · omega
        · intro i hi
          have := hchw i (by omega)
          rw [zUp, if_neg (by omega)] at this
          exact this
set_option maxHeartbeats 2000000 in
theorem b_bounds {ne : Nat} {lo hi pc ha : Nat → Nat} (hx : bX lo hi pc ha) (hne : ne ≤ 6) {u : zSt} {Q : zSt → Prop} (h4 : u.1 4 = nI ne) (h0 : u.2 0 = zN lo) (h1 : u.2 1 = zN hi) (h2 : u.2 2 = zN pc) (h3 : u.2 3 = zN ha)
    (hQ : ∀ v, zKeep [] [12, 13, 14, 15] u v → (∀ e k, e + k = ne → v.2 12 e = nI (bP ha k e) ∧ v.2 13 e = nI (bC pc k e) ∧ v.2 14 e = nI (bL lo k e) ∧ v.2 15 e = nI (bC hi k e)) → Q v) : TX1_setBounds Q u := by
  have hni : (nI ne).toNatClampNeg = ne := nI_clamp (by omega)
  have hin : vp_in (nI ne) 7 := vp_in_nI (by omega) (by omega)
  refine ⟨fun n x1 v => ∃ j : Nat, x1 + 1 = nI j ∧ j ≤ ne ∧ n = j ∧ zKeep [] [12, 13, 14, 15] u v ∧ (∀ e k, j ≤ e → e + k = ne → v.2 12 e = nI (bP ha k e) ∧ v.2 13 e = nI (bC pc k e) ∧ v.2 14 e = nI (bL lo k e) ∧ v.2 15 e = nI (bC hi k e)), ?_, ?_⟩
  · unfold wp_X1_setBounds_0
    rw [h4]
    refine ⟨hin, ?_⟩
    rintro _ rfl
    refine ⟨by rw [zA_1, h4]; exact hin, ?_⟩
    rintro _ rfl
    refine ⟨by rw [zA_1, zA_1, h4]; exact hin, ?_⟩
    rintro _ rfl
    refine ⟨by rw [zA_1, zA_1, zA_1, h4]; exact hin, ?_⟩
    rintro _ rfl _ rfl
    refine ⟨ne, ne, ?_, by omega, rfl, (((zKeep.rf.a (by decide)).a (by decide)).a (by decide)).a (by decide), ?_⟩
    · rw [zA_1, zA_1, zA_1, zA_1, h4, Int32.sub_add_cancel]
    · intro e k he hk
      have hee : e = ne := by omega
      have hk0 : k = 0 := by omega
      subst hee
      subst hk0
      simp only [zA_1, zA_2, h4, hni, bP, bC, bL]
      refine ⟨?_, ?_, ?_, ?_⟩
      · simp [pk_us]; rfl
      · simp [pk_us]; rfl
      · simp [pk_us]; rfl
      · simp [pk_us]; rfl
  · intro n x1 v hI
    obtain ⟨j, hxj, hj, hn, hk, hb⟩ := hI
    have v3 : v.2 3 = zN ha := (hk.2 3 (by decide)).trans h3
    have v2 : v.2 2 = zN pc := (hk.2 2 (by decide)).trans h2
    have v0 : v.2 0 = zN lo := (hk.2 0 (by decide)).trans h0
    have v1 : v.2 1 = zN hi := (hk.2 1 (by decide)).trans h1
    have hx1 : x1 = nI j - 1 := by rw [← hxj, Int32.add_sub_cancel]
    unfold wp_X1_setBounds_51
    rcases Nat.eq_zero_or_pos j with hj0 | hj0
    · subst hj0
      refine ⟨fun _ => hQ v hk (fun e k he => hb e k (by omega) he), fun h => absurd (by rw [hx1]; decide) h⟩
    · obtain ⟨i, rfl⟩ : ∃ i, j = i + 1 := ⟨j - 1, by omega⟩
      have hxi : x1 = nI i := by rw [hx1, nI_pred]
      subst hxi
      obtain ⟨k, hik⟩ : ∃ k, i + 1 + k = ne := ⟨ne - (i + 1), by omega⟩
      obtain ⟨a1, a2, a3, a4⟩ := hb (i + 1) k (by omega) hik
      have hii : (nI i).toNatClampNeg = i := nI_clamp (by omega)
      have hi1 : (nI i + 1).toNatClampNeg = i + 1 := by rw [nI_1]; exact nI_clamp (by omega)
      have g1 : vp_in (nI i + 1) 7 := by rw [nI_1]; exact vp_in_nI (by omega) (by omega)
      have g2 : vp_in (nI i) 6 := vp_in_nI (by omega) (by omega)
      have g3 : vp_in (nI i) 7 := vp_in_nI (by omega) (by omega)
      have hxi := hx i
      have c1 := bC_le pc k (i + 1)
      have c2 := bL_le (fun i => (hx i).1) k (i + 1)
      have c3 := bC_le hi k (i + 1)
      refine ⟨fun h => absurd h (by rw [show (0 : Int32) = nI 0 from rfl, nI_ltI (by omega) (by omega)]; omega), fun _ => ⟨g1, g2, g3, ?_⟩⟩
      rintro _ rfl
      refine ⟨g1, g2, g3, ?_⟩
      rintro _ rfl
      refine ⟨g1, g2, g3, ?_⟩
      rintro _ rfl
      refine ⟨g1, g2, g3, ?_⟩
      rintro _ rfl _ rfl
      refine ⟨i, by omega, i, ?_, by omega, rfl, (((hk.a (by decide)).a (by decide)).a (by decide)).a (by decide), ?_⟩
      · rw [show nI i + (-1) + 1 = nI i + ((-1) + 1) from Int32.add_assoc _ _ _, show ((-1 : Int32) + 1) = 0 from rfl, Int32.add_zero]
      · intro e k' he hek
        rw [hii, hi1]
        by_cases hei : e = i
        · subst hei
          obtain rfl : k' = k + 1 := by omega
          have s2 : (zA v 12 (upd (v.2 12) e (v.2 12 (e + 1) + v.2 3 e))).2 13 = v.2 13 := rfl
          refine ⟨?_, ?_, ?_, ?_⟩
          · show upd (v.2 12) e (v.2 12 (e + 1) + v.2 3 e) e = _
            rw [pk_us, a1, v3, zN_at, nI_add, bP]
          · show upd (v.2 13) e (if v.2 2 e < v.2 13 (e + 1) then v.2 2 e else v.2 13 (e + 1)) e = _
            rw [pk_us, a2, v2, zN_at, bC]
            by_cases hh : pc e < bC pc k (e + 1)
            · rw [if_pos hh, if_pos ((nI_ltI (by omega) (by omega)).mpr hh)]
            · rw [if_neg hh, if_neg (fun q => hh ((nI_ltI (by omega) (by omega)).mp q))]
          · show upd (v.2 14) e (if v.2 14 (e + 1) < v.2 0 e then v.2 0 e else v.2 14 (e + 1)) e = _
            rw [pk_us, a3, v0, zN_at, bL]
            by_cases hh : bL lo k (e + 1) < lo e
            · rw [if_pos hh, if_pos ((nI_ltI (by omega) (by omega)).mpr hh)]
            · rw [if_neg hh, if_neg (fun q => hh ((nI_ltI (by omega) (by omega)).mp q))]
          · show upd (v.2 15) e (if v.2 1 e < v.2 15 (e + 1) then v.2 1 e else v.2 15 (e + 1)) e = _
            rw [pk_us, a4, v1, zN_at, bC]
            by_cases hh : hi e < bC hi k (e + 1)
            · rw [if_pos hh, if_pos ((nI_ltI (by omega) (by omega)).mpr hh)]
            · rw [if_neg hh, if_neg (fun q => hh ((nI_ltI (by omega) (by omega)).mp q))]
        · obtain ⟨d1, d2, d3, d4⟩ := hb e k' (by omega) hek
          refine ⟨?_, ?_, ?_, ?_⟩
          · show upd (v.2 12) i _ e = _
            rw [pk_un hei]; exact d1
          · show upd (v.2 13) i _ e = _
            rw [pk_un hei]; exact d2
          · show upd (v.2 14) i _ e = _
            rw [pk_un hei]; exact d3
          · show upd (v.2 15) i _ e = _
            rw [pk_un hei]; exact d4
/-- the class's search from its start; the answer is that of b_go -/
theorem b_seek {ne A B : Nat} {lo hi pc ha : Nat → Nat} (hx : bX lo hi pc ha) (hne : ne ≤ 6) (hA : A ≤ 1000) (hB : B ≤ 1000) {u : zSt} {Q : zSt → Prop} (h4 : u.1 4 = nI ne) (h0 : u.2 0 = zN lo) (h1 : u.2 1 = zN hi) (h2 : u.2 2 = zN pc) (h3 : u.2 3 = zN ha)
    (hQ : ∀ v, v.1 4 = nI ne → v.2 0 = zN lo → v.2 1 = zN hi → v.2 2 = zN pc → v.2 3 = zN ha → bB ne 6 7 8 5 v (b_go lo hi pc ha A B ne 0 10 0 0 0 (fun _ => 0) (false, 0, 0, 0, fun _ => 0)) → bOk ne ha (b_go lo hi pc ha A B ne 0 10 0 0 0 (fun _ => 0) (false, 0, 0, 0, fun _ => 0)) → Q v) : TX1_seek Q (nI A) (nI B) u := by
  unfold TX1_seek wp_X1_seek_0
  rintro _ rfl _ rfl _ rfl
  refine b_bounds hx hne h4 h0 h1 h2 h3 (fun v hk hbd => ?_)
  have w4 : v.1 4 = nI ne := (hk.1 4 (by decide)).trans h4
  have w10 : v.1 10 = nI (10 * A) := (hk.1 10 (by decide)).trans (by show nI A * 10 = _; rw [show (10 : Int32) = nI 10 from rfl, pk_mul, Nat.mul_comm])
  have w11 : v.1 11 = nI (10 * B) := (hk.1 11 (by decide)).trans (by show nI B * 10 = _; rw [show (10 : Int32) = nI 10 from rfl, pk_mul, Nat.mul_comm])
  have w6 : v.1 6 = -1 := (hk.1 6 (by decide)).trans rfl
  have hv : cU ne A B lo hi pc ha v := ⟨w4, (hk.2 0 (by decide)).trans h0, (hk.2 1 (by decide)).trans h1, (hk.2 2 (by decide)).trans h2, (hk.2 3 (by decide)).trans h3, w10, w11, hbd⟩
  show TRX1_choose 8 _ (0 : Int32) (10 : Int32) (0 : Int32) (0 : Int32) (0 : Int32) v
  rw [show (0 : Int32) = nI 0 from rfl, show (10 : Int32) = nI 10 from rfl]
  refine b_choose hx hne hA hB ne 8 0 10 0 0 0 (fun _ => 0) (false, 0, 0, 0, fun _ => 0) v _ (by omega) (by omega) (by omega) (by omega) (by omega) (by omega) (fun i hi => absurd hi (by omega)) hv ⟨fun _ => w6, fun h => by cases h⟩ (fun h => by cases h) (fun i hi => absurd hi (by omega)) (fun w hkw hbw hokw _ => ?_)
  have hw := hv.keep hkw
  exact hQ w hw.1 hw.2.1 hw.2.2.1 hw.2.2.2.1 hw.2.2.2.2.1 hbw hokw
theorem b_blends {ne A B : Nat} {lo hi pc ha : Nat → Nat} (hx : bX lo hi pc ha) (hne : ne ≤ 6) (hA : A ≤ 1000) (hB : B ≤ 1000) {u : zSt} {Q : Int32 → zSt → Prop} (hu : mU ne lo hi pc ha u)
    (hQ : ∀ v, zKeep [9, 10, 11] [7, 8] u v → bB ne 9 10 11 8 v (b_go lo hi pc ha A B ne 0 10 0 0 0 (fun _ => 0) (false, 0, 0, 0, fun _ => 0)) → bOk ne ha (b_go lo hi pc ha A B ne 0 10 0 0 0 (fun _ => 0) (false, 0, 0, 0, fun _ => 0)) → Q (v.1 9) v) : TX7_blends Q (nI A) (nI B) u := by
  unfold TX7_blends wp_X7_blends_0
  rintro _ rfl
  show TRX7_goes 8 _ (0 : Int32) (10 : Int32) (0 : Int32) (0 : Int32) (0 : Int32) (nI A) (nI B) _
  rw [show (0 : Int32) = nI 0 from rfl, show (10 : Int32) = nI 10 from rfl]
  refine b_goes hx hne hA hB ne 8 0 10 0 0 0 (fun _ => 0) (false, 0, 0, 0, fun _ => 0) _ _ (by omega) (by omega) (by omega) (by omega) (by omega) (by omega) (fun i hi => absurd hi (by omega)) hu ⟨fun _ => rfl, fun h => by cases h⟩ (fun h => by cases h) (fun i hi => absurd hi (by omega)) (fun w hkw hbw hokw _ => ?_)
  exact hQ w ((zKeep.rf.i (by decide)).tr hkw) hbw hokw
