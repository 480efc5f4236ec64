/-! the class's search for the fewest lots -/
section ZJ
variable {A nk : Nat} {su : Nat → Nat} {E : Nat → Bool}
/-- the explaining sets that hold B and avoid C -/
def fF (E : Nat → Bool) (B C S : Nat) : Bool := E S && (sb B S && ((C &&& S) == 0))
theorem fF_iff {B C S : Nat} : fF E B C S = true ↔ E S = true ∧ (∀ i, B.testBit i = true → S.testBit i = true) ∧ (∀ i, C.testBit i = true → S.testBit i = false) := by
  unfold fF
  rw [Bool.and_eq_true, Bool.and_eq_true, sb_iff, beq_iff_eq, and0_iff]
def xOk (A nk : Nat) (su : Nat → Nat) (E : Nat → Bool) : Prop := A < 4096 ∧ nk ≤ 60 ∧ (∀ i, i < nk → su i < 4096 ∧ sb (su i) A = true) ∧ (∀ S, S < 4096 → E S = true → ∀ i, i < nk → ¬ su i &&& S = 0) ∧ (∀ S, S < 4096 → sb S A = true → (∀ i, i < nk → ¬ su i &&& S = 0) → E S = true)
def xU (nk : Nat) (su : Nat → Nat) (u : zSt) : Prop := u.1 4 = nI nk ∧ ∀ i, i < nk → u.2 3 i = nI (su i)
def xSt (u : zSt) (P : Nat → Bool) : Prop := stR (u.1 0) (u.1 1) (u.1 2) P
theorem c_first {B : Nat} {u : zSt} {QM : Int32 → zSt → Prop} (hx : xOk A nk su E) (hu : xU nk su u) (h1 : (∀ i, i < nk → ¬ su i &&& B = 0) → QM (-1) u) (h2 : ∀ i, i < nk → su i &&& B = 0 → QM (nI (su i)) u) (hB : B < 4096) : TX0_firstUnexplained QM (nI B) u := by
  have hk := hx.2.1
  refine ⟨fun n x1 x2 v => ∃ j : Nat, j ≤ nk ∧ n = nk - j ∧ x1 = nI B ∧ x2 = nI j ∧ v = u ∧ ∀ i, i < j → ¬ su i &&& B = 0, ?_, ?_⟩
  · unfold wp_X0_firstUnexplained_0
    rintro _ rfl
    exact ⟨_, 0, by omega, rfl, rfl, rfl, rfl, fun i hi => absurd hi (by omega)⟩
  · rintro n _ _ v ⟨j, hj, hn, rfl, rfl, rfl, ha⟩
    unfold wp_X0_firstUnexplained_2
    rw [hu.1]
    refine pk_le nk j (fun h => ?_) (fun h => ⟨vp_in_nI (by omega) (by omega), ?_⟩)
    · have : j = nk := by omega
      subst this
      exact h1 ha
    · rw [nI_clamp (by omega), hu.2 j h, fa_and]
      have hs := (hx.2.2.1 j h).1
      have hle : su j &&& B ≤ su j := Nat.and_le_left
      refine pk_eq (su j &&& B) 0 (fun e => ⟨vp_in_nI (by omega) (by omega), h2 j h e⟩) (fun e => ?_)
      rintro _ rfl
      refine ⟨nk - (j + 1), by omega, j + 1, by omega, rfl, rfl, nI_1 j, rfl, fun i hi => ?_⟩
      by_cases c : i = j
      · subst c; exact e
      · exact ha i (by omega)
theorem c_keep {B : Nat} {u : zSt} {Q : zSt → Prop} {P F : Nat → Bool} (hB : B < 4096) (hst : xSt u P) (hFB : F B = true) (hF : ∀ S, S < 4096 → F S = true → S ≠ B → pz B < pz S) (hd : ∀ S, S < 4096 → P S = true → F S = false)
    (hQ : ∀ v, zKeep [0, 1, 2] [] u v → xSt v (fun S => P S || F S) → Q v) : TX0_keep Q (nI B) (nI (pz B)) u := by
  have hp := pz_le B
  unfold TX0_keep wp_X0_keep_0
  have new : (u.1 0 = -1 ∨ ∃ n : Nat, n ≤ 12 ∧ u.1 0 = nI n ∧ pz B < n) → wp_X0_keep_16 Q (nI B) (nI (pz B)) u := by
    intro h
    unfold wp_X0_keep_16
    rintro _ rfl _ rfl _ rfl
    exact hQ _ (((zKeep.rf.i (by decide)).i (by decide)).i (by decide)) (stR.new hst hB hFB hF h)
  refine ⟨fun h => new (Or.inl h), fun h => ?_⟩
  obtain ⟨n, hn, e⟩ : ∃ n : Nat, n ≤ 12 ∧ u.1 0 = nI n := by
    rcases hst with ⟨h1, _⟩ | ⟨n, T, h1, h2, h3, _⟩
    · exact absurd h1 h
    · exact ⟨n, h1, h3⟩
  rw [e]
  refine pk_le n (pz B) (fun h1 => pk_eq (pz B) n (fun h2 => ?_) (fun h2 => ?_)) (fun h1 => new (Or.inr ⟨n, hn, e, h1⟩))
  · rintro _ rfl _ rfl
    refine hQ _ ((zKeep.rf.i (by decide)).i (by decide)) ?_
    have := stR.eq hst hB hFB hF hd (by rw [h2]; exact e)
    exact this
  · refine hQ u zKeep.rf (stR.skip hst (fun S hS q => ⟨n, hn, e, ?_⟩))
    by_cases c : S = B
    · subst c; omega
    · have := hF S hS q c; omega
/-- of those of F(B, C): those that meet O outside C below l -/
def gG (E : Nat → Bool) (O B C l S : Nat) : Bool := fF E B C S && zEx (fun i => O.testBit i && (!C.testBit i && S.testBit i)) l
set_option maxHeartbeats 4000000 in
theorem c_blame (hx : xOk A nk su E) : ∀ (d B C : Nat) (P : Nat → Bool) (u : zSt) (Q : zSt → Prop), 13 ≤ d + pz B → B < 4096 → C < 4096 → sb B A = true → B &&& C = 0 → xU nk su u → xSt u P → (∀ S, S < 4096 → P S = true → fF E B C S = false) →
    (∀ v, zKeep [0, 1, 2] [] u v → xSt v (fun S => P S || fF E B C S) → Q v) → TRX0_blameMore d Q (nI B) (nI C) (nI (pz B)) u := by
  intro d
  induction d with
  | zero =>
    intro B C P u Q h
    have := pz_le B
    omega
  | succ d ih =>
    intro B C P u Q hd hB hC hBA hBC hu hst hdis hQ
    have hpB := pz_le B
    obtain ⟨xA, xk, xs, xE1, xE2⟩ := id hx
    show wp_X0_blameMore_0 _ _ _ _ _ _
    unfold wp_X0_blameMore_0
    refine c_first hx hu (fun hall => ?_) (fun i hi hop => ?_) hB
    · rintro _ rfl
      refine ⟨fun _ => c_keep hB hst (fF_iff.mpr ⟨xE2 B hB hBA hall, fun _ q => q, fun k hk => ?_⟩) (fun S hS q c => pz_lt hS (fF_iff.mp q).2.1 c) hdis hQ, fun q => absurd rfl q⟩
      rcases e : B.testBit k with _ | _
      · rfl
      · rw [(and0_iff B C).mp hBC k e] at hk; cases hk
    · have hsu := xs i hi
      generalize hO : su i = O at hop hsu
      have meetO : ∀ S, S < 4096 → E S = true → ¬ O &&& S = 0 := fun S hS q => by rw [← hO]; exact xE1 S hS q i hi
      have neB : ∀ S, S < 4096 → fF E B C S = true → pz B < pz S := fun S hS q => by
        have q' := fF_iff.mp q
        refine pz_lt hS q'.2.1 (fun c => ?_)
        rw [c] at q'
        exact meetO B hB q'.1 hop
      rintro _ rfl
      refine ⟨fun q => absurd q (b_neg1 (by omega)), fun _ => ?_⟩
      refine pk_le 12 (pz B) (fun h => ?_) (fun h12 => ?_)
      · refine hQ u zKeep.rf (stR.cong hst (fun S hS => ?_))
        rcases q : fF E B C S with _ | _
        · simp
        · have := neB S hS q
          have := pz_le S
          omega
      have go : wp_X0_blameMore_44 (TPX0_blameEach (TRX0_blameMore d)) Q (nI B) (nI C) (nI (pz B)) (nI O) u := by
        unfold wp_X0_blameMore_44
        refine ⟨fun n x1 x2 x4 x5 x6 v => ∃ l X : Nat, l ≤ 12 ∧ n = 12 - l ∧ x1 = nI O ∧ x2 = nI B ∧ x4 = nI (pz B) ∧ x5 = nI X ∧ x6 = nI l ∧ X < 4096 ∧ (∀ k, X.testBit k = (C.testBit k || (decide (k < l) && O.testBit k))) ∧ zKeep [0, 1, 2] [] u v ∧ xSt v (fun S => P S || gG E O B C l S), ?_, ?_⟩
        · unfold wp_X0_blameEach_0
          rintro _ rfl _ rfl
          refine ⟨_, 0, C, by omega, rfl, rfl, rfl, rfl, rfl, rfl, hC, fun k => by simp, zKeep.rf, stR.cong hst (fun S hS => by simp [gG, zEx])⟩
        · rintro n _ _ _ _ _ v ⟨l, X, hl, hn, rfl, rfl, rfl, rfl, rfl, hX, hXb, hk, hs⟩
          unfold wp_X0_blameEach_6
          refine pk_le 12 l (fun h => ?_) (fun h => ?_)
          · have : l = 12 := by omega
            subst this
            refine hQ v hk (stR.cong hs (fun S hS => ?_))
            rcases q : fF E B C S with _ | _
            · simp [gG, q]
            · have q' := fF_iff.mp q
              obtain ⟨k, k1, k2⟩ := (meet_iff O S).mp (meetO S hS q'.1)
              have : zEx (fun i => O.testBit i && (!C.testBit i && S.testBit i)) 12 = true := by
                refine (zEx_iff _ _).mpr ⟨k, bit_lt hS k2, ?_⟩
                rcases e : C.testBit k with _ | _
                · simp [k1, k2, e]
                · rw [q'.2.2 k e] at k2; cases k2
              simp [gG, q, this]
          · rw [z_bit l h, nt_I, fa_and]
            rintro _ rfl
            rw [fa_bit (by omega), Nat.testBit_and, nt_bit X l (by omega), hXb l, fa_or X (2 ^ l), fa_or B (2 ^ l), nI_1 (pz B)]
            have hdl : decide (l < l) = false := decide_eq_false (Nat.lt_irrefl l)
            rw [hdl, Bool.false_and, Bool.or_false]
            have next : (O.testBit l && !C.testBit l) = false → ∀ S, S < 4096 → (P S || gG E O B C l S) = (P S || gG E O B C (l + 1) S) := by
              intro q S hS
              congr 1
              unfold gG
              rw [zEx]
              rcases e1 : O.testBit l with _ | _
              · simp
              · rw [e1] at q
                rcases e2 : C.testBit l with _ | _
                · rw [e2] at q; cases q
                · simp
            refine ⟨fun q => ?_, fun q => ?_⟩
            · rintro _ rfl
              refine ⟨12 - (l + 1), by omega, l + 1, X, by omega, rfl, rfl, rfl, rfl, rfl, nI_1 l, hX, fun k => ?_, hk, stR.cong hs (next q)⟩
              rw [hXb k]
              by_cases c : k = l
              · subst c
                rcases e1 : O.testBit k with _ | _
                · simp
                · rw [e1] at q
                  rcases e2 : C.testBit k with _ | _
                  · rw [e2] at q; cases q
                  · simp
              · by_cases c2 : k < l
                · rw [decide_eq_true c2, decide_eq_true (by omega)]
                · rw [decide_eq_false c2, decide_eq_false (by omega)]
            · have qt : O.testBit l = true ∧ C.testBit l = false := by
                rcases e1 : O.testBit l with _ | _
                · rw [e1] at q; exact absurd rfl q
                · rcases e2 : C.testBit l with _ | _
                  · exact ⟨rfl, rfl⟩
                  · rw [e1, e2] at q; exact absurd rfl q
              have hBl : B.testBit l = false := by
                exact (and0_iff O B).mp hop l qt.1
              have hp2 : (2 : Nat) ^ l < 4096 := show 2 ^ l < 2 ^ 12 from Nat.pow_lt_pow_right (by decide) h
              rw [← pz_add h hBl]
              have hsub : ∀ S, fF E (B ||| 2 ^ l) X S = true → fF E B C S = true ∧ S.testBit l = true ∧ ∀ k, k < l → O.testBit k = true → S.testBit k = false := by
                intro S q3
                obtain ⟨a1, a2, a3⟩ := fF_iff.mp q3
                refine ⟨fF_iff.mpr ⟨a1, fun k hk2 => a2 k (by rw [fb_bit_set, hk2]; rfl), fun k hk2 => a3 k (by rw [hXb k, hk2]; rfl)⟩, a2 l (by rw [fb_bit_set]; simp), fun k h1 h2 => a3 k (by rw [hXb k, h2, decide_eq_true h1]; simp)⟩
              refine ih (B ||| 2 ^ l) X (fun S => P S || gG E O B C l S) v _ (by rw [pz_add h hBl]; omega) (Nat.or_lt_two_pow (n := 12) hB hp2) hX ?_ ?_ ⟨(hk.1 4 (by decide)).trans hu.1, fun k h2 => by rw [hk.2 3 (by decide)]; exact hu.2 k h2⟩ hs (fun S hS q3 => ?_) (fun w hkw hsw => ?_)
              · rw [sb_iff] at hBA ⊢
                intro k hk2
                rw [fb_bit_set] at hk2
                by_cases c : k = l
                · rw [c]; exact (sb_iff O A).mp hsu.2 l qt.1
                · exact hBA k (by simpa [c] using hk2)
              · rw [and0_iff]
                intro k hk2
                rw [fb_bit_set] at hk2
                rw [hXb k]
                by_cases c : k = l
                · rw [c, hdl, qt.2]; rfl
                · have hk3 : B.testBit k = true := by simpa [c] using hk2
                  rw [(and0_iff B C).mp hBC k hk3]
                  have : O.testBit k = false := by
                    rcases e : O.testBit k with _ | _
                    · rfl
                    · rw [(and0_iff O B).mp hop k e] at hk3; cases hk3
                  rw [this]; simp
              · rcases q4 : fF E (B ||| 2 ^ l) X S with _ | _
                · rfl
                · obtain ⟨b1, b2, b3⟩ := hsub S q4
                  rcases e : P S with _ | _
                  · simp only [e, Bool.false_or] at q3
                    unfold gG at q3
                    rw [Bool.and_eq_true, zEx_iff] at q3
                    obtain ⟨-, k, k1, k2⟩ := q3
                    simp only [Bool.and_eq_true] at k2
                    rw [b3 k k1 k2.1] at k2
                    cases k2.2.2
                  · rw [hdis S hS e] at b1; cases b1
              · rintro _ rfl _ rfl
                refine ⟨12 - (l + 1), by omega, l + 1, X ||| 2 ^ l, by omega, rfl, rfl, rfl, rfl, rfl, nI_1 l, Nat.or_lt_two_pow (n := 12) hX hp2, fun k => ?_, hk.tr hkw, stR.cong hsw (fun S hS => ?_)⟩
                · rw [fb_bit_set, hXb k]
                  by_cases c : k = l
                  · subst c; rw [qt.1]; simp
                  · by_cases c2 : k < l
                    · rw [decide_eq_true c2, decide_eq_true (show k < l + 1 by omega), decide_eq_false c]; simp
                    · rw [decide_eq_false c2, decide_eq_false (show ¬ k < l + 1 by omega), decide_eq_false c]; simp
                · show ((P S || gG E O B C l S) || fF E (B ||| 2 ^ l) X S) = (P S || gG E O B C (l + 1) S)
                  rw [Bool.or_assoc]
                  congr 1
                  rcases e0 : fF E B C S with _ | _
                  · have : fF E (B ||| 2 ^ l) X S = false := by
                      rcases q4 : fF E (B ||| 2 ^ l) X S with _ | _
                      · rfl
                      · rw [(hsub S q4).1] at e0; cases e0
                    simp [gG, e0, this]
                  · obtain ⟨a1, a2, a3⟩ := fF_iff.mp e0
                    unfold gG
                    rw [e0, zEx, qt.1, qt.2]
                    simp only [Bool.true_and, Bool.not_false]
                    rcases e1 : zEx (fun i => O.testBit i && (!C.testBit i && S.testBit i)) l with _ | _
                    · rw [Bool.false_or, Bool.false_or]
                      rcases e2 : S.testBit l with _ | _
                      · rcases q4 : fF E (B ||| 2 ^ l) X S with _ | _
                        · rfl
                        · rw [(hsub S q4).2.1] at e2; cases e2
                      · refine fF_iff.mpr ⟨a1, fun k hk2 => ?_, fun k hk2 => ?_⟩
                        · rw [fb_bit_set] at hk2
                          by_cases c : k = l
                          · rw [c]; exact e2
                          · exact a2 k (by simpa [c] using hk2)
                        · rw [hXb k] at hk2
                          rcases e3 : C.testBit k with _ | _
                          · rw [e3, Bool.false_or, Bool.and_eq_true, decide_eq_true_iff] at hk2
                            rcases e4 : S.testBit k with _ | _
                            · rfl
                            · have : zEx (fun i => O.testBit i && (!C.testBit i && S.testBit i)) l = true := (zEx_iff _ _).mpr ⟨k, hk2.1, by simp [hk2.2, e3, e4]⟩
                              rw [this] at e1; cases e1
                          · exact a3 k e3
                    · rw [Bool.true_or, Bool.true_or]
      refine ⟨fun _ => go, fun hne => ?_⟩
      obtain ⟨n, hn, e⟩ : ∃ n : Nat, n ≤ 12 ∧ u.1 0 = nI n := by
        rcases hst with ⟨h1, _⟩ | ⟨n, T, h1, h2, h3, _⟩
        · exact absurd h1 hne
        · exact ⟨n, h1, h3⟩
      rw [e]
      refine pk_le n (pz B) (fun h => ?_) (fun _ => go)
      exact hQ u zKeep.rf (stR.skip hst (fun S hS q => ⟨n, hn, e, by have := neB S hS q; omega⟩))
end ZJ
