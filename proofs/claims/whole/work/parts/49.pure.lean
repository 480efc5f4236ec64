/-! the two sides' numbers, all of them -/
theorem rAll_0 : rAll in1 in2 in3 in4 in5 in7 := by
  refine ⟨⟨0, fun _ => 0, fun _ => 0, fun _ => 0, fun _ => 0, by omega, fun i => ⟨Nat.zero_le _, Nat.zero_le _, Nat.zero_le _, Nat.zero_le _⟩, rfl, rfl, rfl, rfl, rfl, rfl, rfl, rfl, rfl, rfl⟩, ?_, ?_, ?_, ?_⟩
  · exact ⟨0, 0, fun _ => 0, by omega, by omega, fun _ => Nat.zero_lt_one, rfl, rfl, rfl, rfl, rfl, rfl, rfl, rfl, rfl, rfl, rfl, rfl⟩
  · exact ⟨0, 0, 0, fun _ => 0, by omega, by omega, by omega, rfl, rfl, rfl, rfl, rfl, rfl, rfl, fun t h => absurd h (by omega), rfl, fun _ => Or.inl rfl, rfl, rfl, fun t h => absurd h (by omega)⟩
  · exact ⟨0, fun _ => 0, fun _ => 0, fun _ => 0, fun _ => 0, fun _ => 0, by omega, fun _ => Nat.zero_le _, rfl, rfl, rfl, rfl, rfl, rfl, rfl, rfl, fun _ => ⟨Nat.zero_le _, Nat.zero_le _, Nat.zero_le _⟩, fun i h => absurd h (by omega), fun i j _ h => absurd h (by omega), fun i h => absurd h (by omega)⟩
  · exact ⟨0, fun _ => 0, fun _ => 0, by omega, fun _ => Nat.zero_le _, fun _ _ => rfl, fun _ => Nat.zero_lt_succ 5, rfl, rfl, rfl, Or.inl rfl, rfl, fun _ _ => rfl, fun _ _ _ => rfl, rfl, fun _ _ => rfl, fun _ _ => rfl⟩
theorem z_off (k : Nat) (c : Nat) {x : Int32} (hx : x = nI c) : nI k + x = nI (k + c) := by rw [hx, nI_add]
set_option maxHeartbeats 4000000 in
theorem z_pure {L : Nat} {xs : Nat → Int32} (hL : L ≤ 2560) : zPure L xs := by
  refine ⟨fun n x4 cs sl u0 u1 u2 u3 u4 u5 u7 u8 => ∃ k : Nat, k ≤ 512 ∧ n = 512 - k ∧ x4 = nI (5 * k) ∧ cs ≤ 66 + k ∧ sl ≤ 10659 + 6 * k ∧ rAll u1 u2 u3 u4 u5 u7, ⟨512 - 0, 0, by omega, rfl, rfl, by omega, by omega, rAll_0⟩, ?_⟩
  rintro n _ cs sl u0 u1 u2 u3 u4 u5 u7 u8 ⟨k, hk, hn, rfl, hcs, hsl, hR⟩
  have hd : (nI L - 5).toInt = (L : Int) - 5 := by
    rw [show (5 : Int32) = nI 5 from rfl, pk_sub_toInt (by omega) (by omega)]
    rfl
  have hx : (nI (5 * k)).toInt = ((5 * k : Nat) : Int) := nI_toInt (by omega)
  unfold wp_L_law_23
  refine ⟨⟨by omega, by omega⟩, fun _ => ⟨by omega, by omega⟩, fun h => ?_⟩
  have hlt : 5 * k + 5 ≤ L := by
    have h2 : ¬ (nI L - 5).toInt < (nI (5 * k)).toInt := fun q => h ((fa_lt _ _).mpr q)
    rw [hd, hx] at h2
    omega
  refine ⟨vp_in_nI (by omega) (by omega), ?_⟩
  have hb : cs + 1 ≤ 601024 ∧ sl + 6 ≤ 7293034 := ⟨by omega, by omega⟩
  have hb3 : cs + 3 ≤ 601024 ∧ sl + 18 ≤ 7293034 := ⟨by omega, by omega⟩
  have hi : vp_in (nI (5 * k) + 1) L ∧ vp_in (nI (5 * k) + 2) L ∧ vp_in (nI (5 * k) + 3) L ∧ vp_in (nI (5 * k) + 4) L := by
    rw [z_off (5 * k) 1 (x := (1 : Int32)) rfl, z_off (5 * k) 2 (x := (2 : Int32)) rfl, z_off (5 * k) 3 (x := (3 : Int32)) rfl, z_off (5 * k) 4 (x := (4 : Int32)) rfl]
    exact ⟨vp_in_nI (by omega) (by omega), vp_in_nI (by omega) (by omega), vp_in_nI (by omega) (by omega), vp_in_nI (by omega) (by omega)⟩
  have hJ : ∀ (cs' sl' : Nat) (v0 v1 v2 v3 v4 v5 v7 : zSt) (v8 : Nat → Int64), cs' ≤ cs + 1 → sl' ≤ sl + 6 → rAll v1 v2 v3 v4 v5 v7 → ∃ k' : Nat, k' < n ∧ ∃ j : Nat, j ≤ 512 ∧ k' = 512 - j ∧ nI (5 * k) + 5 = nI (5 * j) ∧ cs' ≤ 66 + j ∧ sl' ≤ 10659 + 6 * j ∧ rAll v1 v2 v3 v4 v5 v7 := fun cs' sl' v0 v1 v2 v3 v4 v5 v7 v8 h1 h2 h3 => ⟨512 - (k + 1), by omega, k + 1, by omega, rfl, z_off (5 * k) 5 rfl, by omega, by omega, h3⟩
  rintro t rfl
  refine ⟨fun _ => cs_136 hb hi hR hJ, fun _ => ⟨fun _ => cs_228 hb hi hR hJ, fun _ => ⟨fun _ => cs_296 hb hi hR hJ, fun _ => ⟨fun _ => cs_364 hb hi hR hJ, fun _ => ⟨fun _ => cs_444 hb hi hR hJ, fun _ => ⟨fun _ => cs_512 hb hi hR hJ, fun _ => ⟨fun _ => cs_580 hb hi hR hJ, fun _ => ⟨fun _ => cs_672 hb hi hR hJ, fun _ => ⟨fun _ => cs_740 hb3 hi hR hJ, fun _ => ⟨fun _ => cs_824 hb3 hi hR hJ, fun _ => ⟨fun _ => cs_887 hb hi hR hJ, fun _ => ⟨fun _ => cs_943 hb hi hR hJ, fun _ => ⟨fun _ => cs_1011 hb hi hR hJ, fun _ => ⟨fun _ => cs_1079 hb hi hR hJ, fun _ => ⟨fun _ => cs_1159 hb hi hR hJ, fun _ => ⟨fun _ => cs_1172 hb hi hR hJ, fun _ => ⟨fun _ => cs_1185 hb hi hR hJ, fun _ => ⟨fun _ => cs_1245 hb hi hR hJ, fun _ => ⟨fun _ => cs_1301 hb hi hR hJ, fun _ => ⟨fun _ => cs_1337 hb hi hR hJ, fun _ => ⟨fun _ => cs_1350 hb hi hR hJ, fun _ => ?_⟩⟩⟩⟩⟩⟩⟩⟩⟩⟩⟩⟩⟩⟩⟩⟩⟩⟩⟩⟩⟩
  rintro _ rfl
  exact hJ _ _ u0 _ _ _ _ _ _ u8 (by omega) (by omega) hR
