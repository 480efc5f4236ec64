/-! explain, both sides, and its case -/
theorem bit_lt' {S n i : Nat} (hS : S < 2 ^ n) (h : S.testBit i = true) : i < n := by
  refine Classical.byContradiction (fun q => ?_)
  have : S < 2 ^ i := Nat.lt_of_lt_of_le hS (Nat.pow_le_pow_right (by decide) (by omega))
  rw [Nat.testBit_lt_two_pow this] at h
  cases h
def gO (h : Nat → Bool) (mk : Nat → Nat) : Nat → Nat
  | 0 => 0
  | b + 1 => if h b then gO h mk b ||| mk b else gO h mk b
theorem gO_bit (h : Nat → Bool) (mk : Nat → Nat) (i : Nat) : ∀ n, (gO h mk n).testBit i = zEx (fun b => h b && (mk b).testBit i) n
  | 0 => by simp [gO, zEx]
  | n + 1 => by
    rw [gO, zEx, ← gO_bit h mk i n]
    rcases e : h n with _ | _
    · simp
    · rw [if_pos rfl, Nat.testBit_or, Bool.true_and]
theorem gO_lt {h : Nat → Bool} {mk : Nat → Nat} (hm : ∀ b, mk b < 4096) : ∀ n, gO h mk n < 4096
  | 0 => by simp [gO]
  | n + 1 => by
    rw [gO]
    split
    · exact Nat.or_lt_two_pow (n := 12) (gO_lt hm n) (hm n)
    · exact gO_lt hm n
def fr (h : Nat → Bool) (mk : Nat → Nat) (nl : Nat) : Nat → Nat
  | 0 => 2 ^ nl - 1
  | b + 1 => if h b then sN (fr h mk nl b) (mk b) else fr h mk nl b
theorem fr_lt {h : Nat → Bool} {mk : Nat → Nat} {nl : Nat} : ∀ n, fr h mk nl n < 2 ^ nl
  | 0 => by rw [fr]; have := Nat.two_pow_pos nl; omega
  | n + 1 => by
    rw [fr]
    split
    · exact Nat.lt_of_le_of_lt Nat.and_le_left (fr_lt n)
    · exact fr_lt n
theorem p12 {nl : Nat} (h : nl ≤ 12) : 2 ^ nl ≤ 4096 := show 2 ^ nl ≤ 2 ^ 12 from Nat.pow_le_pow_right (by decide) h
theorem fr_bit {h : Nat → Bool} {mk : Nat → Nat} {nl : Nat} (hl : nl ≤ 12) (i : Nat) : ∀ n, (fr h mk nl n).testBit i = (decide (i < nl) && !zEx (fun b => h b && (mk b).testBit i) n)
  | 0 => by simp [fr, zEx]
  | n + 1 => by
    have hlt : fr h mk nl n < 4096 := Nat.lt_of_lt_of_le (fr_lt n) (p12 hl)
    rw [fr, zEx]
    rcases e : h n with _ | _
    · simp only [Bool.false_and, Bool.or_false]
      exact fr_bit hl i n
    · rw [if_pos rfl, sN_bit hlt, fr_bit hl i n, Bool.true_and]
      cases decide (i < nl) <;> cases zEx (fun b => h b && (mk b).testBit i) n <;> cases (mk n).testBit i <;> rfl
theorem sN_0 {S A : Nat} (hS : S < 4096) : sN S A = 0 ↔ sb S A = true := by
  rw [sb_iff]
  constructor
  · intro h i hi
    have : (sN S A).testBit i = false := by rw [h]; exact Nat.zero_testBit i
    rw [sN_bit hS, hi, Bool.true_and] at this
    rcases e : A.testBit i with _ | _
    · rw [e] at this; cases this
    · rfl
  · intro h
    refine Nat.eq_of_testBit_eq (fun i => ?_)
    rw [sN_bit hS, Nat.zero_testBit]
    rcases e : S.testBit i with _ | _
    · rfl
    · rw [h i e]; rfl
def xE (A : Nat) (brk : Nat → Bool) (mk : Nat → Nat) (nb S : Nat) : Bool := sb S A && !zEx (fun b => brk b && ((mk b &&& S) == 0)) nb
theorem xE_iff {A : Nat} {brk : Nat → Bool} {mk : Nat → Nat} {nb S : Nat} : xE A brk mk nb S = true ↔ sb S A = true ∧ ∀ b, b < nb → brk b = true → ¬ mk b &&& S = 0 := by
  unfold xE
  rw [Bool.and_eq_true, Bool.not_eq_true']
  refine and_congr Iff.rfl ⟨fun h b hb q e => ?_, fun h => ?_⟩
  · have : zEx (fun b => brk b && ((mk b &&& S) == 0)) nb = true := (zEx_iff _ _).mpr ⟨b, hb, by simp [q, e]⟩
    rw [h] at this; cases this
  · rcases e : zEx (fun b => brk b && ((mk b &&& S) == 0)) nb with _ | _
    · rfl
    · obtain ⟨b, hb, q⟩ := (zEx_iff _ _).mp e
      simp only [Bool.and_eq_true, beq_iff_eq] at q
      exact absurd q.2 (h b hb q.1)
section ZK
variable {nl nb nt : Nat} {mk tb : Nat → Nat} {brk hld : Nat → Bool} {u u0 u3 : zSt} {br to ba : Nat → Int32} {day : Int32}
theorem c_lotsOf {QM : Int32 → zSt → Prop} {m : Nat} (hnb : nb ≤ 60) (hm : m < 2 ^ 60) (h7 : u3.1 7 = nI nb) (h6 : u3.2 6 = zN mk) (hQ : QM (nI (gO (fun b => m.testBit b) mk nb)) u3) : TX3_lotsOf QM (lN m) u3 := by
  refine ⟨fun n x1 x3 x4 v => ∃ b : Nat, b ≤ nb ∧ n = nb - b ∧ x1 = lN m ∧ x3 = nI (gO (fun b => m.testBit b) mk b) ∧ x4 = nI b ∧ v = u3, ?_, ?_⟩
  · unfold wp_X3_lotsOf_0
    rintro _ rfl _ rfl
    exact ⟨_, 0, by omega, rfl, rfl, rfl, rfl, rfl⟩
  · rintro n _ _ _ v ⟨b, hb, hn, rfl, rfl, rfl, rfl⟩
    unfold wp_X3_lotsOf_5
    rw [h7]
    refine pk_le nb b (fun h => ?_) (fun h => ?_)
    · have : b = nb := by omega
      subst this
      exact hQ
    · have es : gO (fun b => m.testBit b) mk (b + 1) = if m.testBit b then gO (fun b => m.testBit b) mk b ||| mk b else gO (fun b => m.testBit b) mk b := rfl
      rw [z_lb hm (by omega), nI_clamp (by omega), h6, zN_at, fa_or]
      refine ⟨fun e1 => ?_, fun e1 => ⟨vp_in_nI (by omega) (by omega), ?_⟩⟩
      · rintro _ rfl
        refine ⟨nb - (b + 1), by omega, b + 1, by omega, rfl, rfl, ?_, nI_1 b, rfl⟩
        rw [es, e1]; rfl
      · rintro _ rfl _ rfl
        refine ⟨nb - (b + 1), by omega, b + 1, by omega, rfl, rfl, ?_, nI_1 b, rfl⟩
        rcases h4 : m.testBit b with _ | _
        · exact absurd h4 e1
        · rw [es, h4]; rfl
theorem c_susp {Q : (zSt × zSt) → Prop} {m g : Nat} (hnb : nb ≤ 60) (hm : m < 2 ^ 60) (h7 : u3.1 7 = nI nb) (h6 : u3.2 6 = zN mk)
    (hQ : ∀ (v : zSt) (k : Nat) (su : Nat → Nat), zKeep [4] [3] u0 v → k ≤ nb → xU k su v → (∀ i, i < k → ∃ b, b < nb ∧ m.testBit b = true ∧ su i = sN (mk b) g) → (∀ b, b < nb → m.testBit b = true → ∃ i, i < k ∧ su i = sN (mk b) g) → Q (v, u3)) : TX0_setSuspects Q (lN m) (nI g) u0 u3 := by
  refine ⟨fun n x2 x4 x5 v w => ∃ (b k : Nat) (su : Nat → Nat), b ≤ nb ∧ n = nb - b ∧ x2 = lN m ∧ x4 = nI g ∧ x5 = nI b ∧ w = u3 ∧ zKeep [4] [3] u0 v ∧ k ≤ b ∧ xU k su v ∧ (∀ i, i < k → ∃ b', b' < b ∧ m.testBit b' = true ∧ su i = sN (mk b') g) ∧ (∀ b', b' < b → m.testBit b' = true → ∃ i, i < k ∧ su i = sN (mk b') g), ?_, ?_⟩
  · unfold wp_X0_setSuspects_0
    rintro _ rfl _ rfl
    exact ⟨_, 0, 0, fun _ => 0, by omega, rfl, rfl, rfl, rfl, rfl, zKeep.rf.i (by decide), by omega, ⟨rfl, fun i hi => absurd hi (by omega)⟩, fun i hi => absurd hi (by omega), fun i hi => absurd hi (by omega)⟩
  · rintro n _ _ _ v w ⟨b, k, su, hb, hn, rfl, rfl, rfl, rfl, hk, hkb, hu, hs1, hs2⟩
    unfold wp_X0_setSuspects_8
    rw [h7]
    refine pk_le nb b (fun h => ?_) (fun h => ?_)
    · have : b = nb := by omega
      subst this
      exact hQ v k su hk hkb hu hs1 hs2
    · rw [z_lb hm (by omega)]
      refine ⟨fun e1 => ?_, fun e1 => ⟨vp_in_nI (by omega) (by omega), by rw [hu.1]; exact vp_in_nI (by omega) (by omega), ?_⟩⟩
      · rintro _ rfl
        refine ⟨nb - (b + 1), by omega, b + 1, k, su, by omega, rfl, rfl, rfl, nI_1 b, rfl, hk, by omega, hu, fun i hi => ?_, fun b' hb' q => ?_⟩
        · obtain ⟨c, c1, c2, c3⟩ := hs1 i hi
          exact ⟨c, by omega, c2, c3⟩
        · by_cases c : b' = b
          · subst c; rw [e1] at q; cases q
          · exact hs2 b' (by omega) q
      · have e1' : m.testBit b = true := by
          rcases q : m.testBit b with _ | _
          · exact absurd q e1
          · rfl
        rw [hu.1, nI_clamp (by omega), nI_clamp (by omega), h6, zN_at, nt_I, fa_and]
        rintro _ rfl _ rfl _ rfl
        refine ⟨nb - (b + 1), by omega, b + 1, k + 1, zUp su k (sN (mk b) g), by omega, rfl, rfl, rfl, nI_1 b, rfl, (hk.a (by decide)).i (by decide), by omega, ⟨?_, fun i hi => ?_⟩, fun i hi => ?_, fun b' hb' q => ?_⟩
        · show v.1 4 + 1 = _
          rw [hu.1, nI_1]
        · show upd (v.2 3) k _ i = nI (zUp su k (sN (mk b) g) i)
          unfold zUp
          by_cases c : i = k
          · rw [c, pk_us, if_pos rfl]; rfl
          · rw [pk_un c, if_neg c]; exact hu.2 i (by omega)
        · unfold zUp
          by_cases c : i = k
          · rw [if_pos c]; exact ⟨b, by omega, e1', rfl⟩
          · rw [if_neg c]
            obtain ⟨d, c1, c2, c3⟩ := hs1 i (by omega)
            exact ⟨d, by omega, c2, c3⟩
        · unfold zUp
          by_cases c : b' = b
          · subst c; exact ⟨k, by omega, if_pos rfl⟩
          · obtain ⟨i, i1, i2⟩ := hs2 b' (by omega) q
            exact ⟨i, by omega, by rw [if_neg (by omega)]; exact i2⟩
theorem c_xseek {Q : (zSt × zSt) → Prop} {mb mh : Nat} (hl : nl ≤ 12) (hnb : nb ≤ 60) (hmb : mb < 2 ^ 60) (hmh : mh < 2 ^ 60) (hb : ∀ b, mb.testBit b = brk b) (hh : ∀ b, mh.testBit b = hld b) (hmk : ∀ b, mk b < 2 ^ nl) (h7 : u3.1 7 = nI nb) (h6 : u3.2 6 = zN mk)
    (hQ : ∀ v, stR (v.1 0) (v.1 1) (v.1 2) (xE (fr hld mk nl nb) brk mk nb) → Q (v, u3)) : TX0_seek Q (lN mb) (lN mh) u0 u3 := by
  have hmk' : ∀ b, mk b < 4096 := fun b => Nat.lt_of_lt_of_le (hmk b) (p12 hl)
  unfold TX0_seek wp_X0_seek_0
  rintro _ rfl _ rfl _ rfl
  refine c_lotsOf hnb hmh h7 h6 ?_
  refine c_susp hnb hmb h7 h6 (fun v k su hk hkn hu hs1 hs2 => ?_)
  have hgb : ∀ i, (gO (fun b => mh.testBit b) mk nb).testBit i = zEx (fun b => hld b && (mk b).testBit i) nb := fun i => by
    rw [gO_bit]
    congr 1
    funext b
    rw [hh b]
  have hAb : ∀ i, (fr hld mk nl nb).testBit i = (decide (i < nl) && !(gO (fun b => mh.testBit b) mk nb).testBit i) := fun i => by rw [fr_bit hl, hgb]
  generalize gO (fun b => mh.testBit b) mk nb = good at hs1 hs2 hgb hAb
  have hx : xOk (fr hld mk nl nb) k su (xE (fr hld mk nl nb) brk mk nb) := by
    refine ⟨Nat.lt_of_lt_of_le (fr_lt nb) (p12 hl), by omega, fun i hi => ?_, fun S hS q i hi => ?_, fun S hS q1 q2 => ?_⟩
    · obtain ⟨b, b1, b2, b3⟩ := hs1 i hi
      rw [b3]
      refine ⟨Nat.lt_of_le_of_lt Nat.and_le_left (hmk' b), (sb_iff _ _).mpr (fun j hj => ?_)⟩
      rw [sN_bit (hmk' b), Bool.and_eq_true] at hj
      rw [hAb, decide_eq_true (bit_lt' (hmk b) hj.1), hj.2]; rfl
    · obtain ⟨b, b1, b2, b3⟩ := hs1 i hi
      rw [b3]
      obtain ⟨a1, a2⟩ := xE_iff.mp q
      obtain ⟨j, j1, j2⟩ := (meet_iff _ _).mp (a2 b b1 (by rw [← hb b]; exact b2))
      refine (meet_iff _ _).mpr ⟨j, ?_, j2⟩
      have := (sb_iff _ _).mp a1 j j2
      rw [hAb, Bool.and_eq_true] at this
      rw [sN_bit (hmk' b), j1, this.2]; rfl
    · refine xE_iff.mpr ⟨q1, fun b b1 b2 => ?_⟩
      obtain ⟨i, i1, i2⟩ := hs2 b b1 (by rw [hb b]; exact b2)
      have := q2 i i1
      rw [i2] at this
      obtain ⟨j, j1, j2⟩ := (meet_iff _ _).mp this
      rw [sN_bit (hmk' b), Bool.and_eq_true] at j1
      exact (meet_iff _ _).mpr ⟨j, j1.1, j2⟩
  have p0 : pz 0 = 0 := by decide
  have st0 : xSt v (fun _ => false) := Or.inl ⟨(hk.1 0 (by decide)).trans rfl, (hk.1 1 (by decide)).trans rfl, (hk.1 2 (by decide)).trans rfl, fun _ _ => rfl⟩
  have := c_blame hx 14 0 0 (fun _ => false) v (fun w => Q (w, u3)) (by omega) (by omega) (by omega) ((sb_iff _ _).mpr (fun i hi => by rw [Nat.zero_testBit] at hi; cases hi)) rfl hu st0 (fun S _ q => by cases q) (fun w _ hs => hQ w (stR.cong hs (fun S hS => ?_)))
  · rw [p0] at this
    exact this
  · rw [Bool.false_or]
    unfold fF
    have e1 : sb 0 S = true := (sb_iff _ _).mpr (fun i hi => by rw [Nat.zero_testBit] at hi; cases hi)
    have e2 : (0 &&& S) = 0 := Nat.zero_and S
    rw [e1, e2]; simp
theorem z_bit2 : ∀ c : Nat, c < 13 → (1 : Int32) <<< (nI c &&& 31) = nI (2 ^ c) := by decide
set_option maxHeartbeats 4000000 in
theorem m_explains {Q : zSt → Prop} (hl : nl ≤ 12) (hnb : nb ≤ 60) (hnt : nt ≤ 100) (htb : ∀ t, t < nt → tb t < 60) (hmk : ∀ b, mk b < 2 ^ nl) (h17 : u.1 17 = nI nl) (h19 : u.1 19 = nI nb) (h18 : u.2 18 = zN mk) (hu : mT nt tb br to ba u)
    (hb : ∀ b, brk b = zEx (dk tb br to ba day 1 b) nt) (hh : ∀ b, hld b = zEx (dk tb br to ba day 0 b) nt)
    (hQ : ∀ v, zKeep [26, 27, 28] [29] u v → stR (v.1 26) (v.1 27) (v.1 28) (xE (fr hld mk nl nb) brk mk nb) → Q v) : TX7_explains Q day u := by
  have h12 := p12 hl
  have hA : fr hld mk nl nb < 2 ^ nl := fr_lt nb
  have mTk : ∀ v, zKeep [26, 27, 28] [29] u v → mT nt tb br to ba v := fun v hk => ⟨(hk.1 25 (by decide)).trans hu.1, (hk.2 21 (by decide)).trans hu.2.1, (hk.2 22 (by decide)).trans hu.2.2.1, (hk.2 23 (by decide)).trans hu.2.2.2.1, (hk.2 24 (by decide)).trans hu.2.2.2.2⟩
  refine ⟨fun n x1 x2 x3 v => ∃ b : Nat, b ≤ nb ∧ n = 1000000 + (nb - b) ∧ x1 = day ∧ x2 = nI (fr hld mk nl b) ∧ x3 = nI b ∧ zKeep [26, 27, 28] [29] u v ∧ ∀ i, i < b → v.2 29 i = if brk i then 1 else 0,
    fun n x2 x3 v => ∃ S : Nat, S ≤ 2 ^ nl ∧ n = (4096 - S) * 100 + 99 ∧ x2 = nI (fr hld mk nl nb) ∧ x3 = nI S ∧ zKeep [26, 27, 28] [29] u v ∧ (∀ i, i < nb → v.2 29 i = if brk i then 1 else 0) ∧ stR (v.1 26) (v.1 27) (v.1 28) (fun S' => xE (fr hld mk nl nb) brk mk nb S' && decide (S' < S)),
    fun n x2 x3 x4 x5 v => ∃ S b : Nat, S < 2 ^ nl ∧ b ≤ nb ∧ n = (4096 - S) * 100 + (60 - b) ∧ sb S (fr hld mk nl nb) = true ∧ x2 = nI (fr hld mk nl nb) ∧ x3 = nI S ∧ x4 = (if zEx (fun b => brk b && ((mk b &&& S) == 0)) b then 0 else 1) ∧ x5 = nI b ∧ zKeep [26, 27, 28] [29] u v ∧ (∀ i, i < nb → v.2 29 i = if brk i then 1 else 0) ∧ stR (v.1 26) (v.1 27) (v.1 28) (fun S' => xE (fr hld mk nl nb) brk mk nb S' && decide (S' < S)), ?_, ?_, ?_, ?_⟩
  · unfold wp_X7_explains_0
    rw [h17, z_bit2 nl (by omega), show (1 : Int32) = nI 1 from rfl, pk_sub (Nat.two_pow_pos nl)]
    rintro _ rfl _ rfl
    exact ⟨_, 0, by omega, rfl, rfl, rfl, rfl, zKeep.rf, fun i hi => absurd hi (by omega)⟩
  · rintro n x1 _ _ v ⟨b, hbn, hn, rfl, rfl, rfl, hk, ha⟩
    unfold wp_X7_explains_11
    rw [show v.1 19 = nI nb from (hk.1 19 (by decide)).trans h19]
    refine pk_le nb b (fun h => ?_) (fun h => ?_)
    · have : b = nb := by omega
      subst this
      rintro _ rfl _ rfl _ rfl _ rfl
      exact ⟨(4096 - 0) * 100 + 99, by omega, 0, Nat.zero_le _, rfl, rfl, rfl, ((hk.i (by decide)).i (by decide)).i (by decide), ha, Or.inl ⟨rfl, rfl, rfl, fun S _ => by simp⟩⟩
    · have hin : vp_in (nI b) 60 := vp_in_nI (by omega) (by omega)
      have hc : (nI b).toNatClampNeg = b := nI_clamp (by omega)
      have nar : vp_nar .boolean (if brk b then 1 else 0) = (if brk b then 1 else 0) := by
        cases brk b <;> rfl
      refine m_did hnt (by omega) htb (mTk v hk) ⟨hin, ?_⟩
      rw [← hb b, nar, hc]
      rintro _ rfl
      have hk2 : zKeep [26, 27, 28] [29] u (zA v 29 (upd (v.2 29) b (if brk b then 1 else 0))) := hk.a (by decide)
      have ha2 : ∀ i, i < b + 1 → upd (v.2 29) b (if brk b then 1 else 0) i = if brk i then 1 else 0 := fun i hi => by
        by_cases c : i = b
        · rw [c, pk_us]
        · rw [pk_un c]; exact ha i (by omega)
      refine m_did hnt (by omega) htb (mTk _ hk2) ?_
      rw [← hh b]
      have es : fr hld mk nl (b + 1) = if hld b then sN (fr hld mk nl b) (mk b) else fr hld mk nl b := rfl
      rcases e : hld b with _ | _
      · refine ⟨fun _ => ?_, fun q => absurd rfl q⟩
        rintro _ rfl
        refine ⟨1000000 + (nb - (b + 1)), by omega, b + 1, by omega, rfl, rfl, ?_, nI_1 b, hk2, ha2⟩
        rw [es, e]; rfl
      · refine ⟨fun q => absurd q (by decide), fun _ => ⟨hin, ?_⟩⟩
        show ∀ x2_11 : Int32, x2_11 = (nI (fr hld mk nl b) &&& (v.2 18 b ^^^ (-1))) → _
        rw [hk.2 18 (by decide), h18, zN_at, nt_I, fa_and]
        rintro _ rfl _ rfl
        refine ⟨1000000 + (nb - (b + 1)), by omega, b + 1, by omega, rfl, rfl, ?_, nI_1 b, hk2, ha2⟩
        rw [es, e]; rfl
  · rintro n _ _ v ⟨S, hS, hn, rfl, rfl, hk, ha, hst⟩
    unfold wp_X7_explains_76
    rw [show v.1 17 = nI nl from (hk.1 17 (by decide)).trans h17, z_bit2 nl (by omega)]
    refine pk_le (2 ^ nl) S (fun h => ?_) (fun h => ?_)
    · have : S = 2 ^ nl := by omega
      subst this
      refine hQ v hk (stR.cong hst (fun S' hS' => ?_))
      rcases q : xE (fr hld mk nl nb) brk mk nb S' with _ | _
      · simp
      · have h1 := (xE_iff.mp q).1
        have h2 : S' < 2 ^ nl := by
          refine Nat.lt_of_le_of_lt ?_ hA
          unfold sb at h1
          rw [beq_iff_eq] at h1
          rw [← h1]
          exact Nat.and_le_right
        simp [h2]
    · have hS2 : S < 4096 := by omega
      rw [nt_I, fa_and]
      have hle : sN S (fr hld mk nl nb) ≤ S := Nat.and_le_left
      refine pk_eq (sN S (fr hld mk nl nb)) 0 (fun e => ?_) (fun e => ?_)
      · rintro _ rfl _ rfl
        exact ⟨(4096 - S) * 100 + (60 - 0), by omega, S, 0, h, by omega, rfl, (sN_0 hS2).mp e, rfl, rfl, rfl, rfl, hk, ha, hst⟩
      · rintro _ rfl
        refine ⟨(4096 - (S + 1)) * 100 + 99, by omega, S + 1, by omega, rfl, rfl, nI_1 S, hk, ha, stR.cong hst (fun S' hS' => ?_)⟩
        by_cases c : S' = S
        · subst c
          have : xE (fr hld mk nl nb) brk mk nb S' = false := by
            unfold xE
            rcases q : sb S' (fr hld mk nl nb) with _ | _
            · rfl
            · exact absurd ((sN_0 hS2).mpr q) e
          rw [this]; rfl
        · congr 1
          by_cases c2 : S' < S
          · rw [decide_eq_true c2, decide_eq_true (by omega)]
          · rw [decide_eq_false c2, decide_eq_false (by omega)]
  · rintro n _ _ x4 _ v ⟨S, b, hS, hbn, hn, hsb, rfl, rfl, hx4, rfl, hk, ha, hst⟩
    have hS2 : S < 4096 := by omega
    have hpz := pz_le S
    have fin : (x4 = 0 ∧ xE (fr hld mk nl nb) brk mk nb S = false) ∨ (x4 = 1 ∧ xE (fr hld mk nl nb) brk mk nb S = true) → wp_X7_explains_152 (fun x1 x2 x3 v => ∃ k : Nat, k < n ∧ ∃ b : Nat, b ≤ nb ∧ k = 1000000 + (nb - b) ∧ x1 = day ∧ x2 = nI (fr hld mk nl b) ∧ x3 = nI b ∧ zKeep [26, 27, 28] [29] u v ∧ ∀ i, i < b → v.2 29 i = if brk i then 1 else 0) (fun x2 x3 v => ∃ k : Nat, k < n ∧ ∃ S : Nat, S ≤ 2 ^ nl ∧ k = (4096 - S) * 100 + 99 ∧ x2 = nI (fr hld mk nl nb) ∧ x3 = nI S ∧ zKeep [26, 27, 28] [29] u v ∧ (∀ i, i < nb → v.2 29 i = if brk i then 1 else 0) ∧ stR (v.1 26) (v.1 27) (v.1 28) (fun S' => xE (fr hld mk nl nb) brk mk nb S' && decide (S' < S))) (fun x2 x3 x4 x5 v => ∃ k : Nat, k < n ∧ ∃ S b : Nat, S < 2 ^ nl ∧ b ≤ nb ∧ k = (4096 - S) * 100 + (60 - b) ∧ sb S (fr hld mk nl nb) = true ∧ x2 = nI (fr hld mk nl nb) ∧ x3 = nI S ∧ x4 = (if zEx (fun b => brk b && ((mk b &&& S) == 0)) b then 0 else 1) ∧ x5 = nI b ∧ zKeep [26, 27, 28] [29] u v ∧ (∀ i, i < nb → v.2 29 i = if brk i then 1 else 0) ∧ stR (v.1 26) (v.1 27) (v.1 28) (fun S' => xE (fr hld mk nl nb) brk mk nb S' && decide (S' < S))) Q (nI (fr hld mk nl nb)) (nI S) x4 v := by
      intro hf
      unfold wp_X7_explains_152
      rcases hf with ⟨rfl, hE⟩ | ⟨rfl, hE⟩
      · refine ⟨fun _ => ?_, fun q => absurd rfl q⟩
        rintro _ rfl
        refine ⟨(4096 - (S + 1)) * 100 + 99, by omega, S + 1, by omega, rfl, rfl, nI_1 S, hk, ha, stR.cong hst (fun S' hS' => ?_)⟩
        by_cases c : S' = S
        · subst c; rw [hE]; rfl
        · congr 1
          by_cases c2 : S' < S
          · rw [decide_eq_true c2, decide_eq_true (by omega)]
          · rw [decide_eq_false c2, decide_eq_false (by omega)]
      · refine ⟨fun q => absurd q (by decide), fun _ => j_bits hS2 ?_⟩
        rintro _ rfl
        have ne : ∀ S', S' < 4096 → ((xE (fr hld mk nl nb) brk mk nb S' && decide (S' < S)) || (S' == S)) = (xE (fr hld mk nl nb) brk mk nb S' && decide (S' < S + 1)) := by
          intro S' _
          by_cases c : S' = S
          · subst c; rw [hE, decide_eq_true (show S' < S' + 1 by omega)]; simp
          · have c1 : (S' == S) = false := by simp [c]
            rw [c1, Bool.or_false]
            congr 1
            by_cases c2 : S' < S
            · rw [decide_eq_true c2, decide_eq_true (by omega)]
            · rw [decide_eq_false c2, decide_eq_false (by omega)]
        have hF : ∀ S', S' < 4096 → (S' == S) = true → S' ≠ S → pz S < pz S' := fun S' _ q c => absurd (beq_iff_eq.mp q) c
        have hd : ∀ S', S' < 4096 → (xE (fr hld mk nl nb) brk mk nb S' && decide (S' < S)) = true → (S' == S) = false := fun S' _ q => by
          rw [Bool.and_eq_true, decide_eq_true_iff] at q
          have : ¬ S' = S := by omega
          simp [this]
        have new : (v.1 26 = -1 ∨ ∃ n : Nat, n ≤ 12 ∧ v.1 26 = nI n ∧ pz S < n) → wp_X7_explains_201 (fun x1 x2 x3 v => ∃ k : Nat, k < n ∧ ∃ b : Nat, b ≤ nb ∧ k = 1000000 + (nb - b) ∧ x1 = day ∧ x2 = nI (fr hld mk nl b) ∧ x3 = nI b ∧ zKeep [26, 27, 28] [29] u v ∧ ∀ i, i < b → v.2 29 i = if brk i then 1 else 0) (fun x2 x3 v => ∃ k : Nat, k < n ∧ ∃ S : Nat, S ≤ 2 ^ nl ∧ k = (4096 - S) * 100 + 99 ∧ x2 = nI (fr hld mk nl nb) ∧ x3 = nI S ∧ zKeep [26, 27, 28] [29] u v ∧ (∀ i, i < nb → v.2 29 i = if brk i then 1 else 0) ∧ stR (v.1 26) (v.1 27) (v.1 28) (fun S' => xE (fr hld mk nl nb) brk mk nb S' && decide (S' < S))) (fun x2 x3 x4 x5 v => ∃ k : Nat, k < n ∧ ∃ S b : Nat, S < 2 ^ nl ∧ b ≤ nb ∧ k = (4096 - S) * 100 + (60 - b) ∧ sb S (fr hld mk nl nb) = true ∧ x2 = nI (fr hld mk nl nb) ∧ x3 = nI S ∧ x4 = (if zEx (fun b => brk b && ((mk b &&& S) == 0)) b then 0 else 1) ∧ x5 = nI b ∧ zKeep [26, 27, 28] [29] u v ∧ (∀ i, i < nb → v.2 29 i = if brk i then 1 else 0) ∧ stR (v.1 26) (v.1 27) (v.1 28) (fun S' => xE (fr hld mk nl nb) brk mk nb S' && decide (S' < S))) Q (nI (fr hld mk nl nb)) (nI S) (nI (pz S)) v := by
          intro hnew
          unfold wp_X7_explains_201 wp_X7_explains_217
          rintro _ rfl _ rfl _ rfl _ rfl _ rfl _ rfl
          refine ⟨(4096 - (S + 1)) * 100 + 99, by omega, S + 1, by omega, rfl, rfl, nI_1 S, ((((hk.i (by decide)).i (by decide)).i (by decide)).i (by decide)).i (by decide), ha, ?_⟩
          have h1 := stR.cong (stR.new hst hS2 (F := fun S' => S' == S) (by simp) hF hnew) ne
          have e3 : nI S &&& nI S = nI S := by rw [fa_and, Nat.and_self]
          rw [← e3] at h1
          exact h1
        have same : v.1 26 = nI (pz S) → wp_X7_explains_217 (fun x1 x2 x3 v => ∃ k : Nat, k < n ∧ ∃ b : Nat, b ≤ nb ∧ k = 1000000 + (nb - b) ∧ x1 = day ∧ x2 = nI (fr hld mk nl b) ∧ x3 = nI b ∧ zKeep [26, 27, 28] [29] u v ∧ ∀ i, i < b → v.2 29 i = if brk i then 1 else 0) (fun x2 x3 v => ∃ k : Nat, k < n ∧ ∃ S : Nat, S ≤ 2 ^ nl ∧ k = (4096 - S) * 100 + 99 ∧ x2 = nI (fr hld mk nl nb) ∧ x3 = nI S ∧ zKeep [26, 27, 28] [29] u v ∧ (∀ i, i < nb → v.2 29 i = if brk i then 1 else 0) ∧ stR (v.1 26) (v.1 27) (v.1 28) (fun S' => xE (fr hld mk nl nb) brk mk nb S' && decide (S' < S))) (fun x2 x3 x4 x5 v => ∃ k : Nat, k < n ∧ ∃ S b : Nat, S < 2 ^ nl ∧ b ≤ nb ∧ k = (4096 - S) * 100 + (60 - b) ∧ sb S (fr hld mk nl nb) = true ∧ x2 = nI (fr hld mk nl nb) ∧ x3 = nI S ∧ x4 = (if zEx (fun b => brk b && ((mk b &&& S) == 0)) b then 0 else 1) ∧ x5 = nI b ∧ zKeep [26, 27, 28] [29] u v ∧ (∀ i, i < nb → v.2 29 i = if brk i then 1 else 0) ∧ stR (v.1 26) (v.1 27) (v.1 28) (fun S' => xE (fr hld mk nl nb) brk mk nb S' && decide (S' < S))) Q (nI (fr hld mk nl nb)) (nI S) v := by
          intro hf
          unfold wp_X7_explains_217
          rintro _ rfl _ rfl _ rfl
          exact ⟨(4096 - (S + 1)) * 100 + 99, by omega, S + 1, by omega, rfl, rfl, nI_1 S, (hk.i (by decide)).i (by decide), ha, stR.cong (stR.eq hst hS2 (F := fun S' => S' == S) (by simp) hF hd hf) ne⟩
        have neg : ∀ m : Nat, m ≤ 12 → v.1 26 = nI m → ¬ v.1 26 < 0 := fun m hm e => by rw [e]; exact nI_pos (by omega)
        rcases id hst with ⟨h1, _⟩ | ⟨m, T, hm, _, h3, _⟩
        · refine ⟨fun _ => ?_, fun q => absurd (by rw [h1]; decide) q⟩
          unfold wp_X7_explains_185
          exact ⟨fun _ => new (Or.inl h1), fun q => absurd (by rw [h1]; decide) q⟩
        · refine ⟨fun q => absurd q (neg m hm h3), fun _ => ?_⟩
          have go : wp_X7_explains_185 (fun x1 x2 x3 v => ∃ k : Nat, k < n ∧ ∃ b : Nat, b ≤ nb ∧ k = 1000000 + (nb - b) ∧ x1 = day ∧ x2 = nI (fr hld mk nl b) ∧ x3 = nI b ∧ zKeep [26, 27, 28] [29] u v ∧ ∀ i, i < b → v.2 29 i = if brk i then 1 else 0) (fun x2 x3 v => ∃ k : Nat, k < n ∧ ∃ S : Nat, S ≤ 2 ^ nl ∧ k = (4096 - S) * 100 + 99 ∧ x2 = nI (fr hld mk nl nb) ∧ x3 = nI S ∧ zKeep [26, 27, 28] [29] u v ∧ (∀ i, i < nb → v.2 29 i = if brk i then 1 else 0) ∧ stR (v.1 26) (v.1 27) (v.1 28) (fun S' => xE (fr hld mk nl nb) brk mk nb S' && decide (S' < S))) (fun x2 x3 x4 x5 v => ∃ k : Nat, k < n ∧ ∃ S b : Nat, S < 2 ^ nl ∧ b ≤ nb ∧ k = (4096 - S) * 100 + (60 - b) ∧ sb S (fr hld mk nl nb) = true ∧ x2 = nI (fr hld mk nl nb) ∧ x3 = nI S ∧ x4 = (if zEx (fun b => brk b && ((mk b &&& S) == 0)) b then 0 else 1) ∧ x5 = nI b ∧ zKeep [26, 27, 28] [29] u v ∧ (∀ i, i < nb → v.2 29 i = if brk i then 1 else 0) ∧ stR (v.1 26) (v.1 27) (v.1 28) (fun S' => xE (fr hld mk nl nb) brk mk nb S' && decide (S' < S))) Q (nI (fr hld mk nl nb)) (nI S) (nI (pz S)) v ∨ m < pz S := by
            by_cases c : m < pz S
            · exact Or.inr c
            · left
              unfold wp_X7_explains_185
              refine ⟨fun q => absurd q (neg m hm h3), fun _ => ?_⟩
              refine ⟨fun q => ?_, fun q => ?_⟩
              · rw [h3, nI_leI (by omega) (by omega)] at q
                exact same (by rw [h3]; congr 1; omega)
              · rw [h3, nI_leI (by omega) (by omega)] at q
                exact new (Or.inr ⟨m, hm, h3, by omega⟩)
          refine ⟨fun q => ?_, fun q => ?_⟩
          · rw [h3, nI_leI (by omega) (by omega)] at q
            rcases go with g | g
            · exact g
            · omega
          · rw [h3, nI_leI (by omega) (by omega)] at q
            rintro _ rfl
            exact ⟨(4096 - (S + 1)) * 100 + 99, by omega, S + 1, by omega, rfl, rfl, nI_1 S, hk, ha, stR.cong (stR.skip hst (F := fun S' => S' == S) (fun S' hS' q2 => ⟨m, hm, h3, by rw [beq_iff_eq.mp q2]; omega⟩)) ne⟩
    have bad : zEx (fun b => brk b && ((mk b &&& S) == 0)) b = true → xE (fr hld mk nl nb) brk mk nb S = false := by
      intro q
      obtain ⟨c, c1, c2⟩ := (zEx_iff _ _).mp q
      have : zEx (fun b => brk b && ((mk b &&& S) == 0)) nb = true := (zEx_iff _ _).mpr ⟨c, by omega, c2⟩
      unfold xE
      rw [this]; simp
    unfold wp_X7_explains_103
    rw [show v.1 19 = nI nb from (hk.1 19 (by decide)).trans h19]
    refine pk_le nb b (fun h => fin ?_) (fun h => ?_)
    · have : b = nb := by omega
      subst this
      rcases q : zEx (fun b => brk b && ((mk b &&& S) == 0)) b with _ | _
      · rw [q] at hx4
        refine Or.inr ⟨hx4, ?_⟩
        unfold xE
        rw [q, hsb]; rfl
      · rw [q] at hx4
        exact Or.inl ⟨hx4, bad q⟩
    · refine ⟨fun q => fin (Or.inl ⟨q, bad ?_⟩), fun q => ⟨vp_in_nI (by omega) (by omega), ?_⟩⟩
      · rcases q2 : zEx (fun b => brk b && ((mk b &&& S) == 0)) b with _ | _
        · rw [q2] at hx4; exact absurd (hx4.symm.trans q) (by decide)
        · rfl
      · have hz : zEx (fun b => brk b && ((mk b &&& S) == 0)) b = false := by
          rcases q2 : zEx (fun b => brk b && ((mk b &&& S) == 0)) b with _ | _
          · rfl
          · rw [q2] at hx4; exact absurd hx4 q
        have step : ∀ t0 : Int32, t0 = (if brk b && ((mk b &&& S) == 0) then 0 else 1) → wp_X7_explains_144 (fun x1 x2 x3 v => ∃ k : Nat, k < n ∧ ∃ b : Nat, b ≤ nb ∧ k = 1000000 + (nb - b) ∧ x1 = day ∧ x2 = nI (fr hld mk nl b) ∧ x3 = nI b ∧ zKeep [26, 27, 28] [29] u v ∧ ∀ i, i < b → v.2 29 i = if brk i then 1 else 0) (fun x2 x3 v => ∃ k : Nat, k < n ∧ ∃ S : Nat, S ≤ 2 ^ nl ∧ k = (4096 - S) * 100 + 99 ∧ x2 = nI (fr hld mk nl nb) ∧ x3 = nI S ∧ zKeep [26, 27, 28] [29] u v ∧ (∀ i, i < nb → v.2 29 i = if brk i then 1 else 0) ∧ stR (v.1 26) (v.1 27) (v.1 28) (fun S' => xE (fr hld mk nl nb) brk mk nb S' && decide (S' < S))) (fun x2 x3 x4 x5 v => ∃ k : Nat, k < n ∧ ∃ S b : Nat, S < 2 ^ nl ∧ b ≤ nb ∧ k = (4096 - S) * 100 + (60 - b) ∧ sb S (fr hld mk nl nb) = true ∧ x2 = nI (fr hld mk nl nb) ∧ x3 = nI S ∧ x4 = (if zEx (fun b => brk b && ((mk b &&& S) == 0)) b then 0 else 1) ∧ x5 = nI b ∧ zKeep [26, 27, 28] [29] u v ∧ (∀ i, i < nb → v.2 29 i = if brk i then 1 else 0) ∧ stR (v.1 26) (v.1 27) (v.1 28) (fun S' => xE (fr hld mk nl nb) brk mk nb S' && decide (S' < S))) Q (nI (fr hld mk nl nb)) (nI S) (nI b) t0 v := by
          intro t0 ht
          unfold wp_X7_explains_144
          rintro _ rfl _ rfl
          refine ⟨(4096 - S) * 100 + (60 - (b + 1)), by omega, S, b + 1, hS, by omega, rfl, hsb, rfl, rfl, ?_, nI_1 b, hk, ha, hst⟩
          rw [ht, zEx, hz, Bool.false_or]
        have hc : (nI b).toNatClampNeg = b := nI_clamp (by omega)
        have hle : mk b &&& S ≤ S := Nat.and_le_right
        rw [hc, ha b h]
        refine ⟨fun e => ?_, fun e => ⟨vp_in_nI (by omega) (by omega), ?_⟩⟩
        · unfold wp_X7_explains_139
          refine step 1 ?_
          rcases e2 : brk b with _ | _
          · rfl
          · rw [e2] at e; exact absurd e (by decide)
        · have e2 : brk b = true := by
            rcases e2 : brk b with _ | _
            · rw [e2] at e; exact absurd rfl e
            · rfl
          rw [hk.2 18 (by decide), h18, zN_at, fa_and]
          refine pk_eq (mk b &&& S) 0 (fun e3 => step 0 ?_) (fun e3 => ?_)
          · rw [e2, e3]; rfl
          · unfold wp_X7_explains_139
            refine step 1 ?_
            have : ((mk b &&& S) == 0) = false := by simp [e3]
            rw [this]; simp
end ZK
set_option maxHeartbeats 2000000 in
theorem cs_943 {L : Nat} {xs : Nat → Int32} {J23 : Int32 → Nat → Nat → zSt → zSt → zSt → zSt → zSt → zSt → zSt → (Nat → Int64) → Prop} {x4 : Int32} {cs sl : Nat} {u0 u1 u2 u3 u4 u5 u7 : zSt} {u8 : Nat → Int64} (hb : cs + 1 ≤ 601024 ∧ sl + 6 ≤ 7293034) (hi : vp_in (x4 + 1) L ∧ vp_in (x4 + 2) L ∧ vp_in (x4 + 3) L ∧ vp_in (x4 + 4) L) (hR : rAll u1 u2 u3 u4 u5 u7) (hJ : ∀ (cs' sl' : Nat) (v0 v1 v2 v3 v4 v5 v7 : zSt) (v8 : Nat → Int64), cs' ≤ cs + 1 → sl' ≤ sl + 6 → rAll v1 v2 v3 v4 v5 v7 → J23 (x4 + 5) cs' sl' v0 v1 v2 v3 v4 v5 v7 v8) : wp_L_law_943 L xs J23 x4 cs sl u0 u1 u2 u3 u4 u5 u7 u8 := by
  obtain ⟨hE, hL, hT, hG, hM⟩ := id hR
  obtain ⟨nl, nb, mk, hl, hnb, hmk, l5, l17, l7, m19, l8, c0, c1, c2, c3, c4, c6, m18⟩ := id hL
  obtain ⟨nb', nt, td, tb, q1, q2, q3, q4, q5, q6, q7, q8, q9, q10, q11, q12, q13, q14, q15, q16⟩ := id hT
  have htb : ∀ t, t < nt → tb t < 60 := fun t ht => by have := q11 t ht; omega
  have z0 := i_0
  have z2 : (2 : Int32).toInt = 2 := rfl
  unfold wp_L_law_943 TL_explain
  refine ⟨hb, hi.1, hi.2.1, ?_⟩
  generalize xs (x4 + 1).toNatClampNeg = p1
  generalize xs (x4 + 2).toNatClampNeg = p2
  unfold TX6_explain wp_X6_explain_0
  refine t_within (fun a1 => ⟨fun h => absurd h (by decide), fun _ => ?_⟩) (fun a1 => ⟨fun _ => ⟨rfl, ?_⟩, fun h => absurd rfl h⟩)
  · refine c_that q2 htb q16 ⟨q5, q9, rfl, rfl, rfl⟩ ?_
    refine c_that q2 htb q16 ⟨q5, q9, rfl, rfl, rfl⟩ ?_
    refine c_xseek (brk := fun b => zEx (dk tb (u5.2 1) (u5.2 2) (u5.2 3) p1 1 b) nt) (hld := fun b => zEx (dk tb (u5.2 1) (u5.2 2) (u5.2 3) p1 0 b) nt) hl hnb (bM_lt htb) (bM_lt htb) (fun b => bM_bit _ _ b nt) (fun b => bM_bit _ _ b nt) hmk l7 c6 (fun v hv => ?_)
    have mod : ∀ QM : Int32 → zSt → Prop, (∀ w, zKeep [0, 26, 27, 28] [29] u7 w → w.1 0 = 0 → stR (w.1 26) (w.1 27) (w.1 28) (xE (fr (fun b => zEx (dk tb (u5.2 1) (u5.2 2) (u5.2 3) p1 0 b) nt) mk nl nb) (fun b => zEx (dk tb (u5.2 1) (u5.2 2) (u5.2 3) p1 1 b) nt) mk nb) → (p2 = 0 → QM (w.1 26) w) ∧ (¬ p2 = 0 → (p2 = 1 → QM (w.1 27) w) ∧ (¬ p2 = 1 → QM (w.1 28) w))) → TX7_explain QM p1 p2 u7 := by
      intro QM hq
      unfold TX7_explain wp_X7_explain_0
      rintro _ rfl
      refine t_in (fun _ => ⟨fun h => absurd h (by decide), fun _ => ?_⟩) (fun q => absurd a1 q)
      unfold wp_X7_explain_20
      refine t_throws0 ⟨fun _ => ?_, fun h => absurd rfl h⟩
      exact m_explains (u := zI u7 0 0) (br := u5.2 1) (to := u5.2 2) (ba := u5.2 3) hl hnb q2 htb hmk l17 m19 m18 ⟨q6, q10, q12.symm, q14.symm, q15.symm⟩ (fun _ => rfl) (fun _ => rfl) (fun w hk hs => hq w ((zKeep.rf.i (by decide)).tr (hk.wk (by decide) (by decide))) ((hk.1 0 (by decide)).trans rfl) hs)
    have fin : ∀ (o b : Int32) (v0 : zSt) (w : zSt), o = b → zKeep [0, 26, 27, 28] [29] u7 w → w.1 0 = 0 → ∀ x6 : Int32, x6 = b → TX7_thrown (fun (r : Int32) (u : zSt) => (r = 0 → ((0 : Int32) = (0 : Int32) → ((lg_cmp (vp_updL u8 (0 : Int32).toNatClampNeg o.toInt64 (0 : Int32).toNatClampNeg) ((x6 : Int32).toInt64)) = (0 : Int32) → ∀ y : Int32, y = x4 + 5 → J23 y (cs + 1) (sl + 6) v0 u1 u2 u3 u4 u5 u (vp_updL u8 (0 : Int32).toNatClampNeg o.toInt64)) ∧ (¬ (lg_cmp (vp_updL u8 (0 : Int32).toNatClampNeg o.toInt64 (0 : Int32).toNatClampNeg) ((x6 : Int32).toInt64)) = (0 : Int32) → False)) ∧ (¬ (0 : Int32) = (0 : Int32) → ∀ y : Int32, y = x4 + 5 → J23 y (cs + 1) (sl + 6) v0 u1 u2 u3 u4 u5 u (vp_updL u8 (0 : Int32).toNatClampNeg o.toInt64))) ∧ (¬ r = 0 → False)) w := by
      rintro o _ v0 w rfl hk h0
      refine z_fin (x5 := 0) (J := fun y u => J23 y (cs + 1) (sl + 6) v0 u1 u2 u3 u4 u5 u (vp_updL u8 (0 : Int32).toNatClampNeg o.toInt64)) h0 (fun _ => rfl) ?_
      exact hJ _ _ _ _ _ _ _ _ _ _ (by omega) (by omega) ⟨hE.k ⟨hk.1 _ (by decide), hk.2 _ (by decide), hk.2 _ (by decide), hk.2 _ (by decide), hk.2 _ (by decide)⟩, hL.k ⟨hk.1 _ (by decide), hk.1 _ (by decide), hk.1 _ (by decide), hk.2 _ (by decide), hk.2 _ (by decide), hk.2 _ (by decide), hk.2 _ (by decide), hk.2 _ (by decide), hk.2 _ (by decide)⟩, hT.k ⟨hk.1 _ (by decide), hk.1 _ (by decide), hk.1 _ (by decide), hk.2 _ (by decide), hk.2 _ (by decide), hk.2 _ (by decide), hk.2 _ (by decide)⟩, hG.k ⟨hk.1 _ (by decide), hk.2 _ (by decide), hk.2 _ (by decide), hk.2 _ (by decide), hk.2 _ (by decide)⟩, hM.k ⟨hk.1 _ (by decide), hk.1 _ (by decide), hk.2 _ (by decide), hk.2 _ (by decide)⟩⟩
    refine ⟨fun e0 => ?_, fun n0 => ⟨fun e1 => ?_, fun n1 => ?_⟩⟩
    · rintro _ rfl
      exact ⟨hi.1, hi.2.1, mod _ (fun w hk h0 hs => ⟨fun _ => fin _ _ v w (hv.uniq hs).1 hk h0, fun q => absurd e0 q⟩)⟩
    · rintro _ rfl
      exact ⟨hi.1, hi.2.1, mod _ (fun w hk h0 hs => ⟨fun q => absurd q n0, fun _ => ⟨fun _ => fin _ _ v w (hv.uniq hs).2.1 hk h0, fun q => absurd e1 q⟩⟩)⟩
    · rintro _ rfl
      exact ⟨hi.1, hi.2.1, mod _ (fun w hk h0 hs => ⟨fun q => absurd q n0, fun _ => ⟨fun q => absurd q n1, fun _ => fin _ _ v w (hv.uniq hs).2.2 hk h0⟩⟩)⟩
  · rintro _ rfl
    refine ⟨hi.1, hi.2.1, ?_⟩
    unfold TX7_explain wp_X7_explain_0
    rintro _ rfl
    refine t_in (fun q => absurd q a1) (fun _ => ⟨fun _ => ?_, fun h => absurd rfl h⟩)
    unfold wp_X7_explain_20
    exact t_throws1 ⟨fun h => absurd h (by decide), fun _ => z_fin rfl (fun h => absurd h (by decide)) (hJ _ _ _ _ _ _ _ _ _ _ (by omega) (by omega) ((hR.t 0).t 1))⟩
