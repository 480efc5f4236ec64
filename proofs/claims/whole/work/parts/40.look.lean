/-! what a batch did on a day; the case look -/
def zEx (p : Nat → Bool) : Nat → Bool
  | 0 => false
  | n + 1 => zEx p n || p n
theorem zEx_iff (p : Nat → Bool) : ∀ n, zEx p n = true ↔ ∃ t, t < n ∧ p t = true
  | 0 => ⟨fun h => (by cases h), fun ⟨t, h, _⟩ => absurd h (by omega)⟩
  | n + 1 => by
    rw [zEx, Bool.or_eq_true, zEx_iff p n]
    constructor
    · rintro (⟨t, h, g⟩ | h)
      · exact ⟨t, by omega, g⟩
      · exact ⟨n, by omega, h⟩
    · rintro ⟨t, h, g⟩
      by_cases e : t = n
      · subst e; exact Or.inr g
      · exact Or.inl ⟨t, by omega, g⟩
def kn (to ba : Nat → Int32) (day : Int32) (t : Nat) : Bool := decide (¬ day < to t) && (decide (ba t < 0) || decide (¬ ba t ≤ day))
def dk (tb : Nat → Nat) (br to ba : Nat → Int32) (day br0 : Int32) (b t : Nat) : Bool := (tb t == b) && (decide (br t = br0) && kn to ba day t)
def bM (c : Nat → Bool) (tb : Nat → Nat) : Nat → Nat
  | 0 => 0
  | n + 1 => if c n then bM c tb n ||| 2 ^ tb n else bM c tb n
theorem bM_bit (c : Nat → Bool) (tb : Nat → Nat) (b : Nat) : ∀ n, (bM c tb n).testBit b = zEx (fun t => (tb t == b) && c t) n
  | 0 => by simp [bM, zEx]
  | n + 1 => by
    rw [bM, zEx, ← bM_bit c tb b n]
    rcases h : c n with _ | _
    · simp
    · rw [if_pos rfl, fb_bit_set]
      congr 1
      simp
      by_cases e : b = tb n
      · subst e; simp
      · have : ¬ tb n = b := fun q => e q.symm
        simp [e, this]
theorem bM_lt {c : Nat → Bool} {tb : Nat → Nat} : ∀ {n : Nat}, (∀ t, t < n → tb t < 60) → bM c tb n < 2 ^ 60
  | 0, _ => by simp [bM]
  | n + 1, h => by
    have h1 := bM_lt (c := c) (n := n) (fun t ht => h t (by omega))
    rw [bM]
    split
    · exact Nat.or_lt_two_pow h1 (Nat.pow_lt_pow_right (by decide) (h n (by omega)))
    · exact h1
theorem pf_lI {a : Nat} (h : a < 2 ^ 63) : (lN a).toInt = (a : Int) := lg_ofNat_toInt h
theorem pf_shr {a d : Nat} {D : Int64} (hD : (D.toBitVec.smod 64).toNat = d) (h : a < 2 ^ 62) : lN a >>> D = lN (a / 2 ^ d) := by
  have hd : a / 2 ^ d ≤ a := Nat.div_le_self _ _
  apply Int64.toInt_inj.mp
  have e : (lN a >>> D).toInt = (lN a).toInt >>> d := by
    rw [← hD]
    exact BitVec.toInt_sshiftRight ..
  rw [e, Int.shiftRight_eq_div_pow, pf_lI (by omega), pf_lI (by omega)]
  rfl
theorem z_lsh : ∀ k : Nat, k < 60 → (1 : Int64) <<< ((nI k).toInt64 &&& 63) = lN (2 ^ k) := by decide
theorem z_lsm : ∀ k : Nat, k < 60 → (((nI k).toInt64 &&& 63).toBitVec.smod 64).toNat = k := by decide
theorem z_ism : ∀ k : Nat, k < 31 → ((nI k &&& 31).toBitVec.smod 32).toNat = k := by decide
theorem z_tb (m b : Nat) : m.testBit b = decide (m / 2 ^ b % 2 = 1) := Nat.testBit_eq_decide_div_mod_eq
theorem z_lb {m b : Nat} (hm : m < 2 ^ 60) (hb : b < 60) : lg_cmp ((lN m >>> ((nI b).toInt64 &&& 63)) &&& (1 : Int64)) (0 : Int64) = 0 ↔ m.testBit b = false := by
  have h1 : m / 2 ^ b ≤ m := Nat.div_le_self _ _
  rw [lg_cmp_eq, pf_shr (z_lsm b hb) (by omega), show (1 : Int64) = lN (2 ^ 1 - 1) from rfl, fb_maskL, show (0 : Int64) = lN 0 from rfl, fb_lN_inj (by omega) (by omega), z_tb]
  simp
theorem z_ib {m l : Nat} (hm : m < 2 ^ 30) (hl : l < 31) : (nI m >>> (nI l &&& 31)) &&& 1 = nI (if m.testBit l then 1 else 0) := by
  rw [pk_shrN (by omega) _ l (z_ism l hl), show (1 : Int32) = nI (2 ^ 1 - 1) from rfl, fa_mask, z_tb]
  congr 1
  have : m / 2 ^ l % 2 < 2 := Nat.mod_lt _ (by decide)
  by_cases h : m / 2 ^ l % 2 = 1
  · simp [h]
  · simp only [h, decide_false]
    simp
    omega
section ZG
variable {Q : Int32 → (zSt × zSt × zSt × zSt × zSt × zSt) → Prop} {QX : String → (zSt × zSt × zSt × zSt × zSt × zSt) → Prop} {QM : Int32 → zSt → Prop} {p1 p2 p3 p4 : Int32} {u0 u1 u2 u3 u4 u5 u w : zSt} {nl nb nt : Nat} {tb mk : Nat → Nat} {br to ba : Nat → Int32} {day br0 : Int32}
def mT (nt : Nat) (tb : Nat → Nat) (br to ba : Nat → Int32) (u : zSt) : Prop := u.1 25 = nI nt ∧ u.2 21 = zN tb ∧ u.2 22 = br ∧ u.2 23 = to ∧ u.2 24 = ba
theorem m_did {b : Nat} (hnt : nt ≤ 100) (hb : b < 60) (htb : ∀ t, t < nt → tb t < 60) (hu : mT nt tb br to ba u) (hQ : QM (if zEx (dk tb br to ba day br0 b) nt then 1 else 0) u) : TX7_did QM (nI b) br0 day u := by
  obtain ⟨h25, h21, h22, h23, h24⟩ := hu
  refine ⟨fun n x1 x2 x3 x4 v => ∃ t : Nat, t ≤ nt ∧ n = nt - t ∧ x1 = nI b ∧ x2 = br0 ∧ x3 = day ∧ x4 = nI t ∧ v = u ∧ zEx (dk tb br to ba day br0 b) t = false, ?_, ?_⟩
  · unfold wp_X7_did_0
    rintro _ rfl
    exact ⟨_, 0, by omega, rfl, rfl, rfl, rfl, rfl, rfl, rfl⟩
  · rintro n x1 x2 x3 x4 v ⟨t, ht, hn, rfl, rfl, rfl, rfl, rfl, hno⟩
    unfold wp_X7_did_3
    rw [h25, h21, h22, h23, h24]
    refine pk_le nt t (fun h => ?_) (fun h => ?_)
    · have : t = nt := by omega
      subst this
      rw [hno] at hQ
      exact hQ
    · have hin : vp_in (nI t) 100 := vp_in_nI (by omega) (by omega)
      have hc : (nI t).toNatClampNeg = t := nI_clamp (by omega)
      have htt := htb t h
      have nxt : dk tb br to ba x3 x2 b t = false → ∀ x : Int32, x = nI t + 1 → ∃ k : Nat, k < n ∧ ∃ t' : Nat, t' ≤ nt ∧ k = nt - t' ∧ nI b = nI b ∧ x2 = x2 ∧ x3 = x3 ∧ x = nI t' ∧ v = v ∧ zEx (dk tb br to ba x3 x2 b) t' = false := by
        rintro hf _ rfl
        exact ⟨nt - (t + 1), by omega, t + 1, by omega, rfl, rfl, rfl, rfl, nI_1 t, rfl, by rw [zEx, hno, hf]; rfl⟩
      have yes : dk tb br to ba x3 x2 b t = true → QM 1 v := by
        intro hy
        have : zEx (dk tb br to ba x3 x2 b) nt = true := (zEx_iff _ _).mpr ⟨t, h, hy⟩
        rw [this] at hQ
        exact hQ
      rw [hc, zN_at]
      refine ⟨hin, pk_eq (tb t) b (fun e1 => ⟨hin, fun e2 => ⟨hin, fun e3 => nxt ?_, fun e3 => ⟨hin, fun e4 => yes ?_, fun e4 => ⟨hin, fun e5 => nxt ?_, fun e5 => yes ?_⟩⟩⟩, fun e2 => nxt ?_⟩) (fun e1 => nxt ?_)⟩
      · simp [dk, kn, e3]
      · simp [dk, kn, e1, e2, e3, e4]
      · simp [dk, kn, e4, e5]
      · simp [dk, kn, e1, e2, e3, e5]
      · simp [dk, e2]
      · simp [dk, e1]
def cT (nt : Nat) (tb : Nat → Nat) (br to ba : Nat → Int32) (u : zSt) : Prop := u.1 4 = nI nt ∧ u.2 0 = zN tb ∧ u.2 1 = br ∧ u.2 2 = to ∧ u.2 3 = ba
theorem c_that {QL : Int64 → zSt → Prop} (hnt : nt ≤ 100) (htb : ∀ t, t < nt → tb t < 60) (hba : ∀ t, t < nt → ba t = -1 ∨ 0 ≤ (ba t).toInt) (hu : cT nt tb br to ba u5) (hQ : QL (lN (bM (fun t => decide (br t = br0) && kn to ba day t) tb nt)) u5) : TX5_batchesThat QL br0 day u5 := by
  obtain ⟨h25, h21, h22, h23, h24⟩ := hu
  refine ⟨fun n x1 x2 x3 x5 v => ∃ t : Nat, t ≤ nt ∧ n = nt - t ∧ x1 = br0 ∧ x2 = day ∧ x3 = lN (bM (fun t => decide (br t = br0) && kn to ba day t) tb t) ∧ x5 = nI t ∧ v = u5, ?_, ?_⟩
  · unfold wp_X5_batchesThat_0
    rintro _ rfl _ rfl
    exact ⟨_, 0, by omega, rfl, rfl, rfl, rfl, rfl, rfl⟩
  · rintro n x1 x2 x3 x5 v ⟨t, ht, hn, rfl, rfl, rfl, rfl, rfl⟩
    unfold wp_X5_batchesThat_5
    rw [h25]
    refine pk_le nt t (fun h => ?_) (fun h => ?_)
    · have : t = nt := by omega
      subst this
      exact hQ
    · have hin : vp_in (nI t) 100 := vp_in_nI (by omega) (by omega)
      have hc : (nI t).toNatClampNeg = t := nI_clamp (by omega)
      have htt := htb t h
      have hbb : ba t = -1 ↔ ba t < 0 := by
        rw [fa_lt]
        rcases hba t h with q | q
        · rw [q]; exact ⟨fun _ => by decide, fun _ => rfl⟩
        · refine ⟨fun g => ?_, fun g => ?_⟩
          · rw [g] at q; exact absurd q (by decide)
          · have : (0 : Int32).toInt = 0 := rfl
            omega
      have nxt : (decide (br t = x1) && kn to ba x2 t) = false → ∀ x : Int32, x = nI t + 1 → ∃ k : Nat, k < n ∧ ∃ t' : Nat, t' ≤ nt ∧ k = nt - t' ∧ x1 = x1 ∧ x2 = x2 ∧ lN (bM (fun t => decide (br t = x1) && kn to ba x2 t) tb t) = lN (bM (fun t => decide (br t = x1) && kn to ba x2 t) tb t') ∧ x = nI t' ∧ v = v := by
        rintro hf _ rfl
        refine ⟨nt - (t + 1), by omega, t + 1, by omega, rfl, rfl, rfl, ?_, nI_1 t, rfl⟩
        rw [bM, hf]
        rfl
      have yes : (decide (br t = x1) && kn to ba x2 t) = true → vp_in (nI t) 100 ∧ (∀ x3_5 : Int64, x3_5 = (lN (bM (fun t => decide (br t = x1) && kn to ba x2 t) tb t) ||| ((1 : Int64) <<< ((v.2 0 (nI t).toNatClampNeg : Int32).toInt64 &&& 63))) → ∀ x5_6 : Int32, x5_6 = nI t + 1 → ∃ k : Nat, k < n ∧ ∃ t' : Nat, t' ≤ nt ∧ k = nt - t' ∧ x1 = x1 ∧ x2 = x2 ∧ x3_5 = lN (bM (fun t => decide (br t = x1) && kn to ba x2 t) tb t') ∧ x5_6 = nI t' ∧ v = v) := by
        intro hy
        refine ⟨hin, ?_⟩
        rintro _ rfl _ rfl
        refine ⟨nt - (t + 1), by omega, t + 1, by omega, rfl, rfl, rfl, ?_, nI_1 t, rfl⟩
        rw [bM, hy, if_pos rfl, h21, hc, zN_at, z_lsh (tb t) htt, fb_orL]
      refine ⟨hin, fun e1 => ?_, fun e1 => nxt ?_⟩
      · rw [h22, hc] at e1
        unfold TX5_isKnown wp_X5_isKnown_0
        rw [h23, h24, hc]
        refine ⟨hin, fun e2 => ⟨fun _ => nxt ?_, fun q => absurd rfl q⟩, fun e2 => ⟨hin, fun e3 => ⟨fun q => absurd q (by decide), fun _ => ?_⟩, fun e3 => ⟨hin, fun e4 => ⟨fun _ => nxt ?_, fun q => absurd rfl q⟩, fun e4 => ⟨fun q => absurd q (by decide), fun _ => ?_⟩⟩⟩⟩
        · simp [kn, e2]
        · have := yes (by simp [kn, e1, e2, hbb.mp e3])
          rw [hc] at this
          exact this
        · have e3' : ¬ ba t < 0 := fun q => e3 (hbb.mpr q)
          simp [kn, e3', e4]
        · have := yes (by simp [kn, e1, e2, e4])
          rw [hc] at this
          exact this
      · rw [h22, hc] at e1
        simp [e1]
def cBt (nb : Nat) (m : Nat) (mk : Nat → Nat) (l : Nat) : Nat := fb_ct (fun b => m.testBit b && (mk b).testBit l) nb
theorem c_of {l m : Nat} (hnb : nb ≤ 60) (hl : l < 12) (hm : m < 2 ^ 60) (hmk : ∀ b, mk b < 2 ^ 12) (h7 : u3.1 7 = nI nb) (h6 : u3.2 6 = zN mk) (hQ : QM (nI (cBt nb m mk l)) u3) : TX3_batchesOf QM (nI l) (lN m) u3 := by
  refine ⟨fun n x1 x2 x4 x5 v => ∃ b : Nat, b ≤ nb ∧ n = nb - b ∧ x1 = nI l ∧ x2 = lN m ∧ x4 = nI (cBt b m mk l) ∧ x5 = nI b ∧ v = u3, ?_, ?_⟩
  · unfold wp_X3_batchesOf_0
    rintro _ rfl _ rfl
    exact ⟨_, 0, by omega, rfl, rfl, rfl, rfl, rfl, rfl⟩
  · rintro n _ _ _ _ _ ⟨b, hb, hn, rfl, rfl, rfl, rfl, rfl⟩
    unfold wp_X3_batchesOf_6
    rw [h7]
    refine pk_le nb b (fun h => ?_) (fun h => ?_)
    · have : b = nb := by omega
      subst this
      exact hQ
    · have hmb := hmk b
      have es : cBt (b + 1) m mk l = cBt b m mk l + (if m.testBit b && (mk b).testBit l then 1 else 0) := fb_ct_succ _ b
      rw [h6, nI_clamp (by omega), zN_at, z_ib (by omega) (by omega), z_lb hm (by omega)]
      refine ⟨fun e1 => ?_, fun e1 => ⟨vp_in_nI (by omega) (by omega), fun e2 => ?_, fun e2 => ?_⟩⟩
      · rintro _ rfl
        refine ⟨nb - (b + 1), by omega, b + 1, by omega, rfl, rfl, rfl, ?_, nI_1 b, rfl⟩
        rw [es, e1]; rfl
      · rintro _ rfl
        refine ⟨nb - (b + 1), by omega, b + 1, by omega, rfl, rfl, rfl, ?_, nI_1 b, rfl⟩
        rcases h3 : (mk b).testBit l with _ | _
        · rw [es, h3]; simp
        · rw [h3] at e2; exact absurd e2 (by decide)
      · rintro _ rfl _ rfl
        refine ⟨nb - (b + 1), by omega, b + 1, by omega, rfl, rfl, rfl, ?_, nI_1 b, rfl⟩
        rcases h3 : (mk b).testBit l with _ | _
        · rw [h3] at e2; exact absurd rfl e2
        · rcases h4 : m.testBit b with _ | _
          · exact absurd h4 e1
          · rw [es, h3, h4, nI_1]; simp
theorem m_look5 {l : Nat} (hnb : nb ≤ 60) (hnt : nt ≤ 100) (hl : l < 12) (htb : ∀ t, t < nt → tb t < 60) (hmk : ∀ b, mk b < 2 ^ 12) (h19 : u.1 19 = nI nb) (h18 : u.2 18 = zN mk) (hu : mT nt tb br to ba u) (hday : u.1 1 = day) (hQ : QM (nI (fb_ct (fun b => (mk b).testBit l && zEx (dk tb br to ba day 1 b) nt) nb)) u)
    (n : Nat) (x1 x3 x4 : Int32) (v : zSt) (hI : ∃ b : Nat, b ≤ nb ∧ n = nb - b ∧ x1 = nI l ∧ x3 = nI (fb_ct (fun b => (mk b).testBit l && zEx (dk tb br to ba day 1 b) nt) b) ∧ x4 = nI b ∧ v = u) : wp_X7_look_100 (fun x1 x3 x4 v => ∃ k : Nat, k < n ∧ ∃ b : Nat, b ≤ nb ∧ k = nb - b ∧ x1 = nI l ∧ x3 = nI (fb_ct (fun b => (mk b).testBit l && zEx (dk tb br to ba day 1 b) nt) b) ∧ x4 = nI b ∧ v = u) QM x1 x3 x4 v := by
  obtain ⟨b, hb, hn, rfl, rfl, rfl, rfl⟩ := hI
  unfold wp_X7_look_100
  rw [h19]
  refine pk_le nb b (fun h => ?_) (fun h => ⟨vp_in_nI (by omega) (by omega), ?_⟩)
  · have : b = nb := by omega
    subst this
    exact hQ
  · have hmb := hmk b
    have es := fb_ct_succ (fun b => (mk b).testBit l && zEx (dk tb br to ba day 1 b) nt) b
    rw [h18, nI_clamp (by omega), zN_at, z_ib (by omega) (by omega), hday]
    refine ⟨fun e1 => m_did hnt (by omega) htb hu ?_, fun e1 => ?_⟩
    · rcases h3 : (mk b).testBit l with _ | _
      · rw [h3] at e1; exact absurd e1 (by decide)
      · simp only [h3, Bool.true_and] at es
        rcases h4 : zEx (dk tb br to ba day 1 b) nt with _ | _
        · refine ⟨fun _ => ?_, fun q => absurd rfl q⟩
          unfold wp_X7_look_143 wp_X7_look_144
          rintro _ rfl _ rfl
          refine ⟨nb - (b + 1), by omega, b + 1, by omega, rfl, rfl, ?_, nI_1 b, rfl⟩
          rw [es, h4, show (0 : Int32) = nI 0 from rfl, nI_add]; rfl
        · refine ⟨fun q => absurd q (by decide), fun _ => ?_⟩
          unfold wp_X7_look_144
          rintro _ rfl _ rfl
          refine ⟨nb - (b + 1), by omega, b + 1, by omega, rfl, rfl, ?_, nI_1 b, rfl⟩
          rw [es, h4, show (1 : Int32) = nI 1 from rfl, nI_add]; rfl
    · rcases h3 : (mk b).testBit l with _ | _
      · simp only [h3, Bool.false_and] at es
        unfold wp_X7_look_143 wp_X7_look_144
        rintro _ rfl _ rfl
        refine ⟨nb - (b + 1), by omega, b + 1, by omega, rfl, rfl, ?_, nI_1 b, rfl⟩
        rw [es, show (0 : Int32) = nI 0 from rfl, nI_add]; rfl
      · rw [h3] at e1; exact absurd rfl e1
end ZG
set_option maxHeartbeats 2000000 in
theorem cs_672 {L : Nat} {xs : Nat → Int32} {J23 : Int32 → Nat → Nat → zSt → zSt → zSt → zSt → zSt → zSt → zSt → (Nat → Int64) → Prop} {x4 : Int32} {cs sl : Nat} {u0 u1 u2 u3 u4 u5 u7 : zSt} {u8 : Nat → Int64} (hb : cs + 1 ≤ 601024 ∧ sl + 6 ≤ 7293034) (hi : vp_in (x4 + 1) L ∧ vp_in (x4 + 2) L ∧ vp_in (x4 + 3) L ∧ vp_in (x4 + 4) L) (hR : rAll u1 u2 u3 u4 u5 u7) (hJ : ∀ (cs' sl' : Nat) (v0 v1 v2 v3 v4 v5 v7 : zSt) (v8 : Nat → Int64), cs' ≤ cs + 1 → sl' ≤ sl + 6 → rAll v1 v2 v3 v4 v5 v7 → J23 (x4 + 5) cs' sl' v0 v1 v2 v3 v4 v5 v7 v8) : wp_L_law_672 L xs J23 x4 cs sl u0 u1 u2 u3 u4 u5 u7 u8 := by
  obtain ⟨hE, hL, hT, hG, hM⟩ := id hR
  obtain ⟨nl, nb, mk, hl, hnb, hmk, l5, l17, l7, m19, l8, c0, c1, c2, c3, c4, c6, m18⟩ := id hL
  obtain ⟨nb', nt, td, tb, q1, q2, q3, q4, q5, q6, q7, q8, q9, q10, q11, q12, q13, q14, q15, q16⟩ := id hT
  have hnn : nb' = nb := (nI_eq (by omega) (by omega)).mp (q4.symm.trans m19)
  have hmk' : ∀ b, mk b < 2 ^ 12 := fun b => Nat.lt_of_lt_of_le (hmk b) (Nat.pow_le_pow_right (by decide) hl)
  have htb : ∀ t, t < nt → tb t < 60 := fun t ht => by have := q11 t ht; omega
  unfold wp_L_law_672 TL_look
  refine ⟨hb, hi.1, hi.2.1, ?_⟩
  generalize xs (x4 + 1).toNatClampNeg = p1
  generalize xs (x4 + 2).toNatClampNeg = p2
  have hn : (nI nl).toInt = nl := nI_toInt (by omega)
  unfold TX6_look wp_X6_look_0
  rw [l5]
  refine t_number (fun a1 => ⟨fun h => absurd h (by decide), fun _ => ?_⟩) (fun a1 => ⟨fun _ => Or.inl ⟨rfl, ?_⟩, fun h => absurd rfl h⟩)
  · obtain ⟨l, hll, rfl⟩ := i_of (x := p1) (hi := 11) (by decide) (by omega) (by omega)
    have hin : vp_in (nI l) 12 := vp_in_nI (by omega) (by omega)
    have a1' : 0 ≤ (nI l).toInt ∧ (nI l).toInt < nl := ⟨a1.1, by omega⟩
    rintro p2 rfl
    have go : ∀ (QM : Int32 → zSt → Prop), (∀ v, v = zI u7 0 0 → (p2 = 0 → QM (u7.2 12 (nI l).toNatClampNeg) v) ∧ (¬ p2 = 0 → (p2 = 1 → QM (u7.2 13 (nI l).toNatClampNeg) v) ∧ (¬ p2 = 1 → (p2 = 2 → QM (u7.2 14 (nI l).toNatClampNeg) v) ∧ (¬ p2 = 2 → (p2 = 3 → QM (u7.2 15 (nI l).toNatClampNeg) v) ∧ (¬ p2 = 3 → (p2 = 4 → QM (u7.2 16 (nI l).toNatClampNeg) v) ∧ (¬ p2 = 4 → (p2 = 5 → QM (nI (fb_ct (fun b => (mk b).testBit l && zEx (dk tb (u5.2 1) (u5.2 2) (u5.2 3) (nI td) 1 b) nt) nb)) v) ∧ (¬ p2 = 5 → QM 0 (zI v 0 2)))))))) → TX7_look QM (nI l) p2 u7 := by
      intro QM h
      have h5 := h (zI u7 0 0) rfl
      by_cases e5 : p2 = 5
      · have hQ : QM (nI (fb_ct (fun b => (mk b).testBit l && zEx (dk tb (u5.2 1) (u5.2 2) (u5.2 3) (nI td) 1 b) nt) nb)) (zI u7 0 0) := by
          rw [e5] at h5
          exact ((((((h5.2 (by decide)).2 (by decide)).2 (by decide)).2 (by decide)).2 (by decide)).1 rfl)
        refine ⟨_, ?_, m_look5 (u := zI u7 0 0) (br := u5.2 1) (to := u5.2 2) (ba := u5.2 3) (l := l) hnb q2 (by omega) htb hmk' m19 m18 ⟨q6, q10, q12.symm, q14.symm, q15.symm⟩ q8 hQ⟩
        unfold wp_X7_look_0
        rintro _ rfl
        refine t_noLot (n := nl) (by omega) l17 (fun _ => t_throws0 ⟨fun _ => ?_, fun h => absurd rfl h⟩) (fun q => absurd a1' q)
        rintro _ rfl
        refine ⟨fun q => absurd (q.symm.trans e5) (by decide), fun _ => ⟨fun q => absurd (q.symm.trans e5) (by decide), fun _ => ⟨fun q => absurd (q.symm.trans e5) (by decide), fun _ => ⟨fun q => absurd (q.symm.trans e5) (by decide), fun _ => ⟨fun q => absurd (q.symm.trans e5) (by decide), fun _ => ⟨fun _ => ?_, fun q => absurd e5 q⟩⟩⟩⟩⟩⟩
        rintro _ rfl _ rfl
        exact ⟨_, 0, by omega, rfl, rfl, rfl, rfl, rfl⟩
      · refine ⟨fun _ _ _ _ _ => False, ?_, fun n x1 x3 x4 v h => h.elim⟩
        unfold wp_X7_look_0
        rintro _ rfl
        refine t_noLot (n := nl) (by omega) l17 (fun _ => t_throws0 ⟨fun _ => ?_, fun h => absurd rfl h⟩) (fun q => absurd a1' q)
        rintro _ rfl
        refine ⟨fun q => ⟨hin, h5.1 q⟩, fun n0 => ⟨fun q => ⟨hin, (h5.2 n0).1 q⟩, fun n1 => ⟨fun q => ⟨hin, ((h5.2 n0).2 n1).1 q⟩, fun n2 => ⟨fun q => ⟨hin, (((h5.2 n0).2 n1).2 n2).1 q⟩, fun n3 => ⟨fun q => ⟨hin, ((((h5.2 n0).2 n1).2 n2).2 n3).1 q⟩, fun n4 => ⟨fun q => absurd q e5, fun n5 => ?_⟩⟩⟩⟩⟩⟩
        rintro _ rfl
        exact (((((h5.2 n0).2 n1).2 n2).2 n3).2 n4).2 n5
    have fin : ∀ (k o : Int32) (x8 : Nat → Int64), k = 0 → x8 (0 : Int32).toNatClampNeg = o.toInt64 → ∀ v, v = zI u7 0 0 → ∀ x6 : Int32, x6 = o → TX7_thrown (fun (r : Int32) (u : zSt) => (r = k → (k = (0 : Int32) → ((lg_cmp (x8 (0 : Int32).toNatClampNeg) ((x6 : Int32).toInt64)) = (0 : Int32) → ∀ y : Int32, y = x4 + 5 → J23 y (cs + 1) (sl + 6) u0 u1 u2 u3 u4 u5 u x8) ∧ (¬ (lg_cmp (x8 (0 : Int32).toNatClampNeg) ((x6 : Int32).toInt64)) = (0 : Int32) → False)) ∧ (¬ k = (0 : Int32) → ∀ y : Int32, y = x4 + 5 → J23 y (cs + 1) (sl + 6) u0 u1 u2 u3 u4 u5 u x8)) ∧ (¬ r = k → False)) v := by
      rintro _ o x8 rfl ho _ rfl
      exact z_fin (J := fun y u => J23 y (cs + 1) (sl + 6) u0 u1 u2 u3 u4 u5 u x8) rfl (fun _ => ho) (hJ _ _ _ _ _ _ _ _ _ _ (by omega) (by omega) (hR.t 0))
    have bad : ∀ v, v = zI u7 0 0 → ∀ x6 : Int32, x6 = 0 → TX7_thrown (fun (r : Int32) (u : zSt) => (r = 2 → ((2 : Int32) = (0 : Int32) → ((lg_cmp (u8 (0 : Int32).toNatClampNeg) ((x6 : Int32).toInt64)) = (0 : Int32) → ∀ y : Int32, y = x4 + 5 → J23 y (cs + 1) (sl + 6) u0 u1 u2 u3 u4 u5 u u8) ∧ (¬ (lg_cmp (u8 (0 : Int32).toNatClampNeg) ((x6 : Int32).toInt64)) = (0 : Int32) → False)) ∧ (¬ (2 : Int32) = (0 : Int32) → ∀ y : Int32, y = x4 + 5 → J23 y (cs + 1) (sl + 6) u0 u1 u2 u3 u4 u5 u u8)) ∧ (¬ r = 2 → False)) (zI v 0 2) := by
      rintro _ rfl
      exact z_fin (x5 := 2) (b := 0) (J := fun y u => J23 y (cs + 1) (sl + 6) u0 u1 u2 u3 u4 u5 u u8) rfl (fun h => absurd h (by decide)) (hJ _ _ _ _ _ _ _ _ _ _ (by omega) (by omega) ((hR.t 0).t 2))
    refine ⟨fun e0 => ⟨hin, ?_⟩, fun n0 => ⟨fun e1 => ⟨hin, ?_⟩, fun n1 => ⟨fun e2 => ⟨hin, ?_⟩, fun n2 => ⟨fun e3 => ⟨hin, ?_⟩, fun n3 => ⟨fun e4 => ⟨hin, ?_⟩, fun n4 => ⟨fun e5 => ?_, fun n5 => Or.inr ⟨rfl, ?_⟩⟩⟩⟩⟩⟩⟩
    · rintro _ rfl
      exact ⟨hi.1, hi.2.1, go _ (fun v hv => ⟨fun _ => fin 0 _ _ rfl (congrArg Int32.toInt64 (congrFun c0 _)) v hv, fun q => absurd e0 q⟩)⟩
    · rintro _ rfl
      exact ⟨hi.1, hi.2.1, go _ (fun v hv => ⟨fun q => absurd q n0, fun _ => ⟨fun _ => fin 0 _ _ rfl (congrArg Int32.toInt64 (congrFun c1 _)) v hv, fun q => absurd e1 q⟩⟩)⟩
    · rintro _ rfl
      exact ⟨hi.1, hi.2.1, go _ (fun v hv => ⟨fun q => absurd q n0, fun _ => ⟨fun q => absurd q n1, fun _ => ⟨fun _ => fin 0 _ _ rfl (congrArg Int32.toInt64 (congrFun c2 _)) v hv, fun q => absurd e2 q⟩⟩⟩)⟩
    · rintro _ rfl
      exact ⟨hi.1, hi.2.1, go _ (fun v hv => ⟨fun q => absurd q n0, fun _ => ⟨fun q => absurd q n1, fun _ => ⟨fun q => absurd q n2, fun _ => ⟨fun _ => fin 0 _ _ rfl (congrArg Int32.toInt64 (congrFun c3 _)) v hv, fun q => absurd e3 q⟩⟩⟩⟩)⟩
    · rintro _ rfl
      exact ⟨hi.1, hi.2.1, go _ (fun v hv => ⟨fun q => absurd q n0, fun _ => ⟨fun q => absurd q n1, fun _ => ⟨fun q => absurd q n2, fun _ => ⟨fun q => absurd q n3, fun _ => ⟨fun _ => fin 0 _ _ rfl (congrArg Int32.toInt64 (congrFun c4 _)) v hv, fun q => absurd e4 q⟩⟩⟩⟩⟩)⟩
    · refine c_that q2 htb q16 ⟨q5, q9, rfl, rfl, rfl⟩ ?_
      refine c_of hnb (by omega) (bM_lt htb) hmk' l7 c6 ?_
      rintro _ rfl
      refine ⟨hi.1, hi.2.1, go _ (fun v hv => ⟨fun q => absurd q n0, fun _ => ⟨fun q => absurd q n1, fun _ => ⟨fun q => absurd q n2, fun _ => ⟨fun q => absurd q n3, fun _ => ⟨fun q => absurd q n4, fun _ => ⟨fun _ => fin 0 _ _ rfl (congrArg Int32.toInt64 (congrArg nI ?_)) v hv, fun q => absurd e5 q⟩⟩⟩⟩⟩⟩)⟩
      unfold cBt
      rw [q7]
      refine fb_ct_cong (fun k _ => ?_)
      rw [bM_bit, Bool.and_comm]
      rfl
    · rintro _ rfl
      exact ⟨hi.1, hi.2.1, go _ (fun v hv => ⟨fun q => absurd q n0, fun _ => ⟨fun q => absurd q n1, fun _ => ⟨fun q => absurd q n2, fun _ => ⟨fun q => absurd q n3, fun _ => ⟨fun q => absurd q n4, fun _ => ⟨fun q => absurd q n5, fun _ => bad v hv⟩⟩⟩⟩⟩⟩)⟩
  · rintro _ rfl
    refine ⟨hi.1, hi.2.1, ?_⟩
    refine ⟨fun _ _ _ _ _ => False, ?_, fun n x1 x3 x4 v h => h.elim⟩
    unfold wp_X7_look_0
    rintro _ rfl
    refine t_noLot (n := nl) (by omega) l17 (fun q => absurd ?_ a1) (fun _ => t_throws1 ⟨fun h => absurd h (by decide), fun _ => z_fin rfl (fun h => absurd h (by decide)) ?_⟩)
    · rw [hn]; exact q
    · exact hJ _ _ _ _ _ _ _ _ _ _ (by omega) (by omega) ((hR.t 0).t 1)
