/-! the class's machine -/
section ZL
variable {co κ0 : Nat → Nat} {nj : Nat} {u : zSt}
theorem wt_mono (κ0 : Nat → Nat) (c : Nat) : ∀ n, wt κ0 c ≤ wt κ0 (c + n)
  | 0 => Nat.le_refl _
  | n + 1 => by
    have h := wt_mono κ0 c n
    have e : wt κ0 (c + (n + 1)) = wt κ0 (c + n) * (κ0 (c + n) + 1) := rfl
    rw [e, Nat.mul_add, Nat.mul_one]
    omega
theorem wt_le6 (κ0 : Nat → Nat) {c : Nat} (h : c ≤ 6) : wt κ0 c ≤ wt κ0 6 := by
  have := wt_mono κ0 c (6 - c)
  rwa [Nat.add_sub_cancel' h] at this
theorem enc_full (κ0 : Nat → Nat) : ∀ k, enc κ0 κ0 k + 1 = wt κ0 k
  | 0 => rfl
  | k + 1 => by
    have h := enc_full κ0 k
    have e : enc κ0 κ0 (k + 1) = enc κ0 κ0 k + κ0 k * wt κ0 k := rfl
    rw [e, wt, Nat.mul_add, Nat.mul_one, Nat.mul_comm (wt κ0 k) (κ0 k)]
    omega
def cM (co κ0 : Nat → Nat) (nj : Nat) (v : zSt) : Prop := v.1 1 = nI nj ∧ (∀ i, i < 36 → v.2 0 i = nI (co i)) ∧ (∀ i, 36 ≤ i → i < 42 → v.2 0 i = 0) ∧ (∀ c, c < 6 → v.2 3 c = nI (κ0 c))
def cW (κ0 : Nat → Nat) (v : zSt) : Prop := ∀ c, c < 6 → v.2 4 c = nI (wt κ0 c)
def cTb (co κ0 : Nat → Nat) (st : Nat) (v : zSt) : Prop := ∀ κ : Nat → Nat, (∀ d, κ d ≤ κ0 d) → enc κ0 κ 6 < st → ∀ b, b < 6 → v.2 6 (enc κ0 κ 6 * 6 + b) = nI (opt co (sz κ) κ b)
def kOk (κ0 : Nat → Nat) (nj : Nat) : Prop := nj ≤ 10 ∧ sz κ0 = nj ∧ (∀ d, κ0 d ≤ 10) ∧ (∀ d, 6 ≤ d → κ0 d = 0)
theorem kOk.w (h : kOk κ0 nj) : wt κ0 6 ≤ 324 := by
  have h1 := wt_tb κ0 6
  have h2 : fb_sm κ0 6 = nj := h.2.1
  rw [h2] at h1
  have := tb_324 nj (by have := h.1; omega)
  omega
theorem c_weights {Q : Int32 → zSt → Prop} (hk : kOk κ0 nj) (hm : cM co κ0 nj u) (hQ : ∀ v, zKeep [] [4] u v → cW κ0 v → Q (nI (wt κ0 6)) v) : TX4_setWeights Q u := by
  have hw := hk.w
  refine ⟨fun n x1 x2 v => ∃ c : Nat, c ≤ 6 ∧ n = 6 - c ∧ x1 = nI (wt κ0 c) ∧ x2 = nI c ∧ zKeep [] [4] u v ∧ ∀ d, d < c → v.2 4 d = nI (wt κ0 d), ?_, ?_⟩
  · unfold wp_X4_setWeights_0
    rintro _ rfl _ rfl
    exact ⟨_, 0, by omega, rfl, rfl, rfl, zKeep.rf, fun d hd => absurd hd (by omega)⟩
  · rintro n _ _ v ⟨c, hc, hn, rfl, rfl, hkp, ha⟩
    unfold wp_X4_setWeights_4
    refine pk_le 6 c (fun h => ?_) (fun h => ⟨vp_in_nI (by omega) (by omega), ?_⟩)
    · have : c = 6 := by omega
      subst this
      have e : (if (324 : Int32) < nI (wt κ0 6) then (324 : Int32) else nI (wt κ0 6)) = nI (wt κ0 6) := by
        rw [show (324 : Int32) = nI 324 from rfl]
        exact if_neg (fun q => absurd ((nI_ltI (by omega) (by omega)).mp q) (by omega))
      rw [e]
      exact hQ v hkp ha
    · rintro _ rfl
      refine ⟨vp_in_nI (by omega) (by omega), ?_⟩
      show ∀ x1_2 : Int32, x1_2 = nI (wt κ0 c) * (v.2 3 (nI c).toNatClampNeg + 1) → _
      rw [nI_clamp (by omega), hkp.2 3 (by decide), hm.2.2.2 c h, nI_1, pk_mul]
      rintro _ rfl _ rfl
      refine ⟨6 - (c + 1), by omega, c + 1, by omega, rfl, rfl, nI_1 c, hkp.a (by decide), fun d hd => ?_⟩
      show upd (v.2 4) c (nI (wt κ0 c)) d = _
      by_cases q : d = c
      · rw [q, pk_us]
      · rw [pk_un q]; exact ha d (by omega)
set_option maxHeartbeats 1000000 in
theorem c_left {Q : zSt → Prop} {st : Nat} (hk : kOk κ0 nj) (hm : cM co κ0 nj u) (hw : cW κ0 u) (hst : st < wt κ0 6)
    (hQ : ∀ (v : zSt) (κ : Nat → Nat), zKeep [] [5] u v → (∀ d, κ d ≤ κ0 d) → enc κ0 κ 6 = st → (∀ c, c < 6 → v.2 5 c = nI (κ c)) → Q v) : TX4_setLeft Q (nI st) u := by
  have h324 := hk.w
  refine ⟨fun n x2 x3 v => ∃ (j rest : Nat) (κ : Nat → Nat), j ≤ 6 ∧ n = j * 1000 ∧ x2 = nI rest ∧ x3 = nI j + (-1) ∧ (∀ d, d < j → κ d = 0) ∧ (∀ d, κ d ≤ κ0 d) ∧ enc κ0 κ 6 + rest = st ∧ rest < wt κ0 j ∧ zKeep [] [5] u v ∧ (∀ d, j ≤ d → d < 6 → v.2 5 d = nI (κ d)),
    fun n x2 x3 x4 v => ∃ (c rest m : Nat) (κ : Nat → Nat), c < 6 ∧ m ≤ κ0 c ∧ n = c * 1000 + 500 + (κ0 c - m) ∧ x2 = nI rest ∧ x3 = nI c ∧ x4 = nI m ∧ (∀ d, d < c + 1 → κ d = 0) ∧ (∀ d, κ d ≤ κ0 d) ∧ enc κ0 κ 6 + rest + m * wt κ0 c = st ∧ rest + m * wt κ0 c < wt κ0 (c + 1) ∧ zKeep [] [5] u v ∧ (∀ d, c + 1 ≤ d → d < 6 → v.2 5 d = nI (κ d)), ?_, ?_, ?_⟩
  · unfold wp_X4_setLeft_0
    rintro _ rfl _ rfl
    refine ⟨_, 6, st, fun _ => 0, by omega, rfl, rfl, by decide, fun _ _ => rfl, fun _ => Nat.zero_le _, ?_, hst, zKeep.rf, fun d h1 h2 => absurd h1 (by omega)⟩
    have : enc κ0 (fun _ => 0) 6 = 0 := by
      unfold enc
      have e : (fun c => (fun _ => 0) c * wt κ0 c) = fun _ => 0 := funext (fun c => Nat.zero_mul _)
      rw [e, fb_sm_const]
    omega
  · rintro n _ _ v ⟨j, rest, κ, hj, hn, rfl, rfl, hz, hle, he, hr, hkp, ha⟩
    unfold wp_X4_setLeft_4
    rcases j with _ | j
    · refine ⟨fun _ => hQ v κ hkp hle (by have e : wt κ0 0 = 1 := rfl; omega) (fun c hc => ha c (by omega) hc), fun q => absurd (by decide) q⟩
    · rw [pk_m1]
      refine ⟨fun q => absurd q (nI_pos (by omega)), fun _ => ?_⟩
      rintro _ rfl
      exact ⟨j * 1000 + 500 + (κ0 j - 0), by have := hk.2.2.1 j; omega, j, rest, 0, κ, by omega, by omega, rfl, rfl, rfl, rfl, hz, hle, by omega, by omega, hkp, ha⟩
  · rintro n _ _ _ v ⟨c, rest, m, κ, hc, hmk, hn, rfl, rfl, rfl, hz, hle, he, hr, hkp, ha⟩
    have h10 := hk.2.2.1 c
    have hin : vp_in (nI c) 6 := vp_in_nI (by omega) (by omega)
    have hcl : (nI c).toNatClampNeg = c := nI_clamp (by omega)
    have w1 := wt_le6 κ0 (show c ≤ 6 by omega)
    have ew : wt κ0 (c + 1) = wt κ0 c * (κ0 c + 1) := rfl
    have fin : rest < wt κ0 c → wp_X4_setLeft_47 (fun x2 x3 v => ∃ k : Nat, k < n ∧ ∃ (j rest : Nat) (κ : Nat → Nat), j ≤ 6 ∧ k = j * 1000 ∧ x2 = nI rest ∧ x3 = nI j + (-1) ∧ (∀ d, d < j → κ d = 0) ∧ (∀ d, κ d ≤ κ0 d) ∧ enc κ0 κ 6 + rest = st ∧ rest < wt κ0 j ∧ zKeep [] [5] u v ∧ (∀ d, j ≤ d → d < 6 → v.2 5 d = nI (κ d))) (fun x2 x3 x4 v => ∃ k : Nat, k < n ∧ ∃ (c rest m : Nat) (κ : Nat → Nat), c < 6 ∧ m ≤ κ0 c ∧ k = c * 1000 + 500 + (κ0 c - m) ∧ x2 = nI rest ∧ x3 = nI c ∧ x4 = nI m ∧ (∀ d, d < c + 1 → κ d = 0) ∧ (∀ d, κ d ≤ κ0 d) ∧ enc κ0 κ 6 + rest + m * wt κ0 c = st ∧ rest + m * wt κ0 c < wt κ0 (c + 1) ∧ zKeep [] [5] u v ∧ (∀ d, c + 1 ≤ d → d < 6 → v.2 5 d = nI (κ d))) Q (nI rest) (nI c) (nI m) v := by
      intro hrw
      unfold wp_X4_setLeft_47
      refine ⟨hin, ?_⟩
      rw [hcl]
      rintro _ rfl _ rfl
      have eu := enc_up (κ0 := κ0) (κ := κ) (n := m) hc
      rw [hz c (by omega), Nat.zero_mul] at eu
      refine ⟨c * 1000, by omega, c, rest, zUp κ c m, by omega, rfl, rfl, rfl, fun d hd => ?_, fun d => ?_, by omega, hrw, hkp.a (by decide), fun d h1 h2 => ?_⟩
      · unfold zUp; rw [if_neg (by omega)]; exact hz d (by omega)
      · unfold zUp
        by_cases q : d = c
        · rw [if_pos q, q]; exact hmk
        · rw [if_neg q]; exact hle d
      · show upd (v.2 5) c (nI m) d = nI (zUp κ c m d)
        unfold zUp
        by_cases q : d = c
        · rw [q, pk_us, if_pos rfl]
        · rw [pk_un q, if_neg q]; exact ha d (by omega) h2
    unfold wp_X4_setLeft_11
    rw [hcl, hkp.2 3 (by decide), hm.2.2.2 c hc]
    refine ⟨hin, pk_le (κ0 c) m (fun h => fin ?_) (fun h => ⟨hin, ?_⟩)⟩
    · have e : m = κ0 c := by omega
      rw [ew, Nat.mul_add, Nat.mul_one, Nat.mul_comm (wt κ0 c) (κ0 c), ← e] at hr
      omega
    · rw [hkp.2 4 (by decide), hw c hc]
      refine pk_lt rest (wt κ0 c) (fun h1 => fin h1) (fun h1 => ⟨hin, ?_⟩)
      rw [pk_sub h1]
      rintro _ rfl _ rfl
      have em : (m + 1) * wt κ0 c = m * wt κ0 c + wt κ0 c := by rw [Nat.add_mul, Nat.one_mul]
      exact ⟨c * 1000 + 500 + (κ0 c - (m + 1)), by omega, c, rest - wt κ0 c, m + 1, κ, hc, by omega, rfl, rfl, rfl, nI_1 m, hz, hle, by omega, by omega, hkp, ha⟩
theorem c_thr {Q : Int32 → zSt → Prop} {v : zSt} {κ : Nat → Nat} {b c S : Nat} (hk : kOk κ0 nj) (hco : ∀ i, co i ≤ 1000) (hm : cM co κ0 nj v) (hw : cW κ0 v) (ht : cTb co κ0 S v) (hS : enc κ0 κ 6 ≤ S) (hle : ∀ d, κ d ≤ κ0 d) (hb : b ≤ 6) (hc : c < 6) (hp : 0 < κ c) (hQ : Q (nI (gx co (sz κ - 1) κ b c)) v) : TX4_costThrough Q (nI (enc κ0 κ 6)) (nI b) (nI c) v := by
  unfold TX4_costThrough wp_X4_costThrough_0
  have h324 := hk.w
  have hlt := enc_lt hle 6
  have he := enc_kD (κ0 := κ0) hc hp
  have hwp := wt_pos κ0 c
  have hs := sz_kD hc hp
  have hcl : (nI c).toNatClampNeg = c := nI_clamp (by omega)
  refine ⟨fun q => absurd q (b_neg1 (by omega)), fun _ => ?_⟩
  rw [show (6 : Int32) = nI 6 from rfl, pk_mul, nI_add, hcl, hw c hc, pk_sub (by omega), show enc κ0 κ 6 - wt κ0 c = enc κ0 (kD κ c) 6 by omega, pk_mul, nI_add, nI_clamp (by omega), nI_clamp (by omega)]
  refine ⟨vp_in_nI (by omega) (by omega), vp_in_nI (by omega) (by omega), vp_in_nI (by omega) (by omega), ?_⟩
  rw [ht (kD κ c) (kD_le hle c) (by omega) c hc]
  have ec : v.2 0 (b * 6 + c) = nI (cs co b c) := by
    unfold cs
    by_cases q : b = 6
    · rw [if_pos q, q]; exact hm.2.2.1 _ (by omega) (by omega)
    · rw [if_neg q, Nat.mul_comm b 6]; exact hm.2.1 _ (by omega)
  rw [ec, nI_add]
  have es : sz (kD κ c) = sz κ - 1 := by omega
  rw [es]
  exact hQ
theorem c_best {Q : Int32 → zSt → Prop} {v : zSt} {κ : Nat → Nat} {b S : Nat} (hk : kOk κ0 nj) (hco : ∀ i, co i ≤ 1000) (hm : cM co κ0 nj v) (hw : cW κ0 v) (ht : cTb co κ0 S v) (hS : enc κ0 κ 6 ≤ S) (hle : ∀ d, κ d ≤ κ0 d) (hb : b ≤ 6) (hl : ∀ c, c < 6 → v.2 5 c = nI (κ c)) (hz : 0 < sz κ)
    (hQ : ∀ c, bst (fun c => decide (0 < κ c)) (gx co (sz κ - 1) κ b) 6 = some c → c < 6 → 0 < κ c → Q (nI c) v) : TX4_bestNext Q (nI (enc κ0 κ 6)) (nI b) v := by
  have hsz : sz κ ≤ nj := by
    have : fb_sm κ 6 ≤ fb_sm κ0 6 := fb_sm_le (fun k _ => hle k)
    have e : fb_sm κ0 6 = nj := hk.2.1
    have e2 : sz κ = fb_sm κ 6 := rfl
    omega
  have hn10 := hk.1
  have hg : ∀ c, gx co (sz κ - 1) κ b c ≤ 20000 := fun c => by
    have := gx_le hco (sz κ - 1) κ b c
    omega
  refine ⟨fun n x1 x2 x3 x4 x5 w => ∃ k : Nat, k ≤ 6 ∧ n = 6 - k ∧ x1 = nI (enc κ0 κ 6) ∧ x2 = nI b ∧ x5 = nI k ∧ w = v ∧ ((bst (fun c => decide (0 < κ c)) (gx co (sz κ - 1) κ b) k = none ∧ x3 = -1) ∨ ∃ c, bst (fun c => decide (0 < κ c)) (gx co (sz κ - 1) κ b) k = some c ∧ c < 6 ∧ x3 = nI c ∧ x4 = nI (gx co (sz κ - 1) κ b c)), ?_, ?_⟩
  · unfold wp_X4_bestNext_0
    rintro _ rfl _ rfl _ rfl
    exact ⟨_, 0, by omega, rfl, rfl, rfl, rfl, rfl, Or.inl ⟨rfl, rfl⟩⟩
  · rintro n _ _ x3 x4 _ w ⟨k, hk6, hn, rfl, rfl, rfl, rfl, hx⟩
    unfold wp_X4_bestNext_8
    refine pk_le 6 k (fun h => ?_) (fun h => ⟨vp_in_nI (by omega) (by omega), ?_⟩)
    · have : k = 6 := by omega
      subst this
      obtain ⟨c, e, c1, c2, _⟩ := bst_ex (g := gx co (sz κ - 1) κ b) hz
      rcases hx with ⟨e1, _⟩ | ⟨c', e1, hc', rfl, _⟩
      · rw [e] at e1; cases e1
      · rw [e] at e1
        have : c = c' := Option.some.inj e1
        subst this
        exact hQ c e c1 (by simpa using c2)
    · rw [nI_clamp (by omega), hl k h]
      have hk10 : κ k ≤ 10 := Nat.le_trans (hle k) (hk.2.2.1 k)
      refine pk_le (κ k) 0 (fun h0 => ?_) (fun h0 => ?_)
      · rintro _ rfl
        refine ⟨6 - (k + 1), by omega, k + 1, by omega, rfl, rfl, rfl, nI_1 k, rfl, ?_⟩
        have hp : decide (0 < κ k) = false := by simp; omega
        rcases hx with ⟨e1, rfl⟩ | ⟨c, e1, hc, rfl, rfl⟩
        · exact Or.inl ⟨by simp [bst, e1, hp], rfl⟩
        · exact Or.inr ⟨c, by simp [bst, e1, hp], hc, rfl, rfl⟩
      · have hp : decide (0 < κ k) = true := by simp; omega
        refine c_thr hk hco hm hw ht hS hle hb h h0 ?_
        rintro _ rfl
        have take : bst (fun c => decide (0 < κ c)) (gx co (sz κ - 1) κ b) (k + 1) = some k → wp_X4_bestNext_47 (fun x1 x2 x3 x4 x5 u => ∃ k : Nat, k < n ∧ ∃ k' : Nat, k' ≤ 6 ∧ k = 6 - k' ∧ x1 = nI (enc κ0 κ 6) ∧ x2 = nI b ∧ x5 = nI k' ∧ u = w ∧ ((bst (fun c => decide (0 < κ c)) (gx co (sz κ - 1) κ b) k' = none ∧ x3 = -1) ∨ ∃ c, bst (fun c => decide (0 < κ c)) (gx co (sz κ - 1) κ b) k' = some c ∧ c < 6 ∧ x3 = nI c ∧ x4 = nI (gx co (sz κ - 1) κ b c))) Q (nI (enc κ0 κ 6)) (nI b) (nI k) (nI (gx co (sz κ - 1) κ b k)) w := by
          intro e
          unfold wp_X4_bestNext_47
          rintro _ rfl _ rfl _ rfl
          exact ⟨6 - (k + 1), by omega, k + 1, by omega, rfl, rfl, rfl, nI_1 k, rfl, Or.inr ⟨k, e, h, rfl, rfl⟩⟩
        rcases hx with ⟨e1, rfl⟩ | ⟨c, e1, hc, rfl, rfl⟩
        · exact ⟨fun _ => take (by simp [bst, e1, hp]), fun q => absurd rfl q⟩
        · refine ⟨fun q => absurd q (b_neg1 (by omega)), fun _ => ?_⟩
          have g1 := hg c
          have g2 := hg k
          refine pk_le (gx co (sz κ - 1) κ b c) (gx co (sz κ - 1) κ b k) (fun q => ?_) (fun q => take (by simp [bst, e1, hp, q]))
          rintro _ rfl
          have q' : ¬ gx co (sz κ - 1) κ b k < gx co (sz κ - 1) κ b c := by omega
          exact ⟨6 - (k + 1), by omega, k + 1, by omega, rfl, rfl, rfl, nI_1 k, rfl, Or.inr ⟨c, by simp [bst, e1, hp, q'], hc, rfl, rfl⟩⟩
def cR (x : Int32) (b : Nat) : Prop := (x = -1 ∧ b = 6) ∨ (b < 6 ∧ x = nI b)
set_option maxHeartbeats 1000000 in
theorem c_walk {Q : Int32 → zSt → Prop} {on : Nat} (hk : kOk κ0 nj) (hco : ∀ i, co i ≤ 1000) (hm : cM co κ0 nj u) (hw : cW κ0 u) (ht : cTb co κ0 (wt κ0 6) u) (hon : cR (u.1 2) on)
    (hQ : ∀ v, zKeep [2] [5] u v → cR (v.1 2) (fc co nj κ0 on) → Q (nI (opt co nj κ0 on)) v) : TX4_walkBestOrder Q (nI (enc κ0 κ0 6)) u := by
  have hn10 := hk.1
  refine ⟨fun n x2 x3 x4 v => ∃ (κ : Nat → Nat) (dn on' acc : Nat), (∀ d, κ d ≤ κ0 d) ∧ sz κ + dn = nj ∧ n = nj - dn ∧ x2 = nI acc ∧ x3 = nI (enc κ0 κ 6) ∧ x4 = nI dn ∧ cR (v.1 2) on' ∧ acc + opt co (sz κ) κ on' = opt co nj κ0 on ∧ fc co (sz κ) κ on' = fc co nj κ0 on ∧ zKeep [2] [5] u v, ?_, ?_⟩
  · unfold wp_X4_walkBestOrder_0
    rintro _ rfl _ rfl _ rfl
    refine ⟨_, κ0, 0, on, 0, fun _ => Nat.le_refl _, by have := hk.2.1; omega, rfl, rfl, rfl, rfl, hon, ?_, ?_, zKeep.rf⟩
    · rw [hk.2.1]; omega
    · rw [hk.2.1]
  · rintro n _ _ _ v ⟨κ, dn, on', acc, hle, hsz, hn, rfl, rfl, rfl, hcr, hacc, hfc, hkp⟩
    unfold wp_X4_walkBestOrder_7
    rw [show v.1 1 = nI nj from (hkp.1 1 (by decide)).trans hm.1]
    refine pk_le nj dn (fun h => ?_) (fun h => ?_)
    · have e : sz κ = 0 := by omega
      rw [e] at hacc hfc
      have ea : acc = opt co nj κ0 on := by rw [← hacc]; rfl
      have ef : on' = fc co nj κ0 on := by rw [← hfc]; rfl
      rw [ea]
      rw [ef] at hcr
      exact hQ v hkp hcr
    · have hmv : cM co κ0 nj v := ⟨(hkp.1 1 (by decide)).trans hm.1, by rw [hkp.2 0 (by decide)]; exact hm.2.1, by rw [hkp.2 0 (by decide)]; exact hm.2.2.1, by rw [hkp.2 3 (by decide)]; exact hm.2.2.2⟩
      have hwv : cW κ0 v := by unfold cW; rw [hkp.2 4 (by decide)]; exact hw
      refine c_left hk hmv hwv (enc_lt hle 6) (fun w κ' hk2 hle' he hl => ?_)
      have hκ : κ' = κ := funext (fun c => by
        by_cases q : c < 6
        · exact enc_inj hle' hle 6 he c q
        · have a1 := hle' c
          have a2 := hle c
          have a3 := hk.2.2.2 c (by omega)
          omega)
      subst hκ
      have hk3 : zKeep [2] [5] u w := hkp.tr (hk2.wk (by decide) (by decide))
      have hmw : cM co κ0 nj w := ⟨(hk3.1 1 (by decide)).trans hm.1, by rw [hk3.2 0 (by decide)]; exact hm.2.1, by rw [hk3.2 0 (by decide)]; exact hm.2.2.1, by rw [hk3.2 3 (by decide)]; exact hm.2.2.2⟩
      have hww : cW κ0 w := by unfold cW; rw [hk3.2 4 (by decide)]; exact hw
      have htw : cTb co κ0 (wt κ0 6) w := by unfold cTb; rw [hk3.2 6 (by decide)]; exact ht
      have hcw : cR (w.1 2) on' := by rw [hk2.1 2 (by decide)]; exact hcr
      obtain ⟨m, em⟩ : ∃ m, sz κ' = m + 1 := ⟨sz κ' - 1, by omega⟩
      have hb6 : on' ≤ 6 := by rcases hcr with ⟨_, q⟩ | ⟨q, _⟩ <;> omega
      have go : wp_X4_walkBestOrder_38 (fun x2 x3 x4 v => ∃ k : Nat, k < n ∧ ∃ (κ : Nat → Nat) (dn on' acc : Nat), (∀ d, κ d ≤ κ0 d) ∧ sz κ + dn = nj ∧ k = nj - dn ∧ x2 = nI acc ∧ x3 = nI (enc κ0 κ 6) ∧ x4 = nI dn ∧ cR (v.1 2) on' ∧ acc + opt co (sz κ) κ on' = opt co nj κ0 on ∧ fc co (sz κ) κ on' = fc co nj κ0 on ∧ zKeep [2] [5] u v) Q (nI acc) (nI (enc κ0 κ' 6)) (nI dn) (nI on') w := by
        unfold wp_X4_walkBestOrder_38
        rintro _ rfl
        refine c_best hk hco hmw hww htw (Nat.le_of_lt (enc_lt hle 6)) hle hb6 hl (by omega) (fun c ec hc hp => ?_)
        rw [em, Nat.add_sub_cancel] at ec
        have hs := sz_kD hc hp
        have hes : sz (kD κ' c) = m := by omega
        have he' := enc_kD (κ0 := κ0) hc hp
        rintro _ rfl
        refine ⟨fun q => absurd q (b_neg1 (by omega)), fun _ => ?_⟩
        have ecs : w.2 0 (on' * 6 + c) = nI (cs co on' c) := by
          unfold cs
          by_cases q : on' = 6
          · rw [if_pos q, q]; exact hmw.2.2.1 _ (by omega) (by omega)
          · rw [if_neg q, Nat.mul_comm on' 6]; exact hmw.2.1 _ (by omega)
        rw [show (6 : Int32) = nI 6 from rfl, pk_mul, nI_add, nI_clamp (by omega), nI_clamp (by omega), ecs, hww c hc, pk_sub (by omega), nI_add, show enc κ0 κ' 6 - wt κ0 c = enc κ0 (kD κ' c) 6 by omega]
        refine ⟨vp_in_nI (by omega) (by omega), ?_⟩
        rintro _ rfl
        refine ⟨vp_in_nI (by omega) (by omega), ?_⟩
        rintro _ rfl _ rfl _ rfl
        refine ⟨nj - (dn + 1), by omega, kD κ' c, dn + 1, c, acc + cs co on' c, kD_le hle c, by omega, rfl, rfl, rfl, nI_1 dn, Or.inr ⟨hc, rfl⟩, ?_, ?_, hk3.i (by decide)⟩
        · rw [em, opt_some ec] at hacc
          unfold gx at hacc
          rw [hes]
          omega
        · rw [em, fc_some ec] at hfc
          rw [hes]
          exact hfc
      rcases hcw with ⟨q1, q2⟩ | ⟨q1, q2⟩
      · refine ⟨fun _ => ?_, fun q => absurd q1 q⟩
        rw [q2] at go
        exact go
      · rw [q2]
        exact ⟨fun q => absurd q (b_neg1 (by omega)), fun _ => go⟩
theorem c_clear {Q : zSt → Prop} (hQ : ∀ v, zKeep [1] [3] u v → v.1 1 = 0 → (∀ c, c < 6 → v.2 3 c = 0) → Q v) : TX4_clearJobs Q u := by
  refine ⟨fun n x1 v => ∃ c : Nat, c ≤ 6 ∧ n = 6 - c ∧ x1 = nI c ∧ zKeep [1] [3] u v ∧ v.1 1 = 0 ∧ ∀ d, d < c → v.2 3 d = 0, ?_, ?_⟩
  · unfold wp_X4_clearJobs_0
    rintro _ rfl _ rfl
    exact ⟨_, 0, by omega, rfl, rfl, zKeep.rf.i (by decide), rfl, fun d hd => absurd hd (by omega)⟩
  · rintro n _ v ⟨c, hc, hn, rfl, hkp, h1, ha⟩
    unfold wp_X4_clearJobs_7
    refine pk_le 6 c (fun h => ?_) (fun h => ⟨vp_in_nI (by omega) (by omega), ?_⟩)
    · have : c = 6 := by omega
      subst this
      exact hQ v hkp h1 ha
    · rintro _ rfl _ rfl
      refine ⟨6 - (c + 1), by omega, c + 1, by omega, rfl, nI_1 c, hkp.a (by decide), h1, fun d hd => ?_⟩
      show upd (v.2 3) (nI c).toNatClampNeg 0 d = 0
      rw [nI_clamp (by omega)]
      by_cases q : d = c
      · rw [q, pk_us]
      · rw [pk_un q]; exact ha d (by omega)
set_option maxHeartbeats 2000000 in
theorem c_run {Q : Int32 → zSt → Prop} {on : Nat} (hk : kOk κ0 nj) (hco : ∀ i, co i ≤ 1000) (hm : cM co κ0 nj u) (h0 : ∀ c, c < 6 → u.2 6 c = 0) (hon : cR (u.1 2) on)
    (hQ : ∀ v, zKeep [1, 2] [3, 4, 5, 6] u v → v.1 1 = 0 → (∀ c, c < 6 → v.2 3 c = 0) → (∀ c, c < 6 → v.2 6 c = 0) → cR (v.1 2) (fc co nj κ0 on) → Q (nI (opt co nj κ0 on)) v) : TX4_runJobs Q u := by
  have h324 := hk.w
  have hW := wt_pos κ0 6
  have mk : ∀ v, zKeep [] [4, 5, 6] u v → cM co κ0 nj v := fun v hkp => ⟨(hkp.1 1 (by decide)).trans hm.1, by rw [hkp.2 0 (by decide)]; exact hm.2.1, by rw [hkp.2 0 (by decide)]; exact hm.2.2.1, by rw [hkp.2 3 (by decide)]; exact hm.2.2.2⟩
  have k0 : ∀ κ : Nat → Nat, (∀ d, κ d ≤ κ0 d) → enc κ0 κ 6 = 0 → sz κ = 0 := by
    intro κ hle he
    have e0 : enc κ0 (fun _ => 0) 6 = 0 := by
      unfold enc
      have e : (fun c => (fun _ => 0) c * wt κ0 c) = fun _ => 0 := funext (fun c => Nat.zero_mul _)
      rw [e, fb_sm_const]
    have hz := enc_inj hle (fun _ => Nat.zero_le _) 6 (he.trans e0.symm)
    have : fb_sm κ 6 = fb_sm (fun _ => 0) 6 := fb_sm_cong hz
    rw [fb_sm_const] at this
    exact this
  have same : ∀ κ κ' : Nat → Nat, (∀ d, κ d ≤ κ0 d) → (∀ d, κ' d ≤ κ0 d) → enc κ0 κ 6 = enc κ0 κ' 6 → κ = κ' := by
    intro κ κ' hle hle' he
    funext c
    by_cases q : c < 6
    · exact enc_inj hle hle' 6 he c q
    · have a1 := hle' c
      have a2 := hle c
      have a3 := hk.2.2.2 c (by omega)
      omega
  refine ⟨fun n x1 x2 v => ∃ st : Nat, 1 ≤ st ∧ st ≤ wt κ0 6 ∧ n = (324 - st) * 100 + 99 ∧ x1 = nI (wt κ0 6) ∧ x2 = nI st ∧ zKeep [] [4, 5, 6] u v ∧ cW κ0 v ∧ cTb co κ0 st v ∧ (∀ c, c < 6 → v.2 6 c = 0),
    fun n x1 x2 x3 v => ∃ (b : Nat) (κ : Nat → Nat), b ≤ 6 ∧ (∀ d, κ d ≤ κ0 d) ∧ 1 ≤ enc κ0 κ 6 ∧ enc κ0 κ 6 < wt κ0 6 ∧ n = (324 - enc κ0 κ 6) * 100 + (6 - b) ∧ x1 = nI (wt κ0 6) ∧ x2 = nI (enc κ0 κ 6) ∧ x3 = nI b ∧ zKeep [] [4, 5, 6] u v ∧ cW κ0 v ∧ cTb co κ0 (enc κ0 κ 6) v ∧ (∀ c, c < 6 → v.2 6 c = 0) ∧ (∀ c, c < 6 → v.2 5 c = nI (κ c)) ∧ (∀ b', b' < b → v.2 6 (enc κ0 κ 6 * 6 + b') = nI (opt co (sz κ) κ b')), ?_, ?_, ?_⟩
  · unfold wp_X4_runJobs_0
    refine c_weights hk hm (fun v hkp hw => ?_)
    rintro _ rfl _ rfl
    refine ⟨_, 1, by omega, by omega, rfl, rfl, rfl, hkp.wk (by decide) (by decide), hw, fun κ hle he b hb => ?_, by rw [hkp.2 6 (by decide)]; exact h0⟩
    have e0 : enc κ0 κ 6 = 0 := by omega
    rw [e0, k0 κ hle e0, hkp.2 6 (by decide), Nat.zero_mul, Nat.zero_add]
    exact h0 b hb
  · rintro n _ _ v ⟨st, h1, hst, hn, rfl, rfl, hkp, hw, ht, hz⟩
    unfold wp_X4_runJobs_7
    refine pk_le (wt κ0 6) st (fun h => ?_) (fun h => ?_)
    · have : st = wt κ0 6 := by omega
      subst this
      have ef := enc_full κ0 6
      rw [show (1 : Int32) = nI 1 from rfl, pk_sub (by omega), show wt κ0 6 - 1 = enc κ0 κ0 6 by omega]
      refine c_walk hk hco (mk v hkp) hw ht (by rw [hkp.1 2 (by decide)]; exact hon) (fun w hk2 hcr => ?_)
      rintro _ rfl
      refine c_clear (fun w' hk3 e1 e3 => ?_)
      refine hQ w' ((hkp.wk (by decide) (by decide)).tr ((hk2.wk (by decide) (by decide)).tr (hk3.wk (by decide) (by decide)))) e1 e3 ?_ (by rw [hk3.1 2 (by decide)]; exact hcr)
      rw [hk3.2 6 (by decide), hk2.2 6 (by decide)]
      exact hz
    · refine c_left hk (mk v hkp) hw h (fun w κ hk2 hle he hl => ?_)
      rintro _ rfl
      subst he
      exact ⟨(324 - enc κ0 κ 6) * 100 + (6 - 0), by omega, 0, κ, by omega, hle, h1, h, rfl, rfl, rfl, rfl, hkp.tr (hk2.wk (by decide) (by decide)), by unfold cW; rw [hk2.2 4 (by decide)]; exact hw, by unfold cTb; rw [hk2.2 6 (by decide)]; exact ht, by rw [hk2.2 6 (by decide)]; exact hz, hl, fun b' hb' => absurd hb' (by omega)⟩
  · rintro n _ _ _ v ⟨b, κ, hb, hle, h1, hlt, hn, rfl, rfl, rfl, hkp, hw, ht, hz, hl, hd⟩
    unfold wp_X4_runJobs_19
    have hsz : 0 < sz κ := by
      refine Nat.pos_of_ne_zero (fun q => ?_)
      have h2 := fb_sm_zero (show fb_sm κ 6 = 0 from q)
      have : enc κ0 κ 6 = fb_sm (fun _ => 0) 6 := fb_sm_cong (fun k hk => by rw [h2 k hk, Nat.zero_mul])
      rw [fb_sm_const] at this
      omega
    refine pk_le 6 b (fun h => ?_) (fun h => ?_)
    · have : b = 6 := by omega
      subst this
      rintro _ rfl
      refine ⟨(324 - (enc κ0 κ 6 + 1)) * 100 + 99, by omega, enc κ0 κ 6 + 1, by omega, by omega, rfl, rfl, nI_1 _, hkp, hw, fun κ' hle' he b hb => ?_, hz⟩
      by_cases q : enc κ0 κ' 6 = enc κ0 κ 6
      · have := same κ' κ hle' hle q
        subst this
        exact hd b hb
      · exact ht κ' hle' (by omega) b hb
    · obtain ⟨m, em⟩ : ∃ m, sz κ = m + 1 := ⟨sz κ - 1, by omega⟩
      refine c_best hk hco (mk v hkp) hw ht (Nat.le_refl _) hle (by omega) hl hsz (fun c ec hc hp => ?_)
      refine c_thr hk hco (mk v hkp) hw ht (Nat.le_refl _) hle (by omega) hc hp ?_
      rw [em, Nat.add_sub_cancel] at ec ⊢
      rw [← opt_some ec, ← em, show (6 : Int32) = nI 6 from rfl, pk_mul, nI_add, nI_clamp (by omega)]
      refine ⟨vp_in_nI (by omega) (by omega), ?_⟩
      rintro _ rfl _ rfl
      refine ⟨(324 - enc κ0 κ 6) * 100 + (6 - (b + 1)), by omega, b + 1, κ, by omega, hle, h1, hlt, rfl, rfl, rfl, nI_1 b, hkp.a (by decide), hw, fun κ' hle' he b' hb' => ?_, fun c' hc' => ?_, hl, fun b' hb' => ?_⟩
      · show upd (v.2 6) (enc κ0 κ 6 * 6 + b) _ (enc κ0 κ' 6 * 6 + b') = _
        rw [pk_un (by omega)]
        exact ht κ' hle' he b' hb'
      · show upd (v.2 6) (enc κ0 κ 6 * 6 + b) _ c' = 0
        rw [pk_un (by omega)]
        exact hz c' hc'
      · show upd (v.2 6) (enc κ0 κ 6 * 6 + b) _ (enc κ0 κ 6 * 6 + b') = _
        by_cases q : b' = b
        · rw [q, pk_us]
        · rw [pk_un (by omega)]
          exact hd b' (by omega)
end ZL
