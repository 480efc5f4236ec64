/-! the best order of jobs, in numbers -/
def bst (p : Nat → Bool) (g : Nat → Nat) : Nat → Option Nat
  | 0 => none
  | k + 1 => match bst p g k with
    | none => if p k then some k else none
    | some b => if p k && decide (g k < g b) then some k else some b
def bOf (p : Nat → Bool) (g : Nat → Nat) (k b : Nat) : Prop := b < k ∧ p b = true ∧ (∀ j, j < k → p j = true → g b ≤ g j) ∧ (∀ j, j < b → p j = true → g b < g j)
theorem bst_spec (p : Nat → Bool) (g : Nat → Nat) : ∀ k, (bst p g k = none ∧ ∀ j, j < k → p j = false) ∨ ∃ b, bst p g k = some b ∧ bOf p g k b
  | 0 => Or.inl ⟨rfl, fun j h => absurd h (by omega)⟩
  | k + 1 => by
    rcases bst_spec p g k with ⟨e, h⟩ | ⟨b, e, h1, h2, h3, h4⟩
    · rcases q : p k with _ | _
      · refine Or.inl ⟨by simp [bst, e, q], fun j hj => ?_⟩
        by_cases c : j = k
        · rw [c]; exact q
        · exact h j (by omega)
      · refine Or.inr ⟨k, by simp [bst, e, q], by omega, q, fun j hj hp => ?_, fun j hj hp => ?_⟩
        · by_cases c : j = k
          · rw [c]; omega
          · rw [h j (by omega)] at hp; cases hp
        · rw [h j (by omega)] at hp; cases hp
    · by_cases q : p k = true ∧ g k < g b
      · refine Or.inr ⟨k, by simp [bst, e, q.1, q.2], by omega, q.1, fun j hj hp => ?_, fun j hj hp => ?_⟩
        · by_cases c : j = k
          · rw [c]; omega
          · have := h3 j (by omega) hp; omega
        · have := h3 j (by omega) hp; omega
      · have q' : (p k && decide (g k < g b)) = false := by
          rcases e2 : p k with _ | _
          · rfl
          · have : ¬ g k < g b := fun z => q ⟨e2, z⟩
            simp [this]
        refine Or.inr ⟨b, by simp [bst, e, q'], by omega, h2, fun j hj hp => ?_, h4⟩
        by_cases c : j = k
        · subst c
          by_cases d : g j < g b
          · exact absurd ⟨hp, d⟩ q
          · omega
        · exact h3 j (by omega) hp
theorem bst_eq {p : Nat → Bool} {g : Nat → Nat} {k b : Nat} (h : bOf p g k b) : bst p g k = some b := by
  rcases bst_spec p g k with ⟨e, h0⟩ | ⟨b', e, h1, h2, h3, h4⟩
  · have q := h.2.1
    rw [h0 b h.1] at q; cases q
  · rw [e]
    congr 1
    obtain ⟨k1, k2, k3, k4⟩ := h
    have a1 := h3 b k1 k2
    have a2 := k3 b' h1 h2
    rcases Nat.lt_trichotomy b' b with c | c | c
    · have := k4 b' c h2; omega
    · exact c
    · have := h4 b c k2; omega
def cs (co : Nat → Nat) (b c : Nat) : Nat := if b = 6 then 0 else co (6 * b + c)
def kD (κ : Nat → Nat) (c : Nat) : Nat → Nat := zUp κ c (κ c - 1)
def opt (co : Nat → Nat) : Nat → (Nat → Nat) → Nat → Nat
  | 0, _, _ => 0
  | n + 1, κ, b => match bst (fun c => decide (0 < κ c)) (fun c => cs co b c + opt co n (kD κ c) c) 6 with
    | none => 0
    | some c => cs co b c + opt co n (kD κ c) c
def gx (co : Nat → Nat) (n : Nat) (κ : Nat → Nat) (b c : Nat) : Nat := cs co b c + opt co n (kD κ c) c
def fc (co : Nat → Nat) : Nat → (Nat → Nat) → Nat → Nat
  | 0, _, b => b
  | n + 1, κ, b => match bst (fun c => decide (0 < κ c)) (gx co n κ b) 6 with
    | none => b
    | some c => fc co n (kD κ c) c
theorem opt_some {co : Nat → Nat} {n : Nat} {κ : Nat → Nat} {b c : Nat} (h : bst (fun c => decide (0 < κ c)) (gx co n κ b) 6 = some c) : opt co (n + 1) κ b = gx co n κ b c := by
  rw [opt]
  have : (fun c => cs co b c + opt co n (kD κ c) c) = gx co n κ b := rfl
  rw [this, h]
theorem fc_some {co : Nat → Nat} {n : Nat} {κ : Nat → Nat} {b c : Nat} (h : bst (fun c => decide (0 < κ c)) (gx co n κ b) 6 = some c) : fc co (n + 1) κ b = fc co n (kD κ c) c := by
  rw [fc, h]
def sz (κ : Nat → Nat) : Nat := fb_sm κ 6
theorem sz_kD {κ : Nat → Nat} {c : Nat} (hc : c < 6) (h : 0 < κ c) : sz (kD κ c) + 1 = sz κ := by
  have := fb_sm_upd κ (κ c - 1) hc
  have e : fb_sm (fun k => if k = c then κ c - 1 else κ k) 6 = sz (kD κ c) := rfl
  rw [e] at this
  have e2 : sz κ = fb_sm κ 6 := rfl
  omega
theorem bst_ex {κ : Nat → Nat} {g : Nat → Nat} (h : 0 < sz κ) : ∃ b, bst (fun c => decide (0 < κ c)) g 6 = some b ∧ bOf (fun c => decide (0 < κ c)) g 6 b := by
  rcases bst_spec (fun c => decide (0 < κ c)) g 6 with ⟨e, h0⟩ | h0
  · have : fb_sm κ 6 = fb_sm (fun _ => 0) 6 := fb_sm_cong (fun k hk => by have := h0 k hk; simp at this; exact this)
    rw [fb_sm_const] at this
    have e2 : sz κ = fb_sm κ 6 := rfl
    omega
  · exact h0
theorem cs_le {co : Nat → Nat} (hco : ∀ i, co i ≤ 1000) (b c : Nat) : cs co b c ≤ 1000 := by
  unfold cs
  have := hco (6 * b + c)
  split <;> omega
theorem opt_le {co : Nat → Nat} (hco : ∀ i, co i ≤ 1000) : ∀ n κ b, opt co n κ b ≤ n * 1000
  | 0, _, _ => by simp [opt]
  | n + 1, κ, b => by
    rcases bst_spec (fun c => decide (0 < κ c)) (gx co n κ b) 6 with ⟨e, _⟩ | ⟨c, e, _⟩
    · rw [opt]
      have : (fun c => cs co b c + opt co n (kD κ c) c) = gx co n κ b := rfl
      rw [this, e]
      exact Nat.zero_le _
    · rw [opt_some e]
      have h1 := cs_le hco b c
      have h2 := opt_le hco n (kD κ c) c
      unfold gx
      omega
theorem gx_le {co : Nat → Nat} (hco : ∀ i, co i ≤ 1000) (n : Nat) (κ : Nat → Nat) (b c : Nat) : gx co n κ b c ≤ n * 1000 + 1000 := by
  have h1 := cs_le hco b c
  have h2 := opt_le hco n (kD κ c) c
  unfold gx
  omega
/-! states as numbers -/
def wt (κ0 : Nat → Nat) : Nat → Nat
  | 0 => 1
  | c + 1 => wt κ0 c * (κ0 c + 1)
theorem wt_pos (κ0 : Nat → Nat) : ∀ c, 0 < wt κ0 c
  | 0 => by simp [wt]
  | c + 1 => by rw [wt]; exact Nat.mul_pos (wt_pos κ0 c) (by omega)
def enc (κ0 κ : Nat → Nat) (k : Nat) : Nat := fb_sm (fun c => κ c * wt κ0 c) k
theorem enc_lt {κ0 κ : Nat → Nat} (h : ∀ d, κ d ≤ κ0 d) : ∀ k, enc κ0 κ k < wt κ0 k
  | 0 => by simp [enc, wt, fb_sm]
  | k + 1 => by
    have h1 := enc_lt h k
    have e : enc κ0 κ (k + 1) = enc κ0 κ k + κ k * wt κ0 k := rfl
    rw [e, wt, Nat.mul_add, Nat.mul_one, Nat.mul_comm (wt κ0 k) (κ0 k)]
    have h2 : κ k * wt κ0 k ≤ κ0 k * wt κ0 k := Nat.mul_le_mul_right _ (h k)
    omega
theorem dm_uniq {a a' r r' w : Nat} (h1 : r < w) (h2 : r' < w) (h : r + a * w = r' + a' * w) : a = a' ∧ r = r' := by
  have e1 : (r + a * w) / w = a := by rw [Nat.add_mul_div_right _ _ (by omega), Nat.div_eq_of_lt h1]; omega
  have e2 : (r' + a' * w) / w = a' := by rw [Nat.add_mul_div_right _ _ (by omega), Nat.div_eq_of_lt h2]; omega
  have : a = a' := by rw [← e1, ← e2, h]
  subst this
  exact ⟨rfl, by omega⟩
theorem enc_inj {κ0 κ κ' : Nat → Nat} (h : ∀ d, κ d ≤ κ0 d) (h' : ∀ d, κ' d ≤ κ0 d) : ∀ k, enc κ0 κ k = enc κ0 κ' k → ∀ c, c < k → κ c = κ' c
  | 0, _, c, hc => absurd hc (by omega)
  | k + 1, e, c, hc => by
    have e1 : enc κ0 κ (k + 1) = enc κ0 κ k + κ k * wt κ0 k := rfl
    have e2 : enc κ0 κ' (k + 1) = enc κ0 κ' k + κ' k * wt κ0 k := rfl
    rw [e1, e2] at e
    obtain ⟨a, b⟩ := dm_uniq (enc_lt h k) (enc_lt h' k) e
    by_cases q : c = k
    · rw [q]; exact a
    · exact enc_inj h h' k b c (by omega)
theorem enc_up {κ0 κ : Nat → Nat} {c n : Nat} (hc : c < 6) : enc κ0 (zUp κ c n) 6 + κ c * wt κ0 c = enc κ0 κ 6 + n * wt κ0 c := by
  have := fb_sm_upd (fun c => κ c * wt κ0 c) (n * wt κ0 c) hc
  have e : fb_sm (fun k => if k = c then n * wt κ0 c else κ k * wt κ0 k) 6 = enc κ0 (zUp κ c n) 6 := fb_sm_cong (fun k _ => by
    unfold zUp
    by_cases q : k = c
    · rw [if_pos q, if_pos q, q]
    · rw [if_neg q, if_neg q])
  rw [e] at this
  exact this
theorem enc_kD {κ0 κ : Nat → Nat} {c : Nat} (hc : c < 6) (h : 0 < κ c) : enc κ0 (kD κ c) 6 + wt κ0 c = enc κ0 κ 6 := by
  have := enc_up (κ0 := κ0) (κ := κ) (n := κ c - 1) hc
  have e : κ c * wt κ0 c = (κ c - 1) * wt κ0 c + wt κ0 c := by
    obtain ⟨m, hm⟩ : ∃ m, κ c = m + 1 := ⟨κ c - 1, by omega⟩
    rw [hm, Nat.add_sub_cancel, Nat.add_mul, Nat.one_mul]
  unfold kD
  omega
theorem kD_le {κ0 κ : Nat → Nat} (h : ∀ d, κ d ≤ κ0 d) (c : Nat) : ∀ d, kD κ c d ≤ κ0 d := fun d => by
  unfold kD zUp
  have := h d
  split
  · next e => subst e; omega
  · exact this
/-! ten jobs make at most 324 states -/
def mxs (f : Nat → Nat) : Nat → Nat
  | 0 => 0
  | n + 1 => max (mxs f n) (f n)
theorem mxs_ge (f : Nat → Nat) : ∀ n i, i < n → f i ≤ mxs f n
  | 0, i, h => absurd h (by omega)
  | n + 1, i, h => by
    rw [mxs]
    by_cases c : i = n
    · subst c; omega
    · have := mxs_ge f n i (by omega); omega
def tb6 : Nat → Nat → Nat
  | 0, _ => 1
  | k + 1, s => mxs (fun a => (a + 1) * tb6 k (s - a)) (s + 1)
theorem wt_tb (κ0 : Nat → Nat) : ∀ k, wt κ0 k ≤ tb6 k (fb_sm κ0 k)
  | 0 => by simp [wt, tb6]
  | k + 1 => by
    rw [wt, tb6, fb_sm_succ]
    have h1 := wt_tb κ0 k
    have h2 := mxs_ge (fun a => (a + 1) * tb6 k (fb_sm κ0 k + κ0 k - a)) (fb_sm κ0 k + κ0 k + 1) (κ0 k) (by omega)
    refine Nat.le_trans ?_ h2
    show wt κ0 k * (κ0 k + 1) ≤ (κ0 k + 1) * tb6 k (fb_sm κ0 k + κ0 k - κ0 k)
    rw [Nat.add_sub_cancel, Nat.mul_comm]
    exact Nat.mul_le_mul_left _ h1
theorem tb_324 : ∀ s, s < 11 → tb6 6 s ≤ 324 := by decide +kernel
/-! the counts of a set of jobs that are done -/
def kS (nj : Nat) (jb : Nat → Nat) (D : Nat) : Nat → Nat := fun c => fb_ct (fun j => !D.testBit j && (jb j == c)) nj
theorem one6 : ∀ a, a < 6 → fb_sm (fun c => if a == c then 1 else 0) 6 = 1 := by decide
theorem sz_ct {jb : Nat → Nat} (hj : ∀ j, jb j < 6) (q : Nat → Bool) : ∀ n, sz (fun c => fb_ct (fun j => q j && (jb j == c)) n) = fb_ct q n
  | 0 => by
    have : (fun c => fb_ct (fun j => q j && (jb j == c)) 0) = fun _ => 0 := rfl
    unfold sz
    rw [this, fb_sm_const]
    rfl
  | n + 1 => by
    have h := sz_ct hj q n
    unfold sz at h ⊢
    have e : (fun c => fb_ct (fun j => q j && (jb j == c)) (n + 1)) = fun c => fb_ct (fun j => q j && (jb j == c)) n + (if q n && (jb n == c) then 1 else 0) := rfl
    rw [e, fb_sm_add, h, fb_ct_succ]
    congr 1
    rcases e2 : q n with _ | _
    · simp only [Bool.false_and]
      exact fb_sm_const 0 6
    · simp only [Bool.true_and]
      rw [one6 (jb n) (hj n)]
      rfl
theorem kS_add {nj D j : Nat} {jb : Nat → Nat} (hj : j < nj) (hD : D.testBit j = false) : kS nj jb (D ||| 2 ^ j) = kD (kS nj jb D) (jb j) ∧ 0 < kS nj jb D (jb j) := by
  have hp : 0 < kS nj jb D (jb j) := fb_ct_pos.mpr ⟨j, hj, by simp [hD]⟩
  refine ⟨funext (fun c => ?_), hp⟩
  have e := fb_ct_upd (fun i => !D.testBit i && (jb i == c)) false hj
  have e1 : kS nj jb (D ||| 2 ^ j) c = fb_ct (fun k => if k = j then false else !D.testBit k && (jb k == c)) nj := fb_ct_cong (fun k _ => by
    rw [fb_bit_set]
    by_cases q : k = j
    · simp [q]
    · simp [q])
  rw [e1]
  unfold kD zUp
  by_cases q : c = jb j
  · rw [if_pos q]
    have e2 : (!D.testBit j && (jb j == c)) = true := by simp [hD, q]
    rw [e2] at e
    have e3 : kS nj jb D (jb j) = fb_ct (fun i => !D.testBit i && (jb i == c)) nj := by rw [q]; rfl
    rw [e3]
    simp only [if_true, if_false, Bool.false_eq_true] at e
    omega
  · rw [if_neg q]
    have e2 : (!D.testBit j && (jb j == c)) = false := by
      have : ¬ jb j = c := fun z => q z.symm
      simp [this]
    rw [e2] at e
    simp only [if_false, Bool.false_eq_true] at e
    unfold kS
    omega
