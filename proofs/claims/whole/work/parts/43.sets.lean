/-! sets of lots as numbers: their size; the result of a family of sets -/
def bc (x : Nat) : Nat :=
  (fun e => e &&& 63) ((fun d => d + d / 65536) ((fun c => c + c / 256) ((fun b => (b + b / 16) &&& 252645135) ((fun a => (a &&& 858993459) + (a / 4 &&& 858993459)) (x - (x / 2 &&& 1431655765))))))
def pz (x : Nat) : Nat := fb_ct (fun i => x.testBit i) 12
theorem bc_pz0 : ∀ h, h < 64 → ∀ l, l < 64 → bc (64 * h + l) = pz (64 * h + l) := by decide +kernel
theorem bc_pz {x : Nat} (hx : x < 4096) : bc x = pz x := by
  have := bc_pz0 (x / 64) (by omega) (x % 64) (by omega)
  rwa [Nat.div_add_mod] at this
theorem z_us1 : (((1 : Int32).toUInt32 &&& Int32.toUInt32 31).toBitVec % 32).toNat = 1 := by decide
theorem z_us2 : (((2 : Int32).toUInt32 &&& Int32.toUInt32 31).toBitVec % 32).toNat = 2 := by decide
theorem z_us4 : (((4 : Int32).toUInt32 &&& Int32.toUInt32 31).toBitVec % 32).toNat = 4 := by decide
theorem z_us8 : (((8 : Int32).toUInt32 &&& Int32.toUInt32 31).toBitVec % 32).toNat = 8 := by decide
theorem z_us16 : (((16 : Int32).toUInt32 &&& Int32.toUInt32 31).toBitVec % 32).toNat = 16 := by decide
theorem j_bits {x : Nat} (hx : x < 4096) {Q : Int32 → Unit → Prop} (hQ : Q (nI (pz x)) ()) : TJ6_bitCount_0f7a4 Q (nI x) := by
  unfold TJ6_bitCount_0f7a4 wp_J6_bitCount_0f7a4_0
  have h1 : x / 2 &&& 1431655765 ≤ x / 2 := Nat.and_le_left
  have e1 : nI x - (((nI x).toUInt32 >>> ((1 : Int32).toUInt32 &&& Int32.toUInt32 31)).toInt32 &&& 1431655765) = nI (x - (x / 2 &&& 1431655765)) := by
    rw [pk_ushrN (by omega) 1 1 z_us1, show (1431655765 : Int32) = nI 1431655765 from rfl, fa_and, pk_sub (by rw [Nat.pow_one]; omega)]
  rw [e1]
  rintro _ rfl
  have ha : x - (x / 2 &&& 1431655765) < 4096 := by omega
  generalize hA : x - (x / 2 &&& 1431655765) = a at ha
  have h2 : a &&& 858993459 ≤ a := Nat.and_le_left
  have h3 : a / 4 &&& 858993459 ≤ a / 4 := Nat.and_le_left
  have e2 : (nI a &&& 858993459) + (((nI a).toUInt32 >>> ((2 : Int32).toUInt32 &&& Int32.toUInt32 31)).toInt32 &&& 858993459) = nI ((a &&& 858993459) + (a / 4 &&& 858993459)) := by
    rw [pk_ushrN (by omega) 2 2 z_us2, show (858993459 : Int32) = nI 858993459 from rfl, fa_and, fa_and, nI_add]
  rw [e2]
  rintro _ rfl
  have hb : (a &&& 858993459) + (a / 4 &&& 858993459) < 8192 := by omega
  generalize hB : (a &&& 858993459) + (a / 4 &&& 858993459) = b at hb
  have h4 : (b + b / 16) &&& 252645135 ≤ b + b / 16 := Nat.and_le_left
  have e3 : (nI b + ((nI b).toUInt32 >>> ((4 : Int32).toUInt32 &&& Int32.toUInt32 31)).toInt32) &&& 252645135 = nI ((b + b / 16) &&& 252645135) := by
    rw [pk_ushrN (by omega) 4 4 z_us4, show (252645135 : Int32) = nI 252645135 from rfl, nI_add, fa_and]
  rw [e3]
  rintro _ rfl
  have hc : (b + b / 16) &&& 252645135 < 16384 := by omega
  generalize hC : (b + b / 16) &&& 252645135 = c at hc
  have e4 : nI c + ((nI c).toUInt32 >>> ((8 : Int32).toUInt32 &&& Int32.toUInt32 31)).toInt32 = nI (c + c / 256) := by
    rw [pk_ushrN (by omega) 8 8 z_us8, nI_add]
  rw [e4]
  rintro _ rfl
  have hd : c + c / 256 < 32768 := by omega
  generalize hD : c + c / 256 = d at hd
  have e5 : nI d + ((nI d).toUInt32 >>> ((16 : Int32).toUInt32 &&& Int32.toUInt32 31)).toInt32 = nI (d + d / 65536) := by
    rw [pk_ushrN (by omega) 16 16 z_us16, nI_add]
  rw [e5]
  rintro _ rfl
  rw [show (63 : Int32) = nI 63 from rfl, fa_and]
  have : bc x = (d + d / 65536) &&& 63 := by
    rw [← hD, ← hC, ← hB, ← hA]; rfl
  rw [← this, bc_pz hx]
  exact hQ

def stR (f w s : Int32) (P : Nat → Bool) : Prop := (f = -1 ∧ w = 0 ∧ s = 0 ∧ ∀ S, S < 4096 → P S = false) ∨ ∃ n T : Nat, n ≤ 12 ∧ T < 4096 ∧ f = nI n ∧ w = nI (fb_ct (fun S => P S && (pz S == n)) 4096) ∧ s = nI T ∧ (∃ S, S < 4096 ∧ P S = true ∧ pz S = n) ∧ (∀ S, S < 4096 → P S = true → n ≤ pz S) ∧ (∀ i, T.testBit i = true ↔ ∀ S, S < 4096 → P S = true → pz S = n → S.testBit i = true)
theorem pz_le (x : Nat) : pz x ≤ 12 := fb_ct_le _ 12
theorem stR.cong {f w s : Int32} {P P' : Nat → Bool} (h : stR f w s P) (g : ∀ S, S < 4096 → P S = P' S) : stR f w s P' := by
  rcases h with ⟨h1, h2, h3, h4⟩ | ⟨n, T, h1, h2, h3, h4, h5, ⟨S0, a, b, c⟩, h7, h8⟩
  · exact Or.inl ⟨h1, h2, h3, fun S hS => by rw [← g S hS]; exact h4 S hS⟩
  · refine Or.inr ⟨n, T, h1, h2, h3, ?_, h5, ⟨S0, a, by rw [← g S0 a]; exact b, c⟩, fun S hS q => h7 S hS (by rw [g S hS]; exact q), fun i => ?_⟩
    · rw [h4]
      exact congrArg nI (fb_ct_cong (fun k hk => by rw [g k hk]))
    · rw [h8 i]
      exact ⟨fun q S hS e => q S hS (by rw [g S hS]; exact e), fun q S hS e => q S hS (by rw [← g S hS]; exact e)⟩
theorem stR.uniq {f w s f' w' s' : Int32} {P : Nat → Bool} (h : stR f w s P) (g : stR f' w' s' P) : f = f' ∧ w = w' ∧ s = s' := by
  rcases h with ⟨h1, h2, h3, h4⟩ | ⟨n, T, h1, h2, h3, h4, h5, ⟨S0, a, b, c⟩, h7, h8⟩
  · rcases g with ⟨g1, g2, g3, g4⟩ | ⟨n', T', g1, g2, g3, g4, g5, ⟨S0', a', b', c'⟩, g7, g8⟩
    · exact ⟨h1.trans g1.symm, h2.trans g2.symm, h3.trans g3.symm⟩
    · rw [h4 S0' a'] at b'; cases b'
  · rcases g with ⟨g1, g2, g3, g4⟩ | ⟨n', T', g1, g2, g3, g4, g5, ⟨S0', a', b', c'⟩, g7, g8⟩
    · rw [g4 S0 a] at b; cases b
    · have e : n = n' := by
        have q1 := h7 S0' a' b'
        have q2 := g7 S0 a b
        omega
      subst e
      have eT : T = T' := by
        refine Nat.eq_of_testBit_eq (fun i => ?_)
        have := (h8 i).trans (g8 i).symm
        rcases x : T.testBit i with _ | _ <;> rcases y : T'.testBit i with _ | _
        · rfl
        · rw [x, y] at this; exact absurd (this.mpr rfl) (by decide)
        · rw [x, y] at this; exact absurd (this.mp rfl) (by decide)
        · rfl
      subst eT
      exact ⟨h3.trans g3.symm, h4.trans g4.symm, h5.trans g5.symm⟩
theorem stR.skip {f w s : Int32} {P F : Nat → Bool} (h : stR f w s P) (hF : ∀ S, S < 4096 → F S = true → ∃ n : Nat, n ≤ 12 ∧ f = nI n ∧ n < pz S) : stR f w s (fun S => P S || F S) := by
  rcases h with ⟨h1, h2, h3, h4⟩ | ⟨n, T, h1, h2, h3, h4, h5, ⟨S0, a, b, c⟩, h7, h8⟩
  · refine Or.inl ⟨h1, h2, h3, fun S hS => ?_⟩
    rcases q : F S with _ | _
    · show (P S || F S) = false
      rw [h4 S hS, q]; rfl
    · obtain ⟨m, hm, e, _⟩ := hF S hS q
      exact absurd (e.symm.trans h1) (b_neg1 (by omega))
  · have big : ∀ S, S < 4096 → F S = true → n < pz S := fun S hS q => by
      obtain ⟨m, hm, e, l⟩ := hF S hS q
      have : n = m := (nI_eq (by omega) (by omega)).mp (h3.symm.trans e)
      omega
    refine Or.inr ⟨n, T, h1, h2, h3, ?_, h5, ⟨S0, a, by simp [b], c⟩, fun S hS q => ?_, fun i => ?_⟩
    · rw [h4]
      refine congrArg nI (fb_ct_cong (fun S hS => ?_))
      rcases q : F S with _ | _
      · simp [q]
      · have := big S hS q
        have e : (pz S == n) = false := by simp; omega
        rw [e]; simp
    · rcases q2 : F S with _ | _
      · simp only [q2, Bool.or_false] at q; exact h7 S hS q
      · have := big S hS q2; omega
    · rw [h8 i]
      refine ⟨fun q S hS e1 e2 => ?_, fun q S hS e1 e2 => q S hS (by simp [e1]) e2⟩
      rcases q2 : F S with _ | _
      · simp only [q2, Bool.or_false] at e1; exact q S hS e1 e2
      · have := big S hS q2; omega
theorem ct_one {B n : Nat} (h : B < n) : fb_ct (fun S => S == B) n = 1 := by
  have e := fb_ct_upd (fun _ => false) true h
  have e0 : fb_ct (fun _ => false) n = 0 := fb_ct_zero.mpr (fun _ _ => rfl)
  have ec : fb_ct (fun S => S == B) n = fb_ct (fun k => if k = B then true else false) n := fb_ct_cong (fun k _ => by
    by_cases q : k = B
    · simp [q]
    · simp [q])
  rw [ec]
  simp [e0] at e
  simp
  exact e
theorem stR.new {f w s : Int32} {P F : Nat → Bool} {B : Nat} (h : stR f w s P) (hB : B < 4096) (hFB : F B = true) (hF : ∀ S, S < 4096 → F S = true → S ≠ B → pz B < pz S) (hf : f = -1 ∨ ∃ n : Nat, n ≤ 12 ∧ f = nI n ∧ pz B < n) : stR (nI (pz B)) 1 (nI B) (fun S => P S || F S) := by
  have hP : ∀ S, S < 4096 → P S = true → pz B < pz S := by
    intro S hS q
    rcases h with ⟨h1, h2, h3, h4⟩ | ⟨n, T, h1, h2, h3, h4, h5, _, h7, h8⟩
    · rw [h4 S hS] at q; cases q
    · rcases hf with hf | ⟨m, hm, e, l⟩
      · exact absurd (h3.symm.trans hf) (b_neg1 (by omega))
      · have : n = m := (nI_eq (by omega) (by omega)).mp (h3.symm.trans e)
        have := h7 S hS q
        omega
  have one : ∀ S, S < 4096 → (P S || F S) = true → pz S = pz B → S = B := by
    intro S hS q e
    rcases q1 : P S with _ | _
    · rw [q1, Bool.false_or] at q
      by_cases c : S = B
      · exact c
      · have := hF S hS q c; omega
    · have := hP S hS q1; omega
  refine Or.inr ⟨pz B, B, pz_le B, hB, rfl, ?_, rfl, ⟨B, hB, by simp [hFB], rfl⟩, fun S hS q => ?_, fun i => ?_⟩
  · have : fb_ct (fun S => (P S || F S) && (pz S == pz B)) 4096 = 1 := by
      rw [← ct_one hB]
      refine fb_ct_cong (fun S hS => ?_)
      by_cases c : S = B
      · subst c; simp [hFB]
      · have e : (S == B) = false := by simp [c]
        rw [e]
        rcases q : (P S || F S) with _ | _
        · rfl
        · have : ¬ pz S = pz B := fun z => c (one S hS q z)
          simp [this]
    rw [this]; rfl
  · rcases q1 : P S with _ | _
    · simp only [q1, Bool.false_or] at q
      by_cases c : S = B
      · rw [c]; omega
      · have := hF S hS q c; omega
    · have := hP S hS q1; omega
  · refine ⟨fun q S hS e1 e2 => by rw [one S hS e1 e2]; exact q, fun q => q B hB (by simp [hFB]) rfl⟩
theorem stR.eq {f w s : Int32} {P F : Nat → Bool} {B : Nat} (h : stR f w s P) (hB : B < 4096) (hFB : F B = true) (hF : ∀ S, S < 4096 → F S = true → S ≠ B → pz B < pz S) (hd : ∀ S, S < 4096 → P S = true → F S = false) (hf : f = nI (pz B)) : stR f (w + 1) (s &&& nI B) (fun S => P S || F S) := by
  have hpB := pz_le B
  rcases h with ⟨h1, h2, h3, h4⟩ | ⟨n, T, h1, h2, h3, h4, h5, ⟨S0, a, b, c⟩, h7, h8⟩
  · exact absurd (hf.symm.trans h1) (b_neg1 (by omega))
  have hn : n = pz B := (nI_eq (by omega) (by omega)).mp (h3.symm.trans hf)
  subst hn
  have one : ∀ S, S < 4096 → F S = true → pz S = pz B → S = B := fun S hS q e => by
    by_cases c : S = B
    · exact c
    · have := hF S hS q c; omega
  refine Or.inr ⟨pz B, T &&& B, h1, Nat.lt_of_le_of_lt Nat.and_le_left h2, h3, ?_, by rw [h5, fa_and], ⟨B, hB, by simp [hFB], rfl⟩, fun S hS q => ?_, fun i => ?_⟩
  · have e1 : fb_ct (fun S => (P S || F S) && (pz S == pz B)) 4096 = fb_ct (fun S => (P S && (pz S == pz B)) || (F S && (pz S == pz B))) 4096 := fb_ct_cong (fun S _ => by cases P S <;> cases F S <;> simp)
    have e2 : fb_ct (fun S => (P S && (pz S == pz B)) || (F S && (pz S == pz B))) 4096 = fb_ct (fun S => P S && (pz S == pz B)) 4096 + fb_ct (fun S => F S && (pz S == pz B)) 4096 := fb_ct_or (fun S hS q => by
      obtain ⟨q1, q2⟩ := q
      rw [Bool.and_eq_true] at q1 q2
      rw [hd S hS q1.1] at q2
      cases q2.1)
    have e3 : fb_ct (fun S => F S && (pz S == pz B)) 4096 = 1 := by
      rw [← ct_one hB]
      refine fb_ct_cong (fun S hS => ?_)
      by_cases c : S = B
      · subst c; simp [hFB]
      · have e : (S == B) = false := by simp [c]
        rw [e]
        rcases q : F S with _ | _
        · rfl
        · have : ¬ pz S = pz B := fun z => c (one S hS q z)
          simp [this]
    rw [e1, e2, e3, h4, nI_1]
  · rcases q1 : P S with _ | _
    · simp only [q1, Bool.false_or] at q
      by_cases c : S = B
      · rw [c]; omega
      · have := hF S hS q c; omega
    · exact h7 S hS q1
  · rw [Nat.testBit_and, Bool.and_eq_true, h8 i]
    refine ⟨fun ⟨q1, q2⟩ S hS e1 e2 => ?_, fun q => ⟨fun S hS e1 e2 => q S hS (by simp [e1]) e2, q B hB (by simp [hFB]) rfl⟩⟩
    rcases q3 : P S with _ | _
    · simp only [q3, Bool.false_or] at e1
      rw [one S hS e1 e2]; exact q2
    · exact q1 S hS q3 e2
/-! parts of sets -/
def sb (B S : Nat) : Bool := (B &&& S) == B
theorem sb_iff (B S : Nat) : sb B S = true ↔ ∀ i, B.testBit i = true → S.testBit i = true := by
  unfold sb
  rw [beq_iff_eq]
  constructor
  · intro h i hi
    have : (B &&& S).testBit i = true := by rw [h]; exact hi
    rw [Nat.testBit_and, Bool.and_eq_true] at this
    exact this.2
  · intro h
    refine Nat.eq_of_testBit_eq (fun i => ?_)
    rw [Nat.testBit_and]
    rcases q : B.testBit i with _ | _
    · rfl
    · rw [h i q]; rfl
theorem and0_iff (B S : Nat) : B &&& S = 0 ↔ ∀ i, B.testBit i = true → S.testBit i = false := by
  constructor
  · intro h i hi
    have : (B &&& S).testBit i = false := by rw [h]; exact Nat.zero_testBit i
    rw [Nat.testBit_and, hi, Bool.true_and] at this
    exact this
  · intro h
    refine Nat.eq_of_testBit_eq (fun i => ?_)
    rw [Nat.testBit_and, Nat.zero_testBit]
    rcases q : B.testBit i with _ | _
    · rfl
    · rw [h i q]; rfl
theorem meet_iff (B S : Nat) : ¬ B &&& S = 0 ↔ ∃ i, B.testBit i = true ∧ S.testBit i = true := by
  rw [and0_iff]
  constructor
  · intro h
    refine Classical.byContradiction (fun q => h (fun i hi => ?_))
    rcases e : S.testBit i with _ | _
    · rfl
    · exact absurd ⟨i, hi, e⟩ q
  · rintro ⟨i, h1, h2⟩ q
    rw [q i h1] at h2
    cases h2
theorem bit_lt {S i : Nat} (hS : S < 4096) (h : S.testBit i = true) : i < 12 := by
  refine Classical.byContradiction (fun q => ?_)
  have : S < 2 ^ i := Nat.lt_of_lt_of_le hS (show 2 ^ 12 ≤ 2 ^ i from Nat.pow_le_pow_right (by decide) (by omega))
  rw [Nat.testBit_lt_two_pow this] at h
  cases h
theorem pz_lt {B S : Nat} (hS : S < 4096) (h : ∀ i, B.testBit i = true → S.testBit i = true) (hne : S ≠ B) : pz B < pz S := by
  obtain ⟨i, h1, h2⟩ : ∃ i, S.testBit i = true ∧ B.testBit i = false := by
    refine Classical.byContradiction (fun q => hne (Nat.eq_of_testBit_eq (fun i => ?_)))
    rcases e : B.testBit i with _ | _
    · rcases e2 : S.testBit i with _ | _
      · rfl
      · exact absurd ⟨i, e2, e⟩ q
    · exact h i e
  have hi := bit_lt hS h1
  have e := fb_ct_upd (fun i => S.testBit i) false hi
  have l : pz B ≤ fb_ct (fun k => if k = i then false else S.testBit k) 12 := fb_ct_sub (fun k _ q => by
    by_cases c : k = i
    · subst c; rw [h2] at q; cases q
    · simp only [if_neg c]; exact h k q)
  simp only [h1] at e
  have : pz S = fb_ct (fun i => S.testBit i) 12 := rfl
  simp at e
  simp at l
  omega
theorem pz_add {B l : Nat} (hl : l < 12) (h : B.testBit l = false) : pz (B ||| 2 ^ l) = pz B + 1 := by
  have e := fb_ct_upd (fun i => B.testBit i) true hl
  have e2 : pz (B ||| 2 ^ l) = fb_ct (fun k => if k = l then true else B.testBit k) 12 := fb_ct_cong (fun k _ => by
    rw [fb_bit_set]
    by_cases c : k = l
    · simp [c]
    · simp [c])
  have e3 : pz B = fb_ct (fun i => B.testBit i) 12 := rfl
  rw [e2, e3]
  simp only [h] at e
  simp at e
  simp
  omega
theorem nt_bit (g i : Nat) (hi : i < 32) : (g ^^^ 4294967295).testBit i = !g.testBit i := by
  rw [Nat.testBit_xor, show (4294967295 : Nat) = 2 ^ 32 - 1 from rfl, Nat.testBit_two_pow_sub_one, decide_eq_true hi, Bool.xor_true]
theorem nt_I (g : Nat) : nI g ^^^ (-1) = nI (g ^^^ 4294967295) := by
  rw [show (-1 : Int32) = nI 4294967295 from by decide, fb_xorI]
def sN (x g : Nat) : Nat := x &&& (g ^^^ 4294967295)
theorem sN_bit {x : Nat} (hx : x < 4096) (g i : Nat) : (sN x g).testBit i = (x.testBit i && !g.testBit i) := by
  unfold sN
  rw [Nat.testBit_and]
  rcases e : x.testBit i with _ | _
  · rfl
  · rw [nt_bit g i (by have := bit_lt hx e; omega)]
