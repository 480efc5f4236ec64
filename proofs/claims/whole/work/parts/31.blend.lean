/-! the best blend: one function for both sides -/
abbrev bS : Type := Bool × Nat × Nat × Nat × (Nat → Nat)
def b_leaf (A B left lows highs pr : Nat) (part : Nat → Nat) (st : bS) : bS :=
  if left = 0 ∧ 10 * A ≤ lows ∧ highs ≤ 10 * B ∧ (st.1 = false ∨ pr < st.2.1) then (true, pr, lows, highs, part) else st
def b_fold (f : Nat → bS → bS) : Nat → bS → bS
  | 0, st => st
  | n + 1, st => f n (b_fold f n st)
def b_go (lo hi pc ha : Nat → Nat) (A B : Nat) : Nat → Nat → Nat → Nat → Nat → Nat → (Nat → Nat) → bS → bS
  | 0, _, left, lows, highs, pr, part, st => b_leaf A B left lows highs pr part st
  | k + 1, e, left, lows, highs, pr, part, st => b_fold (fun n acc => b_go lo hi pc ha A B k (e + 1) (left - n) (lows + n * lo e) (highs + n * hi e) (pr + n * pc e) (zUp part e n) acc) (min left (ha e) + 1) st
def bP (ha : Nat → Nat) : Nat → Nat → Nat
  | 0, _ => 0
  | k + 1, e => bP ha k (e + 1) + ha e
def bC (pc : Nat → Nat) : Nat → Nat → Nat
  | 0, _ => 1000
  | k + 1, e => if pc e < bC pc k (e + 1) then pc e else bC pc k (e + 1)
def bL (lo : Nat → Nat) : Nat → Nat → Nat
  | 0, _ => 0
  | k + 1, e => if bL lo k (e + 1) < lo e then lo e else bL lo k (e + 1)
theorem b_fold_id {f : Nat → bS → bS} {st : bS} : ∀ (N : Nat), (∀ n, n < N → f n st = st) → b_fold f N st = st
  | 0, _ => rfl
  | N + 1, h => by rw [b_fold, b_fold_id N (fun n hn => h n (by omega))]; exact h N (by omega)
theorem b_mix {left n m a c : Nat} (hn : n ≤ left) (ha : m ≤ a) (hc : m ≤ c) : left * m ≤ n * a + (left - n) * c := by
  have h1 : n * m ≤ n * a := Nat.mul_le_mul_left n ha
  have h2 : (left - n) * m ≤ (left - n) * c := Nat.mul_le_mul_left _ hc
  have h3 : n * m + (left - n) * m = left * m := by rw [← Nat.add_mul]; congr 1; omega
  omega
theorem b_mix2 {left n m a c : Nat} (hn : n ≤ left) (ha : a ≤ m) (hc : c ≤ m) : n * a + (left - n) * c ≤ left * m := by
  have h1 : n * a ≤ n * m := Nat.mul_le_mul_left n ha
  have h2 : (left - n) * c ≤ (left - n) * m := Nat.mul_le_mul_left _ hc
  have h3 : n * m + (left - n) * m = left * m := by rw [← Nat.add_mul]; congr 1; omega
  omega
theorem b_prune (lo hi pc ha : Nat → Nat) (A B : Nat) : ∀ (k e left lows highs pr : Nat) (part : Nat → Nat) (st : bS),
    (bP ha k e < left ∨ (st.1 = true ∧ st.2.1 ≤ pr + left * bC pc k e) ∨ lows + left * bL lo k e < 10 * A ∨ 10 * B < highs + left * bC hi k e) → b_go lo hi pc ha A B k e left lows highs pr part st = st := by
  intro k
  induction k with
  | zero =>
    intro e left lows highs pr part st h
    rw [b_go, b_leaf, if_neg]
    rintro ⟨h1, h2, h3, h4⟩
    subst h1
    simp only [bP, bC, bL, Nat.zero_mul, Nat.mul_zero, Nat.add_zero] at h
    rcases h with h | ⟨h5, h6⟩ | h | h
    · omega
    · rcases h4 with h4 | h4
      · rw [h5] at h4; cases h4
      · omega
    · omega
    · omega
  | succ k ih =>
    intro e left lows highs pr part st h
    rw [b_go]
    refine b_fold_id _ (fun n hn => ih _ _ _ _ _ _ _ ?_)
    have hn1 : n ≤ left := by omega
    have hn2 : n ≤ ha e := by omega
    rcases h with h | ⟨h5, h6⟩ | h | h
    · left
      rw [bP] at h
      omega
    · right; left
      refine ⟨h5, Nat.le_trans h6 ?_⟩
      have h1 : bC pc (k + 1) e ≤ pc e := by rw [bC]; split <;> omega
      have h2 : bC pc (k + 1) e ≤ bC pc k (e + 1) := by rw [bC]; split <;> omega
      have := b_mix hn1 h1 h2
      omega
    · right; right; left
      have h1 : lo e ≤ bL lo (k + 1) e := by rw [bL]; split <;> omega
      have h2 : bL lo k (e + 1) ≤ bL lo (k + 1) e := by rw [bL]; split <;> omega
      have := b_mix2 hn1 h1 h2
      omega
    · right; right; right
      have h1 : bC hi (k + 1) e ≤ hi e := by rw [bC]; split <;> omega
      have h2 : bC hi (k + 1) e ≤ bC hi k (e + 1) := by rw [bC]; split <;> omega
      have := b_mix hn1 h1 h2
      omega
theorem bP_le {ha : Nat → Nat} (h : ∀ i, ha i ≤ 1000) : ∀ k e, bP ha k e ≤ k * 1000
  | 0, _ => by simp [bP]
  | k + 1, e => by have := bP_le h k (e + 1); have := h e; rw [bP]; omega
theorem bC_le (pc : Nat → Nat) : ∀ k e, bC pc k e ≤ 1000
  | 0, _ => by simp [bC]
  | k + 1, e => by have := bC_le pc k (e + 1); rw [bC]; split <;> omega
theorem bL_le {lo : Nat → Nat} (h : ∀ i, lo i ≤ 1000) : ∀ k e, bL lo k e ≤ 1000
  | 0, _ => by simp [bL]
  | k + 1, e => by have := bL_le h k (e + 1); have := h e; rw [bL]; split <;> omega
/-- what the search's state holds, by the slots of a side -/
def bB (ne kp kl kh kb : Nat) (u : zSt) (st : bS) : Prop := (st.1 = false → u.1 kp = -1) ∧ (st.1 = true → u.1 kp = nI st.2.1 ∧ u.1 kl = nI (st.2.2.1 / 10) ∧ u.1 kh = nI ((st.2.2.2.1 + 9) / 10) ∧ ∀ i, i < ne → u.2 kb i = nI (st.2.2.2.2 i))
def bOk (ne : Nat) (ha : Nat → Nat) (st : bS) : Prop := st.1 = true → st.2.1 ≤ 10000 ∧ st.2.2.1 ≤ 10000 ∧ st.2.2.2.1 ≤ 10000 ∧ ∀ i, i < ne → st.2.2.2.2 i ≤ ha i
/-- the numbers that both sides' earths hold -/
def bX (lo hi pc ha : Nat → Nat) : Prop := ∀ i, lo i ≤ 1000 ∧ hi i ≤ 1000 ∧ pc i ≤ 1000 ∧ ha i ≤ 1000
theorem b_neg1 {n : Nat} (h : n < 2 ^ 31) : ¬ nI n = -1 := by
  rw [fa_eq, nI_toInt h]
  intro q
  have : ((-1 : Int32)).toInt = -1 := rfl
  omega
/-- nothing but these slots has changed -/
def zKeep (is as : List Nat) (u v : zSt) : Prop := (∀ k, k ∉ is → v.1 k = u.1 k) ∧ (∀ k, k ∉ as → v.2 k = u.2 k)
theorem zKeep.rf {is as : List Nat} {u : zSt} : zKeep is as u u := ⟨fun _ _ => rfl, fun _ _ => rfl⟩
theorem zKeep.tr {is as : List Nat} {u v w : zSt} (h : zKeep is as u v) (g : zKeep is as v w) : zKeep is as u w := ⟨fun k hk => (g.1 k hk).trans (h.1 k hk), fun k hk => (g.2 k hk).trans (h.2 k hk)⟩
theorem zKeep.i {is as : List Nat} {u v : zSt} (h : zKeep is as u v) {k : Nat} {x : Int32} (hk : k ∈ is) : zKeep is as u (zI v k x) := ⟨fun j hj => by rw [zI_1, if_neg (fun e => hj (by rw [e]; exact hk))]; exact h.1 j hj, h.2⟩
theorem zKeep.a {is as : List Nat} {u v : zSt} (h : zKeep is as u v) {k : Nat} {f : Nat → Int32} (hk : k ∈ as) : zKeep is as u (zA v k f) := ⟨h.1, fun j hj => by rw [zA_2, if_neg (fun e => hj (by rw [e]; exact hk))]; exact h.2 j hj⟩
theorem b_up {n : Nat} (h : n ≤ 10000) : ((nI n + 10) - 1) / 10 = nI ((n + 9) / 10) := by
  have h1 : (nI n + 10 : Int32) - 1 = nI (n + 9) := by
    rw [show (10 : Int32) = nI 10 from rfl, show (1 : Int32) = nI 1 from rfl, nI_add, pk_sub (by omega), show n + 10 - 1 = n + 9 by omega]
  rw [h1, show (10 : Int32) = nI 10 from rfl, pk_div (by omega) (by omega) (by omega)]
theorem b_dn {n : Nat} (h : n ≤ 10000) : nI n / 10 = nI (n / 10) := by
  rw [show (10 : Int32) = nI 10 from rfl, pk_div (by omega) (by omega) (by omega)]
theorem b_leaf_ok {ne A B left lows highs pr : Nat} {part ha : Nat → Nat} {st : bS} (h1 : pr ≤ 10000) (h2 : lows ≤ 10000) (h3 : highs ≤ 10000) (h4 : ∀ i, i < ne → part i ≤ ha i) (h : bOk ne ha st) : bOk ne ha (b_leaf A B left lows highs pr part st) := by
  rw [b_leaf]
  split
  · exact fun _ => ⟨h1, h2, h3, h4⟩
  · exact h
def mU (ne : Nat) (lo hi pc ha : Nat → Nat) (u : zSt) : Prop := u.1 6 = nI ne ∧ u.2 2 = zN lo ∧ u.2 3 = zN hi ∧ u.2 4 = zN pc ∧ u.2 5 = zN ha
theorem mU.keep {ne : Nat} {lo hi pc ha : Nat → Nat} {u v : zSt} (h : mU ne lo hi pc ha u) (g : zKeep [9, 10, 11] [7, 8] u v) : mU ne lo hi pc ha v :=
  ⟨(g.1 6 (by decide)).trans h.1, (g.2 2 (by decide)).trans h.2.1, (g.2 3 (by decide)).trans h.2.2.1, (g.2 4 (by decide)).trans h.2.2.2.1, (g.2 5 (by decide)).trans h.2.2.2.2⟩
theorem bB.a7 {ne : Nat} {u : zSt} {st : bS} {f : Nat → Int32} (h : bB ne 9 10 11 8 u st) : bB ne 9 10 11 8 (zA u 7 f) st := h
set_option maxHeartbeats 2000000 in
/-- the reference's search -/
theorem b_goes {ne A B : Nat} {lo hi pc ha : Nat → Nat} (hx : bX lo hi pc ha) (hne : ne ≤ 6) (hA : A ≤ 1000) (hB : B ≤ 1000) : ∀ (k d e left lows highs pr : Nat) (part : Nat → Nat) (st : bS) (u : zSt) (Q : zSt → Prop),
    e + k = ne → k < d → left ≤ 10 → lows ≤ (10 - left) * 1000 → highs ≤ (10 - left) * 1000 → pr ≤ (10 - left) * 1000 → (∀ i, i < e → part i ≤ ha i) → mU ne lo hi pc ha u → bB ne 9 10 11 8 u st → bOk ne ha st → (∀ i, i < e → u.2 7 i = nI (part i)) →
    (∀ v, zKeep [9, 10, 11] [7, 8] u v → bB ne 9 10 11 8 v (b_go lo hi pc ha A B k e left lows highs pr part st) → bOk ne ha (b_go lo hi pc ha A B k e left lows highs pr part st) → (∀ i, i < e → v.2 7 i = nI (part i)) → Q v) →
    TRX7_goes d Q (nI e) (nI left) (nI lows) (nI highs) (nI pr) (nI A) (nI B) u := by
  intro k
  induction k with
  | zero =>
    intro d e left lows highs pr part st u Q he hd hleft hlows hhighs hpr hpart hu hb hok hch hQ
    have he : e = ne := by omega
    subst he
    obtain ⟨d, rfl⟩ : ∃ d', d = d' + 1 := ⟨d - 1, by omega⟩
    have hr : ∀ (P : Prop), P → P := fun _ h => h
    refine ⟨fun n x8 v => ∃ j : Nat, x8 = nI j ∧ j ≤ e ∧ n = e - j ∧ zKeep [9, 10, 11] [7, 8] u v ∧ v.1 9 = nI pr ∧ v.1 10 = nI (lows / 10) ∧ v.1 11 = nI ((highs + 9) / 10) ∧ (∀ i, i < j → v.2 8 i = nI (part i)) ∧ (∀ i, i < e → v.2 7 i = nI (part i)) ∧ b_leaf A B left lows highs pr part st = (true, pr, lows, highs, part), fun _ _ _ _ _ _ _ _ _ _ => False, ?_, ?_, ?_⟩
    · unfold wp_X7_goes_0
      have stay : b_leaf A B left lows highs pr part st = st → Q u := fun h => hQ u zKeep.rf (by rw [b_go, h]; exact hb) (by rw [b_go, h]; exact hok) hch
      refine ⟨fun _ => ?_, fun h => absurd hu.1.symm h⟩
      refine ⟨fun h => ?_, fun h1 => ?_⟩
      · rw [show (0 : Int32) = nI 0 from rfl, nI_ltI (by omega) (by omega)] at h
        refine stay ?_
        rw [b_leaf, if_neg]; rintro ⟨h1, -⟩; omega
      rw [show (0 : Int32) = nI 0 from rfl, nI_ltI (by omega) (by omega)] at h1
      have hl0 : left = 0 := by omega
      rw [b_dn (by omega), b_up (by omega)]
      refine ⟨fun h => ?_, fun h2 => ?_⟩
      · rw [nI_ltI (by omega) (by omega)] at h
        refine stay ?_
        rw [b_leaf, if_neg]; rintro ⟨-, h1, -⟩; omega
      rw [nI_ltI (by omega) (by omega)] at h2
      refine ⟨fun h => ?_, fun h3 => ?_⟩
      · rw [nI_ltI (by omega) (by omega)] at h
        refine stay ?_
        rw [b_leaf, if_neg]; rintro ⟨-, -, h1, -⟩; omega
      rw [nI_ltI (by omega) (by omega)] at h3
      have take : (st.1 = false ∨ pr < st.2.1) → wp_X7_goes_54 (TRX7_goes d) (fun x8 v => ∃ n : Nat, ∃ j : Nat, x8 = nI j ∧ j ≤ e ∧ n = e - j ∧ zKeep [9, 10, 11] [7, 8] u v ∧ v.1 9 = nI pr ∧ v.1 10 = nI (lows / 10) ∧ v.1 11 = nI ((highs + 9) / 10) ∧ (∀ i, i < j → v.2 8 i = nI (part i)) ∧ (∀ i, i < e → v.2 7 i = nI (part i)) ∧ b_leaf A B left lows highs pr part st = (true, pr, lows, highs, part)) (fun _ _ _ _ _ _ _ _ _ => ∃ n : Nat, False) Q (nI lows) (nI highs) (nI pr) u := by
        intro h
        unfold wp_X7_goes_54
        rw [b_dn (by omega), b_up (by omega)]
        rintro _ rfl _ rfl _ rfl _ rfl
        refine ⟨e, 0, rfl, by omega, by omega, ((zKeep.rf.i (by decide)).i (by decide)).i (by decide), by simp [zI_1], by simp [zI_1], by simp [zI_1], fun i hi => absurd hi (by omega), hch, ?_⟩
        rw [b_leaf, if_pos ⟨hl0, by omega, by omega, h⟩]
      refine ⟨fun h => take (Or.inl ?_), fun h => ?_⟩
      · rcases hs : st.1 with _ | _
        · rfl
        · rw [(hb.2 hs).1] at h
          exact absurd h (b_neg1 (by have := (hok hs).1; omega))
      have hs : st.1 = true := by
        rcases hs : st.1 with _ | _
        · exact absurd (hb.1 hs) h
        · rfl
      rw [(hb.2 hs).1]
      have := (hok hs).1
      refine ⟨fun h => take (Or.inr ?_), fun h => stay ?_⟩
      · rw [nI_ltI (by omega) (by omega)] at h; exact h
      · rw [nI_ltI (by omega) (by omega)] at h
        rw [b_leaf, if_neg]; rintro ⟨-, -, -, h1 | h1⟩
        · rw [hs] at h1; cases h1
        · omega
    · intro n x8 v hI
      obtain ⟨j, rfl, hj, hn, hk, h9, h10, h11, h8, h7, hlf⟩ := hI
      have hv := hu.keep hk
      unfold wp_X7_goes_85
      rw [hv.1, nI_leI (by omega) (by omega)]
      refine ⟨fun h => ?_, fun h => ?_⟩
      · have hje : j = e := by omega
        subst hje
        refine hQ v hk ?_ ?_ h7
        · rw [b_go, hlf]; exact ⟨fun h => by simp at h, fun _ => ⟨h9, h10, h11, h8⟩⟩
        · rw [b_go]; exact b_leaf_ok (by omega) (by omega) (by omega) hpart hok
      · have hin : vp_in (nI j) 6 := vp_in_nI (by omega) (by omega)
        refine ⟨hin, hin, ?_⟩
        rintro _ rfl _ rfl
        rw [nI_clamp (by omega)]
        refine ⟨e - (j + 1), by omega, j + 1, nI_1 j, by omega, rfl, hk.a (by decide), h9, h10, h11, ?_, h7, hlf⟩
        intro i hi
        rw [zA_2, if_pos rfl]
        by_cases hij : i = j
        · rw [hij, pk_us]; exact h7 j (by omega)
        · rw [pk_un hij]; exact h8 i (by omega)
    · intro n x1 x2 x3 x4 x5 x6 x7 x8 v hI
      exact hI.elim
  | succ k ih =>
    intro d e left lows highs pr part st u Q he hd hleft hlows hhighs hpr hpart hu hb hok hch hQ
    obtain ⟨d, rfl⟩ : ∃ d', d = d' + 1 := ⟨d - 1, by omega⟩
    have hein : vp_in (nI e) 6 := vp_in_nI (by omega) (by omega)
    have hec : (nI e).toNatClampNeg = e := nI_clamp (by omega)
    obtain ⟨F, hF⟩ : ∃ F : Nat → bS → bS, F = fun n acc => b_go lo hi pc ha A B k (e + 1) (left - n) (lows + n * lo e) (highs + n * hi e) (pr + n * pc e) (zUp part e n) acc := ⟨_, rfl⟩
    have hgo : b_go lo hi pc ha A B (k + 1) e left lows highs pr part st = b_fold F (min left (ha e) + 1) st := by rw [b_go, hF]
    rw [hgo] at hQ
    have hxe := hx e
    refine ⟨fun _ _ _ => False, fun n x1 x2 x3 x4 x5 x6 x7 x8 v => ∃ j : Nat, x1 = nI e ∧ x2 = nI left ∧ x3 = nI lows ∧ x4 = nI highs ∧ x5 = nI pr ∧ x6 = nI A ∧ x7 = nI B ∧ x8 = nI j ∧ j ≤ min left (ha e) + 1 ∧ n = min left (ha e) + 1 - j ∧ zKeep [9, 10, 11] [7, 8] u v ∧ bB ne 9 10 11 8 v (b_fold F j st) ∧ bOk ne ha (b_fold F j st) ∧ (∀ i, i < e → v.2 7 i = nI (part i)), ?_, ?_, ?_⟩
    · unfold wp_X7_goes_0
      refine ⟨fun h => ?_, fun _ => ?_⟩
      · rw [hu.1, nI_eq (by omega) (by omega)] at h; omega
      · rintro _ rfl
        exact ⟨_, 0, rfl, rfl, rfl, rfl, rfl, rfl, rfl, rfl, by omega, rfl, zKeep.rf, hb, hok, hch⟩
    · intro n x8 v hI
      exact hI.elim
    · intro n x1 x2 x3 x4 x5 x6 x7 x8 v hI
      obtain ⟨j, rfl, rfl, rfl, rfl, rfl, rfl, rfl, rfl, hj, hn, hk, hbj, hokj, hchj⟩ := hI
      have hv := hu.keep hk
      unfold wp_X7_goes_118
      rw [nI_ltI (by omega) (by omega)]
      refine ⟨fun h => ?_, fun h1 => ⟨hein, ?_⟩⟩
      · have hjm : j = min left (ha e) + 1 := by omega
        subst hjm
        exact hQ v hk hbj hokj hchj
      rw [hec, hv.2.2.2.2, zN_at, nI_ltI (by omega) (by omega)]
      refine ⟨fun h => ?_, fun h2 => ⟨hein, ?_⟩⟩
      · have hjm : j = min left (ha e) + 1 := by omega
        subst hjm
        exact hQ v hk hbj hokj hchj
      rintro _ rfl
      refine ⟨hein, hein, hein, ?_⟩
      show TRX7_goes d _ (nI e + 1) (nI left - nI j) (nI lows + (nI j * (v.2 2 e))) (nI highs + (nI j * (v.2 3 e))) (nI pr + (nI j * (v.2 4 e))) (nI A) (nI B) _
      have q1 : nI e + 1 = nI (e + 1) := nI_1 e
      have q2 : nI left - nI j = nI (left - j) := pk_sub (by omega)
      have q3 : nI lows + (nI j * (v.2 2 e)) = nI (lows + j * lo e) := by rw [hv.2.1, zN_at, pk_mul, nI_add]
      have q4 : nI highs + (nI j * (v.2 3 e)) = nI (highs + j * hi e) := by rw [hv.2.2.1, zN_at, pk_mul, nI_add]
      have q5 : nI pr + (nI j * (v.2 4 e)) = nI (pr + j * pc e) := by rw [hv.2.2.2.1, zN_at, pk_mul, nI_add]
      rw [q1, q2, q3, q4, q5]
      have b1 : j * lo e ≤ j * 1000 := Nat.mul_le_mul_left j hxe.1
      have b2 : j * hi e ≤ j * 1000 := Nat.mul_le_mul_left j hxe.2.1
      have b3 : j * pc e ≤ j * 1000 := Nat.mul_le_mul_left j hxe.2.2.1
      refine ih d (e + 1) (left - j) (lows + j * lo e) (highs + j * hi e) (pr + j * pc e) (zUp part e j) (b_fold F j st) _ _ (by omega) (by omega) (by omega) (by omega) (by omega) (by omega) ?_ ?_ ?_ hokj ?_ ?_
      · intro i hi
        by_cases hie : i = e
        · rw [zUp, if_pos hie, hie]; omega
        · rw [zUp, if_neg hie]; exact hpart i (by omega)
      · exact hv
      · exact hbj
      · intro i hi
        rw [zA_2, if_pos rfl]
        by_cases hie : i = e
        · rw [hie, pk_us, zUp, if_pos rfl]
        · rw [pk_un hie, zUp, if_neg hie]; exact hchj i (by omega)
      · intro w hkw hbw hokw hchw
        rintro _ rfl
        have hst : b_go lo hi pc ha A B k (e + 1) (left - j) (lows + j * lo e) (highs + j * hi e) (pr + j * pc e) (zUp part e j) (b_fold F j st) = b_fold F (j + 1) st := by rw [b_fold, hF]
        rw [hst] at hbw hokw
        refine ⟨min left (ha e) + 1 - (j + 1), ?_, j + 1, rfl, rfl, rfl, rfl, rfl, rfl, rfl, nI_1 j, by omega, rfl, (hk.a (by decide)).tr hkw, hbw, hokw, ?_⟩
        · omega
        · intro i hi
          have := hchw i (by omega)
          rw [zUp, if_neg (by omega)] at this
          exact this
