/-! the case most -/
theorem sm_le (f : Nat → Nat) {a b : Nat} (h : a ≤ b) : fb_sm f a ≤ fb_sm f b := by
  have := fb_sm_mono f a (b - a)
  rwa [Nat.add_sub_cancel' h] at this
/-- what is free of a quality on, and the worth, after k grades -/
def gA (sl le wo ro sg : Nat → Nat) : Nat → (Nat → Nat) × Nat
  | 0 => (fun q => fb_sm sl 10 - fb_sm sl q, 0)
  | k + 1 => (fun q => if q ≤ le (sg k) then (gA sl le wo ro sg k).1 q - min (ro (sg k)) ((gA sl le wo ro sg k).1 (le (sg k))) else min ((gA sl le wo ro sg k).1 q) ((gA sl le wo ro sg k).1 (le (sg k)) - min (ro (sg k)) ((gA sl le wo ro sg k).1 (le (sg k)))), (gA sl le wo ro sg k).2 + wo (sg k) * min (ro (sg k)) ((gA sl le wo ro sg k).1 (le (sg k))))
theorem gA_bound {sl le wo ro sg : Nat → Nat} (hb : ∀ g, le g ≤ 9 ∧ wo g ≤ 1000 ∧ ro g ≤ 500) : ∀ k, (gA sl le wo ro sg k).2 ≤ k * 500000
  | 0 => by simp [gA]
  | k + 1 => by
    have h1 := gA_bound (sl := sl) (sg := sg) hb k
    have h2 := hb (sg k)
    rw [gA]
    have h3 : wo (sg k) * min (ro (sg k)) ((gA sl le wo ro sg k).1 (le (sg k))) ≤ 1000 * 500 := Nat.mul_le_mul h2.2.1 (by omega)
    show (gA sl le wo ro sg k).2 + _ ≤ _
    omega
section ZI1
variable {QM : Int32 → zSt → Prop} {u w : zSt} {ng : Nat} {sl le wo ro sg : Nat → Nat}
def fP (f : Nat → Nat) (l r q : Nat) : Nat := if q ≤ l then fb_sm f q else fb_sm f l + ((fb_sm f q - fb_sm f l) - min r (fb_sm f q - fb_sm f l))
theorem c_fill {v0 : zSt} {f : Nat → Nat} {g l r : Nat} (hg : g < 6) (hl : l ≤ 9) (hr : r ≤ 500) (hT : fb_sm f 10 ≤ 2000) (h2 : v0.2 2 g = nI l) (h4 : v0.2 4 g = nI r) (h6 : ∀ i, i < 10 → v0.2 6 i = nI (f i))
    (hQ : ∀ (w : zSt) (f' : Nat → Nat), zKeep [] [6] v0 w → (∀ i, i < 10 → w.2 6 i = nI (f' i)) → (∀ q, q ≤ 10 → fb_sm f' q = fP f l r q) → QM (nI (min r (fb_sm f 10 - fb_sm f l))) w) : TX2_fill QM (nI g) v0 := by
  refine ⟨fun n x1 x2 x3 v => ∃ (q : Nat) (f' : Nat → Nat), l ≤ q ∧ q ≤ 10 ∧ n = 10 - q ∧ x1 = nI g ∧ x2 = nI (min r (fb_sm f q - fb_sm f l)) ∧ x3 = nI q ∧ zKeep [] [6] v0 v ∧ (∀ i, i < 10 → v.2 6 i = nI (f' i)) ∧ (∀ i, q ≤ i → f' i = f i) ∧ (∀ j, j ≤ q → fb_sm f' j = fP f l r j), ?_, ?_⟩
  · unfold wp_X2_fill_0
    rintro _ rfl
    refine ⟨vp_in_nI (by omega) (by omega), ?_⟩
    rw [nI_clamp (by omega), h2]
    rintro _ rfl
    refine ⟨_, l, f, by omega, by omega, rfl, rfl, ?_, rfl, zKeep.rf, h6, fun _ _ => rfl, fun j hj => ?_⟩
    · rw [Nat.sub_self, Nat.min_zero]; rfl
    · unfold fP; rw [if_pos hj]
  · rintro n _ _ _ v ⟨q, f', h1, hq, hn, rfl, rfl, rfl, hk, ha, hf, hs⟩
    unfold wp_X2_fill_9
    have m1 := sm_le f h1
    have m2 := sm_le f hq
    refine pk_le 10 q (fun h => ?_) (fun h => ?_)
    · have : q = 10 := by omega
      subst this
      exact hQ v f' hk ha hs
    · have hin : vp_in (nI q) 10 := vp_in_nI (by omega) (by omega)
      have hc : (nI q).toNatClampNeg = q := nI_clamp (by omega)
      have e4 : v.2 4 g = nI r := by rw [hk.2 4 (by decide)]; exact h4
      have hfq : f' q = f q := hf q (Nat.le_refl q)
      have m3 := sm_le f (show q + 1 ≤ 10 by omega)
      have m4 := fb_sm_succ f q
      rw [hc, nI_clamp (by omega), e4, ha q h, hfq, pk_sub (by omega)]
      refine ⟨hin, vp_in_nI (by omega) (by omega), ?_⟩
      have et : (if nI (r - min r (fb_sm f q - fb_sm f l)) < nI (f q) then nI (r - min r (fb_sm f q - fb_sm f l)) else nI (f q)) = nI (min (f q) (r - min r (fb_sm f q - fb_sm f l))) := by
        by_cases c : r - min r (fb_sm f q - fb_sm f l) < f q
        · rw [if_pos ((nI_ltI (by omega) (by omega)).mpr c)]; congr 1; omega
        · rw [if_neg (fun z => c ((nI_ltI (by omega) (by omega)).mp z))]; congr 1; omega
      rw [et]
      rintro _ rfl
      refine ⟨hin, hin, ?_⟩
      rintro _ rfl _ rfl _ rfl
      refine ⟨10 - (q + 1), by omega, q + 1, zUp f' q (f q - min (f q) (r - min r (fb_sm f q - fb_sm f l))), by omega, by omega, rfl, rfl, ?_, nI_1 q, hk.a (by decide), fun i hi => ?_, fun i hi => ?_, fun j hj => ?_⟩
      · rw [nI_add]; congr 1; omega
      · show upd (v.2 6) q _ i = _
        unfold zUp
        by_cases e : i = q
        · rw [e, pk_us, if_pos rfl, pk_sub (by omega)]
        · rw [pk_un e, if_neg e]; exact ha i hi
      · unfold zUp; rw [if_neg (by omega)]; exact hf i (by omega)
      · have e1 : ∀ j, j ≤ q → fb_sm (zUp f' q (f q - min (f q) (r - min r (fb_sm f q - fb_sm f l)))) j = fb_sm f' j := fun j hj => fb_sm_out f' _ hj
        by_cases e : j = q + 1
        · subst e
          rw [fb_sm_succ, e1 q (Nat.le_refl q), hs q (Nat.le_refl q)]
          have : zUp f' q (f q - min (f q) (r - min r (fb_sm f q - fb_sm f l))) q = f q - min (f q) (r - min r (fb_sm f q - fb_sm f l)) := if_pos rfl
          rw [this]
          unfold fP
          rw [if_neg (show ¬ q + 1 ≤ l by omega)]
          by_cases e2 : q ≤ l
          · have : q = l := by omega
            subst this
            rw [if_pos (Nat.le_refl q)]; omega
          · rw [if_neg e2]; omega
        · rw [e1 j (by omega)]; exact hs j (by omega)
set_option maxHeartbeats 2000000 in
theorem c_most (hng : ng ≤ 6) (hsl : ∀ q, sl q ≤ 200) (hb : ∀ g, le g ≤ 9 ∧ wo g ≤ 1000 ∧ ro g ≤ 500) (h0 : u.2 0 = zN sl) (h5 : u.1 5 = nI ng) (hs3 : ∀ i, i < ng → u.2 2 i = nI (le (sg i)) ∧ u.2 3 i = nI (wo (sg i)) ∧ u.2 4 i = nI (ro (sg i)))
    (hQ : ∀ v, zKeep [] [6] u v → QM (nI (gA sl le wo ro sg ng).2) v) : TX2_greatestWorth QM u := by
  have hT : fb_sm sl 10 ≤ 10 * 200 := fb_sm_bound (fun k _ => hsl k)
  refine ⟨fun n x1 v => ∃ q : Nat, q ≤ 10 ∧ n = 100 + (10 - q) ∧ x1 = nI q ∧ zKeep [] [6] u v ∧ ∀ i, i < q → v.2 6 i = nI (sl i), fun n x1 x2 v => ∃ (k : Nat) (f : Nat → Nat), k ≤ ng ∧ n = ng - k ∧ x1 = nI (gA sl le wo ro sg k).2 ∧ x2 = nI k ∧ zKeep [] [6] u v ∧ (∀ i, i < 10 → v.2 6 i = nI (f i)) ∧ fb_sm f 10 ≤ 2000 ∧ ∀ q, q ≤ 10 → (gA sl le wo ro sg k).1 q = fb_sm f 10 - fb_sm f q, ?_, ?_, ?_⟩
  · unfold wp_X2_greatestWorth_0
    rintro _ rfl
    exact ⟨_, 0, by omega, rfl, rfl, zKeep.rf, fun i hi => absurd hi (by omega)⟩
  · rintro n _ v ⟨q, hq, hn, rfl, hk, ha⟩
    unfold wp_X2_greatestWorth_2
    refine pk_le 10 q (fun h => ?_) (fun h => ?_)
    · rintro _ rfl _ rfl
      exact ⟨ng, by omega, 0, sl, by omega, rfl, rfl, rfl, hk, fun i hi => ha i (by omega), by omega, fun q _ => rfl⟩
    · have hin : vp_in (nI q) 10 := vp_in_nI (by omega) (by omega)
      refine ⟨hin, hin, ?_⟩
      rintro _ rfl _ rfl
      refine ⟨100 + (10 - (q + 1)), by omega, q + 1, by omega, rfl, nI_1 q, hk.a (by decide), fun i hi => ?_⟩
      show upd (v.2 6) (nI q).toNatClampNeg (v.2 0 (nI q).toNatClampNeg) i = _
      rw [nI_clamp (by omega)]
      by_cases e : i = q
      · rw [e, pk_us, hk.2 0 (by decide), h0, zN_at]
      · rw [pk_un e]; exact ha i (by omega)
  · rintro n _ _ v ⟨k, f, hkn, hn, rfl, rfl, hk, ha, hT2, hG⟩
    unfold wp_X2_greatestWorth_30
    rw [show v.1 5 = nI ng from (hk.1 5 (by decide)).trans h5]
    refine pk_le ng k (fun h => ?_) (fun h => ⟨vp_in_nI (by omega) (by omega), ?_⟩)
    · have : k = ng := by omega
      subst this
      exact hQ v hk
    · obtain ⟨e2, e3, e4⟩ := hs3 k h
      have hbk := hb (sg k)
      have hc : (nI k).toNatClampNeg = k := nI_clamp (by omega)
      refine c_fill (f := f) (l := le (sg k)) (r := ro (sg k)) (by omega) hbk.1 hbk.2.2 hT2 ((congrFun (hk.2 2 (by decide)) k).trans e2) ((congrFun (hk.2 4 (by decide)) k).trans e4) ha (fun w f' hk2 ha2 hs2 => ?_)
      rw [hc, show v.2 3 k = nI (wo (sg k)) from (congrFun (hk.2 3 (by decide)) k).trans e3, pk_mul, nI_add]
      rintro _ rfl _ rfl
      have hGl := hG (le (sg k)) (by omega)
      have hP := hs2 10 (Nat.le_refl 10)
      have ml := sm_le f (show le (sg k) ≤ 10 by omega)
      unfold fP at hP
      rw [if_neg (by omega)] at hP
      refine ⟨ng - (k + 1), by omega, k + 1, f', by omega, rfl, ?_, nI_1 k, hk.tr hk2, ha2, by omega, fun q hq => ?_⟩
      · rw [gA, hGl]
      · rw [gA]
        show (if q ≤ le (sg k) then _ else _) = _
        have hGq := hG q hq
        have hPq := hs2 q hq
        have mq := sm_le f hq
        unfold fP at hPq
        rw [hGl, hGq, hP, hPq]
        by_cases c : q ≤ le (sg k)
        · rw [if_pos c, if_pos c]; have := sm_le f c; omega
        · rw [if_neg c, if_neg c]; have := sm_le f (show le (sg k) ≤ q by omega); omega
/-- the running minimum -/
def rm (F : Nat → Nat) : Nat → Nat
  | 0 => F 0
  | q + 1 => min (rm F q) (F (q + 1))
theorem rm_le (F : Nat → Nat) : ∀ q j, j ≤ q → rm F q ≤ F j
  | 0, j, h => by have : j = 0 := by omega
                  subst this; exact Nat.le_refl _
  | q + 1, j, h => by
    rw [rm]
    by_cases e : j = q + 1
    · subst e; omega
    · have := rm_le F q j (by omega); omega
theorem rm_dec {F : Nat → Nat} (h : ∀ q, q < 9 → F (q + 1) ≤ F q) : ∀ q, q ≤ 9 → rm F q = F q
  | 0, _ => rfl
  | q + 1, hq => by rw [rm, rm_dec h q (by omega)]; have := h q (by omega); omega
theorem rm_cong {F G : Nat → Nat} : ∀ q, (∀ j, j ≤ q → F j = G j) → rm F q = rm G q
  | 0, h => h 0 (Nat.le_refl 0)
  | q + 1, h => by rw [rm, rm, rm_cong q (fun j hj => h j (by omega)), h (q + 1) (Nat.le_refl _)]
theorem rm_step {F F' : Nat → Nat} {l n : Nat} (hn : n ≤ rm F l) (h1 : ∀ q, q ≤ l → F' q = F q - n) (h2 : ∀ q, l < q → F' q = F q) : ∀ q, rm F' q = if q ≤ l then rm F q - n else min (rm F q) (rm F l - n)
  | 0 => by rw [if_pos (Nat.zero_le l)]; exact h1 0 (Nat.zero_le l)
  | q + 1 => by
    rw [rm, rm_step hn h1 h2 q]
    by_cases c : q + 1 ≤ l
    · rw [if_pos (show q ≤ l by omega), if_pos c, h1 (q + 1) c, rm]; omega
    · rw [if_neg c, h2 (q + 1) (by omega), rm]
      by_cases d : q ≤ l
      · have : q = l := by omega
        subst this
        rw [if_pos d]; omega
      · rw [if_neg d]; omega
def sOk (ng : Nat) (wo sg : Nat → Nat) : Prop := (∀ i, i < ng → sg i < ng) ∧ (∀ i j, i < j → j < ng → sg i ≠ sg j ∧ (wo (sg j) < wo (sg i) ∨ (wo (sg j) = wo (sg i) ∧ sg i < sg j)))
def dDn (ng k : Nat) (sg : Nat → Nat) (v : zSt) : Prop := (∀ i, i < k → ¬ v.2 36 (sg i) = 0) ∧ (∀ i, k ≤ i → i < ng → v.2 36 (sg i) = 0)
theorem m_dear {v : zSt} {k : Nat} (hng : ng ≤ 6) (hw : ∀ g, wo g ≤ 1000) (hs : sOk ng wo sg) (hkn : k ≤ ng) (hd : dDn ng k sg v) (h34 : v.1 34 = nI ng) (h32 : v.2 32 = zN wo) (hQ : QM (if k < ng then nI (sg k) else -1) v) : TX7_dearest QM v := by
  refine ⟨fun n x1 x2 w => ∃ j : Nat, j ≤ ng ∧ n = ng - j ∧ x2 = nI j ∧ w = v ∧ ((x1 = -1 ∧ ∀ g, g < j → ¬ v.2 36 g = 0) ∨ ∃ f : Nat, f < j ∧ x1 = nI f ∧ v.2 36 f = 0 ∧ ∀ g, g < j → v.2 36 g = 0 → wo g ≤ wo f ∧ (g < f → wo g < wo f)), ?_, ?_⟩
  · unfold wp_X7_dearest_0
    rintro _ rfl _ rfl
    exact ⟨_, 0, by omega, rfl, rfl, rfl, Or.inl ⟨rfl, fun g h => absurd h (by omega)⟩⟩
  · rintro n x1 _ w ⟨j, hj, hn, rfl, rfl, hx⟩
    unfold wp_X7_dearest_4
    rw [h34]
    refine pk_le ng j (fun h => ?_) (fun h => ⟨vp_in_nI (by omega) (by omega), ?_⟩)
    · have : j = ng := by omega
      subst this
      rcases hx with ⟨rfl, hx⟩ | ⟨f, hf, rfl, h0, hx⟩
      · by_cases c : k < j
        · exact absurd (hd.2 k (Nat.le_refl k) c) (hx _ (hs.1 k c))
        · rw [if_neg c] at hQ; exact hQ
      · obtain ⟨i, hi, rfl⟩ := fb_onto hs.1 (fun a b h1 h2 => (hs.2 a b h1 h2).1) hf
        have hik : k ≤ i := by
          by_cases c : i < k
          · exact absurd h0 (hd.1 i c)
          · omega
        have hkj : k < j := by omega
        rw [if_pos hkj] at hQ
        by_cases c : k = i
        · subst c; exact hQ
        · have h1 := hs.2 k i (by omega) hi
          have h2 := hx (sg k) (hs.1 k hkj) (hd.2 k (Nat.le_refl k) hkj)
          rcases h1.2 with q | q
          · omega
          · have := h2.2 q.2; omega
    · have hc : (nI j).toNatClampNeg = j := nI_clamp (by omega)
      rw [hc]
      have hin : vp_in (nI j) 6 := vp_in_nI (by omega) (by omega)
      have take : w.2 36 j = 0 → (∀ g, g < j → w.2 36 g = 0 → wo g < wo j) → wp_X7_dearest_40 (fun x1 x2 v => ∃ k : Nat, k < n ∧ ∃ j : Nat, j ≤ ng ∧ k = ng - j ∧ x2 = nI j ∧ v = w ∧ ((x1 = -1 ∧ ∀ g, g < j → ¬ w.2 36 g = 0) ∨ ∃ f : Nat, f < j ∧ x1 = nI f ∧ w.2 36 f = 0 ∧ ∀ g, g < j → w.2 36 g = 0 → wo g ≤ wo f ∧ (g < f → wo g < wo f))) QM (nI j) w := by
        intro h0 hg
        unfold wp_X7_dearest_40
        rintro _ rfl _ rfl
        refine ⟨ng - (j + 1), by omega, j + 1, by omega, rfl, nI_1 j, rfl, Or.inr ⟨j, by omega, rfl, h0, fun g h1 h2 => ?_⟩⟩
        by_cases e : g = j
        · subst e; exact ⟨Nat.le_refl _, fun q => absurd q (by omega)⟩
        · have := hg g (by omega) h2; exact ⟨by omega, fun _ => this⟩
      refine ⟨fun h0 => ?_, fun h0 => ?_⟩
      · rcases hx with ⟨rfl, hx⟩ | ⟨f, hf, rfl, hf0, hx⟩
        · exact ⟨fun _ => take h0 (fun g h1 h2 => absurd h2 (hx g h1)), fun q => absurd (by decide) q⟩
        · refine ⟨fun q => absurd q (nI_pos (by omega)), fun _ => ⟨hin, vp_in_nI (by omega) (by omega), ?_⟩⟩
          rw [h32, nI_clamp (by omega), zN_at, zN_at]
          have hw1 := hw j
          have hw2 := hw f
          refine pk_le (wo j) (wo f) (fun q => ?_) (fun q => take h0 (fun g h1 h2 => by have := (hx g h1 h2).1; omega))
          rintro _ rfl
          refine ⟨ng - (j + 1), by omega, j + 1, by omega, rfl, nI_1 j, rfl, Or.inr ⟨f, by omega, rfl, hf0, fun g h1 h2 => ?_⟩⟩
          by_cases e : g = j
          · subst e; exact ⟨q, fun q => absurd q (by omega)⟩
          · exact hx g (by omega) h2
      · rintro _ rfl
        refine ⟨ng - (j + 1), by omega, j + 1, by omega, rfl, nI_1 j, rfl, ?_⟩
        rcases hx with ⟨rfl, hx⟩ | ⟨f, hf, rfl, hf0, hx⟩
        · refine Or.inl ⟨rfl, fun g hg => ?_⟩
          by_cases e : g = j
          · subst e; exact h0
          · exact hx g (by omega)
        · refine Or.inr ⟨f, by omega, rfl, hf0, fun g h1 h2 => ?_⟩
          by_cases e : g = j
          · subst e; exact absurd h2 h0
          · exact hx g (by omega) h2
def mC (sl le wo ro sg : Nat → Nat) (u : zSt) (k : Nat) (F : Nat → Nat) (v : zSt) : Prop := zKeep [0] [35, 36] u v ∧ (∀ i, i < 10 → F i ≤ 2000) ∧ (∀ q, q ≤ 9 → rm F q = (gA sl le wo ro sg k).1 q)
set_option maxHeartbeats 4000000 in
theorem m_most (hng : ng ≤ 6) (hsl : ∀ q, sl q ≤ 200) (hb : ∀ g, le g ≤ 9 ∧ wo g ≤ 1000 ∧ ro g ≤ 500) (hs : sOk ng wo sg) (h30 : u.2 30 = zN sl) (h34 : u.1 34 = nI ng) (h31 : u.2 31 = zN le) (h32 : u.2 32 = zN wo) (h33 : u.2 33 = zN ro)
    (hQ : ∀ v, zKeep [0] [35, 36] u v → QM (nI (gA sl le wo ro sg ng).2) v) : TX7_most QM u := by
  have hT : fb_sm sl 10 ≤ 10 * 200 := fb_sm_bound (fun k _ => hsl k)
  refine ⟨fun n x1 x2 v => ∃ j : Nat, j ≤ 10 ∧ n = 3000 + j ∧ x1 = nI (fb_sm sl 10 - fb_sm sl j) ∧ x2 = nI j + (-1) ∧ zKeep [0] [35, 36] u v ∧ ∀ i, j ≤ i → i < 10 → v.2 35 i = nI (fb_sm sl 10 - fb_sm sl i),
    fun n x2 v => ∃ g : Nat, g ≤ 6 ∧ n = 2000 + (6 - g) ∧ x2 = nI g ∧ zKeep [0] [35, 36] u v ∧ (∀ i, i < 10 → v.2 35 i = nI (fb_sm sl 10 - fb_sm sl i)) ∧ ∀ i, i < g → v.2 36 i = 0,
    fun n x2 x3 v => ∃ (k : Nat) (F : Nat → Nat), k ≤ ng ∧ n = (ng - k) * 100 + 99 ∧ mC sl le wo ro sg u k F v ∧ (∀ i, i < 10 → v.2 35 i = nI (F i)) ∧ dDn ng k sg v ∧ x2 = nI (gA sl le wo ro sg k).2 ∧ x3 = (if k < ng then nI (sg k) else -1),
    fun n x2 x3 x4 x5 v => ∃ (k : Nat) (F : Nat → Nat) (q : Nat), k < ng ∧ n = (ng - k) * 100 + 90 - q ∧ q ≤ le (sg k) + 1 ∧ mC sl le wo ro sg u k F v ∧ (∀ i, i < 10 → v.2 35 i = nI (F i)) ∧ dDn ng (k + 1) sg v ∧ x2 = nI (gA sl le wo ro sg k).2 ∧ x3 = nI (sg k) ∧ x4 = nI (if q = 0 then ro (sg k) else min (ro (sg k)) (rm F (q - 1))) ∧ x5 = nI q,
    fun n x2 x3 x4 x5 v => ∃ (k : Nat) (F : Nat → Nat) (q : Nat), k < ng ∧ n = (ng - k) * 100 + 60 - q ∧ q ≤ le (sg k) + 1 ∧ mC sl le wo ro sg u k F v ∧ (∀ i, i < 10 → v.2 35 i = nI (if i < q then F i - min (ro (sg k)) (rm F (le (sg k))) else F i)) ∧ dDn ng (k + 1) sg v ∧ x2 = nI (gA sl le wo ro sg k).2 ∧ x3 = nI (sg k) ∧ x4 = nI (min (ro (sg k)) (rm F (le (sg k)))) ∧ x5 = nI q, ?_, ?_, ?_, ?_, ?_, ?_⟩
  · unfold wp_X7_most_0
    rintro _ rfl _ rfl _ rfl
    exact ⟨_, 10, by omega, rfl, by rw [Nat.sub_self]; rfl, by decide, zKeep.rf.i (by decide), fun i h1 h2 => absurd h1 (by omega)⟩
  · rintro n _ _ v ⟨j, hj, hn, rfl, rfl, hk, ha⟩
    unfold wp_X7_most_10
    rcases j with _ | j
    · refine ⟨fun _ => ?_, fun q => absurd (by decide) q⟩
      rintro _ rfl
      exact ⟨2006, by omega, 0, by omega, rfl, rfl, hk, fun i hi => ha i (by omega) hi, fun i hi => absurd hi (by omega)⟩
    · rw [pk_m1]
      refine ⟨fun q => absurd q (nI_pos (by omega)), fun _ => ?_⟩
      have hin : vp_in (nI j) 10 := vp_in_nI (by omega) (by omega)
      have hc : (nI j).toNatClampNeg = j := nI_clamp (by omega)
      have m1 := sm_le sl (show j + 1 ≤ 10 by omega)
      have m2 := fb_sm_succ sl j
      have ex : nI (fb_sm sl 10 - fb_sm sl (j + 1)) + v.2 30 j = nI (fb_sm sl 10 - fb_sm sl j) := by
        rw [hk.2 30 (by decide), h30, zN_at, nI_add]; congr 1; omega
      rw [hc]
      refine ⟨hin, ?_⟩
      rw [ex]
      rintro _ rfl
      refine ⟨hin, ?_⟩
      rintro _ rfl _ rfl
      refine ⟨3000 + j, by omega, j, by omega, rfl, rfl, rfl, hk.a (by decide), fun i h1 h2 => ?_⟩
      show upd (v.2 35) j _ i = _
      by_cases e : i = j
      · rw [e, pk_us]
      · rw [pk_un e]; exact ha i (by omega) h2
  · rintro n _ v ⟨g, hg, hn, rfl, hk, ha, hz⟩
    unfold wp_X7_most_38
    refine pk_le 6 g (fun h => ?_) (fun h => ⟨vp_in_nI (by omega) (by omega), ?_⟩)
    · rintro _ rfl
      have hd : dDn ng 0 sg v := ⟨fun i hi => absurd hi (by omega), fun i _ hi => hz _ (by have := hs.1 i hi; omega)⟩
      refine m_dear hng (fun g => (hb g).2.1) hs (Nat.zero_le ng) hd ((hk.1 34 (by decide)).trans h34) ((hk.2 32 (by decide)).trans h32) ?_
      rintro _ rfl
      refine ⟨(ng - 0) * 100 + 99, by omega, 0, fun i => fb_sm sl 10 - fb_sm sl i, by omega, rfl, ⟨hk, fun i _ => by show fb_sm sl 10 - fb_sm sl i ≤ 2000; omega, fun q hq => ?_⟩, ha, hd, rfl, rfl⟩
      rw [rm_dec (fun q _ => ?_) q hq]
      · rfl
      · have := fb_sm_succ sl q
        show fb_sm sl 10 - fb_sm sl (q + 1) ≤ fb_sm sl 10 - fb_sm sl q
        omega
    · rintro _ rfl _ rfl
      refine ⟨2000 + (6 - (g + 1)), by omega, g + 1, by omega, rfl, nI_1 g, hk.a (by decide), ha, fun i hi => ?_⟩
      show upd (v.2 36) (nI g).toNatClampNeg (vp_nar .boolean 0) i = 0
      rw [nI_clamp (by omega)]
      by_cases e : i = g
      · rw [e, pk_us]; rfl
      · rw [pk_un e]; exact hz i (by omega)
  · rintro n _ x3 v ⟨k, F, hkn, hn, hC, ha, hd, rfl, h3⟩
    unfold wp_X7_most_64
    by_cases c : k < ng
    · rw [if_pos c] at h3
      subst h3
      have hsk := hs.1 k c
      have hin : vp_in (nI (sg k)) 6 := vp_in_nI (by omega) (by omega)
      have hc : (nI (sg k)).toNatClampNeg = sg k := nI_clamp (by omega)
      rw [hc]
      refine ⟨fun q => absurd q (nI_pos (by omega)), fun _ => ⟨hin, ?_⟩⟩
      rintro _ rfl
      refine ⟨hin, ?_⟩
      rintro _ rfl _ rfl
      refine ⟨(ng - k) * 100 + 90 - 0, by omega, k, F, 0, c, rfl, by omega, ⟨hC.1.a (by decide), hC.2⟩, ha, ⟨fun i hi => ?_, fun i h1 h2 => ?_⟩, rfl, rfl, ?_, rfl⟩
      · show ¬ upd (v.2 36) (sg k) (vp_nar .boolean 1) (sg i) = 0
        by_cases e : i = k
        · rw [e, pk_us]; decide
        · rw [pk_un (hs.2 i k (by omega) c).1]; exact hd.1 i (by omega)
      · show upd (v.2 36) (sg k) (vp_nar .boolean 1) (sg i) = 0
        rw [pk_un (fun e => (hs.2 k i (by omega) h2).1 e.symm)]; exact hd.2 i (by omega) h2
      · show v.2 33 (sg k) = _
        rw [hC.1.2 33 (by decide), h33, zN_at, if_pos rfl]
    · rw [if_neg c] at h3
      subst h3
      have : k = ng := by omega
      subst this
      exact ⟨fun _ => hQ v hC.1, fun q => absurd (by decide) q⟩
  · rintro n _ _ _ _ v ⟨k, F, q, hkn, hn, hq, hC, ha, hd, rfl, rfl, rfl, rfl⟩
    unfold wp_X7_most_86
    have hsk := hs.1 k hkn
    have hbk := hb (sg k)
    have hin : vp_in (nI (sg k)) 6 := vp_in_nI (by omega) (by omega)
    have hc : (nI (sg k)).toNatClampNeg = sg k := nI_clamp (by omega)
    rw [hc, show v.2 31 = zN le from (hC.1.2 31 (by decide)).trans h31, zN_at]
    refine ⟨hin, pk_lt (le (sg k)) q (fun h => ?_) (fun h => ?_)⟩
    · have : q = le (sg k) + 1 := by omega
      subst this
      rintro _ rfl
      refine ⟨(ng - k) * 100 + 60 - 0, by omega, k, F, 0, hkn, rfl, by omega, hC, fun i hi => ?_, hd, rfl, rfl, ?_, rfl⟩
      · rw [if_neg (by omega)]; exact ha i hi
      · rw [if_neg (by omega)]; rfl
    · have hF := hC.2.1 q (by omega)
      have hx : (if q = 0 then ro (sg k) else min (ro (sg k)) (rm F (q - 1))) ≤ 500 := by split <;> omega
      refine ⟨vp_in_nI (by omega) (by omega), ?_⟩
      rw [nI_clamp (by omega), ha q (by omega)]
      have et : (if nI (F q) < nI (if q = 0 then ro (sg k) else min (ro (sg k)) (rm F (q - 1))) then nI (F q) else nI (if q = 0 then ro (sg k) else min (ro (sg k)) (rm F (q - 1)))) = nI (min (ro (sg k)) (rm F q)) := by
        have er : min (ro (sg k)) (rm F q) = min (if q = 0 then ro (sg k) else min (ro (sg k)) (rm F (q - 1))) (F q) := by
          rcases q with _ | q
          · rfl
          · rw [if_neg (by omega), rm]; show _ = min (min _ (rm F q)) _; omega
        rw [er]
        generalize (if q = 0 then ro (sg k) else min (ro (sg k)) (rm F (q - 1))) = X at hx ⊢
        by_cases c : F q < X
        · rw [if_pos ((nI_ltI (by omega) (by omega)).mpr c)]; congr 1; omega
        · rw [if_neg (fun z => c ((nI_ltI (by omega) (by omega)).mp z))]; congr 1; omega
      rw [et]
      rintro _ rfl _ rfl
      exact ⟨(ng - k) * 100 + 90 - (q + 1), by omega, k, F, q + 1, hkn, rfl, by omega, hC, ha, hd, rfl, rfl, by rw [if_neg (by omega)]; rfl, nI_1 q⟩
  · rintro n _ _ _ _ v ⟨k, F, q, hkn, hn, hq, hC, ha, hd, rfl, rfl, rfl, rfl⟩
    unfold wp_X7_most_120
    have hsk := hs.1 k hkn
    have hbk := hb (sg k)
    have hin : vp_in (nI (sg k)) 6 := vp_in_nI (by omega) (by omega)
    have hc : (nI (sg k)).toNatClampNeg = sg k := nI_clamp (by omega)
    rw [hc, show v.2 31 = zN le from (hC.1.2 31 (by decide)).trans h31, zN_at]
    refine ⟨hin, pk_lt (le (sg k)) q (fun h => ⟨hin, ?_⟩) (fun h => ?_)⟩
    · have : q = le (sg k) + 1 := by omega
      subst this
      rw [show v.2 32 = zN wo from (hC.1.2 32 (by decide)).trans h32, zN_at, pk_mul, nI_add]
      rintro _ rfl
      refine m_dear hng (fun g => (hb g).2.1) hs (show k + 1 ≤ ng by omega) hd ((hC.1.1 34 (by decide)).trans h34) ((hC.1.2 32 (by decide)).trans h32) ?_
      rintro _ rfl
      refine ⟨(ng - (k + 1)) * 100 + 99, by omega, k + 1, fun i => if i < le (sg k) + 1 then F i - min (ro (sg k)) (rm F (le (sg k))) else F i, by omega, rfl, ⟨hC.1, fun i hi => ?_, fun q' hq' => ?_⟩, ha, hd, ?_, rfl⟩
      · have := hC.2.1 i hi
        show (if i < le (sg k) + 1 then F i - min (ro (sg k)) (rm F (le (sg k))) else F i) ≤ 2000
        split <;> omega
      · rw [rm_step (F := F) (l := le (sg k)) (n := min (ro (sg k)) (rm F (le (sg k)))) (by omega) (fun j hj => if_pos (by omega)) (fun j hj => if_neg (by omega)) q', gA]
        show _ = if q' ≤ le (sg k) then _ else _
        rw [hC.2.2 q' hq', hC.2.2 (le (sg k)) hbk.1]
      · rw [gA, hC.2.2 (le (sg k)) hbk.1, Nat.mul_comm]
    · have hF := hC.2.1 q (by omega)
      have hle := rm_le F (le (sg k)) q h
      have hin2 : vp_in (nI q) 10 := vp_in_nI (by omega) (by omega)
      refine ⟨hin2, hin2, ?_⟩
      rintro _ rfl _ rfl
      refine ⟨(ng - k) * 100 + 60 - (q + 1), by omega, k, F, q + 1, hkn, rfl, by omega, ⟨hC.1.a (by decide), hC.2⟩, fun i hi => ?_, hd, rfl, rfl, rfl, nI_1 q⟩
      show upd (v.2 35) (nI q).toNatClampNeg (v.2 35 (nI q).toNatClampNeg - _) i = _
      rw [nI_clamp (by omega), ha q (by omega), if_neg (Nat.lt_irrefl q), pk_sub (by omega)]
      by_cases e : i = q
      · rw [e, pk_us, if_pos (by omega)]
      · rw [pk_un e, ha i hi]
        by_cases e2 : i < q
        · rw [if_pos e2, if_pos (by omega)]
        · rw [if_neg e2, if_neg (by omega)]
end ZI1
theorem rG.u {u2 u7 v : zSt} (h : rG u2 u7) (g : v.1 1 = u2.1 1 ∧ v.1 5 = u2.1 5 ∧ v.2 0 = u2.2 0 ∧ v.2 2 = u2.2 2 ∧ v.2 3 = u2.2 3 ∧ v.2 4 = u2.2 4) : rG v u7 := by
  obtain ⟨a1, a2, a3, a4, a5, a6⟩ := g
  unfold rG
  rw [a1, a2, a3, a4, a5, a6]
  exact h
set_option maxHeartbeats 2000000 in
theorem cs_1172 {L : Nat} {xs : Nat → Int32} {J23 : Int32 → Nat → Nat → zSt → zSt → zSt → zSt → zSt → zSt → zSt → (Nat → Int64) → Prop} {x4 : Int32} {cs sl : Nat} {u0 u1 u2 u3 u4 u5 u7 : zSt} {u8 : Nat → Int64} (hb : cs + 1 ≤ 601024 ∧ sl + 6 ≤ 7293034) (hi : vp_in (x4 + 1) L ∧ vp_in (x4 + 2) L ∧ vp_in (x4 + 3) L ∧ vp_in (x4 + 4) L) (hR : rAll u1 u2 u3 u4 u5 u7) (hJ : ∀ (cs' sl' : Nat) (v0 v1 v2 v3 v4 v5 v7 : zSt) (v8 : Nat → Int64), cs' ≤ cs + 1 → sl' ≤ sl + 6 → rAll v1 v2 v3 v4 v5 v7 → J23 (x4 + 5) cs' sl' v0 v1 v2 v3 v4 v5 v7 v8) : wp_L_law_1172 L xs J23 x4 cs sl u0 u1 u2 u3 u4 u5 u7 u8 := by
  obtain ⟨hE, hL, hT, hG, hM⟩ := id hR
  obtain ⟨ng, sq, le, wo, ro, sg, b1, hsl, g0, g30, g1, g5, g34, a31, a32, a33, ab, s1, s2, s3⟩ := id hG
  unfold wp_L_law_1172 TX6_most wp_X6_most_0
  refine ⟨hb, c_most b1 hsl ab g0 g5 s3 (fun v hk => m_most b1 hsl ab ⟨s1, s2⟩ g30 g34 a31 a32 a33 (fun w hk2 => ⟨fun _ => ?_, fun h => h rfl⟩))⟩
  rintro _ rfl
  exact hJ _ _ _ _ _ _ _ _ _ _ (by omega) (by omega) ⟨hE.k ⟨hk2.1 _ (by decide), hk2.2 _ (by decide), hk2.2 _ (by decide), hk2.2 _ (by decide), hk2.2 _ (by decide)⟩, hL.k ⟨hk2.1 _ (by decide), hk2.1 _ (by decide), hk2.1 _ (by decide), hk2.2 _ (by decide), hk2.2 _ (by decide), hk2.2 _ (by decide), hk2.2 _ (by decide), hk2.2 _ (by decide), hk2.2 _ (by decide)⟩, hT.k ⟨hk2.1 _ (by decide), hk2.1 _ (by decide), hk2.1 _ (by decide), hk2.2 _ (by decide), hk2.2 _ (by decide), hk2.2 _ (by decide), hk2.2 _ (by decide)⟩, (hG.u ⟨hk.1 _ (by decide), hk.1 _ (by decide), hk.2 _ (by decide), hk.2 _ (by decide), hk.2 _ (by decide), hk.2 _ (by decide)⟩).k ⟨hk2.1 _ (by decide), hk2.2 _ (by decide), hk2.2 _ (by decide), hk2.2 _ (by decide), hk2.2 _ (by decide)⟩, hM.k ⟨hk2.1 _ (by decide), hk2.1 _ (by decide), hk2.2 _ (by decide), hk2.2 _ (by decide)⟩⟩
