-- PURE: BestPlay
def plN (σ a b : Nat) : Nat := ((σ % 32) * 5 + a) * 5 + b
def bpI (v A B f K : Nat) (M : gS) : Prop := mg M 6 = nI v ∧ mg M 7 = nI A ∧ mg M 8 = nI B ∧ mg M 9 = nI f ∧ mg M 10 = nI K ∧ okB M
theorem c_purses {M : gS} (hB : okB M) {x : Nat} (hx : x < 2 ^ 31) (Q : Int64 → gS → Prop) (h : ∀ r, (∀ m t, m < 8 → t < 8 → lb r (8 * t + m) = decide (m + t ≤ x)) → Q r M) : wX0_purses (nI x) M Q := by
  unfold wX0_purses
  refine sw_t (nI_pos' hx) ?_
  by_cases c : 14 ≤ x
  · refine sw_t (by rw [show (14 : Int32) = nI 14 from rfl, nI_leI (by omega) hx]; exact c) (h _ (fun m t hm ht => ?_))
    have := hB 14 (by omega) (8 * t + m) (by omega)
    unfold lb
    rw [this, show (8 * t + m) / 8 = t by omega, show (8 * t + m) % 8 = m by omega, decide_eq_true (show t + m ≤ 14 by omega), decide_eq_true (show m + t ≤ x by omega)]
  · refine sw_f (by rw [show (14 : Int32) = nI 14 from rfl, nI_leI (by omega) hx]; exact c) ⟨vp_in_nI (by omega) (by decide), h _ (fun m t hm ht => ?_)⟩
    rw [nI_clamp hx]
    have := hB x (by omega) (8 * t + m) (by omega)
    unfold lb
    rw [this, show (8 * t + m) / 8 = t by omega, show (8 * t + m) % 8 = m by omega, Nat.add_comm t m]
theorem c_tooLong {M : gS} (hB : okB M) {v σ : Nat} (hv : 1 ≤ v) (hv2 : v ≤ 100) (h6 : mg M 6 = nI v) (hσ : σ < 10000) (Q : Int64 → gS → Prop) (h : ∀ r, (∀ m t, m < 8 → t < 8 → lb r (8 * t + m) = decide (v * (m + t) + 200 < σ)) → Q r M) : wX0_tooLong (nI σ) M Q := by
  unfold wX0_tooLong
  by_cases c : σ ≤ 200
  · refine sw_t (by rw [show (200 : Int32) = nI 200 from rfl, nI_leI (by omega) (by omega)]; exact c) (h _ (fun m t hm ht => ?_))
    rw [l_0, decide_eq_false (by omega)]
  · refine sw_f (by rw [show (200 : Int32) = nI 200 from rfl, nI_leI (by omega) (by omega)]; exact c) ⟨by rw [h6]; exact nI_ne0 (by omega) (by omega), ?_⟩
    rw [h6, show (200 : Int32) = nI 200 from rfl, pk_sub (by omega), show (1 : Int32) = nI 1 from rfl, pk_sub (by omega), pk_div (by omega) (by omega) (by omega)]
    have hd : (σ - 200 - 1) / v ≤ σ - 200 - 1 := Nat.div_le_self _ _
    refine c_purses hB (by omega) _ (fun r hr => h r (fun m t hm ht => ?_))
    rw [hr m t hm ht]
    have : m + t ≤ (σ - 200 - 1) / v ↔ v * (m + t) + 200 < σ := by
      rw [Nat.le_div_iff_mul_le (by omega), Nat.mul_comm (m + t) v]
      omega
    rw [decide_eq_decide.2 this]
theorem c_cost {s : Nat → Int32} (hw : wfS s) {Mc : gS} (hc : relC s Mc) {w k : Nat} (h1 : w < aN s 1) (hk : k ≤ 5) (Q : Int32 → gS → Prop) (h : Q (nI (costK s w k)) Mc) : wX1_cost (nI w) (nI k - 1) Mc Q := by
  have b1 : aN s 1 ≤ 4 := hw.b 1 rfl
  have e1 := hw.n 1 rfl; have e2 := hw.n 2 rfl
  obtain ⟨-, c1, c2, -, c4⟩ := hc
  have key : nI w = nI k - 1 ↔ w + 1 = k := by
    cases k with
    | zero =>
      refine ⟨fun z => ?_, fun z => by omega⟩
      have z1 : (nI w).toInt = (nI 0 - 1 : Int32).toInt := by rw [z]
      rw [nI_toInt (by omega), show (nI 0 - 1 : Int32).toInt = -1 by decide] at z1
      omega
    | succ k =>
      rw [nI_pred, nI_eq (by omega) (by omega)]
      omega
  unfold wX1_cost
  rw [c1, c2, e1]
  refine sw_f (nI_pos (by omega)) (sw_f (nI_ge h1 (by omega)) ⟨fun _ => ?_, fun z => absurd (nI_lt (show w < 4 by omega) (by decide)) z⟩)
  by_cases z : w + 1 = k
  · refine sw_t (key.2 z) ⟨vp_in_nI (by omega) (by decide), ?_⟩
    rw [nI_clamp (by omega), c4 w h1, hw.n (28 + w) (isB_28 w (by omega)), e2, nI_add]
    unfold costK at h
    rw [if_pos z] at h
    exact h
  · refine sw_f (fun y => z (key.1 y)) ⟨vp_in_nI (by omega) (by decide), ?_⟩
    rw [nI_clamp (by omega), c4 w h1, hw.n (28 + w) (isB_28 w (by omega))]
    unfold costK at h
    rw [if_neg z] at h
    exact h
theorem c_placeOf {σ a b : Nat} (Q : Int32 → Prop) (h : Q (nI (plN σ a b))) : wX0_placeOf (nI σ) (nI a) (nI b) Q := by
  unfold wX0_placeOf
  rw [show (31 : Int32) = nI (2 ^ 5 - 1) from rfl, fa_mask, show (5 : Int32) = nI 5 from rfl, pk_mul, nI_add, pk_mul, nI_add]
  exact h
theorem plN_lt {σ a b : Nat} (ha : a < 5) (hb : b < 5) : plN σ a b < 800 := by
  unfold plN; omega
theorem c_kindOf {N : gS} {K i : Nat} (h10 : mg N 10 = nI K) (hK : K ≤ 5) (Q : Int32 → gS → Prop) (h : Q (nI (kw K i)) N) : wX0_kindOf (nI i) N Q := by
  unfold wX0_kindOf
  rw [h10]
  unfold kw at h
  by_cases y : K = 1
  · rw [if_pos y] at h
    exact sw_t (by rw [y]; rfl) h
  · rw [if_neg y] at h
    refine sw_f (by rw [show (1 : Int32) = nI 1 from rfl, nI_eq (by omega) (by omega)]; exact y) ?_
    rw [nI_1]
    exact h
/-- the words that fit, gathered -/
def gI (s : Nat → Int32) (v K σ a : Nat) (N : gS) (i n : Nat) (g : Nat → Nat) : Prop := n ≤ i ∧ mg N 4 = nI n ∧ (∀ j, j < n → g j < i ∧ costK s (g j) a ≤ σ ∧ ma N 2 j = nI (plN (σ - costK s (g j) a) 0 (kw K (g j))) ∧ ∀ m t, m < 8 → t < 8 → lb (ml N 3 j) (8 * t + m) = decide (v * (m + t) ≤ σ - costK s (g j) a)) ∧ (∀ w, w < i → costK s w a ≤ σ → ∃ j, j < n ∧ g j = w)
theorem c_gather_l {s : Nat → Int32} (hw : wfS s) {Mc : gS} (hc : relC s Mc) {v A B f K σ a : Nat} (hv : 1 ≤ v) (hv2 : v ≤ 100) (hK : kOK s K) (hσ : σ < 10000) (ha : a < 5) (L : Nat → Int64) (Q : gS → gS → Prop) (hQ : ∀ N n g, bpI v A B f K N → ml N 1 = L → gI s v K σ a N (aN s 1) n g → Q N Mc) : ∀ c i, i + c = aN s 1 → ∀ N n g, bpI v A B f K N → ml N 1 = L → gI s v K σ a N i n g → wX0_gatherWords_7 Q (c + 1) (nI σ) (nI a) (nI i) N Mc := by
  have b1 : aN s 1 ≤ 4 := hw.b 1 rfl
  have e1 := hw.n 1 rfl
  intro c
  induction c with
  | zero =>
    intro i hi N n g hb hL hg
    rw [wX0_gatherWords_7, hc.2.1, e1]
    refine sw_t (nI_le (by omega) (by omega)) (hQ N n g hb hL ?_)
    rw [show aN s 1 = i by omega]; exact hg
  | succ c ih =>
    intro i hi N n g hb hL hg
    rw [wX0_gatherWords_7, hc.2.1, e1]
    refine sw_f (nI_ge (by omega) (by omega)) (sw_f (nI_ge (show i < 4 by omega) (by decide)) (c_cost hw hc (by omega) (by omega) _ ?_))
    have hcb := costK_b hw (k := a) (show i < aN s 1 by omega)
    obtain ⟨g1, g2, g3, g4⟩ := hg
    obtain ⟨p6, p7, p8, p9, p10, pB⟩ := id hb
    intro x5 hx5
    by_cases z : costK s i a ≤ σ
    · have ex : x5 = nI (σ - costK s i a) := by rw [hx5, pk_sub z]
      rw [ex]
      refine sw_f (nI_pos (by omega)) ?_
      refine c_kindOf p10 (by rcases hK with q | q <;> omega) _ ?_
      refine c_placeOf (a := 0) _ ?_
      rw [g2, nI_clamp (by omega)]
      refine ⟨vp_in_nI (by omega) (by decide), fun N10 h10 => ?_⟩
      have q6 : mg N10 6 = nI v := by rw [h10]; exact p6
      have q4 : mg N10 4 = nI n := by rw [h10]; exact g2
      have qB : okB N10 := by rw [h10]; exact pB
      rw [q6, q4, nI_clamp (by omega), pk_div (by omega) (by omega) (by omega)]
      have hd : (σ - costK s i a) / v ≤ σ - costK s i a := Nat.div_le_self _ _
      refine ⟨nI_ne0 (by omega) (by omega), c_purses qB (by omega) _ (fun r hr => ⟨vp_in_nI (by omega) (by decide), fun N13 h13 x14 h14 N15 h15 => ?_⟩)⟩
      unfold wX0_gatherWords_93
      intro x1 hx1
      rw [hx1, nI_1]
      have q13 : mg N13 4 = nI n := by rw [h13]; exact q4
      rw [q13, nI_1] at h14
      have bI15 : bpI v A B f K N15 := by rw [h15, h13, h10]; exact hb
      have L15 : ml N15 1 = L := by rw [← hL, h15, h13, h10]; rfl
      refine ih (i + 1) (by omega) N15 (n + 1) (fun j => if j = n then i else g j) bI15 L15 ⟨by omega, by rw [h15, h14]; rfl, fun j hj => ?_, fun w hw1 hw2 => ?_⟩
      · have a2 : ma N15 2 j = upd (ma N 2) n (nI (plN (σ - costK s i a) 0 (kw K i))) j := by rw [h15, h13, h10]; rfl
        have a3 : ml N15 3 j = vp_updL (ml N 3) n r j := by rw [h15, h13, h10]; rfl
        rw [a2, a3, upd_at]
        unfold vp_updL
        by_cases y : j = n
        · subst y
          simp only [if_true]
          refine ⟨by omega, z, trivial, fun m t hm ht => ?_⟩
          rw [hr m t hm ht]
          have : m + t ≤ (σ - costK s i a) / v ↔ v * (m + t) ≤ σ - costK s i a := by
            rw [Nat.le_div_iff_mul_le (by omega), Nat.mul_comm (m + t) v]
          rw [decide_eq_decide.2 this]
        · simp only [if_neg y]
          obtain ⟨y1, y2, y3, y4⟩ := g3 j (by omega)
          exact ⟨by omega, y2, y3, y4⟩
      · by_cases y : w = i
        · exact ⟨n, by omega, (if_pos rfl).trans y.symm⟩
        · obtain ⟨j, j1, j2⟩ := g4 w (by omega) hw2
          exact ⟨j, by omega, (if_neg (by omega)).trans j2⟩
    · have ti : x5.toInt = (σ : Int) - (costK s i a : Int) := by
        rw [hx5, isub (by rw [nI_toInt (by omega), nI_toInt (by omega)]; omega) (by rw [nI_toInt (by omega), nI_toInt (by omega)]; omega), nI_toInt (by omega), nI_toInt (by omega)]
      refine sw_t (by rw [Int32.lt_iff_toInt_lt, ti, show (0 : Int32).toInt = 0 by decide]; omega) ?_
      unfold wX0_gatherWords_93
      intro x1 hx1
      rw [hx1, nI_1]
      refine ih (i + 1) (by omega) N n g hb hL ⟨by omega, g2, fun j hj => ?_, fun w hw1 hw2 => ?_⟩
      · obtain ⟨y1, y2, y3, y4⟩ := g3 j hj
        exact ⟨by omega, y2, y3, y4⟩
      · by_cases y : w = i
        · subst y; omega
        · exact g4 w (by omega) hw2
theorem c_gather {s : Nat → Int32} (hw : wfS s) {Mc : gS} (hc : relC s Mc) {v A B f K σ a : Nat} (hv : 1 ≤ v) (hv2 : v ≤ 100) (hK : kOK s K) (hσ : σ < 10000) (ha : a < 5) {N : gS} (hb : bpI v A B f K N) (Q : gS → gS → Prop) (hQ : ∀ N' n g, bpI v A B f K N' → ml N' 1 = ml N 1 → gI s v K σ a N' (aN s 1) n g → Q N' Mc) : wX0_gatherWords (nI σ) (nI a) N Mc Q := by
  unfold wX0_gatherWords
  intro N1 h1
  refine ⟨aN s 1 + 1, c_gather_l hw hc hv hv2 hK hσ ha (ml N 1) Q hQ (aN s 1) 0 (by omega) N1 0 (fun _ => 0) (by rw [h1]; exact hb) (by rw [h1]; rfl) ⟨by omega, by rw [h1]; rfl, fun j hj => by omega, fun w hw1 => by omega⟩⟩
theorem c_speaking_l {s : Nat → Int32} {v K σ a b n W : Nat} {g : Nat → Nat} (hW : W ≤ 4) (hK : K ≤ 5) (hKW : ∀ w, w < W → kw K w < K) {N : gS} (hg : gI s v K σ a N W n g) (hb : b < 5) (Q : Int64 → gS → Prop) (hQ : ∀ r, (∀ m t, m < 8 → t < 8 → (lb r (8 * t + m) = true ↔ ∃ j, j < n ∧ lb (ml N 1 (plN (σ - costK s (g j) a) b (kw K (g j)))) (8 * t + m) = true ∧ v * (m + t) ≤ σ - costK s (g j) a)) → Q r N) : ∀ c i, i + c = n → ∀ y, (∀ m t, m < 8 → t < 8 → (lb y (8 * t + m) = true ↔ ∃ j, j < i ∧ lb (ml N 1 (plN (σ - costK s (g j) a) b (kw K (g j)))) (8 * t + m) = true ∧ v * (m + t) ≤ σ - costK s (g j) a)) → wX0_bySpeaking_5 Q (c + 1) (nI b) y (nI i) N := by
  obtain ⟨g1, g2, g3, g4⟩ := hg
  intro c
  induction c with
  | zero =>
    intro i hi y hy
    rw [wX0_bySpeaking_5, g2]
    refine sw_t (nI_le (by omega) (by omega)) (hQ y ?_)
    rw [show n = i by omega]; exact hy
  | succ c ih =>
    intro i hi y hy
    obtain ⟨y1, y2, y3, y4⟩ := g3 i (by omega)
    have hk := hKW _ y1
    have pl : plN (σ - costK s (g i) a) 0 (kw K (g i)) + b * 5 = plN (σ - costK s (g i) a) b (kw K (g i)) := by unfold plN; omega
    have pt := plN_lt (σ := σ - costK s (g i) a) (a := b) (b := kw K (g i)) hb (by omega)
    rw [wX0_bySpeaking_5, g2]
    refine sw_f (nI_ge (by omega) (by omega)) ⟨vp_in_nI (by omega) (by decide), ?_⟩
    rw [nI_clamp (by omega), y3, show (5 : Int32) = nI 5 from rfl, pk_mul, nI_add, pl, nI_clamp (by omega)]
    refine ⟨vp_in_nI pt (by decide), vp_in_nI (by omega) (by decide), fun x2 h2 x3 h3 => ?_⟩
    rw [h3, nI_1]
    refine ih (i + 1) (by omega) x2 (fun m t hm ht => ?_)
    rw [h2, l_or, l_and, Bool.or_eq_true, Bool.and_eq_true, hy m t hm ht, y4 m t hm ht, decide_eq_true_eq]
    constructor
    · rintro (⟨j, j1, j2⟩ | z)
      · exact ⟨j, by omega, j2⟩
      · exact ⟨i, by omega, z⟩
    · rintro ⟨j, j1, j2⟩
      by_cases z : j = i
      · subst z; exact Or.inr j2
      · exact Or.inl ⟨j, by omega, j2⟩
theorem c_speaking {s : Nat → Int32} {v K σ a b n W : Nat} {g : Nat → Nat} (hW : W ≤ 4) (hK : K ≤ 5) (hKW : ∀ w, w < W → kw K w < K) {N : gS} (hg : gI s v K σ a N W n g) (hb : b < 5) (Q : Int64 → gS → Prop) (hQ : ∀ r, (∀ m t, m < 8 → t < 8 → (lb r (8 * t + m) = true ↔ ∃ j, j < n ∧ lb (ml N 1 (plN (σ - costK s (g j) a) b (kw K (g j)))) (8 * t + m) = true ∧ v * (m + t) ≤ σ - costK s (g j) a)) → Q r N) : wX0_bySpeaking (nI b) N Q := by
  refine ⟨n + 1, c_speaking_l hW hK hKW hg hb Q hQ n 0 (by omega) 0 (fun m t hm ht => ?_)⟩
  rw [l_0]
  exact ⟨fun z => absurd z (by decide), fun ⟨j, j1, _⟩ => by omega⟩
