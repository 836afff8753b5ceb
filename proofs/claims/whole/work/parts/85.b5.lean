/-- what is kept of the sums before, and of this one up to (a, b) -/
def lowI (s : Nat → Int32) (v f K : Nat) (M : gS) (σ a b : Nat) : Prop := ∀ σ' a' b', f ≤ a' → a' < K → f ≤ b' → b' < K → (σ' < σ ∧ σ < σ' + 32 ∨ σ' = σ ∧ (a' < a ∨ a' = a ∧ b' < b)) → ∀ m t, m < 8 → t < 8 → lb (ml M 1 (plN σ' a' b')) (8 * t + m) = !wB s v σ' a' b' t m
def losI (s : Nat → Int32) (v f K : Nat) (M : gS) (σ : Nat) : Prop := ∀ σ' a' b', f ≤ a' → a' < K → f ≤ b' → b' < K → σ' < σ → σ ≤ σ' + 32 → ∀ m t, m < 8 → t < 8 → lb (ml M 1 (plN σ' a' b')) (8 * t + m) = !wB s v σ' a' b' t m
theorem kw_in {s : Nat → Int32} (hw : wfS s) {f K : Nat} (hK : kOK s K) (hf : f ≤ 1) (hfK : f < K) : (∀ w, w < aN s 1 → kw K w < K ∧ f ≤ kw K w) ∧ K ≤ 5 := by
  have b1 : aN s 1 ≤ 4 := hw.b 1 rfl
  refine ⟨fun w h => ?_, by rcases hK with q | q <;> omega⟩
  unfold kw
  split
  · omega
  · rcases hK with q | q <;> omega
theorem c_fs49 {s : Nat → Int32} (hw : wfS s) {Mc : gS} {v A B f K σ a n : Nat} {g : Nat → Nat} (hv : 1 ≤ v) (hK : kOK s K) (hf : f ≤ 1) (hfK : f < K) (hσ : σ < 10000) (ha : a < K) (hfa : f ≤ a) {y2 : Int64} (hy2 : ∀ m t, m < 8 → t < 8 → lb y2 (8 * t + m) = stG v σ m t) (B27 : Int32 → Int64 → Int32 → gS → gS → Prop) (Q : gS → gS → Prop) (hB : ∀ N, bpI v A B f K N → lowI s v f K N σ (a + 1) f → B27 (nI σ) y2 (nI (a + 1)) N Mc) : ∀ c b, b + c = K → f ≤ b → ∀ N, bpI v A B f K N → gI s v K σ a N (aN s 1) n g → lowI s v f K N σ a b → wX0_fillSum_49 B27 Q (c + 1) (nI σ) y2 (nI a) (nI b) N Mc := by
  have b1 : aN s 1 ≤ 4 := hw.b 1 rfl
  obtain ⟨kin, hK5⟩ := kw_in hw hK hf hfK
  intro c
  induction c with
  | zero =>
    intro b hb hfb N hN hg hl
    rw [wX0_fillSum_49, hN.2.2.2.2.1]
    refine sw_t (nI_le (by omega) (by omega)) (fun x hx => ?_)
    rw [hx, nI_1]
    refine hB N hN (fun σ' a' b' q1 q2 q3 q4 q5 => hl σ' a' b' q1 q2 q3 q4 ?_)
    omega
  | succ c ih =>
    intro b hb hfb N hN hg hl
    rw [wX0_fillSum_49, hN.2.2.2.2.1]
    refine sw_f (nI_ge (by omega) (by omega)) (c_speaking b1 hK5 (fun w h => (kin w h).1) hg (by omega) _ (fun r3 h3 => c_withThrows _ _ (fun r5 h5 x6 h6 => c_placeOf _ (c_swapped _ _ (fun r8 h8 => ⟨vp_in_nI (plN_lt (by omega) (by omega)) (by decide), fun N9 h9 x10 h10 => ?_⟩)))))
    have plt := plN_lt (σ := σ) (a := a) (b := b) (by omega) (by omega)
    rw [nI_clamp (by omega)] at h9
    rw [h10, nI_1]
    have hx6 : ∀ m t, m < 8 → t < 8 → lb x6 (8 * t + m) = wB s v σ a b m t := by
      intro m t hm ht
      apply Bool.eq_iff_iff.2
      rw [h6, l_and, Bool.and_eq_true, h5 t m ht hm, hy2 m t hm ht, wB_iff hw hK m]
      constructor
      · rintro ⟨⟨j, j1, j2⟩, z⟩
        rw [l_and, Bool.and_eq_true, h3 j t (by omega) ht, hy2 j t (by omega) ht] at j2
        obtain ⟨⟨i, i1, i2, i3⟩, j3⟩ := j2
        obtain ⟨y1, y2', _, _⟩ := hg.2.2.1 i i1
        have hcb := costK_b hw (k := a) y1
        refine ⟨z, j, j1, j3, g i, y1, y2', i3, ?_⟩
        rw [hl _ b (kw K (g i)) hfb (by omega) (kin _ y1).2 (kin _ y1).1 (Or.inl ⟨by omega, by omega⟩) j t (by omega) ht] at i2
        rw [Bool.not_eq_true'] at i2
        exact i2
      · rintro ⟨z, j, j1, j3, w, w1, w2, w3, w4⟩
        obtain ⟨i, i1, i2⟩ := hg.2.2.2 w w1 w2
        have hcb := costK_b hw (k := a) w1
        refine ⟨⟨j, j1, ?_⟩, z⟩
        rw [l_and, Bool.and_eq_true, h3 j t (by omega) ht, hy2 j t (by omega) ht]
        refine ⟨⟨i, i1, ?_, ?_⟩, j3⟩
        · rw [i2, hl _ b (kw K w) hfb (by omega) (kin _ w1).2 (kin _ w1).1 (Or.inl ⟨by omega, by omega⟩) j t (by omega) ht, w4]
          rfl
        · rw [i2]; exact w3
    refine ih (b + 1) (by omega) (by omega) N9 (by rw [h9]; exact hN) (by rw [h9]; exact hg) (fun σ' a' b' q1 q2 q3 q4 q5 m t hm ht => ?_)
    have e9 : ml N9 1 = vp_updL (ml N 1) (plN σ a b) r8 := by rw [h9]; rfl
    rw [e9]
    unfold vp_updL
    by_cases z : σ' = σ ∧ a' = a ∧ b' = b
    · obtain ⟨z1, z2, z3⟩ := z
      subst z1 z2 z3
      rw [if_pos rfl, h8 _ (by omega), show (8 * t + m) % 8 = m by omega, show (8 * t + m) / 8 = t by omega, l_not _ (by omega), hx6 t m ht hm]
    · rw [if_neg (fun y => z ?_)]
      · refine hl σ' a' b' q1 q2 q3 q4 ?_ m t hm ht
        omega
      · unfold plN at y
        omega
theorem c_fs27 {s : Nat → Int32} (hw : wfS s) {Mc : gS} (hc : relC s Mc) {v A B f K σ : Nat} (hv : 1 ≤ v) (hv2 : v ≤ 100) (hK : kOK s K) (hf : f ≤ 1) (hfK : f < K) (hσ : σ < 10000) {y2 : Int64} (hy2 : ∀ m t, m < 8 → t < 8 → lb y2 (8 * t + m) = stG v σ m t) (Q : gS → gS → Prop) (hQ : ∀ N, bpI v A B f K N → lowI s v f K N σ K f → Q N Mc) : ∀ c a, a + c = K → f ≤ a → ∀ N, bpI v A B f K N → lowI s v f K N σ a f → wX0_fillSum_27 Q (c + 1) (nI σ) y2 (nI a) N Mc := by
  obtain ⟨kin, hK5⟩ := kw_in hw hK hf hfK
  intro c
  induction c with
  | zero =>
    intro a ha hfa N hN hl
    rw [wX0_fillSum_27, hN.2.2.2.2.1]
    refine sw_t (nI_le (by omega) (by omega)) (hQ N hN ?_)
    rw [show K = a by omega] at hl ⊢
    exact hl
  | succ c ih =>
    intro a ha hfa N hN hl
    rw [wX0_fillSum_27, hN.2.2.2.2.1]
    refine sw_f (nI_ge (by omega) (by omega)) (c_gather hw hc hv hv2 hK hσ (by omega) hN _ (fun N' n g hN' hL hg x5 h5 => ⟨K - f + 1, ?_⟩))
    rw [h5, hN'.2.2.2.1]
    refine c_fs49 hw hv hK hf hfK hσ (by omega) hfa hy2 _ Q (fun N2 hN2 hl2 => ih (a + 1) (by omega) (by omega) N2 hN2 hl2) (K - f) f (by omega) (Nat.le_refl f) N' hN' hg (fun σ' a' b' q1 q2 q3 q4 q5 => ?_)
    rw [hL]
    exact hl σ' a' b' q1 q2 q3 q4 q5
theorem c_fillSum {s : Nat → Int32} (hw : wfS s) {Mc : gS} (hc : relC s Mc) {v A B f K σ : Nat} (hv : 1 ≤ v) (hv2 : v ≤ 100) (hK : kOK s K) (hf : f ≤ 1) (hfK : f < K) (hσ : σ < 10000) {M : gS} (hM : bpI v A B f K M) (hl : losI s v f K M σ) (Q : gS → gS → Prop) (hQ : ∀ N, bpI v A B f K N → losI s v f K N (σ + 1) → Q N Mc) : wX0_fillSum (nI σ) M Mc Q := by
  obtain ⟨p6, p7, p8, p9, p10, pB⟩ := id hM
  have hd : σ / v ≤ σ := Nat.div_le_self _ _
  unfold wX0_fillSum
  rw [p6, pk_div (by omega) (by omega) (by omega)]
  refine ⟨nI_ne0 (by omega) (by omega), c_purses pB (by omega) _ (fun r1 h1 => c_tooLong pB hv hv2 p6 hσ _ (fun r3 h3 x5 h5 x6 h6 => ⟨K - f + 1, ?_⟩))⟩
  rw [h6, p9]
  refine c_fs27 hw hc hv hv2 hK hf hfK hσ (fun m t hm ht => ?_) Q (fun N hN hl2 => hQ N hN (fun σ' a' b' q1 q2 q3 q4 q5 q6 => hl2 σ' a' b' q1 q2 q3 q4 (by omega))) (K - f) f (by omega) (Nat.le_refl f) M hM (fun σ' a' b' q1 q2 q3 q4 q5 => hl σ' a' b' q1 q2 q3 q4 (by omega) (by omega))
  rw [h5, l_and, l_not _ (by omega), h1 m t hm ht, h3 m t hm ht]
  unfold stG
  have e1 : m + t ≤ σ / v ↔ v * (m + t) ≤ σ := by
    rw [Nat.le_div_iff_mul_le (by omega), Nat.mul_comm (m + t) v]
  rw [decide_eq_decide.2 e1]
  by_cases z : v * (m + t) + 200 < σ
  · rw [decide_eq_true z, decide_eq_false (show ¬ σ ≤ v * (m + t) + 200 by omega)]; rfl
  · rw [decide_eq_false z, decide_eq_true (show σ ≤ v * (m + t) + 200 by omega)]; rfl
theorem c_winnersOf {s : Nat → Int32} {v A B f K σ : Nat} (hA : f ≤ A) (hA2 : A < K) (hB : f ≤ B) (hB2 : B < K) (hK5 : K ≤ 5) (hσ : σ < 10000) {M : gS} (hM : bpI v A B f K M) (hl : losI s v f K M (σ + 1)) (Q : Int64 → gS → Prop) (hQ : ∀ r, (∀ m t, m < 8 → t < 8 → lb r (8 * t + m) = wB s v σ A B m t) → Q r M) : wX0_winnersOf (nI σ) M Q := by
  obtain ⟨p6, p7, p8, p9, p10, pB⟩ := id hM
  have plt := plN_lt (σ := σ) (a := A) (b := B) (by omega) (by omega)
  unfold wX0_winnersOf
  rw [p7, p8]
  refine c_placeOf _ ⟨vp_in_nI plt (by decide), c_swapped _ _ (fun r2 h2 => hQ _ (fun m t hm ht => ?_))⟩
  rw [l_not _ (by omega), h2 _ (by omega), show (8 * t + m) % 8 = m by omega, show (8 * t + m) / 8 = t by omega, nI_clamp (by omega), hl σ A B hA hA2 hB hB2 (by omega) (by omega) t m ht hm, Bool.not_not]
