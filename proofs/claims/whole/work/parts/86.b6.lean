theorem min_i {a b : Nat} (ha : a < 2 ^ 31) (hb : b < 2 ^ 31) : (if nI b < nI a then nI b else nI a) = nI (min a b) := by
  by_cases c : b < a
  · rw [if_pos (nI_lt c ha), Nat.min_eq_right (by omega)]
  · rw [if_neg (nI_nlt (by omega) hb), Nat.min_eq_left (by omega)]
theorem c_prepare {s : Nat → Int32} (hw : wfS s) {Mc : gS} (hc : relC s Mc) {v ka kb : Nat} (hv : 1 ≤ v) (hv2 : v ≤ 100) (hka : ka ≤ 5) (hkb : kb ≤ 5) {M : gS} (hB : okB M) (Q : gS → gS → Prop) (hQ : ∀ N f K, kOK s K → f ≤ 1 → f ≤ min ka (K - 1) → f ≤ min kb (K - 1) → f < K → bpI v (min ka (K - 1)) (min kb (K - 1)) f K N → Q N Mc) : wX0_prepare (nI v) (nI (8 * ka + kb)) M Mc Q := by
  have b1 : aN s 1 ≤ 4 := hw.b 1 rfl
  have b2 : aN s 2 ≤ 9 := hw.b 2 rfl
  have e1 := hw.n 1 rfl; have e2 := hw.n 2 rfl
  have key : ∀ K N2, 1 ≤ K → K ≤ 5 → kOK s K → mg N2 6 = nI v → okB N2 → wX0_prepare_42 Q (nI (8 * ka + kb)) (nI K) N2 Mc := by
    intro K N2 hK1 hK5 hK h6 hB2
    unfold wX0_prepare_42
    intro N1 h1
    have g10 : mg N1 10 = nI K := by rw [h1]; rfl
    rw [g10, show (8 : Int32) = nI 8 from rfl, show (1 : Int32) = nI 1 from rfl, pk_sub hK1, pk_rem (by omega) (by omega) (by omega), pk_div (by omega) (by omega) (by omega), show (8 * ka + kb) / 8 = ka by omega, show (8 * ka + kb) % 8 = kb by omega, min_i (by omega) (by omega)]
    intro x2 hx2 N3 h3
    have g10' : mg N3 10 = nI K := by rw [h3]; exact g10
    rw [g10', pk_sub hK1, min_i (by omega) (by omega)]
    intro x4 hx4 N5 h5
    have f7 : mg N5 7 = nI (min ka (K - 1)) := by rw [h5, h3, hx2]; rfl
    have f8 : mg N5 8 = nI (min kb (K - 1)) := by rw [h5, hx4]; rfl
    have f6 : mg N5 6 = nI v := by rw [h5, h3, h1]; exact h6
    have f10 : mg N5 10 = nI K := by rw [h5]; exact g10'
    have fB : okB N5 := by rw [h5, h3, h1]; exact hB2
    have fin : ∀ f, f ≤ 1 → f ≤ min ka (K - 1) → f ≤ min kb (K - 1) → wX0_prepare_99 Q (nI f) N5 Mc := by
      intro f hf1 hf2 hf3
      unfold wX0_prepare_99
      intro N6 h6'
      have := Nat.min_le_right ka (K - 1)
      refine hQ N6 f K hK hf1 hf2 hf3 (by omega) ⟨?_, ?_, ?_, ?_, ?_, ?_⟩
      · rw [h6']; exact f6
      · rw [h6']; exact f7
      · rw [h6']; exact f8
      · rw [h6']; rfl
      · rw [h6']; exact f10
      · rw [h6']; exact fB
    have m1 := Nat.min_le_left ka (K - 1)
    have m2 := Nat.min_le_left kb (K - 1)
    rw [f7, f8, show (0 : Int32) = nI 0 from rfl]
    by_cases z : min ka (K - 1) = 0
    · refine sw_t (by rw [nI_leI (by omega) (by omega)]; omega) ?_
      unfold wX0_prepare_98
      exact fin 0 (by omega) (by omega) (by omega)
    · refine sw_f (by rw [nI_leI (by omega) (by omega)]; omega) ?_
      by_cases z2 : min kb (K - 1) = 0
      · refine sw_t (by rw [nI_leI (by omega) (by omega)]; omega) ?_
        unfold wX0_prepare_98
        exact fin 0 (by omega) (by omega) (by omega)
      · refine sw_f (by rw [nI_leI (by omega) (by omega)]; omega) ?_
        exact fin 1 (by omega) (by omega) (by omega)
  unfold wX0_prepare
  intro x1 h1 N2 h2
  have ex : x1 = nI v := by
    rw [h1, show (1 : Int32) = nI 1 from rfl]
    by_cases z : 1 < v
    · rw [if_pos (nI_lt z (by omega))]
    · rw [if_neg (nI_nlt (by omega) (by omega)), show v = 1 by omega]
  have g6 : mg N2 6 = nI v := by rw [h2, ex]; rfl
  have gB : okB N2 := by rw [h2]; exact hB
  rw [hc.2.2.1, hc.2.1, e1, e2, nI_1, show (5 : Int32) = nI 5 from rfl, show (0 : Int32) = nI 0 from rfl]
  by_cases z : aN s 2 = 0
  · refine sw_t (by rw [z]) ?_
    exact key 1 N2 (by omega) (by omega) (Or.inl ⟨z, rfl⟩) g6 gB
  · refine sw_f (by rw [nI_eq (by omega) (by omega)]; exact z) ?_
    rw [if_neg (nI_nlt (by omega) (by omega))]
    exact key (aN s 1 + 1) N2 (by omega) (by omega) (Or.inr ⟨z, rfl⟩) g6 gB
theorem Can_min {s : Nat → Int32} {K : Nat} (hK : kOK s K) {ka kb : Nat} (ha : ka ≤ aN s 1) (hb : kb ≤ aN s 1) (v left m t : Nat) : Can s v left m t (lk (min ka (K - 1))) (lk (min kb (K - 1))) = Can s v left m t (lk ka) (lk kb) := by
  rcases hK with h | h
  · exact Can_ag h.1 v left m t _ _ _ _
  · rw [Nat.min_eq_left (by omega), Nat.min_eq_left (by omega)]
theorem c_purses1 {M : gS} (hB : okB M) {x : Nat} (hx : x < 2 ^ 31) (Q : Int64 → gS → Prop) (h : ∀ r, (∀ m t, m < 8 → t < 8 → lb r (8 * t + m) = decide (m + t < x)) → Q r M) : wX0_purses (nI x - 1) M Q := by
  cases x with
  | zero =>
    refine sw_f (by decide) (h _ (fun m t hm ht => ?_))
    rw [l_0, decide_eq_false (by omega)]
  | succ x =>
    rw [nI_pred]
    refine c_purses hB (by omega) Q (fun r hr => h r (fun m t hm ht => ?_))
    rw [hr m t hm ht]
    exact decide_eq_decide.2 (by omega)
theorem c_winners_l {s : Nat → Int32} (hw : wfS s) {Mc : gS} (hc : relC s Mc) {v A B f K left pen : Nat} (hv : 1 ≤ v) (hv2 : v ≤ 100) (hK : kOK s K) (hf : f ≤ 1) (hfA : f ≤ A) (hfB : f ≤ B) (hA : A < K) (hB : B < K) (hfK : f < K) (hl : left ≤ 200) (hp : pen ≤ 14) (Q : Int64 → gS → gS → Prop) (hQ : ∀ r N, okB N → (∀ m t, m < 8 → t < 8 → m + t ≤ pen → lb r (8 * t + m) = Can s v left m t (lk A) (lk B)) → Q r N Mc) : ∀ c σ, σ + c = left + v * pen + 1 → ∀ N y, bpI v A B f K N → losI s v f K N σ → (∀ m t, m < 8 → t < 8 → lb y (8 * t + m) = (decide (left + v * (m + t) < σ) && Can s v left m t (lk A) (lk B))) → wX0_winners_14 Q (c + 1) (nI left) (nI pen) y (nI σ) N Mc := by
  have hvp : v * pen ≤ 1400 := Nat.le_trans (Nat.mul_le_mul hv2 hp) (by decide)
  have hK5 := (kw_in hw hK hf hfK).2
  intro c
  induction c with
  | zero =>
    intro σ hσ N y hN hlo hy
    rw [wX0_winners_14, hN.1, pk_mul, nI_add]
    refine sw_t (nI_lt (by omega) (by omega)) (hQ y N hN.2.2.2.2.2 (fun m t hm ht hmt => ?_))
    have : v * (m + t) ≤ v * pen := Nat.mul_le_mul_left v hmt
    rw [hy m t hm ht, decide_eq_true (by omega), Bool.true_and]
  | succ c ih =>
    intro σ hσ N y hN hlo hy
    rw [wX0_winners_14, hN.1, pk_mul, nI_add]
    refine sw_f (nI_nlt (by omega) (by omega)) (c_fillSum hw hc hv hv2 hK hf hfK (by omega) hN hlo _ (fun N3 hN3 hlo3 => ?_))
    have same : (∀ m t, m < 8 → t < 8 → ¬ left + v * (m + t) = σ) → wX0_winners_94 (fun y3 y5 y6 y8 M0 M1 => wX0_winners_14 Q (c + 1) y3 y5 y6 y8 M0 M1) Q (nI left) (nI pen) y (nI σ) N3 Mc := by
      intro hne
      unfold wX0_winners_94
      intro x hx
      rw [hx, nI_1]
      refine ih (σ + 1) (by omega) N3 y hN3 hlo3 (fun m t hm ht => ?_)
      have := hne m t hm ht
      rw [hy m t hm ht, decide_eq_decide.2 (show left + v * (m + t) < σ ↔ left + v * (m + t) < σ + 1 by omega)]
    by_cases c1 : σ < left
    · exact sw_t (nI_lt c1 (by omega)) (same (fun m t _ _ => by omega))
    · refine sw_f (nI_nlt (by omega) (by omega)) ?_
      rw [hN3.1, pk_sub (show left ≤ σ by omega), pk_rem (by omega) (by omega) (by omega), pk_div (by omega) (by omega) (by omega)]
      refine ⟨nI_ne0 (by omega) (by omega), ?_⟩
      have hd : (σ - left) / v ≤ σ - left := Nat.div_le_self _ _
      have hm := Nat.mod_lt (σ - left) (show v > 0 by omega)
      have hdm := Nat.div_add_mod (σ - left) v
      by_cases c2 : (σ - left) % v = 0
      · refine sw_t (by rw [c2]; rfl) ⟨nI_ne0 (by omega) (by omega), fun x7 h7 => ?_⟩
        rw [h7]
        refine c_winnersOf hfA hA hfB hB hK5 (by omega) hN3 hlo3 _ (fun r8 h8 => c_purses hN3.2.2.2.2.2 (by omega) _ (fun r10 h10 => c_purses1 hN3.2.2.2.2.2 (by omega) _ (fun r12 h12 x14 h14 => ?_)))
        generalize hP : (σ - left) / v = p at *
        have hσp : σ = left + v * p := by omega
        unfold wX0_winners_94
        intro x hx
        rw [hx, nI_1]
        refine ih (σ + 1) (by omega) N3 x14 hN3 hlo3 (fun m t hm ht => ?_)
        rw [h14, l_or, l_and, l_and, l_not _ (by omega), hy m t hm ht, h8 m t hm ht, h10 m t hm ht, h12 m t hm ht]
        rcases Nat.lt_trichotomy (m + t) p with q | q | q
        · have : v * (m + t + 1) ≤ v * p := Nat.mul_le_mul_left v q
          rw [Nat.mul_succ] at this
          rw [decide_eq_true (show left + v * (m + t) < σ by omega), decide_eq_true (show left + v * (m + t) < σ + 1 by omega), decide_eq_true q, Bool.not_true, Bool.and_false, Bool.or_false]
        · rw [q, decide_eq_false (show ¬ left + v * p < σ by omega), Bool.false_and, Bool.false_or, decide_eq_true (Nat.le_refl p), decide_eq_false (Nat.lt_irrefl p), Bool.not_false, Bool.and_true, Bool.and_true, decide_eq_true (show left + v * p < σ + 1 by omega), Bool.true_and]
          unfold wB
          rw [q, stG_iff.2 (by rw [q]; omega), Bool.true_and, show σ - v * p = left by omega]
        · have : v * (p + 1) ≤ v * (m + t) := Nat.mul_le_mul_left v q
          rw [Nat.mul_succ] at this
          rw [decide_eq_false (show ¬ left + v * (m + t) < σ by omega), decide_eq_false (show ¬ left + v * (m + t) < σ + 1 by omega), decide_eq_false (show ¬ m + t ≤ p by omega), Bool.and_false, Bool.false_and, Bool.false_and]
          rfl
      · refine sw_f (by rw [show (0 : Int32) = nI 0 from rfl, nI_eq (by omega) (by omega)]; exact c2) (same (fun m t _ _ z => c2 ?_))
        rw [← z, Nat.add_sub_cancel_left, Nat.mul_mod_right]
theorem c_winners {s : Nat → Int32} (hw : wfS s) {Mc : gS} (hc : relC s Mc) {v ka kb left pen : Nat} (hv : 1 ≤ v) (hv2 : v ≤ 100) (ha : ka ≤ aN s 1) (hb : kb ≤ aN s 1) (hl : left ≤ 200) (hp : pen ≤ 14) {M : gS} (hB : okB M) (Q : Int64 → gS → gS → Prop) (hQ : ∀ r N, okB N → (∀ m t, m < 8 → t < 8 → m + t ≤ pen → lb r (8 * t + m) = Can s v left m t (lk ka) (lk kb)) → Q r N Mc) : wX0_winners (nI v) (nI left) (nI (8 * ka + kb)) (nI pen) M Mc Q := by
  have b1 : aN s 1 ≤ 4 := hw.b 1 rfl
  unfold wX0_winners
  refine c_prepare hw hc hv hv2 (by omega) (by omega) hB _ (fun N f K hK hf hf1 hf2 hfK hN => ⟨left + v * pen + 1 + 1, ?_⟩)
  have m1 := Nat.min_le_right ka (K - 1)
  have m2 := Nat.min_le_right kb (K - 1)
  refine c_winners_l hw hc hv hv2 hK hf hf1 hf2 (by omega) (by omega) hfK hl hp Q (fun r N2 hN2 hr => hQ r N2 hN2 (fun m t hm ht hmt => ?_)) (left + v * pen + 1) 0 (by omega) N 0 hN (fun σ' a' b' _ _ _ _ q => by omega) (fun m t hm ht => ?_)
  · rw [hr m t hm ht hmt, Can_min hK ha hb]
  · rw [l_0, decide_eq_false (by omega), Bool.false_and]
