-- PURE: the reference's search for plays
def opU (r : Nat → Int32) (q : Nat) : Nat → Int32 := if q < 4 then sayS r q else if q = 4 then throwS r else r
def avl (r : Nat → Int32) (q : Nat) : Bool := if q < 4 then canSayN r q else if q = 4 then canThrowN r else true
def ovr (r : Nat → Int32) (q : Nat) : Bool := decide (q = 5) || !canDoN (opU r q)
def plO (E F : (Nat → Int32) → Nat) (r : Nat → Int32) (q : Nat) : Nat := if avl r q = true then (if ovr r q = true then E (opU r q) else F (opU r q)) else 0
def plR (E : (Nat → Int32) → Nat) : Nat → (Nat → Int32) → Nat
  | 0 => fun _ => 0
  | k + 1 => fun r => sumR (plO E (plR E k) r) 6 0
def stO (F : (Nat → Int32) → Nat) (r : Nat → Int32) (q : Nat) : Nat := if avl r q = true then (if ovr r q = true then 1 else F (opU r q) + 1) else 0
def stN : Nat → (Nat → Int32) → Nat
  | 0 => fun _ => 0
  | k + 1 => fun r => sumR (stO (stN k) r) 6 0 + 1
theorem sumR_skip {f : Nat → Nat} : ∀ n c q, (∀ i, q ≤ i → i < q + n → f i = 0) → sumR f (n + c) q = sumR f c (q + n) := by
  intro n
  induction n with
  | zero => intro c q _; rw [Nat.zero_add]; rfl
  | succ n ih =>
    intro c q h
    rw [show n + 1 + c = (n + c) + 1 by omega, sumR_s, h q (by omega) (by omega), ih c (q + 1) (fun i h1 h2 => h i (by omega) (by omega)), Nat.zero_add, show q + 1 + n = q + (n + 1) by omega]
theorem opU_wf {r : Nat → Int32} (hw : wfS r) {q : Nat} (h : avl r q = true) : wfS (opU r q) := by
  unfold avl at h
  unfold opU
  by_cases c : q < 4
  · rw [if_pos c]; exact say_wf hw c
  · rw [if_neg c]
    rw [if_neg c] at h
    by_cases c2 : q = 4
    · rw [if_pos c2]
      rw [if_pos c2] at h
      exact throw_wf hw h
    · rw [if_neg c2]; exact hw
theorem m_putsBackAt {N : gS} {d : Nat} (hd : d ≤ 8) {r : Nat → Int32} (hst : ∀ j, j < 44 → ma N 29 (44 * d + j) = r j) (h44 : ∀ j, 44 ≤ j → ma N 25 j = r j) (Q : gS → Prop) (h : Q (sF N 25 r)) : wX12_putsBackAt (nI d) N Q := by
  have lp : ∀ n j, j + n = 44 → wX12_putsBackAt_2 Q (n + 1) (nI d) (nI j) (sF N 25 (fa_fill r (ma N 25) j)) := by
    intro n
    induction n with
    | zero =>
      intro j hj
      rw [wX12_putsBackAt_2]
      have e : fa_fill r (ma N 25) j = r := by
        funext i
        unfold fa_fill
        by_cases c : i < j
        · rw [if_pos c]
        · rw [if_neg c]; exact h44 i (by omega)
      rw [e]
      exact sw_t (show nI 44 ≤ nI j from nI_le (by omega) (by omega)) h
    | succ n ih =>
      intro j hj
      have e44 : (44 : Int32) * nI d + nI j = nI (44 * d + j) := by
        show nI 44 * nI d + nI j = _
        rw [pk_mul, nI_add]
      rw [wX12_putsBackAt_2, e44, nI_clamp (show 44 * d + j < 2 ^ 31 by omega), nI_clamp (show j < 2 ^ 31 by omega)]
      refine sw_f (nI_ge (b := 44) (by omega) (by omega)) ⟨vp_in_nI (by omega) (by decide), fun x2 h2 => ⟨vp_in_nI (by omega) (by decide), fun M3 h3 x4 h4 => ?_⟩⟩
      have e3 : M3 = sF N 25 (fa_fill r (ma N 25) (j + 1)) := by
        have h2' : x2 = ma N 29 (44 * d + j) := h2
        rw [h3, h2', hst j (by omega), sa_25, ma_sF1, sF_sF, fa_fill_succ]
      rw [e3, h4, nI_1]
      exact ih (j + 1) (by omega)
  refine ⟨45, ?_⟩
  have := lp 44 0 (by omega)
  rw [fa_fill_0, sF_self] at this
  exact this
theorem m_keepsAt {N : gS} {d : Nat} (hd : d ≤ 8) (Q : gS → Prop) (h : ∀ N', (∀ k, k ≠ 29 → k ≠ 30 → ma N' k = ma N k) → mg N' = mg N → (∀ i, i < 44 * d → ma N' 29 i = ma N 29 i) → (∀ j, j < 44 → ma N' 29 (44 * d + j) = ma N 25 j) → ma N' 30 = upd (ma N 30) d (-1) → Q N') : wX12_keepsAt (nI d) N Q := by
  have lp : ∀ n j, j + n = 44 → ∀ X, (∀ k, k ≠ 29 → ma X k = ma N k) → mg X = mg N → (∀ i, i < 44 * d → ma X 29 i = ma N 29 i) → (∀ i, i < j → ma X 29 (44 * d + i) = ma N 25 i) → wX12_keepsAt_2 Q (n + 1) (nI d) (nI j) X := by
    intro n
    induction n with
    | zero =>
      intro j hj X g1 g2 g3 g4
      rw [wX12_keepsAt_2, nI_clamp (show d < 2 ^ 31 by omega)]
      refine sw_t (show nI 44 ≤ nI j from nI_le (by omega) (by omega)) ⟨vp_in_nI (by omega) (by decide), fun M2 h2 => ?_⟩
      refine h M2 (fun k k1 k2 => ?_) (by rw [h2]; exact g2) (fun i hi => by rw [h2]; exact g3 i hi) (fun i hi => by rw [h2]; exact g4 i (by omega)) ?_
      · rw [h2, ma_sa, if_neg k2]; exact g1 k k1
      · rw [h2, ma_sa, if_pos rfl, g1 30 (by decide)]
    | succ n ih =>
      intro j hj X g1 g2 g3 g4
      have e44 : (44 : Int32) * nI d + nI j = nI (44 * d + j) := by
        show nI 44 * nI d + nI j = _
        rw [pk_mul, nI_add]
      rw [wX12_keepsAt_2, e44, nI_clamp (show 44 * d + j < 2 ^ 31 by omega), nI_clamp (show j < 2 ^ 31 by omega)]
      refine sw_f (nI_ge (b := 44) (by omega) (by omega)) ⟨vp_in_nI (by omega) (by decide), fun x3 h3 => ⟨vp_in_nI (by omega) (by decide), fun M4 h4 x5 h5 => ?_⟩⟩
      have e29 : ma M4 29 = upd (ma X 29) (44 * d + j) x3 := by rw [h4, ma_sa, if_pos rfl]
      rw [h5, nI_1]
      refine ih (j + 1) (by omega) M4 (fun k hk => by rw [h4, ma_sa, if_neg hk]; exact g1 k hk) (by rw [h4]; exact g2) (fun i hi => ?_) (fun i hi => ?_)
      · rw [e29, upd_at, if_neg (by omega)]; exact g3 i hi
      · rw [e29, upd_at]
        by_cases c : i = j
        · rw [c, if_pos rfl, h3, g1 25 (by decide)]
        · rw [if_neg (by omega)]; exact g4 i (by omega)
  exact ⟨45, lp 44 0 (by omega) N (fun _ _ => rfl) rfl (fun _ _ => rfl) (fun i hi => absurd hi (by omega))⟩
/-- what doing option q leads to -/
def outS (r : Nat → Int32) (d q : Nat) (N N' : gS) : Prop := (∀ k, k ≠ 25 → k ≠ 30 → ma N' k = ma N k) ∧ (∀ k, k ≠ 26 → mg N' k = mg N k) ∧ ma N' 30 = upd (ma N 30) d (nI q) ∧ (ovr r q = true → ma N' 25 = endS (opU r q) ∧ mg N' 26 = nI (winN (opU r q))) ∧ (ovr r q = false → ma N' 25 = opU r q)
theorem look_out {r : Nat → Int32} {d q : Nat} (hq : q < 5) {N N1 : gS} (h1 : ∀ k, k ≠ 25 → k ≠ 30 → ma N1 k = ma N k) (h2 : mg N1 = mg N) (h3 : ma N1 30 = upd (ma N 30) d (nI q)) : outS r d q N (lookM (sF N1 25 (opU r q))) := by
  have eo : ovr r q = !canDoN (opU r q) := by unfold ovr; rw [decide_eq_false (by omega), Bool.false_or]
  unfold lookM
  rw [ma_sF1]
  by_cases y : canDoN (opU r q) = true
  · rw [if_pos y]
    refine ⟨fun k k1 k2 => by rw [ma_sF, if_neg k1]; exact h1 k k1 k2, fun k _ => by rw [mg_sF, h2], by rw [ma_sF, if_neg (by decide)]; exact h3, fun z => ?_, fun _ => ma_sF1 _ _ _⟩
    rw [eo, y] at z
    exact absurd z (by decide)
  · rw [if_neg y]
    have e25 : ma (endM (sF N1 25 (opU r q))) 25 = endS (opU r q) := by unfold endM; rw [ma_sF1, ma_sF1]
    have e26 : mg (endM (sF N1 25 (opU r q))) 26 = nI (winN (opU r q)) := by unfold endM; rw [mg_sF, mg_sg, if_pos rfl, ma_sF1]
    refine ⟨fun k k1 k2 => ?_, fun k k1 => ?_, ?_, fun _ => ⟨e25, e26⟩, fun z => ?_⟩
    · unfold endM; rw [ma_sF, if_neg k1, ma_sg, ma_sF, if_neg k1]; exact h1 k k1 k2
    · unfold endM; rw [mg_sF, mg_sg, if_neg k1, mg_sF, h2]
    · unfold endM; rw [ma_sF, if_neg (by decide), ma_sg, ma_sF, if_neg (by decide)]; exact h3
    · rw [eo, ts_nt y] at z
      exact absurd z (by decide)
theorem m_dn73 {d : Nat} (hd : d < 9) {r : Nat → Int32} (hw : wfS r) {Q : Bool → gS → Prop} {q : Nat} (hq : q ≤ 5) (ha : avl r q = true) {N N1 : gS} (h1 : ∀ k, k ≠ 25 → k ≠ 30 → ma N1 k = ma N k) (h2 : mg N1 = mg N) (h3 : ma N1 30 = upd (ma N 30) d (nI q)) (h25 : ma N1 25 = r) (hQ : ∀ N', outS r d q N N' → Q true N') : wX12_doesNext_73 Q (nI d) N1 := by
  have hwN : wfS (ma N1 25) := by rw [h25]; exact hw
  have e30 : ma N1 30 d = nI q := by rw [h3, upd_at, if_pos rfl]
  have vd : vp_in (nI d) 9 := vp_in_nI hd (by decide)
  unfold avl at ha
  unfold wX12_doesNext_73
  rw [nI_clamp (show d < 2 ^ 31 by omega), e30]
  refine ⟨vd, sw_t (show nI q ≤ nI 5 from nI_le hq (by omega)) ⟨vd, ?_⟩⟩
  by_cases c : q < 4
  · rw [if_pos c] at ha
    refine sw_f (show ¬ nI 4 ≤ nI q from nI_ge c (by omega)) ⟨vd, m_says N1 hwN q c (by rw [h25]; exact ha) _ ?_⟩
    rw [h25]
    have := hQ _ (look_out (r := r) (d := d) (q := q) (by omega) h1 h2 h3)
    unfold opU at this
    rw [if_pos c] at this
    exact this
  · rw [if_neg c] at ha
    refine sw_t (show nI 4 ≤ nI q from nI_le (by omega) (by omega)) ⟨vd, ?_⟩
    by_cases c4 : q = 4
    · rw [if_pos c4] at ha
      refine sw_t (by rw [c4]; rfl) (m_throwsOne N1 hwN (by rw [h25]; exact ha) _ ?_)
      rw [h25]
      have := hQ _ (look_out (r := r) (d := d) (q := q) (by omega) h1 h2 h3)
      unfold opU at this
      rw [if_neg c, if_pos c4] at this
      exact this
    · have c5 : q = 5 := by omega
      refine sw_f (by rw [c5]; decide) (m_ends N1 hwN _ (hQ _ ?_))
      have eU : opU r q = r := by unfold opU; rw [if_neg c, if_neg c4]
      have eo : ovr r q = true := by unfold ovr; rw [decide_eq_true c5, Bool.true_or]
      refine ⟨fun k k1 k2 => ?_, fun k k1 => ?_, ?_, fun _ => ?_, fun z => ?_⟩
      · unfold endM; rw [ma_sF, if_neg k1, ma_sg]; exact h1 k k1 k2
      · unfold endM; rw [mg_sF, mg_sg, if_neg k1, h2]
      · unfold endM; rw [ma_sF, if_neg (by decide), ma_sg]; exact h3
      · rw [eU]
        unfold endM
        rw [ma_sF1, mg_sF, mg_sg, if_pos rfl, h25]
        exact ⟨rfl, rfl⟩
      · rw [eo] at z
        exact absurd z (by decide)
theorem m_dn10 {d : Nat} (hd : d < 9) {r : Nat → Int32} (hw : wfS r) {Q : Bool → gS → Prop} {N : gS} (q0 : Nat) (hQ : ∀ q' N', q0 ≤ q' → q' ≤ 5 → avl r q' = true → (∀ i, q0 ≤ i → i < q' → avl r i = false) → outS r d q' N N' → Q true N') (hQ6 : q0 = 6 → ∀ N', (∀ k, k ≠ 30 → ma N' k = ma N k) → mg N' = mg N → ma N' 30 = upd (ma N 30) d (nI 6) → Q false N') : ∀ c q, q + c = 6 → q0 ≤ q → (∀ i, q0 ≤ i → i < q → avl r i = false) → ∀ N1, (∀ k, k ≠ 30 → ma N1 k = ma N k) → mg N1 = mg N → ma N1 30 = upd (ma N 30) d (nI q) → ma N1 25 = r → wX12_doesNext_10 Q (c + 1) (nI d) N1 := by
  have vd : vp_in (nI d) 9 := vp_in_nI hd (by decide)
  have cd : Int32.toNatClampNeg (nI d) = d := nI_clamp (by omega)
  have k73 : ∀ q' N1, q0 ≤ q' → q' ≤ 5 → avl r q' = true → (∀ i, q0 ≤ i → i < q' → avl r i = false) → (∀ k, k ≠ 30 → ma N1 k = ma N k) → mg N1 = mg N → ma N1 30 = upd (ma N 30) d (nI q') → ma N1 25 = r → wX12_doesNext_73 Q (nI d) N1 := fun q' N1 g1 g2 g3 g4 g5 g6 g7 g8 => m_dn73 hd hw g2 g3 (fun k _ k2 => g5 k k2) g6 g7 g8 (fun N' ho => hQ q' N' g1 g2 g3 g4 ho)
  intro c
  induction c with
  | zero =>
    intro q hq h0 hav N1 g5 g6 g7 g8
    have e6 : q = 6 := by omega
    have e30 : ma N1 30 d = nI 6 := by rw [g7, upd_at, if_pos rfl, e6]
    rw [wX12_doesNext_10, cd, e30]
    refine ⟨vd, sw_t (by decide) ?_⟩
    unfold wX12_doesNext_46 wX12_doesNext_73
    rw [cd, e30]
    refine ⟨vd, sw_f (by decide) ⟨vd, sw_f (by decide) ?_⟩⟩
    by_cases z : q0 = 6
    · exact hQ6 z N1 g5 g6 (by rw [g7, e6])
    · have := hav 5 (by omega) (by omega)
      unfold avl at this
      rw [if_neg (by omega), if_neg (by omega)] at this
      exact absurd this (by decide)
  | succ c ih =>
    intro q hq h0 hav N1 g5 g6 g7 g8
    have hwN : wfS (ma N1 25) := by rw [g8]; exact hw
    have e30 : ma N1 30 d = nI q := by rw [g7, upd_at, if_pos rfl]
    have stp : ∀ M7, M7 = sa N1 30 d (nI (q + 1)) → (∀ k, k ≠ 30 → ma M7 k = ma N k) ∧ mg M7 = mg N ∧ ma M7 30 = upd (ma N 30) d (nI (q + 1)) ∧ ma M7 25 = r := by
      intro M7 h7
      refine ⟨fun k hk => by rw [h7, ma_sa, if_neg hk]; exact g5 k hk, by rw [h7]; exact g6, ?_, ?_⟩
      · rw [h7, ma_sa, if_pos rfl, g7, fa_upd_twice]
      · rw [h7, ma_sa, if_neg (by decide)]; exact g8
    rw [wX12_doesNext_10, cd, e30]
    by_cases c4 : q < 4
    · refine ⟨vd, sw_f (show ¬ nI 4 ≤ nI q from nI_ge c4 (by omega)) ⟨vd, m_canSay N1 hwN q c4 _ ?_⟩⟩
      rw [g8]
      have ea : avl r q = canSayN r q := by unfold avl; rw [if_pos c4]
      cases hc : canSayN r q with
      | false =>
        refine bw_f ⟨vd, fun x6 h6 => ⟨vd, fun M7 h7 => ?_⟩⟩
        rw [e30, nI_1] at h6
        rw [h6] at h7
        obtain ⟨s1, s2, s3, s4⟩ := stp M7 h7
        refine ih (q + 1) (by omega) (by omega) (fun i i1 i2 => ?_) M7 s1 s2 s3 s4
        by_cases z : i = q
        · rw [z, ea, hc]
        · exact hav i i1 (by omega)
      | true =>
        refine bw_t ?_
        unfold wX12_doesNext_46
        rw [cd, e30]
        exact ⟨vd, sw_f (nI_n4 c4) (k73 q N1 h0 (by omega) (by rw [ea, hc]) hav g5 g6 g7 g8)⟩
    · refine ⟨vd, sw_t (show nI 4 ≤ nI q from nI_le (by omega) (by omega)) ?_⟩
      unfold wX12_doesNext_46
      rw [cd, e30]
      refine ⟨vd, ?_⟩
      have a5 : avl r 5 = true := by unfold avl; rw [if_neg (by omega), if_neg (by omega)]
      by_cases c44 : q = 4
      · refine sw_t (by rw [c44]; rfl) (m_canThrow N1 hwN _ ?_)
        rw [g8]
        have ea : avl r q = canThrowN r := by unfold avl; rw [if_neg c4, if_pos c44]
        cases hc : canThrowN r with
        | false =>
          refine bw_f ⟨vd, fun x6 h6 => ⟨vd, fun M7 h7 => ?_⟩⟩
          rw [e30, nI_1] at h6
          rw [h6] at h7
          obtain ⟨s1, s2, s3, s4⟩ := stp M7 h7
          refine k73 (q + 1) M7 (by omega) (by omega) (by rw [c44]; exact a5) (fun i i1 i2 => ?_) s1 s2 s3 s4
          by_cases z : i = q
          · rw [z, ea, hc]
          · exact hav i i1 (by omega)
        | true => exact bw_t (k73 q N1 h0 (by omega) (by rw [ea, hc]) hav g5 g6 g7 g8)
      · have c5 : q = 5 := by omega
        exact sw_f (by rw [c5]; decide) (k73 q N1 h0 (by omega) (by rw [c5]; exact a5) hav g5 g6 g7 g8)
theorem m_doesNext {d : Nat} (hd : d < 9) {r : Nat → Int32} (hw : wfS r) {Q : Bool → gS → Prop} {N : gS} (h25 : ma N 25 = r) {q0 : Nat} (hq0 : q0 ≤ 6) (h30 : ma N 30 d + 1 = nI q0) (hQ : ∀ q' N', q0 ≤ q' → q' ≤ 5 → avl r q' = true → (∀ i, q0 ≤ i → i < q' → avl r i = false) → outS r d q' N N' → Q true N') (hQ6 : q0 = 6 → ∀ N', (∀ k, k ≠ 30 → ma N' k = ma N k) → mg N' = mg N → ma N' 30 = upd (ma N 30) d (nI 6) → Q false N') : wX12_doesNext (nI d) N Q := by
  have vd : vp_in (nI d) 9 := vp_in_nI hd (by decide)
  have cd : Int32.toNatClampNeg (nI d) = d := nI_clamp (by omega)
  unfold wX12_doesNext
  rw [cd, h30]
  refine ⟨vd, fun x1 h1 => ⟨vd, fun M2 h2 => ⟨6 - q0 + 1, ?_⟩⟩⟩
  rw [h1] at h2
  exact m_dn10 hd hw q0 hQ hQ6 (6 - q0) q0 (by omega) (Nat.le_refl _) (fun i i1 i2 => absurd i1 (by omega)) M2 (fun k hk => by rw [h2, ma_sa, if_neg hk]) (by rw [h2]; rfl) (by rw [h2, ma_sa, if_pos rfl]) (by rw [h2, ma_sa, if_neg (by decide)]; exact h25)
