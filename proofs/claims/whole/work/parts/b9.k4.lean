-- PURE: corner() in both
theorem byte_ok {x : Int32} (h : isByte x) : ∃ n, n < 256 ∧ x &&& 255 = nI n ∧ (n < 128 → x = nI n) ∧ (128 ≤ n → x < 0) := by
  have e : x = nI x.toBitVec.toNat := by
    apply Int32.toBitVec_inj.1
    show x.toBitVec = BitVec.ofNat 32 x.toBitVec.toNat
    rw [BitVec.ofNat_toNat, BitVec.setWidth_eq]
  have hl : x.toBitVec.toNat < 2 ^ 32 := x.toBitVec.isLt
  have ht : x.toInt = if 2 * x.toBitVec.toNat < 2 ^ 32 then (x.toBitVec.toNat : Int) else (x.toBitVec.toNat : Int) - 2 ^ 32 := by
    show x.toBitVec.toInt = _
    rw [BitVec.toInt_eq_toNat_cond]
    rfl
  have em : x &&& 255 = nI (x.toBitVec.toNat % 2 ^ 8) := by
    have := fa_mask x.toBitVec.toNat 8
    rw [← e] at this
    exact this
  obtain ⟨h1, h2⟩ := h
  refine ⟨x.toBitVec.toNat % 2 ^ 8, by omega, em, fun hn => ?_, fun hn => ?_⟩
  · by_cases c : 2 * x.toBitVec.toNat < 2 ^ 32
    · rw [if_pos c] at ht
      rw [show x.toBitVec.toNat % 2 ^ 8 = x.toBitVec.toNat by omega]
      exact e
    · rw [if_neg c] at ht
      omega
  · rw [Int32.lt_iff_toInt_lt, show (0 : Int32).toInt = 0 by decide]
    by_cases c : 2 * x.toBitVec.toNat < 2 ^ 32
    · rw [if_pos c] at ht
      omega
    · rw [if_neg c] at ht
      omega
/-- the tape as numbers -/
def tapN (M0 : gS) (j : Nat) : Nat := (ma M0 0 j).toNatClampNeg
theorem tap_ok {M M0 : gS} (hT : relT M M0) : ∃ L, L ≤ 400 ∧ mg M 1 = nI L ∧ mg M0 1 = nI L ∧ (∀ j, tapN M0 j < 256 ∧ ma M0 0 j = nI (tapN M0 j) ∧ ma M 0 j &&& 255 = nI (tapN M0 j) ∧ (tapN M0 j < 128 → ma M 0 j = nI (tapN M0 j)) ∧ (128 ≤ tapN M0 j → ma M 0 j < 0)) := by
  obtain ⟨t1, ⟨L, hL, t2⟩, t3, _⟩ := hT
  refine ⟨L, hL, t2, by rw [t1, t2], fun j => ?_⟩
  obtain ⟨q1, q2⟩ := t3 j
  obtain ⟨n, n1, n2, n3, n4⟩ := byte_ok q2
  have e : tapN M0 j = n := by unfold tapN; rw [q1, n2, nI_clamp (by omega)]
  rw [e]
  exact ⟨n1, by rw [q1, n2], n2, n3, n4⟩
theorem bnd_20 : ∀ i, i < 8 → isB (20 + i) = true ∧ bnd (20 + i) = (if i % 2 = 0 then 9 else 8) := by decide
theorem new_lo (s : Nat → Int32) (K : tK_t) {k : Nat} (h : k < 20) : rw4 s K K.2.1 k = rw2 s K k := by
  unfold rw4 rw3
  rw [if_neg (by omega), if_neg (by omega)]
theorem new_tune (s : Nat → Int32) {K : tK_t} (h4 : K.1 ≤ 4) {i : Nat} (h : i < 2 * K.1) : rw4 s K K.2.1 (20 + i) = nI (trK K i) := by
  unfold rw4 rw3
  rw [if_neg (by omega), if_pos (by omega), show 20 + i - 20 = i by omega]
theorem new_word (s : Nat → Int32) {K : tK_t} {i : Nat} (h : i < K.2.1) : rw4 s K K.2.1 (28 + i) = nI (K.2.2.2.2.2.1 i) := by
  unfold rw4
  rw [if_pos (by omega), show 28 + i - 28 = i by omega]
theorem ag_ok {K : tK_t} (hK : okK K) : ∃ n, n ≤ 9 ∧ agK K.2.2.1 = nI n := by
  rcases hK.2.2.1 with z | ⟨n, hn, z⟩
  · refine ⟨0, by omega, ?_⟩
    rw [z]
    decide
  · refine ⟨n, hn, ?_⟩
    rw [z]
    unfold agK
    by_cases y : 0 < n
    · rw [if_pos (show (0 : Int32) < nI n from nI_lt (a := 0) y (by omega))]
    · rw [show n = 0 by omega]
      decide
theorem new_wf {s : Nat → Int32} (hw : wfS s) {K : tK_t} (hK : okK K) : wfS (rw4 s K K.2.1) := by
  obtain ⟨k1, k2, k3, k4, k5, k6⟩ := id hK
  obtain ⟨g, hg, eg⟩ := ag_ok hK
  have tr : ∀ i, i < 2 * K.1 → 1 ≤ trK K i ∧ trK K i ≤ (if i % 2 = 0 then 9 else 8) := by
    intro i hi
    have := k4 (i / 2) (by omega)
    unfold trK
    by_cases z : i % 2 = 0
    · rw [if_pos z, if_pos z]; omega
    · rw [if_neg z, if_neg z]; omega
  have b0 : ∀ j, isB j = true → 0 ≤ rw0 s 44 j ∧ aN (rw0 s 44) j ≤ bnd j := by
    intro j hj
    have hj44 : j < 44 := by
      unfold isB at hj
      simp only [Bool.and_eq_true, decide_eq_true_eq] at hj
      exact hj.1
    have e : rw0 s 44 j = 0 := fa_fill_in hj44
    unfold aN
    rw [e]
    exact ⟨by decide, Nat.zero_le _⟩
  have b2 : ∀ j, isB j = true → 0 ≤ rw2 s K j ∧ aN (rw2 s K) j ≤ bnd j := by
    unfold rw2 rw1
    refine wf_upd (wf_upd (wf_upd (wf_upd (wf_upd (wf_upd (wf_upd (wf_upd b0 ?_) ?_) ?_) ?_) ?_) ?_) ?_) ?_
    · intro _; exact nI_ok (b := 4) k1 (by decide)
    · intro _; exact nI_ok (b := 4) k2 (by decide)
    · intro _; rw [eg]; exact nI_ok (b := 9) hg (by decide)
    · intro _; exact ⟨(hw.1 11 rfl).1, (hw.1 11 rfl).2⟩
    · intro _; exact nI_ok (b := 7) (k6 0 (by omega)) (by decide)
    · intro _; exact nI_ok (n := 9) (b := 9) (by omega) (by decide)
    · intro _; exact nI_ok (b := 7) (k6 1 (by omega)) (by decide)
    · intro _; exact nI_ok (n := 9) (b := 9) (by omega) (by decide)
  have b4 : ∀ j, isB j = true → 0 ≤ rw4 s K K.2.1 j ∧ aN (rw4 s K K.2.1) j ≤ bnd j := by
    intro j hj
    by_cases z1 : 28 ≤ j ∧ j < 28 + K.2.1
    · obtain ⟨i, rfl⟩ : ∃ i, j = 28 + i := ⟨j - 28, by omega⟩
      unfold aN
      rw [new_word s (by omega), bnd_28 i (by omega)]
      exact nI_ok (k5 i (by omega)).2 (by omega)
    · by_cases z2 : 20 ≤ j ∧ j < 20 + 2 * K.1
      · obtain ⟨i, rfl⟩ : ∃ i, j = 20 + i := ⟨j - 20, by omega⟩
        unfold aN
        rw [new_tune s k1 (by omega), (bnd_20 i (by omega)).2]
        exact nI_ok (tr i (by omega)).2 (by split <;> omega)
      · have e : rw4 s K K.2.1 j = rw2 s K j := by
          unfold rw4 rw3
          rw [if_neg z1, if_neg z2]
        unfold aN
        rw [e]
        exact b2 j hj
  have a0 : aN (rw4 s K K.2.1) 0 = K.1 := by unfold aN; rw [new_lo s K (by omega)]; exact nI_clamp (by omega)
  have a1 : aN (rw4 s K K.2.1) 1 = K.2.1 := by unfold aN; rw [new_lo s K (by omega)]; exact nI_clamp (by omega)
  refine ⟨b4, fun j hj => Or.inr ?_, fun j hj => ?_, fun j hj => ?_, fun j hj => ?_⟩
  · unfold aN
    rw [new_lo s K (by omega)]
    rcases (show j = 0 ∨ j = 1 by omega) with rfl | rfl <;> rfl
  · rw [a1] at hj
    unfold aN
    have := (k5 j hj)
    rw [new_word s hj, nI_clamp (by omega)]
    exact this.1
  · rw [a0] at hj
    have t1 := tr (2 * j) (by omega)
    have t2 := tr (2 * j + 1) (by omega)
    rw [if_pos (by omega)] at t1
    rw [if_neg (by omega)] at t2
    unfold aN
    rw [new_tune s k1 (by omega), show 21 + 2 * j = 20 + (2 * j + 1) by omega, new_tune s k1 (by omega), nI_clamp (by omega), nI_clamp (by omega)]
    exact ⟨t1.1, t2.1⟩
  · have a10 : aN (rw4 s K K.2.1) 10 = 0 := by unfold aN; rw [new_lo s K (by omega)]; rfl
    rw [a10] at hj
    exact absurd hj (Nat.not_lt_zero j)
theorem new_good {s : Nat → Int32} (hw : wfS s) {K : tK_t} (hK : okK K) : goodS (rw4 s K K.2.1) := by
  refine ⟨new_wf hw hK, fun z => ?_⟩
  rw [new_lo s K (by omega)] at z
  exact absurd z (show ¬ (0 : Int32) = 1 by decide)
theorem new_C {s : Nat → Int32} {K : tK_t} (hK : okK K) {Nc : gS} (q0 : mg Nc 0 = nI K.1) (q2 : mg Nc 2 = nI K.2.1) (q4 : mg Nc 4 = agK K.2.2.1) (q1 : ∀ j, j < K.1 → ma Nc 1 j = nI (K.2.2.2.1 j * K.2.2.2.2.1 j)) (q3 : ∀ j, j < K.2.1 → ma Nc 3 j = nI (K.2.2.2.2.2.1 j)) : relC (rw4 s K K.2.1) Nc := by
  obtain ⟨k1, k2, k3, k4, k5, k6⟩ := hK
  have a0 : aN (rw4 s K K.2.1) 0 = K.1 := by unfold aN; rw [new_lo s K (by omega)]; exact nI_clamp (by omega)
  have a1 : aN (rw4 s K K.2.1) 1 = K.2.1 := by unfold aN; rw [new_lo s K (by omega)]; exact nI_clamp (by omega)
  refine ⟨?_, ?_, ?_, fun j hj => ?_, fun j hj => ?_⟩
  · rw [q0, new_lo s K (by omega)]; rfl
  · rw [q2, new_lo s K (by omega)]; rfl
  · rw [q4, new_lo s K (by omega)]; rfl
  · rw [a0] at hj
    have t := k4 j hj
    rw [q1 j hj]
    congr 2
    · unfold aN
      rw [new_tune s k1 (by omega)]
      unfold trK
      rw [if_pos (by omega), show 2 * j / 2 = j by omega, nI_clamp (by omega)]
    · unfold aN
      rw [show 21 + 2 * j = 20 + (2 * j + 1) by omega, new_tune s k1 (by omega)]
      unfold trK
      rw [if_neg (by omega), show (2 * j + 1) / 2 = j by omega, nI_clamp (by omega)]
  · rw [a1] at hj
    rw [q3 j hj, new_word s hj]
theorem t_corner {M M0 M1 M2 M3 M4 M5 M6 M7 M8 M9 : gS} (hi : inv M M0 M1 M2 M3 M4 M7) : tieP M (fun Q => wX12_corner M Q) (fun Q => wX11_corner M0 M1 M2 M3 M4 M5 M6 M7 M8 M9 Q) := by
  obtain ⟨⟨hw, hsp⟩, ⟨hW, hC, hq, hO⟩, hT, hB⟩ := id hi
  obtain ⟨L, hL, l1, l2, hc⟩ := tap_ok hT
  have hrT : ∀ u, relT (sF (sg M 1 0) 25 u) (sg M0 1 0) := fun u => ⟨rfl, ⟨0, by omega, rfl⟩, hT.2.2.1, hT.2.2.2.1, hT.2.2.2.2⟩
  -- the class
  have cls : ∀ (Q : Int32 → gS → gS → gS → gS → gS → gS → gS → gS → gS → gS → Prop), (∀ K, rdF (tapN M0) L = .inr K → okK K → ∀ Nc, mg Nc 0 = nI K.1 → mg Nc 2 = nI K.2.1 → mg Nc 4 = agK K.2.2.1 → (∀ j, j < K.1 → ma Nc 1 j = nI (K.2.2.2.1 j * K.2.2.2.2.1 j)) → (∀ j, j < K.2.1 → ma Nc 3 j = nI (K.2.2.2.2.2.1 j)) → (∀ j, j < 2 → ma Nc 5 j = nI (K.2.2.2.2.2.2 j)) → wX10_settleIn M1 M2 M3 M4 Nc (fun (N11 : gS) (N12 : gS) (N13 : gS) (N14 : gS) (N15 : gS) => (Q (mg N15 0) (sg M0 1 0) N11 N12 N13 N14 N15 M6 M7 M8 M9))) → (∀ f, rdF (tapN M0) L = .inl f → 1 ≤ f → f < 10000 → ∀ N7, Q (-2 - nI f) (sg M0 1 0) M1 M2 M3 M4 N7 M6 M7 M8 M9) → wX11_corner M0 M1 M2 M3 M4 M5 M6 M7 M8 M9 Q := by
    intro Q h1 h2
    unfold wX11_corner
    intro N1 e1 N2 e2
    have eN1 : mg N1 1 = nI L := by
      rw [e1, mg_sg, if_pos rfl, l2]
      exact if_neg (show ¬ nI 400 < nI L from nI_nlt hL (by omega))
    have tC : txC (tapN M0) L N1 N2 := ⟨eN1, hL, fun j => ⟨(hc j).1, by rw [e2]; exact (hc j).2.1⟩⟩
    have z3 : mg N1 3 = 0 := by rw [e1]; rfl
    have z7 : mg N1 7 = 0 := by rw [e1]; rfl
    refine c_read tC z3 z7 _ (fun K ek oK _ _ N Nc q0 q2 q4 q1 q3 q5 N8 e8 => ?_) (fun f ef g1 g2 N Nc N8 e8 => ?_)
    · rw [sF_self, e2] at e8
      rw [e8]
      exact sw_t rfl (h1 K ek oK Nc q0 q2 q4 q1 q3 q5)
    · rw [sF_self, e2] at e8
      rw [e8]
      exact sw_f (nI_ne0 (by omega) (by omega)) (h2 f ef g1 g2 Nc)
  -- the reference
  have ref : ∀ (Q : Int32 → gS → Prop), (∀ K, rdF (tapN M0) L = .inr K → okK K → ∀ N, fA M N → mg N 1 = 0 → krR K N → (∃ k60 : Nat, wX12_corner_60 Q k60 (ma N 25 11) 0 N)) → (∀ f, rdF (tapN M0) L = .inl f → ∀ N, fA M N → mg N 1 = 0 → Q (-2 - nI f) N) → wX12_corner M Q := by
    intro Q h1 h2
    unfold wX12_corner
    intro X1 e1 X2 e2 X3 e3 X4 e4 X5 e5 X6 e6
    have a6 : ∀ k, k ≠ 12 → ma X6 k = ma M k := fun k hk => by
      rw [e6, ma_sa, if_neg hk, e5, ma_sa, if_neg hk, e4, e3, e2, e1]
      rfl
    have g6 : ∀ k, k ≠ 7 → k ≠ 8 → k ≠ 9 → k ≠ 16 → mg X6 k = mg M k := fun k p1 p2 p3 p4 => by
      rw [e6, mg_sa, e5, mg_sa, e4, mg_sg, if_neg p3, e3, mg_sg, if_neg p2, e2, mg_sg, if_neg p1, e1, mg_sg, if_neg p4]
    have tR : txR (tapN M0) L X6 := by
      unfold txR
      rw [a6 0 (by decide), g6 1 (by decide) (by decide) (by decide) (by decide)]
      exact ⟨l1, hL, fun j => ⟨(hc j).1, (hc j).2.2⟩⟩
    have k0 : krR K0 X6 := by
      rw [e6, e5, e4, e3, e2, e1]
      refine ⟨rfl, rfl, rfl, fun j hj => absurd hj (Nat.not_lt_zero j), fun j hj => absurd hj (Nat.not_lt_zero j), fun j hj => ?_⟩
      rcases (show j = 0 ∨ j = 1 by omega) with rfl | rfl <;> rfl
    have s16 : mg X6 16 = 6 := by rw [e6, e5, e4, e3, e2, e1]; rfl
    have fa6 : ∀ N, fA X6 N → fA M N := fun N f => ⟨fun k p1 p2 p3 p4 => by rw [f.1 k p1 p2 p3 p4, a6 k p4], by rw [f.2, g6 2 (by decide) (by decide) (by decide) (by decide)]⟩
    refine m_readsC tR s16 k0 _ (fun K ek oK _ _ N f g k => bw_t (fun x11 h11 => ?_)) (fun f ef g1 g2 N fr g g14 => bw_f ?_) (rdF_b hL)
    · rw [h11]
      exact h1 K ek oK N (fa6 N f) g k
    · rw [g14]
      exact h2 f ef N (fa6 N fr) g
  have fAe : ∀ N u, fA M N → mg N 1 = 0 → eqM (sF (sg M 1 0) 25 u) (sF N 25 u) := by
    intro N u f g
    refine ⟨g, f.2, ?_, ?_, ?_, ?_, ?_, ?_, ?_⟩
    · exact f.1 0 (by decide) (by decide) (by decide) (by decide)
    · exact f.1 3 (by decide) (by decide) (by decide) (by decide)
    · exact f.1 5 (by decide) (by decide) (by decide) (by decide)
    · exact f.1 6 (by decide) (by decide) (by decide) (by decide)
    · rw [ma_sF1, ma_sF1]
    · exact f.1 35 (by decide) (by decide) (by decide) (by decide)
    · exact f.1 36 (by decide) (by decide) (by decide) (by decide)
  cases er : rdF (tapN M0) L with
  | inr K =>
    refine ⟨nI K.1, sF (sg M 1 0) 25 (rw4 (ma M 25) K K.2.1), ⟨rfl, rfl, rfl, rfl, rfl, rfl⟩, fun Q h => ref Q (fun K' ek oK N f g k => ?_) (fun f ef => ?_), fun Q h => cls Q (fun K' ek oK Nc q0 q2 q4 q1 q3 q5 => ?_) (fun f ef => ?_)⟩
    · have eK : K' = K := by rw [er] at ek; exact (Sum.inr.inj ek).symm
      subst eK
      have r25 : ma N 25 = ma M 25 := f.1 25 (by decide) (by decide) (by decide) (by decide)
      refine m_cornerT oK k Q ?_
      rw [r25]
      exact h _ (fAe N _ f g)
    · rw [er] at ef; exact absurd ef (by simp)
    · have eK : K' = K := by rw [er] at ek; exact (Sum.inr.inj ek).symm
      subst eK
      have hwu := new_wf hw oK
      have hC' : relC (rw4 (ma M 25) K' K'.2.1) Nc := new_C oK q0 q2 q4 q1 q3
      unfold wX10_settleIn
      refine c_copyC hwu hC' _ (fun N2 hN2 => ?_)
      unfold wX6_clear
      intro X1 x1 X2 x2 X3 x3
      refine q_forget X3 _ (fun X7 x7 X8 x8 X9 x9 => ?_)
      show Q (mg Nc 0) (sg M0 1 0) X9 N2 (forgC X3) X7 Nc M6 M7 M8 M9
      rw [q0]
      refine h _ _ _ _ _ _ _ _ _ _ ⟨?_, ⟨?_, hN2, ?_, ?_⟩, hrT _, hB⟩
      · rw [ma_sF1]; exact new_good hw oK
      · rw [ma_sF1]
        refine ⟨fun j hj => ?_, ?_⟩
        · rw [x9, x8, new_lo _ _ (by omega)]
          rcases (show j = 0 ∨ j = 1 by omega) with rfl | rfl <;> rfl
        · rw [x9, x8, new_lo _ _ (by omega)]
          exact hW.2
      · rw [ma_sF1]
        have e3 : rw4 (ma M 25) K' K'.2.1 3 = 0 := by rw [new_lo _ _ (by omega)]; rfl
        refine ⟨?_, fun z => ?_, ?_, fun j hj => ?_, fun _ j hj => ?_, fun j hj => ?_⟩
        · rw [e3, x3, x2, x1]; rfl
        · rw [e3] at z; exact absurd z (by decide)
        · rw [new_lo _ _ (by omega), x3, x2]; rfl
        · rw [new_lo _ _ (by omega)]
          have : ma (forgC X3) 7 j = ma Nc 5 j := by
            show ma X3 7 j = _
            rw [x3, ma_sF1, cpy_j hj]
          rw [this, q5 j hj]
          rcases (show j = 0 ∨ j = 1 by omega) with rfl | rfl <;> rfl
        · rw [new_lo _ _ (by omega)]
          rcases (show j = 0 ∨ j = 1 by omega) with rfl | rfl <;> rfl
        · rw [new_lo _ _ (by omega)]
          rcases (show j = 0 ∨ j = 1 by omega) with rfl | rfl <;> rfl
      · rw [ma_sF1]
        refine ⟨?_, fun j hj => ?_⟩
        · rw [x7, new_lo _ _ (by omega)]; rfl
        · have a10 : aN (rw4 (ma M 25) K' K'.2.1) 10 = 0 := by unfold aN; rw [new_lo _ _ (by omega)]; rfl
          rw [a10] at hj
          exact absurd hj (Nat.not_lt_zero j)
    · rw [er] at ef; exact absurd ef (by simp)
  | inl f =>
    refine ⟨-2 - nI f, sF (sg M 1 0) 25 (ma M 25), ⟨rfl, rfl, rfl, rfl, rfl, rfl⟩, fun Q h => ref Q (fun K' ek => ?_) (fun f' ef N fr g => ?_), fun Q h => cls Q (fun K' ek => ?_) (fun f' ef g1 g2 N7 => ?_)⟩
    · rw [er] at ek; exact absurd ek (by simp)
    · have e : f' = f := by rw [er] at ef; exact (Sum.inl.inj ef).symm
      subst e
      refine h N ?_
      have := fAe N (ma M 25) fr g
      rw [show ma M 25 = ma N 25 from (fr.1 25 (by decide) (by decide) (by decide) (by decide)).symm, sF_self] at this
      rw [show ma M 25 = ma N 25 from (fr.1 25 (by decide) (by decide) (by decide) (by decide)).symm]
      exact this
    · rw [er] at ek; exact absurd ek (by simp)
    · have e : f' = f := by rw [er] at ef; exact (Sum.inl.inj ef).symm
      subst e
      exact h _ _ _ _ _ _ _ _ _ _ ⟨by rw [ma_sF1]; exact hi.1, by rw [ma_sF1]; exact hi.2.1, hrT _, hB⟩
