-- PURE: a corner's text, read by the reference
def atP (c : Nat → Nat) (L p : Nat) (M : gS) : Prop := ∃ q, q ≤ L ∧ mg M 13 = nI q ∧ sk c L q = p
theorem atP_le {c : Nat → Nat} {L p : Nat} {M : gS} (h : atP c L p M) : p ≤ L := by
  obtain ⟨q, h1, _, h3⟩ := h
  rw [← h3]
  exact sk_le h1
theorem atP_of {c : Nat → Nat} {L p : Nat} {M N : gS} (h : atP c L p M) (h13 : mg N 13 = nI p) : atP c L p N := by
  have hp := atP_le h
  obtain ⟨q, h1, _, h3⟩ := h
  exact ⟨p, hp, h13, by rw [← h3]; exact sk_sk c L q⟩
theorem m_isWordA {c : Nat → Nat} {L p : Nat} {M : gS} (ht : txR c L M) (ha : atP c L p M) {W : List Nat} (hW : okW W) {w : Int64} (hw : w = lN (cdL W)) (Q : Bool → gS → Prop) (h : ∀ N, fl1 M N → mg N 13 = nI p → Q (decide (lsW c L p = W)) N) : wX12_isWord w M Q := by
  obtain ⟨q, h1, h2, rfl⟩ := ha
  exact m_isWord ht h1 h2 hW hw Q h
theorem m_seeA {c : Nat → Nat} {L p : Nat} {M : gS} (ht : txR c L M) (ha : atP c L p M) (Q : Int32 → gS → Prop) (h : ∀ N, fl1 M N → mg N 13 = nI p → Q (seV c L p) N) : wX12_see M Q := by
  obtain ⟨q, h1, h2, rfl⟩ := ha
  exact m_see ht h1 h2 Q h
theorem m_take {c : Nat → Nat} {L p : Nat} {M : gS} (ht : txR c L M) (ha : atP c L p M) (h14 : mg M 14 = 0) {lo hi : Nat} (hlo : lo < 1000) (hhi : hi ≤ 100000) (Q : Bool → gS → Prop) (h1 : ∀ a q, pNum c L p lo hi = .inr (a, q) → ∀ N, fl3 M N → mg N 14 = 0 → mg N 15 = nI a → atP c L q N → Q true N) (h2 : ∀ f, pNum c L p lo hi = .inl f → ∀ N, fl3 M N → mg N 14 = nI f → Q false N) : wX12_numberHere (nI lo) (nI hi) M Q := by
  obtain ⟨q, e1, e2, rfl⟩ := ha
  have hs := sk_le (c := c) e1
  refine m_numberHere ht e1 e2 h14 hlo hhi Q (fun o N f a b g => ?_) (fun o N f a => ?_)
  · have ep : pNum c L (sk c L q) lo hi = .inr (numV c L (sk c L q), nxP c L (sk c L q)) := by unfold pNum; rw [if_pos o]
    refine h1 _ _ ep N f a g ⟨eD c L (sk c L q), eo_le _ hs, b, ?_⟩
    unfold nxP
    unfold numOK at o
    simp only [Bool.and_eq_true, decide_eq_true_eq] at o
    rw [(bD_tk o.1).1]
  · exact h2 _ (by unfold pNum; rw [if_neg (by rw [o]; decide)]) N f a
theorem ls_bL {c : Nat → Nat} {L p : Nat} {W : List Nat} (hW : okW W) (h : lsW c L p = W) : bL c L p = true := by
  cases b : bL c L p with
  | true => rfl
  | false =>
    rw [ls_nil b] at h
    have := hW.1
    rw [← h] at this
    exact absurd this (by decide)
theorem m_passA {c : Nat → Nat} {L p : Nat} {M : gS} (ht : txR c L M) (hp : p ≤ L) (h13 : mg M 13 = nI p) {W : List Nat} (hW : okW W) (hl : lsW c L p = W) (Q : gS → Prop) (h : ∀ N, fl1 M N → atP c L (nxP c L p) N → Q N) : wX12_passWord M Q := by
  refine m_passWord ht hp h13 Q (fun N f e => h N f ⟨eL c L p, eo_le _ hp, e, ?_⟩)
  unfold nxP
  rw [(bL_tk (ls_bL hW hl)).1]
/-- what reading a corner's clauses may change -/
def fK (M N : gS) : Prop := (∀ k, k ≠ 10 → k ≠ 11 → k ≠ 12 → ma N k = ma M k) ∧ (∀ k, k ≠ 7 → k ≠ 8 → k ≠ 9 → k ≠ 13 → k ≠ 14 → k ≠ 15 → k ≠ 19 → mg N k = mg M k)
theorem fK_refl (M : gS) : fK M M := ⟨fun _ _ _ _ => rfl, fun _ _ _ _ _ _ _ _ => rfl⟩
theorem fK_trans {A B C : gS} (h : fK A B) (g : fK B C) : fK A C := ⟨fun k a b c => (g.1 k a b c).trans (h.1 k a b c), fun k a b c d e f i => (g.2 k a b c d e f i).trans (h.2 k a b c d e f i)⟩
theorem fK_1 {M N : gS} (h : fl1 M N) : fK M N := ⟨fun k _ _ _ => by rw [h.1], fun k _ _ _ a _ _ _ => h.2 k a⟩
theorem fK_3 {M N : gS} (h : fl3 M N) : fK M N := ⟨fun k _ _ _ => by rw [h.1], fun k _ _ _ a b c _ => h.2 k a b c⟩
theorem fK_sg (M : gS) {k : Nat} (hk : k = 7 ∨ k = 8 ∨ k = 9 ∨ k = 13 ∨ k = 14 ∨ k = 15 ∨ k = 19) (v : Int32) : fK M (sg M k v) := ⟨fun _ _ _ _ => rfl, fun j _ _ _ _ _ _ _ => by rw [mg_sg, if_neg (by omega)]⟩
theorem fK_sa (M : gS) {k : Nat} (hk : k = 10 ∨ k = 11 ∨ k = 12) (i : Nat) (v : Int32) : fK M (sa M k i v) := ⟨fun j _ _ _ => by rw [ma_sa, if_neg (by omega)], fun _ _ _ _ _ _ _ _ => rfl⟩
theorem txR_K {c : Nat → Nat} {L : Nat} {M N : gS} (h : txR c L M) (hf : fK M N) : txR c L N := by
  unfold txR at *
  rw [hf.1 0 (by decide) (by decide) (by decide), hf.2 1 (by decide) (by decide) (by decide) (by decide) (by decide) (by decide) (by decide)]
  exact h
theorem krR_3 {K : tK_t} {M N : gS} (h : krR K M) (hf : fl3 M N) : krR K N := by
  unfold krR at *
  rw [hf.1, hf.2 7 (by decide) (by decide) (by decide), hf.2 8 (by decide) (by decide) (by decide), hf.2 9 (by decide) (by decide) (by decide)]
  exact h
theorem krR_1 {K : tK_t} {M N : gS} (h : krR K M) (hf : fl1 M N) : krR K N := krR_3 h (fl3_1 hf)
theorem m_clT {c : Nat → Nat} {L p : Nat} {M : gS} (ht : txR c L M) (hp : p ≤ L) (h13 : mg M 13 = nI p) (hl : lsW c L p = Wtune) (h14 : mg M 14 = 0) {K : tK_t} (hK : okK K) (hk : krR K M) (Q : Bool → gS → Prop) (h1 : ∀ K' p', clT c L K p = .inr (K', p') → ∀ N, fK M N → mg N 19 = mg M 19 → mg N 14 = 0 → atP c L p' N → krR K' N → Q true N) (h2 : ∀ f, clT c L K p = .inl f → ∀ N, fK M N → mg N 14 = nI f → Q false N) : wX12_isTuneHere (nI p) M Q := by
  obtain ⟨k1, k2, k3, k4, k5, k6⟩ := hK
  unfold clT at h1 h2
  unfold wX12_isTuneHere
  rw [hk.1]
  by_cases e4 : K.1 = 4
  · rw [if_pos e4] at h1 h2
    exact sw_t (by rw [e4]; rfl) (m_fails h14 4 p _ (fun N f _ g => h2 _ rfl N (fK_3 f) g))
  · rw [if_neg e4] at h1 h2
    refine sw_f (fun z => e4 ((nI_eq (by omega) (by omega)).1 (show nI K.1 = nI 4 from z))) (m_passA ht hp h13 ok_tune hl _ (fun N f a => ?_))
    have t1 := txR_fl ht f
    refine m_take (lo := 1) (hi := 9) t1 a (by rw [f.2 14 (by decide)]; exact h14) (by omega) (by omega) _ (fun v q ev N2 f2 g14 g15 a2 => bw_t (fun x8 h8 => ?_)) (fun fl ef N2 f2 g14 => bw_f ?_)
    · rw [ev] at h1 h2
      have K2 := krR_3 (krR_1 hk f) f2
      have i2 : (2 : Int32) * mg N2 7 = nI (2 * K.1) := by rw [K2.1]; exact pk_mul 2 K.1
      rw [i2, nI_clamp (by omega)]
      refine ⟨vp_in_nI (by omega) (by decide), fun M9 h9 => ?_⟩
      have f9 : fK N2 M9 := by rw [h9]; exact fK_sa N2 (Or.inl rfl) _ _
      have t9 : txR c L M9 := txR_K (txR_fl3 t1 f2) f9
      have a9 : atP c L q M9 := by rw [h9]; exact a2
      refine m_take (lo := 1) (hi := 8) t9 a9 (by rw [h9]; exact g14) (by omega) (by omega) _ (fun w q2 ew N3 f3 e14 e15 a3 => bw_t (fun x14 h14' => ?_)) (fun fl ef N3 f3 e14 => bw_f ?_)
      · have m7 : mg N3 7 = nI K.1 := by rw [f3.2 7 (by decide) (by decide) (by decide), h9]; exact K2.1
        have i3 : (2 : Int32) * mg N3 7 + 1 = nI (2 * K.1 + 1) := by rw [m7, show (2 : Int32) * nI K.1 = nI (2 * K.1) from pk_mul 2 K.1, nI_1]
        rw [i3, nI_clamp (by omega)]
        refine ⟨vp_in_nI (by omega) (by decide), fun M15 h15 x16 h16 M17 h17 => ?_⟩
        have fr : fK M M17 := fK_trans (fK_1 f) (fK_trans (fK_3 f2) (fK_trans f9 (fK_trans (fK_3 f3) (by rw [h17, h15]; exact fK_trans (fK_sa N3 (Or.inl rfl) _ _) (fK_sg _ (Or.inl rfl) _)))))
        have m15 : mg M15 7 = nI K.1 := by rw [h15]; exact m7
        refine h1 _ q2 (by show bnd2 (pNum c L q 1 8) _ = _; rw [ew]; rfl) M17 fr ?_ (by rw [h17, h15]; exact e14) (by rw [h17, h15]; exact a3) ?_
        · rw [h17, h15]
          show mg N3 19 = mg M 19
          rw [f3.2 19 (by decide) (by decide) (by decide), h9]
          show mg N2 19 = mg M 19
          rw [f2.2 19 (by decide) (by decide) (by decide), f.2 19 (by decide)]
        · refine ⟨by rw [h17, mg_sg, if_pos rfl, h16, m15, nI_1], ?_, ?_, fun j hj => ?_, fun j hj => ?_, fun j hj => ?_⟩
          · rw [h17, h15]; show mg N3 8 = _; rw [f3.2 8 (by decide) (by decide) (by decide), h9]; exact K2.2.1
          · rw [h17, h15]; show mg N3 9 = _; rw [f3.2 9 (by decide) (by decide) (by decide), h9]; exact K2.2.2.1
          · have hj' : j < K.1 + 1 := hj
            have em : ma M17 10 = upd (upd (ma N2 10) (2 * K.1) (nI v)) (2 * K.1 + 1) (nI w) := by
              rw [h17, h15, h14', e15]
              show upd (ma N3 10) _ _ = _
              rw [f3.1, h9, h8, g15]
              rfl
            show ma M17 10 (2 * j) = nI (updN _ _ _ j) ∧ ma M17 10 (2 * j + 1) = nI (updN _ _ _ j)
            rw [em, upd_at, upd_at, upd_at, upd_at]
            by_cases z : j = K.1
            · rw [z, updN_s, updN_s, if_neg (by omega), if_pos rfl, if_pos rfl]; exact ⟨rfl, rfl⟩
            · rw [updN_o _ _ z, updN_o _ _ z, if_neg (by omega), if_neg (by omega), if_neg (by omega), if_neg (by omega)]
              exact K2.2.2.2.1 j (by omega)
          · rw [h17, h15]; show ma N3 11 j = _; rw [f3.1, h9]; exact K2.2.2.2.2.1 j hj
          · rw [h17, h15]; show ma N3 12 j = _; rw [f3.1, h9]; exact K2.2.2.2.2.2 j hj
      · exact h2 fl (by show bnd2 (pNum c L q 1 8) _ = _; rw [ef]; rfl) N3 (fK_trans (fK_1 f) (fK_trans (fK_3 f2) (fK_trans f9 (fK_3 f3)))) e14
    · rw [ef] at h2
      exact h2 fl rfl N2 (fK_trans (fK_1 f) (fK_3 f2)) g14
theorem m_clW {c : Nat → Nat} {L p : Nat} {M : gS} (ht : txR c L M) (hp : p ≤ L) (h13 : mg M 13 = nI p) (hl : lsW c L p = Wword) (h14 : mg M 14 = 0) {K : tK_t} (hK : okK K) (hk : krR K M) (Q : Bool → gS → Prop) (h1 : ∀ K' p', clW c L K p = .inr (K', p') → ∀ N, fK M N → mg N 19 = mg M 19 → mg N 14 = 0 → atP c L p' N → krR K' N → Q true N) (h2 : ∀ f, clW c L K p = .inl f → ∀ N, fK M N → mg N 14 = nI f → Q false N) : wX12_isWordTold (nI p) M Q := by
  obtain ⟨k1, k2, k3, k4, k5, k6⟩ := hK
  unfold clW at h1 h2
  unfold wX12_isWordTold
  rw [hk.2.1]
  by_cases e4 : K.2.1 = 4
  · rw [if_pos e4] at h1 h2
    exact sw_t (by rw [e4]; rfl) (m_fails h14 4 p _ (fun N f _ g => h2 _ rfl N (fK_3 f) g))
  · rw [if_neg e4] at h1 h2
    refine sw_f (fun z => e4 ((nI_eq (by omega) (by omega)).1 (show nI K.2.1 = nI 4 from z))) (m_passA ht hp h13 ok_word hl _ (fun N f a => ?_))
    have t1 := txR_fl ht f
    refine m_take (lo := 1) (hi := 9) t1 a (by rw [f.2 14 (by decide)]; exact h14) (by omega) (by omega) _ (fun v q ev N2 f2 g14 g15 a2 => bw_t (fun x8 h8 => ?_)) (fun fl ef N2 f2 g14 => bw_f ?_)
    · rw [ev] at h1
      have K2 := krR_3 (krR_1 hk f) f2
      rw [K2.2.1, nI_clamp (by omega)]
      refine ⟨vp_in_nI (by omega) (by decide), fun M9 h9 x10 h10 M11 h11 => ?_⟩
      have m9 : mg M9 8 = nI K.2.1 := by rw [h9]; exact K2.2.1
      have fr : fK M M11 := fK_trans (fK_1 f) (fK_trans (fK_3 f2) (by rw [h11, h9]; exact fK_trans (fK_sa N2 (Or.inr (Or.inl rfl)) _ _) (fK_sg _ (Or.inr (Or.inl rfl)) _)))
      refine h1 _ q rfl M11 fr ?_ (by rw [h11, h9]; exact g14) (by rw [h11, h9]; exact a2) ?_
      · rw [h11, h9]
        show mg N2 19 = mg M 19
        rw [f2.2 19 (by decide) (by decide) (by decide), f.2 19 (by decide)]
      · refine ⟨by rw [h11, h9]; exact K2.1, by rw [h11, mg_sg, if_pos rfl, h10, m9, nI_1], by rw [h11, h9]; exact K2.2.2.1, fun j hj => by rw [h11, h9]; exact K2.2.2.2.1 j hj, fun j hj => ?_, fun j hj => by rw [h11, h9]; exact K2.2.2.2.2.2 j hj⟩
        have hj' : j < K.2.1 + 1 := hj
        have em : ma M11 11 = upd (ma N2 11) K.2.1 (nI v) := by rw [h11, h9, h8, g15]; rfl
        show ma M11 11 j = nI (updN _ _ _ j)
        rw [em, upd_at]
        by_cases z : j = K.2.1
        · rw [if_pos z, z, updN_s]
        · rw [if_neg z, updN_o _ _ z]; exact K2.2.2.2.2.1 j (by omega)
    · rw [ef] at h2
      exact h2 fl rfl N2 (fK_trans (fK_1 f) (fK_3 f2)) g14
theorem m_clP {c : Nat → Nat} {L p : Nat} {M : gS} (ht : txR c L M) (hp : p ≤ L) (h13 : mg M 13 = nI p) (hl : lsW c L p = Wpurse) (h14 : mg M 14 = 0) {K : tK_t} (hK : okK K) (hk : krR K M) (Q : Bool → gS → Prop) (h1 : ∀ K' p', clP c L K p = .inr (K', p') → ∀ N, fK M N → mg N 19 = mg M 19 → mg N 14 = 0 → atP c L p' N → krR K' N → Q true N) (h2 : ∀ f, clP c L K p = .inl f → ∀ N, fK M N → mg N 14 = nI f → Q false N) : wX12_isPurseHere M Q := by
  unfold clP at h1 h2
  unfold wX12_isPurseHere
  refine m_passA ht hp h13 ok_purse hl _ (fun N f a => ?_)
  have t1 := txR_fl ht f
  refine m_take (lo := 0) (hi := 1) t1 a (by rw [f.2 14 (by decide)]; exact h14) (by omega) (by omega) _ (fun v q ev N2 f2 g14 g15 a2 => bw_t (fun x7 h7 => ?_)) (fun fl ef N2 f2 g14 => bw_f ?_)
  · obtain ⟨_, _, _, b1, b2⟩ := pNum_b ev
    rw [ev] at h1 h2
    have K2 := krR_3 (krR_1 hk f) f2
    refine m_take (lo := 0) (hi := 7) (txR_fl3 t1 f2) a2 g14 (by omega) (by omega) _ (fun w q2 ew N3 f3 e14 e15 a3 => bw_t (fun x12 h12 => ?_)) (fun fl ef N3 f3 e14 => bw_f ?_)
    · have K3 := krR_3 K2 f3
      rw [h7, g15, nI_clamp (by omega)]
      refine ⟨vp_in_nI (by omega) (by decide), fun M13 h13' => ?_⟩
      have fr : fK M M13 := fK_trans (fK_1 f) (fK_trans (fK_3 f2) (fK_trans (fK_3 f3) (by rw [h13']; exact fK_sa N3 (Or.inr (Or.inr rfl)) _ _)))
      refine h1 _ q2 (by show bnd2 (pNum c L q 0 7) _ = _; rw [ew]; rfl) M13 fr ?_ (by rw [h13']; exact e14) (by rw [h13']; exact a3) ?_
      · rw [h13']
        show mg N3 19 = mg M 19
        rw [f3.2 19 (by decide) (by decide) (by decide), f2.2 19 (by decide) (by decide) (by decide), f.2 19 (by decide)]
      · refine ⟨by rw [h13']; exact K3.1, by rw [h13']; exact K3.2.1, by rw [h13']; exact K3.2.2.1, fun j hj => by rw [h13']; exact K3.2.2.2.1 j hj, fun j hj => by rw [h13']; exact K3.2.2.2.2.1 j hj, fun j hj => ?_⟩
        have em : ma M13 12 = upd (ma N3 12) v (nI w) := by rw [h13', h12, e15]; rfl
        show ma M13 12 j = nI (updN _ _ _ j)
        rw [em, upd_at]
        by_cases z : j = v
        · rw [if_pos z, z, updN_s]
        · rw [if_neg z, updN_o _ _ z]; exact K3.2.2.2.2.2 j hj
    · exact h2 fl (by show bnd2 (pNum c L q 0 7) _ = _; rw [ef]; rfl) N3 (fK_trans (fK_1 f) (fK_trans (fK_3 f2) (fK_3 f3))) e14
  · rw [ef] at h2
    exact h2 fl rfl N2 (fK_trans (fK_1 f) (fK_3 f2)) g14
theorem m_clA {c : Nat → Nat} {L p : Nat} {M : gS} (ht : txR c L M) (hp : p ≤ L) (h13 : mg M 13 = nI p) (hl : lsW c L p = Wagain) (h14 : mg M 14 = 0) {K : tK_t} (hK : okK K) (hk : krR K M) (Q : Bool → gS → Prop) (h1 : ∀ K' p', clA c L K p = .inr (K', p') → ∀ N, fK M N → mg N 19 = mg M 19 → mg N 14 = 0 → atP c L p' N → krR K' N → Q true N) (h2 : ∀ f, clA c L K p = .inl f → ∀ N, fK M N → mg N 14 = nI f → Q false N) : wX12_isAgainHere (nI p) M Q := by
  obtain ⟨k1, k2, k3, k4, k5, k6⟩ := hK
  unfold clA at h1 h2
  unfold wX12_isAgainHere
  rw [hk.2.2.1]
  by_cases e4 : K.2.2.1 = -1
  · rw [if_pos e4] at h1 h2
    refine sw_t (by rw [e4]; decide) (m_passA ht hp h13 ok_again hl _ (fun N f a => ?_))
    have t1 := txR_fl ht f
    refine m_take (lo := 0) (hi := 9) t1 a (by rw [f.2 14 (by decide)]; exact h14) (by omega) (by omega) _ (fun v q ev N2 f2 g14 g15 a2 => bw_t (fun x8 h8 M9 h9 => ?_)) (fun fl ef N2 f2 g14 => bw_f ?_)
    · rw [ev] at h1
      have K2 := krR_3 (krR_1 hk f) f2
      refine h1 _ q rfl M9 (fK_trans (fK_1 f) (fK_trans (fK_3 f2) (by rw [h9]; exact fK_sg N2 (Or.inr (Or.inr (Or.inl rfl))) _))) ?_ (by rw [h9]; exact g14) (by rw [h9]; exact a2) ?_
      · rw [h9]
        show mg N2 19 = mg M 19
        rw [f2.2 19 (by decide) (by decide) (by decide), f.2 19 (by decide)]
      · exact ⟨by rw [h9]; exact K2.1, by rw [h9]; exact K2.2.1, by rw [h9, mg_sg, if_pos rfl, h8, g15], fun j hj => by rw [h9]; exact K2.2.2.2.1 j hj, fun j hj => by rw [h9]; exact K2.2.2.2.2.1 j hj, fun j hj => by rw [h9]; exact K2.2.2.2.2.2 j hj⟩
    · rw [ef] at h2
      exact h2 fl rfl N2 (fK_trans (fK_1 f) (fK_3 f2)) g14
  · rw [if_neg e4] at h1 h2
    refine sw_f ?_ (m_fails h14 4 p _ (fun N f _ g => h2 _ rfl N (fK_3 f) g))
    rcases k3 with z | ⟨n, hn, z⟩
    · exact absurd z e4
    · rw [z]; exact nI_pos (by omega)
theorem m_clauseC {c : Nat → Nat} {L p : Nat} {M : gS} (ht : txR c L M) (ha : atP c L p M) (h14 : mg M 14 = 0) (h16 : mg M 16 = 6) {ln : Nat} (hln : ln ≤ 16) (h19 : mg M 19 = nI ln) {K : tK_t} (hK : okK K) (hk : krR K M) (Q : Bool → gS → Prop) (h1 : ∀ K' p', clX c L (decide (ln = 16)) K p = .inr (K', p') → ∀ N, fK M N → mg N 19 = nI (ln + 1) → mg N 14 = 0 → atP c L p' N → krR K' N → Q true N) (h2 : ∀ f, clX c L (decide (ln = 16)) K p = .inl f → ∀ N, fK M N → mg N 14 = nI f → Q false N) : wX12_clauseHere M Q := by
  have hp := atP_le ha
  have hL := ht.2.1
  have w1 : (1953853029 : Int64) = lN (cdL Wtune) := (fa_litL 1953853029).trans (congrArg lN (by decide))
  have w2 : (2003792484 : Int64) = lN (cdL Wword) := (fa_litL 2003792484).trans (congrArg lN (by decide))
  have w3 : (483006772069 : Int64) = lN (cdL Wpurse) := (fa_litL 483006772069).trans (congrArg lN (by decide))
  have w4 : (418346264942 : Int64) = lN (cdL Wagain) := (fa_litL 418346264942).trans (congrArg lN (by decide))
  unfold wX12_clauseHere
  refine m_seeA ht ha _ (fun N f e x3 h3 => ?_)
  have t1 := txR_fl ht f
  have a1 := atP_of ha e
  have n16 : mg N 16 = 6 := by rw [f.2 16 (by decide)]; exact h16
  refine sw_t n16 ?_
  rw [h3, e]
  unfold clX at h1 h2
  -- the second way through the words
  have go : ∀ N2, fl1 M N2 → mg N2 13 = nI p → (lsW c L p = Wtune ∨ lsW c L p = Wword ∨ lsW c L p = Wpurse ∨ lsW c L p = Wagain) → wX12_clauseHere_69 Q (nI p) 1 N2 := by
    intro N2 f2 e2 hw4
    unfold wX12_clauseHere_69 wX12_clauseHere_89 wX12_clauseHere_116
    refine sw_f (by decide) (sw_f (by decide) ?_)
    have n19 : mg N2 19 = nI ln := by rw [f2.2 19 (by decide)]; exact h19
    have n14 : mg N2 14 = 0 := by rw [f2.2 14 (by decide)]; exact h14
    rw [n19]
    by_cases e16 : ln = 16
    · rw [decide_eq_true e16] at h1 h2
      refine sw_t (by rw [e16]; rfl) (m_fails n14 4 p _ (fun N3 f3 _ g => h2 _ ?_ N3 (fK_trans (fK_1 f2) (fK_3 f3)) g))
      rcases hw4 with z | z | z | z
      · rw [if_pos z, if_pos rfl]
      · rw [if_neg (by rw [z]; decide), if_pos z, if_pos rfl]
      · rw [if_neg (by rw [z]; decide), if_neg (by rw [z]; decide), if_pos z, if_pos rfl]
      · rw [if_neg (by rw [z]; decide), if_neg (by rw [z]; decide), if_neg (by rw [z]; decide), if_pos z, if_pos rfl]
    · rw [decide_eq_false e16] at h1 h2
      refine sw_f (fun z => e16 ((nI_eq (by omega) (by omega)).1 (show nI ln = nI 16 from z))) (fun x2 hx2 M3 hM3 => sw_f (by decide) ?_)
      have f3 : fK M M3 := fK_trans (fK_1 f2) (by rw [hM3]; exact fK_sg N2 (Or.inr (Or.inr (Or.inr (Or.inr (Or.inr (Or.inr rfl)))))) _)
      have t3 := txR_K ht f3
      have g13 : mg M3 13 = nI p := by rw [hM3]; exact e2
      have g19 : mg M3 19 = nI (ln + 1) := by rw [hM3, mg_sg, if_pos rfl, hx2, nI_1]
      have g14 : mg M3 14 = 0 := by rw [hM3]; exact n14
      have a3 : atP c L p M3 := atP_of ha g13
      have K3 : krR K M3 := by rw [hM3]; exact (show krR K N2 from krR_1 hk f2)
      refine m_isWordA t3 a3 ok_tune w1 _ (fun N4 f4 e4 => ?_)
      have t4 := txR_fl t3 f4
      have s4 : mg N4 19 = nI (ln + 1) := by rw [f4.2 19 (by decide)]; exact g19
      have z4 : mg N4 14 = 0 := by rw [f4.2 14 (by decide)]; exact g14
      by_cases d1 : lsW c L p = Wtune
      · rw [decide_eq_true d1]
        rw [if_pos d1, if_neg (by decide)] at h1 h2
        refine bw_t (m_clT t4 hp e4 d1 z4 hK (krR_1 K3 f4) _ (fun K' p' ek N5 f5 q1 q2 q3 q4 => ?_) (fun fl ef N5 f5 q1 => ?_))
        · exact h1 K' p' ek N5 (fK_trans f3 (fK_trans (fK_1 f4) f5)) (by rw [q1]; exact s4) q2 q3 q4
        · exact h2 fl ef N5 (fK_trans f3 (fK_trans (fK_1 f4) f5)) q1
      rw [decide_eq_false d1]
      rw [if_neg d1] at h1 h2
      refine bw_f (m_isWordA t4 (atP_of a3 e4) ok_word w2 _ (fun N6 f6 e6 => ?_))
      have t6 := txR_fl t4 f6
      have s6 : mg N6 19 = nI (ln + 1) := by rw [f6.2 19 (by decide)]; exact s4
      have z6 : mg N6 14 = 0 := by rw [f6.2 14 (by decide)]; exact z4
      by_cases d2 : lsW c L p = Wword
      · rw [decide_eq_true d2]
        rw [if_pos d2, if_neg (by decide)] at h1 h2
        refine bw_t (m_clW t6 hp e6 d2 z6 hK (krR_1 (krR_1 K3 f4) f6) _ (fun K' p' ek N5 f5 q1 q2 q3 q4 => ?_) (fun fl ef N5 f5 q1 => ?_))
        · exact h1 K' p' ek N5 (fK_trans f3 (fK_trans (fK_1 (fl1_trans f4 f6)) f5)) (by rw [q1]; exact s6) q2 q3 q4
        · exact h2 fl ef N5 (fK_trans f3 (fK_trans (fK_1 (fl1_trans f4 f6)) f5)) q1
      rw [decide_eq_false d2]
      rw [if_neg d2] at h1 h2
      refine bw_f (m_isWordA t6 (atP_of a3 e6) ok_purse w3 _ (fun N8 f8 e8 => ?_))
      have t8 := txR_fl t6 f8
      have s8 : mg N8 19 = nI (ln + 1) := by rw [f8.2 19 (by decide)]; exact s6
      have z8 : mg N8 14 = 0 := by rw [f8.2 14 (by decide)]; exact z6
      have K8 := krR_1 (krR_1 (krR_1 K3 f4) f6) f8
      by_cases d3 : lsW c L p = Wpurse
      · rw [decide_eq_true d3]
        rw [if_pos d3, if_neg (by decide)] at h1 h2
        refine bw_t (m_clP t8 hp e8 d3 z8 hK K8 _ (fun K' p' ek N5 f5 q1 q2 q3 q4 => ?_) (fun fl ef N5 f5 q1 => ?_))
        · exact h1 K' p' ek N5 (fK_trans f3 (fK_trans (fK_1 (fl1_trans f4 (fl1_trans f6 f8))) f5)) (by rw [q1]; exact s8) q2 q3 q4
        · exact h2 fl ef N5 (fK_trans f3 (fK_trans (fK_1 (fl1_trans f4 (fl1_trans f6 f8))) f5)) q1
      rw [decide_eq_false d3]
      rw [if_neg d3] at h1 h2
      have d4 : lsW c L p = Wagain := by
        rcases hw4 with z | z | z | z
        · exact absurd z d1
        · exact absurd z d2
        · exact absurd z d3
        · exact z
      rw [if_pos d4, if_neg (by decide)] at h1 h2
      refine bw_f (m_clA t8 hp e8 d4 z8 hK K8 _ (fun K' p' ek N5 f5 q1 q2 q3 q4 => ?_) (fun fl ef N5 f5 q1 => ?_))
      · exact h1 K' p' ek N5 (fK_trans f3 (fK_trans (fK_1 (fl1_trans f4 (fl1_trans f6 f8))) f5)) (by rw [q1]; exact s8) q2 q3 q4
      · exact h2 fl ef N5 (fK_trans f3 (fK_trans (fK_1 (fl1_trans f4 (fl1_trans f6 f8))) f5)) q1
  unfold wX12_clauseHere_24
  refine sw_f (by decide) (m_isWordA t1 a1 ok_tune w1 _ (fun N4 f4 e4 => ?_))
  by_cases d1 : lsW c L p = Wtune
  · rw [decide_eq_true d1]
    exact bw_t (go N4 (fl1_trans f f4) e4 (Or.inl d1))
  rw [decide_eq_false d1]
  refine bw_f (m_isWordA (txR_fl t1 f4) (atP_of ha e4) ok_word w2 _ (fun N6 f6 e6 => ?_))
  by_cases d2 : lsW c L p = Wword
  · rw [decide_eq_true d2]
    exact bw_t (go N6 (fl1_trans f (fl1_trans f4 f6)) e6 (Or.inr (Or.inl d2)))
  rw [decide_eq_false d2]
  refine bw_f (m_isWordA (txR_fl (txR_fl t1 f4) f6) (atP_of ha e6) ok_purse w3 _ (fun N8 f8 e8 => ?_))
  by_cases d3 : lsW c L p = Wpurse
  · rw [decide_eq_true d3]
    exact bw_t (go N8 (fl1_trans f (fl1_trans f4 (fl1_trans f6 f8))) e8 (Or.inr (Or.inr (Or.inl d3))))
  rw [decide_eq_false d3]
  refine bw_f (m_isWordA (txR_fl (txR_fl (txR_fl t1 f4) f6) f8) (atP_of ha e8) ok_again w4 _ (fun N9 f9 e9 => ?_))
  have f19 := fl1_trans f (fl1_trans f4 (fl1_trans f6 (fl1_trans f8 f9)))
  by_cases d4 : lsW c L p = Wagain
  · rw [decide_eq_true d4]
    exact bw_t (go N9 f19 e9 (Or.inr (Or.inr (Or.inr d4))))
  rw [decide_eq_false d4]
  refine bw_f ?_
  unfold wX12_clauseHere_89
  rw [if_neg d1, if_neg d2, if_neg d3, if_neg d4] at h2
  exact sw_t rfl (m_fails (by rw [f19.2 14 (by decide)]; exact h14) 0 p _ (fun N3 f3 _ g => h2 _ rfl N3 (fK_trans (fK_1 f19) (fK_3 f3)) g))
