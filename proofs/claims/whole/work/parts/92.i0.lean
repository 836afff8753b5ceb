-- PURE: images
theorem cpy_j {f g : Nat → Int32} {n j : Nat} (h : j < n) : va_cpy f g 0 0 n j = f j := by
  rw [pk_cpy_in (by omega) (by omega)]
  congr 1
  omega
theorem c_copyC {s : Nat → Int32} (hw : wfS s) {A B : gS} (h : relC s B) (Q : gS → gS → Prop) (hQ : ∀ N, relC s N → Q N B) : wX1_copyFrom A B Q := by
  have b0 : aN s 0 ≤ 4 := hw.b 0 rfl
  have b1 : aN s 1 ≤ 4 := hw.b 1 rfl
  unfold wX1_copyFrom
  intro x1 h1 N2 h2 x3 h3 N4 h4 x5 h5 N6 h6 N7 h7 N8 h8 N9 h9
  obtain ⟨c0, c1, c2, c3, c4⟩ := h
  refine hQ N9 ⟨?_, ?_, ?_, fun j hj => ?_, fun j hj => ?_⟩
  · rw [← c0, ← h1, h9, h8, h7, h6, h4, h2]; rfl
  · rw [← c1, ← h3, h9, h8, h7, h6, h4]; rfl
  · rw [← c2, ← h5, h9, h8, h7, h6]; rfl
  · have e : ma N9 1 = va_cpy (ma B 1) (ma N6 1) 0 0 4 := by rw [h9, h8, h7]; rfl
    rw [e, cpy_j (by omega)]; exact c3 j hj
  · have e : ma N9 3 = va_cpy (ma B 3) (ma N7 3) 0 0 4 := by rw [h9, h8]; rfl
    rw [e, cpy_j (by omega)]; exact c4 j hj
theorem c_copyQ {s : Nat → Int32} (hw : wfS s) {A B : gS} (h : relQ s B) (Q : gS → gS → Prop) (hQ : ∀ N, relQ s N → mg N 6 = mg B 6 → Q N B) : wX6_copyFrom A B Q := by
  have b3 : aN s 3 ≤ 1 := hw.b 3 rfl
  unfold wX6_copyFrom
  intro x1 h1
  obtain ⟨q0, q1, q2, q3, q4, q5⟩ := h
  have eb : ∃ b : Bool, x1 = bI b := by
    rw [h1, q0, hw.n 3 rfl]
    rcases (show aN s 3 = 0 ∨ aN s 3 = 1 by omega) with c | c
    · exact ⟨false, by rw [c]; rfl⟩
    · exact ⟨true, by rw [c]; rfl⟩
  obtain ⟨b, hb⟩ := eb
  refine ⟨b, hb, ?_⟩
  intro N3 h3 x4 h4 N5 h5 x6 h6 N7 h7 x8 h8 N9 h9 x10 h10 N11 h11 x12 h12 N13 h13 x14 h14 N15 h15 N16 h16 N17 h17 N18 h18
  refine hQ N18 ⟨?_, fun z => ⟨?_, ?_, ?_, ?_⟩, ?_, fun j hj => ?_, fun z j hj => ?_, fun j hj => ?_⟩ ?_
  · rw [← q0, ← h1, h18, h17, h16, h15, h13, h11, h9, h7, h5, h3]; rfl
  · rw [← (q1 z).1, ← h4, h18, h17, h16, h15, h13, h11, h9, h7, h5]; rfl
  · rw [← (q1 z).2.1, ← h6, h18, h17, h16, h15, h13, h11, h9, h7]; rfl
  · rw [← (q1 z).2.2.1, ← h8, h18, h17, h16, h15, h13, h11, h9]; rfl
  · rw [← (q1 z).2.2.2, ← h10, h18, h17, h16, h15, h13, h11]; rfl
  · rw [← q2, ← h12, h18, h17, h16, h15, h13]; rfl
  · have e : ma N18 7 = va_cpy (ma B 7) (ma N15 7) 0 0 2 := by rw [h18, h17, h16]; rfl
    rw [e, cpy_j hj]; exact q3 j hj
  · have e : ma N18 8 = va_cpy (ma B 8) (ma N16 8) 0 0 2 := by rw [h18, h17]; rfl
    rw [e, cpy_j hj]; exact q4 z j hj
  · have e : ma N18 9 = va_cpy (ma B 9) (ma N17 9) 0 0 2 := by rw [h18]; rfl
    rw [e, cpy_j hj]; exact q5 j hj
  · rw [← h14, h18, h17, h16, h15]; rfl
theorem c_copyO {s : Nat → Int32} (hw : wfS s) {A B : gS} (h : relO s B) (Q : gS → gS → Prop) (hQ : ∀ N, relO s N → Q N B) : wX4_copyFrom A B Q := by
  have b10 : aN s 10 ≤ 6 := hw.b 10 rfl
  unfold wX4_copyFrom
  intro x1 h1 N2 h2 N3 h3 N4 h4
  refine hQ N4 ⟨?_, fun j hj => ?_⟩
  · rw [← h.1, ← h1, h4, h3, h2]; rfl
  · have e1 : ma N4 1 = va_cpy (ma B 1) (ma N2 1) 0 0 6 := by rw [h4, h3]; rfl
    have e2 : ma N4 2 = va_cpy (ma B 2) (ma N3 2) 0 0 6 := by rw [h4]; rfl
    rw [e1, e2, cpy_j (by omega), cpy_j (by omega)]
    exact h.2 j hj
theorem c_copyS {s : Nat → Int32} (hw : wfS s) {A1 A2 A3 A4 B1 B2 B3 B4 : gS} (h : relS s B1 B2 B3 B4) (Q : gS → gS → gS → gS → gS → gS → gS → gS → Prop) (hQ : ∀ N1 N2 N3 N4, relS s N1 N2 N3 N4 → Q N1 N2 N3 N4 B1 B2 B3 B4) : wX10_copyFrom A1 A2 A3 A4 B1 B2 B3 B4 Q := by
  obtain ⟨hW, hC, hq, hO⟩ := h
  unfold wX10_copyFrom
  refine c_copyC hw hC _ (fun N2 r2 => c_copyQ hw hq _ (fun N3 r3 _ => c_copyO hw hO _ (fun N4 r4 => ?_)))
  intro x10 h10 N11 h11 x12 h12 N13 h13 x14 h14 N15 h15
  refine hQ N15 N2 N3 N4 ⟨⟨fun j hj => ?_, ?_⟩, r2, r3, r4⟩
  · have e : ma N15 3 = upd (upd (ma A1 3) 0 x10) 1 x12 := by rw [h15, h13, h11]; rfl
    rw [e, ← hW.1 j hj]
    rcases (show j = 0 ∨ j = 1 by omega) with rfl | rfl
    · rw [h10]; rfl
    · rw [h12]; rfl
  · rw [← hW.2, ← h14, h15]; rfl
theorem row_ext {s u : Nat → Int32} (he : ∀ j, j < 44 → u j = s j) : (goodS s → goodS u) ∧ (∀ M1 M2 M3 M4, wfS s → relS s M1 M2 M3 M4 → relS u M1 M2 M3 M4) := by
  have ha : ∀ j, j < 44 → aN u j = aN s j := fun j h => by unfold aN; rw [he j h]
  refine ⟨fun ⟨hw, hs⟩ => ⟨⟨fun k hk => ?_, fun j hj => ?_, fun j hj => ?_, fun j hj => ?_, fun j hj => ?_⟩, fun z => ?_⟩, fun M1 M2 M3 M4 hw ⟨hW, hC, hq, hO⟩ => ⟨?_, ?_, ?_, ?_⟩⟩
  · have h44 : k < 44 := by
      unfold isB at hk
      rw [Bool.and_eq_true, decide_eq_true_eq] at hk
      exact hk.1
    rw [he k h44, ha k h44]; exact hw.1 k hk
  · rw [ha _ (by omega)]; exact hw.2.1 j hj
  · have b1 : aN s 1 ≤ 4 := hw.b 1 rfl
    rw [ha 1 (by omega)] at hj
    rw [ha _ (by omega)]; exact hw.2.2.1 j hj
  · have b0 : aN s 0 ≤ 4 := hw.b 0 rfl
    rw [ha 0 (by omega)] at hj
    rw [ha _ (by omega), ha _ (by omega)]; exact hw.2.2.2.1 j hj
  · have b0 : aN s 10 ≤ 6 := hw.b 10 rfl
    rw [ha 10 (by omega)] at hj
    rw [ha _ (by omega)]; exact hw.2.2.2.2 j hj
  · rw [he 3 (by omega)] at z
    exact on_keep (hs z) (fun j hj => he j (by omega))
  · exact relW_keep hW ⟨he _ (by omega), he _ (by omega), he _ (by omega)⟩
  · exact relC_keep hw hC (fun k hk => he k (by unfold isCr at hk; omega))
  · exact relQ_keep hq (fun k hk => he k (by omega))
  · have b10 : aN s 10 ≤ 6 := hw.b 10 rfl
    refine ⟨by rw [he 10 (by omega)]; exact hO.1, fun j hj => ?_⟩
    rw [ha 10 (by omega)] at hj
    rw [he _ (by omega), he _ (by omega)]; exact hO.2 j hj
/-- image k of the reference -/
def imRow (M : gS) (k : Nat) : Nat → Int32 := fun i => ma M 35 (44 * k + i)
def imgF (M : gS) (k n : Nat) : Nat → Int32 := fun i => if 44 * k ≤ i ∧ i < 44 * k + n then ma M 25 (i - 44 * k) else ma M 35 i
def imgM (M : gS) (k : Nat) : gS := sF (sa M 36 k 1) 35 (imgF M k 44)
theorem m_image_l {M : gS} {k : Nat} (hk : k < 4) (Q : Int32 → gS → Prop) (hQ : Q (ma M 25 18 + ma M 25 19) (imgM M k)) : ∀ n j, j + n = 44 → wX12_image_23 Q (n + 1) (nI k) (nI j) (sF (sa M 36 k 1) 35 (imgF M k j)) := by
  intro n
  induction n with
  | zero =>
    intro j hj
    rw [wX12_image_23]
    refine sw_t (nI_le (a := 44) (by omega) (by omega)) ?_
    rw [show j = 44 by omega]
    exact hQ
  | succ n ih =>
    intro j hj
    have e : (44 : Int32) * nI k + nI j = nI (44 * k + j) := by
      rw [show (44 : Int32) = nI 44 from rfl, pk_mul, nI_add]
    rw [wX12_image_23, e, nI_clamp (by omega), nI_clamp (by omega)]
    refine sw_f (nI_ge (b := 44) (by omega) (by omega)) ⟨vp_in_nI (by omega) (by decide), fun x2 h2 => ⟨vp_in_nI (by omega) (by decide), fun M3 h3 x4 h4 => ?_⟩⟩
    have e3 : M3 = sF (sa M 36 k 1) 35 (imgF M k (j + 1)) := by
      have h2' : x2 = ma M 25 j := h2
      rw [h3, h2']
      show sF (sF (sa M 36 k 1) 35 (imgF M k j)) 35 (upd (ma (sF (sa M 36 k 1) 35 (imgF M k j)) 35) (44 * k + j) (ma M 25 j)) = _
      rw [ma_sF1, sF_sF]
      congr 1
      funext i
      rw [upd_at]
      unfold imgF
      by_cases c : i = 44 * k + j
      · rw [if_pos c, if_pos (by omega), show i - 44 * k = j by omega]
      · rw [if_neg c]
        by_cases d : 44 * k ≤ i ∧ i < 44 * k + j
        · rw [if_pos d, if_pos (by omega)]
        · rw [if_neg d, if_neg (by omega)]
    rw [e3, h4, nI_1]
    exact ih (j + 1) (by omega)
theorem m_image {M : gS} {k : Nat} (hk : k < 4) (Q : Int32 → gS → Prop) (hQ : Q (ma M 25 18 + ma M 25 19) (imgM M k)) : wX12_image (nI k) M Q := by
  unfold wX12_image
  refine m_in_t (lo := 0) (hi := 3) (by decide) (by decide) (nI_pos' (by omega)) (nI_le (b := 3) (by omega) (by omega)) (bw_t ⟨vp_in_nI hk (by decide), fun M5 h5 => ⟨45, ?_⟩⟩)
  rw [nI_clamp (by omega)] at h5
  have e0 : imgF M k 0 = ma M 35 := by
    funext i; unfold imgF; rw [if_neg (by omega)]
  have e5 : M5 = sF (sa M 36 k 1) 35 (imgF M k 0) := by
    rw [h5, e0, show vp_nar .boolean 1 = 1 from rfl]
    exact (sF_self (sa M 36 k 1) 35).symm
  rw [e5]
  exact m_image_l hk Q hQ 44 0 (by omega)
theorem m_image_f {M : gS} {p : Int32} (hp : ¬ (0 ≤ p ∧ p ≤ 3)) (Q : Int32 → gS → Prop) (hQ : Q (-1) M) : wX12_image p M Q := m_in_f (lo := 0) (hi := 3) (by decide) (by decide) hp (bw_f hQ)
def bkF (M : gS) (k n : Nat) : Nat → Int32 := fun i => if i < n then ma M 35 (44 * k + i) else ma M 25 i
theorem m_back_l {M : gS} {k : Nat} (hk : k < 4) (Q : Int32 → gS → Prop) (hQ : Q (bkF M k 44 18 + bkF M k 44 19) (sF M 25 (bkF M k 44))) : ∀ n j, j + n = 44 → wX12_back_25 Q (n + 1) (nI k) (nI j) (sF M 25 (bkF M k j)) := by
  intro n
  induction n with
  | zero =>
    intro j hj
    rw [wX12_back_25]
    refine sw_t (nI_le (a := 44) (by omega) (by omega)) ?_
    rw [show j = 44 by omega, ma_sF1]
    exact hQ
  | succ n ih =>
    intro j hj
    have e : (44 : Int32) * nI k + nI j = nI (44 * k + j) := by
      rw [show (44 : Int32) = nI 44 from rfl, pk_mul, nI_add]
    rw [wX12_back_25, e, nI_clamp (by omega), nI_clamp (by omega)]
    refine sw_f (nI_ge (b := 44) (by omega) (by omega)) ⟨vp_in_nI (by omega) (by decide), fun x2 h2 => ⟨vp_in_nI (by omega) (by decide), fun M3 h3 x4 h4 => ?_⟩⟩
    have e3 : M3 = sF M 25 (bkF M k (j + 1)) := by
      have h2' : x2 = ma M 35 (44 * k + j) := h2
      rw [h3, h2', sa_25, ma_sF1, sF_sF]
      congr 1
      funext i
      rw [upd_at]
      unfold bkF
      by_cases c : i = j
      · rw [if_pos c, if_pos (by omega), c]
      · rw [if_neg c]
        by_cases d : i < j
        · rw [if_pos d, if_pos (by omega)]
        · rw [if_neg d, if_neg (by omega)]
    rw [e3, h4, nI_1]
    exact ih (j + 1) (by omega)
theorem m_back {M : gS} {k : Nat} (hk : k < 4) (hm : ¬ ma M 36 k = 0) (Q : Int32 → gS → Prop) (hQ : Q (bkF M k 44 18 + bkF M k 44 19) (sF M 25 (bkF M k 44))) : wX12_back (nI k) M Q := by
  unfold wX12_back
  refine m_in_t (lo := 0) (hi := 3) (by decide) (by decide) (nI_pos' (by omega)) (nI_le (b := 3) (by omega) (by omega)) (bw_t ⟨vp_in_nI hk (by decide), ?_⟩)
  rw [nI_clamp (by omega)]
  refine sw_f hm ⟨45, ?_⟩
  have e0 : bkF M k 0 = ma M 25 := by
    funext i; unfold bkF; rw [if_neg (by omega)]
  have := m_back_l hk Q hQ 44 0 (by omega)
  rw [e0, sF_self] at this
  exact this
theorem m_back_n {M : gS} {k : Nat} (hk : k < 4) (hm : ma M 36 k = 0) (Q : Int32 → gS → Prop) (hQ : Q (-1) M) : wX12_back (nI k) M Q := by
  unfold wX12_back
  refine m_in_t (lo := 0) (hi := 3) (by decide) (by decide) (nI_pos' (by omega)) (nI_le (b := 3) (by omega) (by omega)) (bw_t ⟨vp_in_nI hk (by decide), ?_⟩)
  rw [nI_clamp (by omega)]
  exact sw_t hm hQ
theorem m_back_f {M : gS} {p : Int32} (hp : ¬ (0 ≤ p ∧ p ≤ 3)) (Q : Int32 → gS → Prop) (hQ : Q (-1) M) : wX12_back p M Q := m_in_f (lo := 0) (hi := 3) (by decide) (by decide) hp (bw_f hQ)
/-- one image: not made, or made and beside the reference's -/
def imR (M : gS) (k : Nat) (o : Option Nat) (A1 A2 A3 A4 : gS) : Prop := (ma M 36 k = 0 ∧ o = none) ∨ (¬ ma M 36 k = 0 ∧ o ≠ none ∧ goodS (imRow M k) ∧ relS (imRow M k) A1 A2 A3 A4)
theorem img_row {M : gS} {k : Nat} {j : Nat} (hj : j < 44) : imRow (imgM M k) k j = ma M 25 j := by
  show imgF M k 44 (44 * k + j) = _
  unfold imgF
  rw [if_pos (by omega), show 44 * k + j - 44 * k = j by omega]
theorem img_other {M : gS} {k i : Nat} (h : i ≠ k) {o : Option Nat} {A1 A2 A3 A4 : gS} (hr : imR M i o A1 A2 A3 A4) : imR (imgM M k) i o A1 A2 A3 A4 := by
  have e1 : ma (imgM M k) 36 i = ma M 36 i := by
    show upd (ma M 36) k 1 i = _
    rw [upd_at, if_neg h]
  rcases hr with ⟨a, b⟩ | ⟨a, b, c, d⟩
  · exact Or.inl ⟨by rw [e1]; exact a, b⟩
  · have e2 : ∀ j, j < 44 → imRow (imgM M k) i j = imRow M i j := by
      intro j hj
      show imgF M k 44 (44 * i + j) = ma M 35 (44 * i + j)
      unfold imgF
      rw [if_neg (by omega)]
    exact Or.inr ⟨by rw [e1]; exact a, b, (row_ext e2).1 c, (row_ext e2).2 _ _ _ _ c.1 d⟩
theorem img_this {M : gS} {k : Nat} (hg : goodS (ma M 25)) {h : Nat} {A1 A2 A3 A4 : gS} (hr : relS (ma M 25) A1 A2 A3 A4) : imR (imgM M k) k (some h) A1 A2 A3 A4 := by
  have e1 : ma (imgM M k) 36 k = 1 := by
    show upd (ma M 36) k 1 k = _
    rw [upd_at, if_pos rfl]
  exact Or.inr ⟨by rw [e1]; decide, by simp, (row_ext (fun j hj => img_row hj)).1 hg, (row_ext (fun j hj => img_row hj)).2 _ _ _ _ hg.1 hr⟩
theorem c_imageold {s : Nat → Int32} (hw : wfS s) {M0 M1 M2 M3 M4 M5 M6 M7 M8 M9 A1 A2 A3 A4 : gS} {F10 : oF} {h11 k : Nat} (hk : k < 4) (hF : F10 k = some h11) (hr : relS s M1 M2 M3 M4) (Q : Int32 → gS → gS → gS → gS → gS → gS → gS → gS → gS → gS → oF → gS → gS → gS → gS → Prop) (hQ : ∀ N1 N2 N3 N4, relS s N1 N2 N3 N4 → Q (s 18 + s 19) M0 M1 M2 M3 M4 M5 M6 M7 M8 M9 F10 N1 N2 N3 N4) : wX11_imageold h11 (nI k) M0 M1 M2 M3 M4 M5 M6 M7 M8 M9 F10 A1 A2 A3 A4 Q := by
  unfold wX11_imageold
  rw [nI_clamp (by omega)]
  refine sw_f (nI_pos (by omega)) (sw_t (nI_lt (b := 4) hk (by omega)) ⟨vp_in_nI hk (by decide), hF, vp_in_nI hk (by decide), hF, c_copyS hw hr _ (fun N1 N2 N3 N4 hN => ?_)⟩)
  unfold wX10_allWon
  rw [hr.1.1 0 (by omega), hr.1.1 1 (by omega)]
  exact hQ N1 N2 N3 N4 hN
theorem c_imagenew {s : Nat → Int32} (hw : wfS s) {M0 M1 M2 M3 M4 M5 M6 M7 M8 M9 : gS} {F10 : oF} {k : Nat} (hk : k < 4) (hF : F10 k = none) (hr : relS s M1 M2 M3 M4) (Q : Int32 → gS → gS → gS → gS → gS → gS → gS → gS → gS → gS → oF → gS → gS → gS → gS → Prop) (hQ : ∀ h11 N1 N2 N3 N4, relS s N1 N2 N3 N4 → Q (s 18 + s 19) M0 M1 M2 M3 M4 M5 M6 M7 M8 M9 (va_up F10 k (some h11)) N1 N2 N3 N4) : wX11_imagenew (nI k) M0 M1 M2 M3 M4 M5 M6 M7 M8 M9 F10 Q := by
  unfold wX11_imagenew
  rw [nI_clamp (by omega)]
  refine sw_f (nI_pos (by omega)) (sw_t (nI_lt (b := 4) hk (by omega)) ⟨vp_in_nI hk (by decide), hF, fun h11 => ⟨vp_in_nI hk (by decide), fun v8 h8 => ⟨vp_in_nI hk (by decide), by rw [h8]; unfold va_up; rw [if_pos rfl], c_copyS hw hr _ (fun N1 N2 N3 N4 hN => ?_)⟩⟩⟩)
  unfold wX10_allWon
  rw [hr.1.1 0 (by omega), hr.1.1 1 (by omega), h8]
  exact hQ h11 N1 N2 N3 N4 hN
theorem c_backold {s : Nat → Int32} (hw : wfS s) {M0 M1 M2 M3 M4 M5 M6 M7 M8 M9 A1 A2 A3 A4 : gS} {F10 : oF} {h11 k : Nat} (hk : k < 4) (hF : F10 k = some h11) (hr : relS s A1 A2 A3 A4) (Q : Int32 → gS → gS → gS → gS → gS → gS → gS → gS → gS → gS → oF → gS → gS → gS → gS → Prop) (hQ : ∀ N1 N2 N3 N4, relS s N1 N2 N3 N4 → Q (s 18 + s 19) M0 N1 N2 N3 N4 M5 M6 M7 M8 M9 F10 A1 A2 A3 A4) : wX11_backold h11 (nI k) M0 M1 M2 M3 M4 M5 M6 M7 M8 M9 F10 A1 A2 A3 A4 Q := by
  unfold wX11_backold
  rw [nI_clamp (by omega)]
  refine sw_f (nI_pos (by omega)) (sw_f (nI_ge (b := 4) hk (by omega)) ⟨vp_in_nI hk (by decide), hF, vp_in_nI hk (by decide), hF, c_copyS hw hr _ (fun N1 N2 N3 N4 hN => ?_)⟩)
  unfold wX10_allWon
  rw [hN.1.1 0 (by omega), hN.1.1 1 (by omega)]
  exact hQ N1 N2 N3 N4 hN
