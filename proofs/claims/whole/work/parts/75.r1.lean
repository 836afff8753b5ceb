theorem wfS_upd {s : Nat → Int32} (hw : wfS s) {k : Nat} {v : Int32} (hv : isB k = true → 0 ≤ v ∧ v.toNatClampNeg ≤ bnd k) (h1 : 1 < k) (h2 : k < 20) (h3 : k ≠ 10) (h4 : k ≠ 14) (h5 : k ≠ 15) : wfS (upd s k v) := by
  have keep : ∀ j, j ≠ k → aN (upd s k v) j = aN s j := fun j h => by rw [aN_upd, if_neg h]
  refine ⟨wf_upd hw.1 hv, fun j hj => ?_, fun j hj => ?_, fun j hj => ?_, fun j hj => ?_⟩
  · rw [keep _ (by omega)]; exact hw.2.1 j hj
  · rw [keep _ (by omega)] at hj; rw [keep _ (by omega)]; exact hw.2.2.1 j hj
  · rw [keep _ (by omega)] at hj; rw [keep _ (by omega), keep _ (by omega)]; exact hw.2.2.2.1 j hj
  · rw [keep _ (by omega)] at hj; rw [keep _ (by omega)]; exact hw.2.2.2.2 j hj
theorem end_wf {s : Nat → Int32} (hw : wfS s) : wfS (endS s) := by
  have hl := winN_le hw
  unfold endS
  refine wfS_upd (wfS_upd hw (fun _ => nI_ok (n := 0) (b := 1) (by omega) (by decide)) (by omega) (by omega) (by omega) (by omega) (by omega)) (fun h => ?_) (by omega) (by omega) (by omega) (by omega) (by omega)
  have : ∀ t, t < 2 → isB (18 + t) = true → False := by decide
  exact (this _ (by omega) h).elim
theorem end_3 {s : Nat → Int32} : endS s 3 = 0 := by
  unfold endS
  rw [upd_at, if_neg (by omega), upd_at, if_pos rfl]
theorem end_keep {s : Nat → Int32} (hw : wfS s) {j : Nat} (h1 : j ≠ 3) (h2 : j ≠ 18) (h3 : j ≠ 19) : endS s j = s j := by
  have hl := winN_le hw
  unfold endS
  rw [upd_at, if_neg (by omega), upd_at, if_neg h1]
theorem end_good {s : Nat → Int32} (hw : wfS s) : goodS (endS s) :=
  ⟨end_wf hw, fun z => by rw [end_3] at z; exact absurd z (by decide)⟩
theorem on_keep {s u : Nat → Int32} (h : onS s) (hk : ∀ j, j = 0 ∨ j = 1 ∨ j = 4 ∨ j = 6 ∨ j = 8 ∨ j = 14 ∨ j = 15 → u j = s j) : onS u := by
  have ha : ∀ j, j = 0 ∨ j = 1 ∨ j = 4 ∨ j = 6 ∨ j = 8 ∨ j = 14 ∨ j = 15 → aN u j = aN s j := fun j hj => by unfold aN; rw [hk j hj]
  obtain ⟨h1, h2, h3, h4⟩ := h
  refine ⟨?_, ?_, fun j hj => ?_, ?_⟩
  · unfold spk; rw [ha 8 (by omega), ha 6 (by omega)]; exact h1
  · rw [ha 0 (by omega)]; exact h2
  · rw [ha (14 + j) (by omega), ha 1 (by omega)]; exact h3 j hj
  · rw [ha 4 (by omega)]; exact h4
theorem on_throw {s : Nat → Int32} (hw : wfS s) (h : onS s) : onS (throwS s) := by
  have b6 : aN s 6 ≤ 1 := hw.b 6 rfl
  exact on_keep h (fun j hj => throw_keep hw (by omega) (by omega) (by omega) (by omega))
theorem on_say {s : Nat → Int32} (hw : wfS s) (h : onS s) {w : Nat} (h4 : w < 4) (hc : w < aN s 1) : onS (sayS s w) := by
  have b6 : aN s 6 ≤ 1 := hw.b 6 rfl
  obtain ⟨h1, h2, h3, h5⟩ := h
  have ka : ∀ j, j ≠ 5 → j ≠ 14 + aN s 6 → j ≠ 16 + aN s 6 → j ≠ 8 → j ≠ 6 → j ≠ 7 → aN (sayS s w) j = aN s j := fun j a b c d e f => by
    have := say_keep (s := s) (w := w) a b c d e f
    unfold aN at this ⊢; rw [this]
  refine ⟨say_spk hw, ?_, fun j hj => ?_, ?_⟩
  · rw [ka 0 (by omega) (by omega) (by omega) (by omega) (by omega) (by omega)]; exact h2
  · rw [ka 1 (by omega) (by omega) (by omega) (by omega) (by omega) (by omega)]
    by_cases e : j = aN s 6
    · left
      have e14 : sayS s w (14 + j) = nI w := by
        rw [e]; unfold sayS
        rw [upd_at, if_neg (by omega), upd_at, if_neg (by omega), upd_at, if_neg (by omega), upd_at, if_neg (by omega), upd_at, if_pos rfl]
      have : aN (sayS s w) (14 + j) = w := by
        show Int32.toNatClampNeg (sayS s w (14 + j)) = w
        rw [e14, nI_clamp (by omega)]
      omega
    · rw [ka (14 + j) (by omega) (by omega) (by omega) (by omega) (by omega) (by omega)]; exact h3 j hj
  · rw [ka 4 (by omega) (by omega) (by omega) (by omega) (by omega) (by omega)]; exact h5
theorem on_begin {s : Nat → Int32} {v f : Nat} (h0 : 1 ≤ aN s 0) (hv : 1 ≤ v) (hv2 : v ≤ 72) : onS (beginS s v f) := by
  refine ⟨begin_spk, ?_, fun j hj => Or.inr ?_, ?_⟩
  · have e : beginS s v f 0 = s 0 := begin_keep (by omega)
    unfold aN at *; rw [e]; exact h0
  · have e : beginS s v f (14 + j) = 9 := by
      rcases (show j = 0 ∨ j = 1 by omega) with rfl | rfl <;> rfl
    unfold aN; rw [e]; decide
  · have e : beginS s v f 4 = nI v := rfl
    unfold aN; rw [e, nI_clamp (by omega)]; exact hv
theorem verse_pos {s : Nat → Int32} (hw : wfS s) {t : Nat} (ht : t < aN s 0) : 1 ≤ verseN s t := by
  have := hw.2.2.2.1 t ht
  unfold verseN
  exact Nat.mul_le_mul this.1 this.2
theorem look_good {s : Nat → Int32} (hw : wfS s) (hs : onS s) : goodS (lookS s) := by
  unfold lookS
  split
  · exact ⟨hw, fun _ => hs⟩
  · exact end_good hw
theorem relO_keep {s u : Nat → Int32} {M4 : gS} (hw : wfS s) (h : relO s M4) (hk : ∀ k, k = 10 ∨ 32 ≤ k → u k = s k) : relO u M4 := by
  have a : aN u 10 = aN s 10 := by unfold aN; rw [hk 10 (Or.inl rfl)]
  refine ⟨by rw [hk 10 (Or.inl rfl)]; exact h.1, fun j hj => ?_⟩
  rw [a] at hj
  rw [hk _ (Or.inr (by omega)), hk _ (Or.inr (by omega))]
  exact h.2 j hj
theorem relW_keep {s u : Nat → Int32} {M1 : gS} (h : relW s M1) (hk : u 11 = s 11 ∧ u 18 = s 18 ∧ u 19 = s 19) : relW u M1 := by
  refine ⟨fun j hj => ?_, by rw [hk.1]; exact h.2⟩
  rcases (show j = 0 ∨ j = 1 by omega) with rfl | rfl
  · rw [h.1 0 hj]; exact hk.2.1.symm
  · rw [h.1 1 hj]; exact hk.2.2.symm
theorem look_C {s : Nat → Int32} {Mc : gS} (hw : wfS s) (h : relC s Mc) : relC (lookS s) Mc :=
  relC_keep hw h (fun k hk => look_row hw (by unfold isCr at hk; omega) (by unfold isCr at hk; omega) (by unfold isCr at hk; omega))
theorem look_O {s : Nat → Int32} {Mo : gS} (hw : wfS s) (h : relO s Mo) : relO (lookS s) Mo :=
  relO_keep hw h (fun k hk => look_row hw (by omega) (by omega) (by omega))
/-- behind a move -/
theorem c_note {u : Nat → Int32} (hw : wfS u) (hg : u 3 = 1) {M1 M2 N M4 : gS} (hN : postQ u N) (h1 : relW u M1) (h2 : relC u M2) (h4 : relO u M4) (Q : gS → gS → gS → gS → Prop) (h : ∀ N1, relS (lookS u) N1 M2 N M4 → Q N1 M2 N M4) : wX10_noteWinner M1 M2 N M4 Q :=
  q_note u hw hg M1 M2 N M4 hN h1 Q (fun N1 hN1 => h N1 ⟨hN1, look_C hw h2, hN.1, look_O hw h4⟩)
/-- behind the end -/
theorem c_note_end {u : Nat → Int32} (hw : wfS u) {M1 Mc N Mo : gS} (h0 : mg N 0 = 0) (h6 : mg N 6 = nI (winN u)) (h1 : relW u M1) (Q : gS → gS → gS → gS → Prop) (h : ∀ N1, relW (endS u) N1 → Q N1 Mc N Mo) : wX10_noteWinner M1 Mc N Mo Q := by
  have hl := winN_le hw
  have key : wX10_noteWinner_31 Q M1 Mc N Mo := by
    unfold wX10_noteWinner_31
    rw [h6, nI_clamp (by omega)]
    refine ⟨vp_in_nI (by omega) (by decide), fun x hx => ⟨vp_in_nI (by omega) (by decide), fun N2 hN2 => h N2 ?_⟩⟩
    subst hN2
    refine ⟨fun j hj => ?_, ?_⟩
    · have e3 : ma (sa M1 3 (winN u) x) 3 j = upd (ma M1 3) (winN u) x j := rfl
      rw [e3, upd_at]
      unfold endS
      rw [upd_at]
      by_cases hj2 : j = winN u
      · rw [if_pos hj2, if_pos (by omega), hx, h1.1 _ (by omega)]
      · rw [if_neg hj2, if_neg (by omega), upd_at, if_neg (by omega)]
        exact h1.1 j hj
    · have e11 : endS u 11 = u 11 := by unfold endS; rw [upd_at, if_neg (by omega), upd_at, if_neg (by omega)]
      rw [e11]; exact h1.2
  unfold wX10_noteWinner
  rw [h0, h6]
  refine ⟨fun _ => ⟨fun _ => key, fun c => ⟨fun _ => key, fun c2 => ?_⟩⟩, fun c => absurd rfl c⟩
  exfalso
  rw [show (0 : Int32) = nI 0 from rfl, nI_eq (by omega) (by omega)] at c
  rw [show (1 : Int32) = nI 1 from rfl, nI_eq (by omega) (by omega)] at c2
  omega
theorem t_begin {M M0 M1 M2 M3 M4 M5 M6 M7 M8 M9 : gS} (hi : inv M M0 M1 M2 M3 M4 M7) (p1 p2 : Int32) : tieP M (fun Q => wX12_begin p1 p2 M Q) (fun Q => wX11_begin p1 p2 M0 M1 M2 M3 M4 M5 M6 M7 M8 M9 Q) := by
  obtain ⟨⟨hw, hsp⟩, ⟨hW, hC, hq, hO⟩, hT, hB⟩ := id hi
  have b0 : aN (ma M 25) 0 ≤ 4 := hw.b 0 rfl
  have e0 := hw.n 0 rfl
  by_cases c1 : 0 ≤ p1 ∧ p1 < ma M 25 0
  · by_cases c2 : p2 = 0 ∨ p2 = 1
    · obtain ⟨t, ht, rfl⟩ : ∃ t, t < aN (ma M 25) 0 ∧ p1 = nI t := nat_lt (by omega) c1.1 (by rw [← e0]; exact c1.2)
      obtain ⟨f, hf, rfl⟩ := side_nat c2
      have hv := verse_le hw (t := t) (by omega)
      have hwu := begin_wf hw hv hf
      refine tieP_row (M5 := M5) (M6 := M6) (M8 := M8) (M9 := M9) hi (beginS (ma M 25) (verseN (ma M 25) t) f 5) (lookS (beginS (ma M 25) (verseN (ma M 25) t) f)) (look_good hwu (on_begin (by omega) (verse_pos hw ht) hv)) (fun Q h => ?_) (fun Q h => ?_)
      · show wX12_begin (nI t) (nI f) M Q
        unfold wX12_begin
        refine m_in_t (lo := 0) (by decide) rfl c1.1 (by rw [e0]; exact (lt_pred (by omega) _).2 (by rw [← e0]; exact c1.2)) (bw_t ?_)
        refine m_side_t c2 (bw_t ?_)
        refine m_verseOf M hw t (by omega) _ ?_
        refine m_begins M _ f _ ?_
        refine m_looks _ (by rw [ma_sF1]; exact hwu) _ ?_
        rw [lookM_row, ma_sF1, look_row hwu (by decide) (by decide) (by decide)]
        exact h _ (eq_look _ _)
      · show wX11_begin (nI t) (nI f) M0 M1 M2 M3 M4 M5 M6 M7 M8 M9 Q
        unfold wX11_begin
        refine q_hasTune (ma M 25) hw M2 hC _ _ ?_
        rw [decide_eq_true c1.1, decide_eq_true c1.2]
        refine bw_t (c_side_t c2 (bw_t ?_))
        refine q_start (ma M 25) hw M3 M2 hC hq.2.2.1 hq.2.2.2.1 t ht f hf _ (fun N hN => ?_)
        refine c_note hwu rfl hN (relW_keep hW ⟨begin_keep (by omega), begin_keep (by omega), begin_keep (by omega)⟩) (begin_C hw hC) (relO_keep hw hO (fun k hk => begin_keep (by omega))) _ (fun N1 hr => ?_)
        rw [hN.2.2.1]
        exact h _ _ _ _ hr
    · refine tieP_same (M5 := M5) (M6 := M6) (M8 := M8) (M9 := M9) hi (-1) (fun Q h => ?_) (fun Q h => ?_)
      · show wX12_begin p1 p2 M Q
        unfold wX12_begin
        refine m_in_t (lo := 0) (by decide) rfl c1.1 (by rw [e0]; exact (lt_pred (by omega) _).2 (by rw [← e0]; exact c1.2)) (bw_t ?_)
        exact m_side_f c2 (bw_f (h _ (eqM_refl _)))
      · show wX11_begin p1 p2 M0 M1 M2 M3 M4 M5 M6 M7 M8 M9 Q
        unfold wX11_begin
        refine q_hasTune (ma M 25) hw M2 hC _ _ ?_
        rw [decide_eq_true c1.1, decide_eq_true c1.2]
        exact bw_t (c_side_f c2 (bw_f h))
  · refine tieP_same (M5 := M5) (M6 := M6) (M8 := M8) (M9 := M9) hi (-1) (fun Q h => ?_) (fun Q h => ?_)
    · show wX12_begin p1 p2 M Q
      unfold wX12_begin
      refine m_in_f (lo := 0) (by decide) rfl (fun z => c1 ⟨z.1, ?_⟩) (bw_f (h _ (eqM_refl _)))
      rw [e0]; exact (lt_pred (by omega) _).1 (by rw [← e0]; exact z.2)
    · show wX11_begin p1 p2 M0 M1 M2 M3 M4 M5 M6 M7 M8 M9 Q
      unfold wX11_begin
      refine q_hasTune (ma M 25) hw M2 hC _ _ ?_
      have e : (decide (0 ≤ p1) && decide (p1 < ma M 25 0)) = false := by
        rw [Bool.eq_false_iff]; intro z; rw [Bool.and_eq_true, decide_eq_true_eq, decide_eq_true_eq] at z; exact c1 z
      rw [e]
      exact bw_f h
theorem q_hasWord (s : Nat → Int32) (hw : wfS s) (Mc : gS) (hc : relC s Mc) (p : Int32) (Q : Bool → gS → Prop) (h : Q (decide (0 ≤ p) && decide (p < s 1)) Mc) : wX1_hasWord p Mc Q := by
  have b0 : aN s 1 ≤ 4 := hw.b 1 rfl
  have e0 := hw.n 1 rfl
  have t0 : (s 1).toInt = (aN s 1 : Int) := by rw [e0, nI_toInt (by omega)]
  have z0 : (0 : Int32).toInt = 0 := by decide
  have z4 : (4 : Int32).toInt = 4 := by decide
  unfold wX1_hasWord
  rw [hc.2.1]
  refine ⟨fun c => ?_, fun c => ⟨fun c2 => ?_, fun c2 => ⟨fun c3 => ?_, fun c3 => ?_⟩⟩⟩
  · rw [Int32.lt_iff_toInt_lt, z0] at c
    have e : ¬ (0 : Int32) ≤ p := by rw [Int32.le_iff_toInt_le, z0]; omega
    simpa [e] using h
  · rw [Int32.le_iff_toInt_le, t0] at c2
    have e : ¬ p < s 1 := by rw [Int32.lt_iff_toInt_lt, t0]; omega
    simpa [e] using h
  · rw [Int32.le_iff_toInt_le, z4] at c3
    rw [Int32.le_iff_toInt_le, t0] at c2
    omega
  · rw [Int32.lt_iff_toInt_lt, z0] at c
    rw [Int32.le_iff_toInt_le, t0] at c2
    have e : (0 : Int32) ≤ p := by rw [Int32.le_iff_toInt_le, z0]; omega
    have e2 : p < s 1 := by rw [Int32.lt_iff_toInt_lt, t0]; omega
    simpa [e, e2] using h
theorem t_speak {M M0 M1 M2 M3 M4 M5 M6 M7 M8 M9 : gS} (hi : inv M M0 M1 M2 M3 M4 M7) (p1 : Int32) : tieP M (fun Q => wX12_speak p1 M Q) (fun Q => wX11_speak p1 M0 M1 M2 M3 M4 M5 M6 M7 M8 M9 Q) := by
  obtain ⟨⟨hw, hsp⟩, ⟨hW, hC, hq, hO⟩, hT, hB⟩ := id hi
  have b1 : aN (ma M 25) 1 ≤ 4 := hw.b 1 rfl
  have b6 : aN (ma M 25) 6 ≤ 1 := hw.b 6 rfl
  have e1 := hw.n 1 rfl
  by_cases c1 : 0 ≤ p1 ∧ p1 < ma M 25 1
  · obtain ⟨w, ht, rfl⟩ : ∃ t, t < aN (ma M 25) 1 ∧ p1 = nI t := nat_lt (by omega) c1.1 (by rw [← e1]; exact c1.2)
    by_cases c2 : ma M 25 3 = 1 ∧ canSayN (ma M 25) w = true
    · have hwu := say_wf hw (w := w) (by omega)
      refine tieP_row (M5 := M5) (M6 := M6) (M8 := M8) (M9 := M9) hi (sayS (ma M 25) w 5) (lookS (sayS (ma M 25) w)) (look_good hwu (on_say hw (hsp c2.1) (by omega) ht)) (fun Q h => ?_) (fun Q h => ?_)
      · show wX12_speak (nI w) M Q
        unfold wX12_speak
        refine m_in_t (lo := 0) (by decide) rfl c1.1 (by rw [e1]; exact (lt_pred (by omega) _).2 (by rw [← e1]; exact c1.2)) (bw_t ?_)
        refine m_goes_t c2.1 (bw_t ?_)
        refine m_canSay M hw w (by omega) _ ?_
        rw [c2.2]
        refine bw_t (m_says M hw w (by omega) c2.2 _ ?_)
        rw [lookM_row, ma_sF1, look_row hwu (by decide) (by decide) (by decide)]
        exact h _ (eq_look _ _)
      · show wX11_speak (nI w) M0 M1 M2 M3 M4 M5 M6 M7 M8 M9 Q
        unfold wX11_speak
        refine q_hasWord (ma M 25) hw M2 hC _ _ ?_
        rw [decide_eq_true c1.1, decide_eq_true c1.2]
        refine bw_t (q_maySay (ma M 25) hw M3 M2 hq hC w (by omega) _ ?_)
        rw [decide_eq_true c2.1, c2.2]
        refine bw_t (q_say (ma M 25) hw M3 M2 hq hC c2.1 w (by omega) c2.2 _ (fun N hN => ?_))
        refine c_note hwu (by rw [say_keep (by omega) (by omega) (by omega) (by omega) (by omega) (by omega)]; exact c2.1) hN (relW_keep hW ⟨say_keep (by omega) (by omega) (by omega) (by omega) (by omega) (by omega), say_keep (by omega) (by omega) (by omega) (by omega) (by omega) (by omega), say_keep (by omega) (by omega) (by omega) (by omega) (by omega) (by omega)⟩) (say_C hw hC) (relO_keep hw hO (fun k hk => say_keep (by omega) (by omega) (by omega) (by omega) (by omega) (by omega))) _ (fun N1 hr => ?_)
        rw [hN.2.2.1]
        exact h _ _ _ _ hr
    · refine tieP_same (M5 := M5) (M6 := M6) (M8 := M8) (M9 := M9) hi (-2) (fun Q h => ?_) (fun Q h => ?_)
      · show wX12_speak (nI w) M Q
        unfold wX12_speak
        refine m_in_t (lo := 0) (by decide) rfl c1.1 (by rw [e1]; exact (lt_pred (by omega) _).2 (by rw [← e1]; exact c1.2)) (bw_t ?_)
        by_cases g : ma M 25 3 = 1
        · refine m_goes_t g (bw_t (m_canSay M hw w (by omega) _ ?_))
          rw [show canSayN (ma M 25) w = false from Bool.eq_false_iff.2 (fun z => c2 ⟨g, z⟩)]
          exact bw_f (h _ (eqM_refl _))
        · exact m_goes_f g (bw_f (h _ (eqM_refl _)))
      · show wX11_speak (nI w) M0 M1 M2 M3 M4 M5 M6 M7 M8 M9 Q
        unfold wX11_speak
        refine q_hasWord (ma M 25) hw M2 hC _ _ ?_
        rw [decide_eq_true c1.1, decide_eq_true c1.2]
        refine bw_t (q_maySay (ma M 25) hw M3 M2 hq hC w (by omega) _ ?_)
        rw [show (decide (ma M 25 3 = 1) && canSayN (ma M 25) w) = false by
          rw [Bool.eq_false_iff]; intro z; rw [Bool.and_eq_true, decide_eq_true_eq] at z; exact c2 z]
        exact bw_f h
  · refine tieP_same (M5 := M5) (M6 := M6) (M8 := M8) (M9 := M9) hi (-1) (fun Q h => ?_) (fun Q h => ?_)
    · show wX12_speak p1 M Q
      unfold wX12_speak
      refine m_in_f (lo := 0) (by decide) rfl (fun z => c1 ⟨z.1, ?_⟩) (bw_f (h _ (eqM_refl _)))
      rw [e1]; exact (lt_pred (by omega) _).1 (by rw [← e1]; exact z.2)
    · show wX11_speak p1 M0 M1 M2 M3 M4 M5 M6 M7 M8 M9 Q
      unfold wX11_speak
      refine q_hasWord (ma M 25) hw M2 hC _ _ ?_
      have e : (decide (0 ≤ p1) && decide (p1 < ma M 25 1)) = false := by
        rw [Bool.eq_false_iff]; intro z; rw [Bool.and_eq_true, decide_eq_true_eq, decide_eq_true_eq] at z; exact c1 z
      rw [e]
      exact bw_f h
theorem t_toss {M M0 M1 M2 M3 M4 M5 M6 M7 M8 M9 : gS} (hi : inv M M0 M1 M2 M3 M4 M7) : tieP M (fun Q => wX12_toss M Q) (fun Q => wX11_toss M0 M1 M2 M3 M4 M5 M6 M7 M8 M9 Q) := by
  obtain ⟨⟨hw, hsp⟩, ⟨hW, hC, hq, hO⟩, hT, hB⟩ := id hi
  have b6 : aN (ma M 25) 6 ≤ 1 := hw.b 6 rfl
  by_cases c2 : ma M 25 3 = 1 ∧ canThrowN (ma M 25) = true
  · have hwu := throw_wf hw c2.2
    refine tieP_row (M5 := M5) (M6 := M6) (M8 := M8) (M9 := M9) hi (throwS (ma M 25) 5) (lookS (throwS (ma M 25))) (look_good hwu (on_throw hw (hsp c2.1))) (fun Q h => ?_) (fun Q h => ?_)
    · refine m_toss M hw Q ?_
      rw [if_pos c2, lookM_row, ma_sF1, look_row hwu (by decide) (by decide) (by decide)]
      exact h _ (eq_look _ _)
    · show wX11_toss M0 M1 M2 M3 M4 M5 M6 M7 M8 M9 Q
      unfold wX11_toss
      refine q_mayThrow (ma M 25) hw M3 hq _ ?_
      rw [decide_eq_true c2.1, c2.2]
      refine bw_t (q_throwPenny (ma M 25) hw (hsp c2.1).1 M3 M2 hq hC c2.1 c2.2 _ (fun N hN => ?_))
      refine c_note hwu (by rw [throw_keep hw (by omega) (by omega) (by omega) (by omega)]; exact c2.1) hN (relW_keep hW ⟨throw_keep hw (by omega) (by omega) (by omega) (by omega), throw_keep hw (by omega) (by omega) (by omega) (by omega), throw_keep hw (by omega) (by omega) (by omega) (by omega)⟩) (throw_C hw hC) (relO_keep hw hO (fun k hk => throw_keep hw (by omega) (by omega) (by omega) (by omega))) _ (fun N1 hr => ?_)
      rw [hN.2.2.1]
      exact h _ _ _ _ hr
  · refine tieP_same (M5 := M5) (M6 := M6) (M8 := M8) (M9 := M9) hi (-2) (fun Q h => ?_) (fun Q h => ?_)
    · refine m_toss M hw Q ?_
      rw [if_neg c2]
      exact h _ (eqM_refl _)
    · show wX11_toss M0 M1 M2 M3 M4 M5 M6 M7 M8 M9 Q
      unfold wX11_toss
      refine q_mayThrow (ma M 25) hw M3 hq _ ?_
      rw [show (decide (ma M 25 3 = 1) && canThrowN (ma M 25)) = false by
        rw [Bool.eq_false_iff]; intro z; rw [Bool.and_eq_true, decide_eq_true_eq] at z; exact c2 z]
      exact bw_f h
theorem goes_n {s : Nat → Int32} (hw : wfS s) (h : ¬ s 3 = 1) : s 3 = 0 := by
  have b3 : aN s 3 ≤ 1 := hw.b 3 rfl
  have e3 := hw.n 3 rfl
  rw [e3] at h ⊢
  rcases (show aN s 3 = 0 ∨ aN s 3 = 1 by omega) with e | e
  · rw [e]; rfl
  · rw [e] at h; exact absurd rfl h
theorem t_still {M M0 M1 M2 M3 M4 M5 M6 M7 M8 M9 : gS} (hi : inv M M0 M1 M2 M3 M4 M7) : tieP M (fun Q => wX12_still M Q) (fun Q => wX11_still M0 M1 M2 M3 M4 M5 M6 M7 M8 M9 Q) := by
  obtain ⟨⟨hw, hsp⟩, ⟨hW, hC, hq, hO⟩, hT, hB⟩ := id hi
  have b6 : aN (ma M 25) 6 ≤ 1 := hw.b 6 rfl
  by_cases c2 : ma M 25 3 = 1
  · have hwu := still_wf hw
    have sk : ∀ j, j ≠ 7 → stillS (ma M 25) j = ma M 25 j := fun j h => by unfold stillS; rw [upd_at, if_neg h]
    have ak : ∀ j, j ≠ 7 → aN (stillS (ma M 25)) j = aN (ma M 25) j := fun j h => by unfold aN; rw [sk j h]
    have hsu : spk (stillS (ma M 25)) := by
      unfold spk; rw [ak 8 (by omega), ak 6 (by omega)]; exact (hsp c2).1
    obtain ⟨q0, q1, q2, q3, q4, q5⟩ := hq
    obtain ⟨g4, g5, g6, g7⟩ := q1 c2
    refine tieP_row (M5 := M5) (M6 := M6) (M8 := M8) (M9 := M9) hi (nI (winN (stillS (ma M 25)))) (endS (stillS (ma M 25))) (end_good hwu) (fun Q h => ?_) (fun Q h => ?_)
    · refine m_still M hw Q ?_
      rw [if_pos c2]
      exact h _ (eq_end _ _)
    · show wX11_still M0 M1 M2 M3 M4 M5 M6 M7 M8 M9 Q
      unfold wX11_still wX6_beStill
      rw [q0, c2]
      refine ⟨fun c => absurd c (by decide), fun _ x1 h1 N2 h2 => ?_⟩
      refine q_finish N2 _ ?_
      have rq : relQ (stillS (ma M 25)) N2 := by
        subst h2 h1
        refine ⟨?_, fun _ => ⟨?_, ?_, ?_, ?_⟩, ?_, fun j hj => ?_, fun _ j hj => ?_, fun j hj => ?_⟩
        · rw [sk _ (by omega)]; exact q0
        · rw [sk _ (by omega)]; exact g4
        · rw [sk _ (by omega)]; exact g5
        · rw [sk _ (by omega)]; exact g6
        · show mg M3 4 + 1 = upd (ma M 25) 7 (ma M 25 7 + 1) 7
          rw [g7, upd_at, if_pos rfl]
        · rw [sk _ (by omega)]; exact q2
        · rw [sk _ (by omega)]; exact q3 j hj
        · rw [sk _ (by omega)]; exact q4 (Or.inl c2) j hj
        · rw [sk _ (by omega)]; exact q5 j hj
      have e6 : mg (finC N2) 6 = nI (winN (stillS (ma M 25))) := by
        rw [spk_win hwu hsu, ak 6 (by omega)]
        show 1 - mg N2 3 = _
        rw [(rq.2.1 (by rw [sk _ (by omega)]; exact c2)).2.2.1, sk 6 (by omega), hw.n 6 rfl, show (1 : Int32) = nI 1 from rfl, pk_sub b6]
      refine c_note_end hwu rfl e6 (relW_keep hW ⟨sk _ (by omega), sk _ (by omega), sk _ (by omega)⟩) _ (fun N1 hN1 => ?_)
      rw [e6]
      refine h _ _ _ _ ⟨hN1, ?_, relQ_fin hwu rq, ?_⟩
      · exact relC_keep hw hC (fun k hk => by unfold isCr at hk; rw [end_keep hwu (by omega) (by omega) (by omega), sk _ (by omega)])
      · exact relO_keep hw hO (fun k hk => by rw [end_keep hwu (by omega) (by omega) (by omega), sk _ (by omega)])
  · refine tieP_same (M5 := M5) (M6 := M6) (M8 := M8) (M9 := M9) hi (-2) (fun Q h => ?_) (fun Q h => ?_)
    · refine m_still M hw Q ?_
      rw [if_neg c2]
      exact h _ (eqM_refl _)
    · show wX11_still M0 M1 M2 M3 M4 M5 M6 M7 M8 M9 Q
      unfold wX11_still
      rw [hq.1, goes_n hw c2]
      exact ⟨fun _ => h, fun c => absurd rfl c⟩
