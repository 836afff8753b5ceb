theorem costN_le {s : Nat → Int32} (hw : wfS s) {w : Nat} (h4 : w < 4) : costN s w ≤ 18 := by
  have b2 : aN s 2 ≤ 9 := hw.b 2 rfl
  have bw := hw.b (28 + w) (isB_28 w h4); rw [bnd_28 w h4] at bw
  unfold costN
  split <;> omega
theorem say_wf {s : Nat → Int32} (hw : wfS s) {w : Nat} (h4 : w < 4) : wfS (sayS s w) := by
  have b5 : aN s 5 ≤ 200 := hw.b 5 rfl
  have b6 : aN s 6 ≤ 1 := hw.b 6 rfl
  have h6 : aN s 6 < 2 := by omega
  have hb : ∀ j, isB j = true → 0 ≤ sayS s w j ∧ aN (sayS s w) j ≤ bnd j := by
    unfold sayS
    refine wf_upd (wf_upd (wf_upd (wf_upd (wf_upd (wf_upd hw.1 ?_) ?_) ?_) ?_) ?_) ?_
    · intro _; exact nI_ok (b := 200) (by omega) (by decide)
    · intro _; rw [bnd_14 _ h6]; exact nI_ok (by omega) (by decide)
    · intro h
      have : ∀ t, t < 2 → isB (16 + t) = true → False := by decide
      exact (this _ h6 h).elim
    · intro _; exact nI_ok (b := 2) (by omega) (by decide)
    · intro _; exact nI_ok (b := 1) (by omega) (by decide)
    · intro h; exact absurd h (by decide)
  have keep : ∀ j, j ≠ 5 → j ≠ 14 + aN s 6 → j ≠ 16 + aN s 6 → j ≠ 8 → j ≠ 6 → j ≠ 7 → aN (sayS s w) j = aN s j := by
    intro j h1 h2 h3 h4 h5 h6
    unfold sayS
    rw [aN_upd, if_neg h6, aN_upd, if_neg h5, aN_upd, if_neg h4, aN_upd, if_neg h3, aN_upd, if_neg h2, aN_upd, if_neg h1]
  refine ⟨hb, fun j hj => ?_, fun j hj => ?_, fun j hj => ?_, fun j hj => ?_⟩
  · by_cases e : j = aN s 6
    · subst e
      left
      unfold sayS
      rw [aN_upd, if_neg (by omega), aN_upd, if_neg (by omega), aN_upd, if_neg (by omega), aN_upd, if_neg (by omega), aN_upd, if_pos rfl, nI_clamp (by omega)]
      exact h4
    · rw [keep (14 + j) (by omega) (by omega) (by omega) (by omega) (by omega) (by omega)]; exact hw.2.1 j hj
  · rw [keep 1 (by omega) (by omega) (by omega) (by omega) (by omega) (by omega)] at hj
    rw [keep (28 + j) (by omega) (by omega) (by omega) (by omega) (by omega) (by omega)]; exact hw.2.2.1 j hj
  · rw [keep 0 (by omega) (by omega) (by omega) (by omega) (by omega) (by omega)] at hj
    rw [keep (20 + 2 * j) (by omega) (by omega) (by omega) (by omega) (by omega) (by omega), keep (21 + 2 * j) (by omega) (by omega) (by omega) (by omega) (by omega) (by omega)]; exact hw.2.2.2.1 j hj
  · rw [keep 10 (by omega) (by omega) (by omega) (by omega) (by omega) (by omega)] at hj
    rw [keep (32 + 2 * j) (by omega) (by omega) (by omega) (by omega) (by omega) (by omega)]; exact hw.2.2.2.2 j hj
theorem m_says (M : gS) (hw : wfS (ma M 25)) (w : Nat) (h4 : w < 4) (hc : canSayN (ma M 25) w = true) (Q : gS → Prop) (h : Q (lookM (sF M 25 (sayS (ma M 25) w)))) : wX12_says (nI w) M Q := by
  have b2 : aN (ma M 25) 2 ≤ 9 := hw.b 2 rfl
  have b5 : aN (ma M 25) 5 ≤ 200 := hw.b 5 rfl
  have b6 : aN (ma M 25) 6 ≤ 1 := hw.b 6 rfl
  have h6 : aN (ma M 25) 6 < 2 := by omega
  have bw := hw.b (28 + w) (isB_28 w h4); rw [bnd_28 w h4] at bw
  have bl := hw.b (14 + aN (ma M 25) 6) (isB_14 _ h6); rw [bnd_14 _ h6] at bl
  have e2 := hw.n 2 rfl; have e5 := hw.n 5 rfl; have e6 := hw.n 6 rfl
  have ew := hw.n (28 + w) (isB_28 w h4); have el := hw.n (14 + aN (ma M 25) 6) (isB_14 _ h6)
  unfold canSayN at hc
  simp only [Bool.and_eq_true, decide_eq_true_eq] at hc
  have i28 : (28 : Int32) + nI w = nI (28 + w) := nI_add 28 w
  have i14 : (14 : Int32) + nI (aN (ma M 25) 6) = nI (14 + aN (ma M 25) 6) := nI_add 14 _
  have i16 : (16 : Int32) + nI (aN (ma M 25) 6) = nI (16 + aN (ma M 25) 6) := nI_add 16 _
  have key : ∀ z : Nat, costN (ma M 25) w = aN (ma M 25) (28 + w) + z → wX12_says_47 Q (nI w) (nI (aN (ma M 25) 6)) (5 : Int32) (ma M 25 5) (ma M 25 (28 + w)) (nI z) M := by
    intro z hz
    unfold wX12_says_47
    rw [i14, i16, nI_clamp (by omega), nI_clamp (by omega), show Int32.toNatClampNeg 5 = 5 by decide]
    intro x1 h1
    refine ⟨vp_in_c (j := 5) (by decide) (by decide) (by decide), fun M2 h2 => ⟨vp_in_nI (by omega) (by omega), fun M3 h3 => ⟨vp_in_nI (by omega) (by omega), fun x4 hx4 => ⟨vp_in_nI (by omega) (by omega), fun M5 h5 x6 hx6 M7 h7 x8 hx8 M9 h9 x10 hx10 M11 h11 => ?_⟩⟩⟩⟩
    have ex1 : x1 = nI (aN (ma M 25) 5 - costN (ma M 25) w) := by
      rw [h1, ew, e5, nI_add, pk_sub (by omega), hz]
    have e11 : M11 = sF M 25 (sayS (ma M 25) w) := by
      subst h11 hx10 h9 hx8 h7 hx6 h5 hx4 h3 h2
      rw [ex1]
      unfold sayS
      simp only [sa_25, ma_sF1, sF_sF]
      congr 1
      rw [show nI (aN (ma M 25) 6) + 1 = nI (aN (ma M 25) 6 + 1) from nI_1 _, show (1 : Int32) - nI (aN (ma M 25) 6) = nI (1 - aN (ma M 25) 6) from pk_sub b6]
      simp only [upd_at, show ¬ (7 = 6) by decide, show ¬ (7 = 8) by decide, show ¬ (7 = 16 + aN (ma M 25) 6) by omega, show ¬ (7 = 14 + aN (ma M 25) 6) by omega, show ¬ (7 = 5) by decide, show ¬ (16 + aN (ma M 25) 6 = 14 + aN (ma M 25) 6) by omega, show ¬ (16 + aN (ma M 25) 6 = 5) by omega, if_false]
    rw [e11]
    refine m_looks _ ?_ _ h
    rw [ma_sF1]
    exact say_wf hw h4
  unfold wX12_says
  intro x1 h1
  rw [e6] at h1
  subst h1
  rw [i28, i14, nI_clamp (by omega), nI_clamp (by omega)]
  refine ⟨vp_in_nI (by omega) (by omega), vp_in_nI (by omega) (by omega), fun c2 => ?_, fun c2 => ?_⟩
  · rw [el, nI_eq (by omega) (by omega)] at c2
    rw [e2]
    exact key _ (by unfold costN; rw [if_pos c2])
  · rw [el, nI_eq (by omega) (by omega)] at c2
    exact key 0 (by unfold costN; rw [if_neg c2])
theorem m_goesOn (M : gS) (Q : Bool → gS → Prop) (h : Q (decide (ma M 25 3 = 1)) M) : wX12_goesOn M Q := by
  unfold wX12_goesOn
  refine ⟨fun c => ?_, fun c => ?_⟩ <;> simpa [c] using h
theorem m_toss (M : gS) (hw : wfS (ma M 25)) (Q : Int32 → gS → Prop) (h : if ma M 25 3 = 1 ∧ canThrowN (ma M 25) = true then Q (ma (lookM (sF M 25 (throwS (ma M 25)))) 25 5) (lookM (sF M 25 (throwS (ma M 25)))) else Q (-2) M) : wX12_toss M Q := by
  unfold wX12_toss
  refine m_goesOn M _ ⟨fun c => ?_, fun c => ?_⟩
  · rw [bI_0] at c
    rw [if_neg (fun z => by simp [z.1] at c)] at h
    exact h
  · rw [bI_0] at c
    refine m_canThrow M hw _ ⟨fun c2 => ?_, fun c2 => ?_⟩
    · rw [bI_0] at c2
      rw [if_neg (fun z => by rw [z.2] at c2; exact absurd c2 (by decide))] at h
      exact h
    · rw [bI_0] at c2
      have c3 : canThrowN (ma M 25) = true := by
        cases hc : canThrowN (ma M 25) with
        | false => exact absurd hc c2
        | true => rfl
      rw [if_pos ⟨by simpa using c, c3⟩] at h
      exact m_throwsOne M hw c3 _ h
