/-- a penny is thrown -/
def throwS (s : Nat → Int32) : Nat → Int32 := upd (upd (upd (upd s (12 + aN s 6) (s (12 + aN s 6) - 1)) 9 (s 9 + 1)) 5 (s 5 + s 4)) 7 (s 7 + 1)
/-- word w is said -/
def sayS (s : Nat → Int32) (w : Nat) : Nat → Int32 := upd (upd (upd (upd (upd (upd s 5 (nI (aN s 5 - costN s w))) (14 + aN s 6) (nI w)) (16 + aN s 6) (s (16 + aN s 6) + 1)) 8 (nI (aN s 6 + 1))) 6 (nI (1 - aN s 6))) 7 (s 7 + 1)
/-- numbers of a changed row -/
theorem aN_upd (s : Nat → Int32) (k : Nat) (v : Int32) (j : Nat) : aN (upd s k v) j = if j = k then v.toNatClampNeg else aN s j := by
  unfold aN upd
  split <;> rfl
theorem wf_upd {s : Nat → Int32} {k : Nat} {v : Int32} (hs : ∀ j, isB j = true → 0 ≤ s j ∧ aN s j ≤ bnd j) (hv : isB k = true → 0 ≤ v ∧ v.toNatClampNeg ≤ bnd k) : ∀ j, isB j = true → 0 ≤ upd s k v j ∧ aN (upd s k v) j ≤ bnd j := by
  intro j hj
  rw [aN_upd, upd_at]
  by_cases h : j = k
  · subst h; rw [if_pos rfl, if_pos rfl]; exact hv hj
  · rw [if_neg h, if_neg h]; exact hs j hj
theorem nI_ok {n b : Nat} (h : n ≤ b) (hb : b < 2 ^ 31) : 0 ≤ nI n ∧ (nI n).toNatClampNeg ≤ b := by
  rw [nI_clamp (by omega)]
  exact ⟨nI_pos' (by omega), h⟩
theorem throw_wf {s : Nat → Int32} (hw : wfS s) (hc : canThrowN s = true) : wfS (throwS s) := by
  have b4 : aN s 4 ≤ 72 := hw.b 4 rfl
  have b5 : aN s 5 ≤ 200 := hw.b 5 rfl
  have b6 : aN s 6 ≤ 1 := hw.b 6 rfl
  have h6 : aN s 6 < 2 := by omega
  have bp := hw.b (12 + aN s 6) (isB_12 _ h6); rw [bnd_12 _ h6] at bp
  have e4 := hw.n 4 rfl; have e5 := hw.n 5 rfl
  have ep := hw.n (12 + aN s 6) (isB_12 _ h6)
  unfold canThrowN at hc
  simp only [Bool.and_eq_true, decide_eq_true_eq] at hc
  have hb : ∀ j, isB j = true → 0 ≤ throwS s j ∧ aN (throwS s) j ≤ bnd j := by
    unfold throwS
    refine wf_upd (wf_upd (wf_upd (wf_upd hw.1 ?_) ?_) ?_) ?_
    · intro _
      rw [ep, show (1 : Int32) = nI 1 from rfl, pk_sub (by omega), bnd_12 _ h6]
      exact nI_ok (by omega) (by omega)
    · intro h; exact absurd h (by decide)
    · intro _
      rw [e4, e5, nI_add]
      exact nI_ok (b := 200) (by omega) (by decide)
    · intro h; exact absurd h (by decide)
  have keep : ∀ j, j ≠ 12 + aN s 6 → j ≠ 9 → j ≠ 5 → j ≠ 7 → aN (throwS s) j = aN s j := by
    intro j h1 h2 h3 h4
    unfold throwS
    rw [aN_upd, if_neg h4, aN_upd, if_neg h3, aN_upd, if_neg h2, aN_upd, if_neg h1]
  refine ⟨hb, fun j hj => ?_, fun j hj => ?_, fun j hj => ?_, fun j hj => ?_⟩
  · rw [keep (14 + j) (by omega) (by omega) (by omega) (by omega)]; exact hw.2.1 j hj
  · rw [keep 1 (by omega) (by omega) (by omega) (by omega)] at hj
    rw [keep (28 + j) (by omega) (by omega) (by omega) (by omega)]; exact hw.2.2.1 j hj
  · rw [keep 0 (by omega) (by omega) (by omega) (by omega)] at hj
    rw [keep (20 + 2 * j) (by omega) (by omega) (by omega) (by omega), keep (21 + 2 * j) (by omega) (by omega) (by omega) (by omega)]; exact hw.2.2.2.1 j hj
  · rw [keep 10 (by omega) (by omega) (by omega) (by omega)] at hj
    rw [keep (32 + 2 * j) (by omega) (by omega) (by omega) (by omega)]; exact hw.2.2.2.2 j hj
theorem m_throwsOne (M : gS) (hw : wfS (ma M 25)) (hc : canThrowN (ma M 25) = true) (Q : gS → Prop) (h : Q (lookM (sF M 25 (throwS (ma M 25))))) : wX12_throwsOne M Q := by
  have b6 : aN (ma M 25) 6 ≤ 1 := hw.b 6 rfl
  have e6 := hw.n 6 rfl
  have i12 : (12 : Int32) + ma M 25 6 = nI (12 + aN (ma M 25) 6) := by rw [e6]; exact nI_add 12 _
  unfold wX12_throwsOne
  rw [i12, nI_clamp (by omega)]
  refine ⟨vp_in_nI (by omega) (by omega), fun x1 h1 => ⟨vp_in_nI (by omega) (by omega), fun M2 h2 x3 h3 M4 h4 x5 h5 M6 h6 x7 h7 M8 h8 => ?_⟩⟩
  have e8 : M8 = sF M 25 (throwS (ma M 25)) := by
    subst h8 h7 h6 h5 h4 h3 h2 h1
    unfold throwS
    simp only [sa_25, ma_sF1, sF_sF]
    congr 1
    simp only [upd_at, show ¬ (9 = 12 + aN (ma M 25) 6) by omega, show ¬ (5 = 12 + aN (ma M 25) 6) by omega, show ¬ (4 = 12 + aN (ma M 25) 6) by omega, show ¬ (7 = 12 + aN (ma M 25) 6) by omega, if_false, show ¬ (5 = 9) by decide, show ¬ (4 = 9) by decide, show ¬ (7 = 5) by decide, show ¬ (7 = 9) by decide]
  rw [e8]
  refine m_looks _ ?_ _ h
  rw [ma_sF1]
  exact throw_wf hw hc
