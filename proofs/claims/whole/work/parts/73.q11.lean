/-- one who is still: a move more, and it is over -/
def stillS (s : Nat → Int32) : Nat → Int32 := upd s 7 (s 7 + 1)
theorem still_wf {s : Nat → Int32} (hw : wfS s) : wfS (stillS s) := by
  have keep : ∀ j, j ≠ 7 → aN (stillS s) j = aN s j := fun j h => by unfold stillS; rw [aN_upd, if_neg h]
  refine ⟨wf_upd hw.1 (fun h => absurd h (by decide)), fun j hj => ?_, fun j hj => ?_, fun j hj => ?_, fun j hj => ?_⟩
  · rw [keep _ (by omega)]; exact hw.2.1 j hj
  · rw [keep _ (by omega)] at hj; rw [keep _ (by omega)]; exact hw.2.2.1 j hj
  · rw [keep _ (by omega)] at hj; rw [keep _ (by omega), keep _ (by omega)]; exact hw.2.2.2.1 j hj
  · rw [keep _ (by omega)] at hj; rw [keep _ (by omega)]; exact hw.2.2.2.2 j hj
theorem m_still (M : gS) (hw : wfS (ma M 25)) (Q : Int32 → gS → Prop) (h : if ma M 25 3 = 1 then Q (nI (winN (stillS (ma M 25)))) (endM (sF M 25 (stillS (ma M 25)))) else Q (-2) M) : wX12_still M Q := by
  unfold wX12_still
  refine m_goesOn M _ ⟨fun c => ?_, fun c => ?_⟩
  · rw [bI_0] at c
    rw [if_neg (by simpa using c)] at h
    exact h
  · have c2 := bI_n0 c
    rw [if_pos (by simpa using c2)] at h
    intro x5 h5 M6 h6
    have e : M6 = sF M 25 (stillS (ma M 25)) := by subst h6 h5; rfl
    rw [e]
    refine m_ends _ (by rw [ma_sF1]; exact still_wf hw) _ ?_
    rw [ma_sF1]
    exact h
