/-- what the class's State keeps beside corner, quarrel and organ: who has won, X -/
def relW (s : Nat → Int32) (M1 : gS) : Prop := (∀ j, j < 2 → ma M1 3 j = s (18 + j)) ∧ mg M1 4 = s 11
theorem look_row {s : Nat → Int32} (hw : wfS s) {j : Nat} (h1 : j ≠ 3) (h2 : j ≠ 18) (h3 : j ≠ 19) : lookS s j = s j := by
  have hl := winN_le hw
  unfold lookS
  split
  · rfl
  · unfold endS
    rw [upd_at, if_neg (by omega), upd_at, if_neg h1]
/-- behind a move: the winner is noted -/
theorem q_note (s : Nat → Int32) (hw : wfS s) (hg : s 3 = 1) (M1 Mc N Mo : gS) (hN : postQ s N) (h1 : relW s M1) (Q : gS → gS → gS → gS → Prop) (h : ∀ N1, relW (lookS s) N1 → Q N1 Mc N Mo) : wX10_noteWinner M1 Mc N Mo Q := by
  have hl := winN_le hw
  obtain ⟨hr, hwin, -, -⟩ := hN
  unfold wX10_noteWinner
  cases hd : canDoN s with
  | true =>
    have el : lookS s = s := by unfold lookS; rw [if_pos hd]
    rw [el] at hr h
    have e0 : mg N 0 = 1 := by rw [hr.1, hg]
    rw [e0]
    exact ⟨fun c => absurd c (by decide), fun _ => h M1 h1⟩
  | false =>
    have el : lookS s = endS s := by unfold lookS; rw [if_neg (by rw [hd]; decide)]
    rw [el] at hr h
    have k3 : endS s 3 = 0 := by
      unfold endS
      rw [upd_at, if_neg (by omega), upd_at, if_pos rfl]
    have e0 : mg N 0 = 0 := by rw [hr.1, k3]
    have e6 := hwin hd
    have key : wX10_noteWinner_31 Q M1 Mc N Mo := by
      unfold wX10_noteWinner_31
      rw [e6, nI_clamp (by omega)]
      refine ⟨vp_in_nI (by omega) (by decide), fun x hx => ⟨vp_in_nI (by omega) (by decide), fun N2 hN2 => h N2 ?_⟩⟩
      subst hN2
      refine ⟨fun j hj => ?_, ?_⟩
      · have e3 : ma (sa M1 3 (winN s) x) 3 j = upd (ma M1 3) (winN s) x j := rfl
        rw [e3, upd_at]
        unfold endS
        rw [upd_at]
        by_cases hj2 : j = winN s
        · rw [if_pos hj2, if_pos (by omega), hx, h1.1 _ (by omega)]
        · rw [if_neg hj2, if_neg (by omega), upd_at, if_neg (by omega)]
          exact h1.1 j hj
      · have e11 : endS s 11 = s 11 := by unfold endS; rw [upd_at, if_neg (by omega), upd_at, if_neg (by omega)]
        rw [e11]; exact h1.2
    rw [e0, e6]
    refine ⟨fun _ => ⟨fun _ => key, fun c => ⟨fun _ => key, fun c2 => ?_⟩⟩, fun c => absurd rfl c⟩
    exfalso
    rw [show (0 : Int32) = nI 0 from rfl, nI_eq (by omega) (by omega)] at c
    rw [show (1 : Int32) = nI 1 from rfl, nI_eq (by omega) (by omega)] at c2
    omega
