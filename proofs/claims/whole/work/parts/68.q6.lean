/-- the corner's part of the row -/
def isCr (k : Nat) : Prop := k < 3 ∨ (20 ≤ k ∧ k < 32)
theorem relC_keep {s u : Nat → Int32} {Mc : gS} (hw : wfS s) (h : relC s Mc) (hk : ∀ k, isCr k → u k = s k) : relC u Mc := by
  have b0 : aN s 0 ≤ 4 := hw.b 0 rfl
  have b1 : aN s 1 ≤ 4 := hw.b 1 rfl
  have ka : ∀ k, isCr k → aN u k = aN s k := fun k hk2 => by unfold aN; rw [hk k hk2]
  have a0 := ka 0 (Or.inl (by omega)); have a1 := ka 1 (Or.inl (by omega))
  obtain ⟨h0, h1, h2, h3, h4⟩ := h
  refine ⟨by rw [hk 0 (Or.inl (by omega))]; exact h0, by rw [hk 1 (Or.inl (by omega))]; exact h1, by rw [hk 2 (Or.inl (by omega))]; exact h2, fun j hj => ?_, fun j hj => ?_⟩
  · rw [a0] at hj
    rw [ka (20 + 2 * j) (Or.inr ⟨by omega, by omega⟩), ka (21 + 2 * j) (Or.inr ⟨by omega, by omega⟩)]
    exact h3 j hj
  · rw [a1] at hj
    rw [hk (28 + j) (Or.inr ⟨by omega, by omega⟩)]
    exact h4 j hj
theorem throw_keep {s : Nat → Int32} (hw : wfS s) {j : Nat} (h1 : j ≠ 12 + aN s 6) (h2 : j ≠ 9) (h3 : j ≠ 5) (h4 : j ≠ 7) : throwS s j = s j := by
  unfold throwS
  rw [upd_at, if_neg h4, upd_at, if_neg h3, upd_at, if_neg h2, upd_at, if_neg h1]
theorem throw_C {s : Nat → Int32} {Mc : gS} (hw : wfS s) (h : relC s Mc) : relC (throwS s) Mc := by
  have b6 : aN s 6 ≤ 1 := hw.b 6 rfl
  exact relC_keep hw h (fun k hk => throw_keep hw (by unfold isCr at hk; omega) (by unfold isCr at hk; omega) (by unfold isCr at hk; omega) (by unfold isCr at hk; omega))
theorem throw_spk {s : Nat → Int32} (hw : wfS s) (h : spk s) : spk (throwS s) := by
  have b6 : aN s 6 ≤ 1 := hw.b 6 rfl
  unfold spk aN at *
  rw [throw_keep hw (by unfold aN; omega) (by omega) (by omega) (by omega), throw_keep hw (by unfold aN; omega) (by omega) (by omega) (by omega)]
  exact h
theorem q_throwPenny (s : Nat → Int32) (hw : wfS s) (hs : spk s) (Mq Mc : gS) (hq : relQ s Mq) (hc : relC s Mc) (hg : s 3 = 1) (ht : canThrowN s = true) (Q : gS → gS → Prop) (h : ∀ N, postQ (throwS s) N → Q N Mc) : wX6_throwPenny Mq Mc Q := by
  have b6 : aN s 6 ≤ 1 := hw.b 6 rfl
  have e6 := hw.n 6 rfl
  obtain ⟨q0, q1, q2, q3, q4, q5⟩ := hq
  obtain ⟨g4, g5, g6, g7⟩ := q1 hg
  unfold wX6_throwPenny
  rw [g6, e6, nI_clamp (by omega)]
  refine ⟨vp_in_nI (by omega) (by decide), fun x1 h1 => ⟨vp_in_nI (by omega) (by decide), fun N2 h2 x3 h3 N4 h4 x5 h5 N6 h6 x7 h7 N8 h8 => ?_⟩⟩
  have k3 : throwS s 3 = 1 := by rw [throw_keep hw (by omega) (by omega) (by omega) (by omega)]; exact hg
  have rq : relQ (throwS s) N8 := by
    refine ⟨?_, fun _ => ⟨?_, ?_, ?_, ?_⟩, ?_, fun j hj => ?_, fun _ j hj => ?_, fun j hj => ?_⟩
    · rw [k3]; subst h8 h6 h4 h2; show mg Mq 0 = 1; rw [q0, hg]
    · rw [throw_keep hw (by omega) (by omega) (by omega) (by omega), ← g4]; subst h8 h6 h4 h2; rfl
    · have t5 : throwS s 5 = s 5 + s 4 := by unfold throwS; rw [upd_at, if_neg (by omega), upd_at, if_pos rfl]
      rw [t5, ← g4, ← g5]; subst h8 h7 h6 h5 h4 h3 h2; rfl
    · rw [throw_keep hw (by omega) (by omega) (by omega) (by omega), ← g6]; subst h8 h6 h4 h2; rfl
    · have t7 : throwS s 7 = s 7 + 1 := by unfold throwS; rw [upd_at, if_pos rfl]
      rw [t7, ← g7]; subst h8 h7 h6 h4 h2; rfl
    · have t9 : throwS s 9 = s 9 + 1 := by unfold throwS; rw [upd_at, if_neg (by omega), upd_at, if_neg (by omega), upd_at, if_pos rfl]
      rw [t9, ← q2]; subst h8 h6 h4 h3 h2; rfl
    · have e8 : ma N8 7 j = upd (ma Mq 7) (aN s 6) x1 j := by subst h8 h6 h4 h2; rfl
      rw [e8, upd_at]
      by_cases hj2 : j = aN s 6
      · rw [if_pos hj2, h1, hj2, q3 _ (by omega)]
        unfold throwS
        rw [upd_at, if_neg (by omega), upd_at, if_neg (by omega), upd_at, if_neg (by omega), upd_at, if_pos rfl]
      · rw [if_neg hj2, throw_keep hw (by omega) (by omega) (by omega) (by omega)]; exact q3 j hj
    · rw [throw_keep hw (by omega) (by omega) (by omega) (by omega), ← q4 (Or.inl hg) j hj]; subst h8 h6 h4 h2; rfl
    · rw [throw_keep hw (by omega) (by omega) (by omega) (by omega), ← q5 j hj]; subst h8 h6 h4 h2; rfl
  exact q_end (throwS s) (throw_wf hw ht) (throw_spk hw hs) N8 Mc rq (throw_C hw hc) k3 _ h
