theorem say_keep {s : Nat → Int32} {w j : Nat} (h1 : j ≠ 5) (h2 : j ≠ 14 + aN s 6) (h3 : j ≠ 16 + aN s 6) (h4 : j ≠ 8) (h5 : j ≠ 6) (h6 : j ≠ 7) : sayS s w j = s j := by
  unfold sayS
  rw [upd_at, if_neg h6, upd_at, if_neg h5, upd_at, if_neg h4, upd_at, if_neg h3, upd_at, if_neg h2, upd_at, if_neg h1]
theorem say_C {s : Nat → Int32} {Mc : gS} {w : Nat} (hw : wfS s) (h : relC s Mc) : relC (sayS s w) Mc := by
  have b6 : aN s 6 ≤ 1 := hw.b 6 rfl
  refine relC_keep hw h (fun k hk => ?_)
  unfold isCr at hk
  exact say_keep (by omega) (by omega) (by omega) (by omega) (by omega) (by omega)
theorem say_6 {s : Nat → Int32} {w : Nat} : sayS s w 6 = nI (1 - aN s 6) := by
  unfold sayS; rw [upd_at, if_neg (by omega), upd_at, if_pos rfl]
theorem say_8 {s : Nat → Int32} {w : Nat} : sayS s w 8 = nI (aN s 6 + 1) := by
  unfold sayS; rw [upd_at, if_neg (by omega), upd_at, if_neg (by omega), upd_at, if_pos rfl]
theorem say_5 {s : Nat → Int32} {w : Nat} : sayS s w 5 = nI (aN s 5 - costN s w) := by
  unfold sayS; rw [upd_at, if_neg (by omega), upd_at, if_neg (by omega), upd_at, if_neg (by omega), upd_at, if_neg (by omega), upd_at, if_neg (by omega), upd_at, if_pos rfl]
theorem say_7 {s : Nat → Int32} {w : Nat} : sayS s w 7 = s 7 + 1 := by
  unfold sayS; rw [upd_at, if_pos rfl]
theorem say_spk {s : Nat → Int32} {w : Nat} (hw : wfS s) : spk (sayS s w) := by
  have b6 : aN s 6 ≤ 1 := hw.b 6 rfl
  right
  have h6 : aN (sayS s w) 6 = 1 - aN s 6 := by unfold aN at *; rw [say_6, nI_clamp (by unfold aN; omega)]; rfl
  have h8 : aN (sayS s w) 8 = aN s 6 + 1 := by unfold aN at *; rw [say_8, nI_clamp (by unfold aN; omega)]; rfl
  rw [h6, h8]; omega
theorem q_say (s : Nat → Int32) (hw : wfS s) (Mq Mc : gS) (hq : relQ s Mq) (hc : relC s Mc) (hg : s 3 = 1) (w : Nat) (h4 : w < 4) (ht : canSayN s w = true) (Q : gS → gS → Prop) (h : ∀ N, postQ (sayS s w) N → Q N Mc) : wX6_say (nI w) Mq Mc Q := by
  have b5 : aN s 5 ≤ 200 := hw.b 5 rfl
  have b6 : aN s 6 ≤ 1 := hw.b 6 rfl
  have e5 := hw.n 5 rfl; have e6 := hw.n 6 rfl
  obtain ⟨q0, q1, q2, q3, q4, q5⟩ := hq
  obtain ⟨g4, g5, g6, g7⟩ := q1 hg
  unfold canSayN at ht
  simp only [Bool.and_eq_true, decide_eq_true_eq] at ht
  unfold wX6_say
  have e3 : mg Mq 3 = nI (aN s 6) := by rw [g6, e6]
  rw [e3, nI_clamp (by omega), q4 (Or.inl hg) _ (by omega)]
  refine ⟨vp_in_nI (by omega) (by decide), q_cost s hw Mc hc w h4 _ ?_⟩
  rw [if_pos ht.1]
  intro x3 h3 N4 h4'
  have e43 : mg N4 3 = nI (aN s 6) := by subst h4'; exact e3
  rw [e43, nI_clamp (by omega)]
  refine ⟨vp_in_nI (by omega) (by decide), fun N5 h5 => ?_⟩
  have e53 : mg N5 3 = nI (aN s 6) := by subst h5; exact e43
  rw [e53, nI_clamp (by omega)]
  refine ⟨vp_in_nI (by omega) (by decide), fun x6 h6 => ⟨vp_in_nI (by omega) (by decide), fun N7 h7 x8 h8 N9 h9 x10 h10 N11 h11 => ?_⟩⟩
  have k3 : sayS s w 3 = 1 := by rw [say_keep (by omega) (by omega) (by omega) (by omega) (by omega) (by omega)]; exact hg
  have ex3 : x3 = nI (aN s 5 - costN s w) := by rw [h3, g5, e5, pk_sub ht.2]
  have rq : relQ (sayS s w) N11 := by
    refine ⟨?_, fun _ => ⟨?_, ?_, ?_, ?_⟩, ?_, fun j hj => ?_, fun _ j hj => ?_, fun j hj => ?_⟩
    · rw [k3]; subst h11 h9 h7 h5 h4'; show mg Mq 0 = 1; rw [q0, hg]
    · rw [say_keep (by omega) (by omega) (by omega) (by omega) (by omega) (by omega), ← g4]; subst h11 h9 h7 h5 h4'; rfl
    · rw [say_5, ← ex3]; subst h11 h9 h7 h5 h4'; rfl
    · rw [say_6]
      have : mg N11 3 = x10 := by subst h11; rfl
      rw [this, h10]
      have e93 : mg N9 3 = nI (aN s 6) := by subst h9 h7; exact e53
      rw [e93, show (1 : Int32) = nI 1 from rfl, pk_sub b6]
    · rw [say_7, ← g7]; subst h11 h9 h8 h7 h5 h4'; rfl
    · rw [say_keep (by omega) (by omega) (by omega) (by omega) (by omega) (by omega), ← q2]; subst h11 h9 h7 h5 h4'; rfl
    · rw [say_keep (by omega) (by omega) (by omega) (by omega) (by omega) (by omega), ← q3 j hj]; subst h11 h9 h7 h5 h4'; rfl
    · have e8 : ma N11 8 j = upd (ma Mq 8) (aN s 6) (nI w) j := by subst h11 h9 h7 h5 h4'; rfl
      rw [e8, upd_at]
      by_cases hj2 : j = aN s 6
      · rw [if_pos hj2]
        have e14 : sayS s w (14 + j) = nI w := by
          rw [hj2]; unfold sayS
          rw [upd_at, if_neg (by omega), upd_at, if_neg (by omega), upd_at, if_neg (by omega), upd_at, if_neg (by omega), upd_at, if_pos rfl]
        rw [e14]; unfold lastC
        rw [show (9 : Int32) = nI 9 from rfl, if_neg (fun z => by rw [nI_eq (by omega) (by omega)] at z; omega)]
      · rw [if_neg hj2, say_keep (by omega) (by omega) (by omega) (by omega) (by omega) (by omega)]; exact q4 (Or.inl hg) j hj
    · have e9 : ma N11 9 j = upd (ma N5 9) (aN s 6) x6 j := by subst h11 h9 h7; rfl
      have e59 : ma N5 9 = ma Mq 9 := by subst h5 h4'; rfl
      rw [e9, upd_at]
      by_cases hj2 : j = aN s 6
      · rw [if_pos hj2, h6, e59, q5 _ (by omega), hj2]
        unfold sayS
        rw [upd_at, if_neg (by omega), upd_at, if_neg (by omega), upd_at, if_neg (by omega), upd_at, if_pos rfl]
      · rw [if_neg hj2, e59, say_keep (by omega) (by omega) (by omega) (by omega) (by omega) (by omega)]; exact q5 j hj
  exact q_end (sayS s w) (say_wf hw h4) (say_spk hw) N11 Mc rq (say_C hw hc) k3 _ h
