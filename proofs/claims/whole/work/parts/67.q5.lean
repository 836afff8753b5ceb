theorem q_any_l (s : Nat → Int32) (hw : wfS s) (Mc : gS) (hc : relC s Mc) (Q : Bool → gS → Prop) : ∀ (n i : Nat), i + n = aN s 1 → Q ((List.range' i n).any (canSayN s)) Mc → wX1_anyWordFits_2 Q (n + 1) (lastC (s (14 + aN s 6))) (s 5) (nI i) Mc := by
  have e1 := hw.n 1 rfl; have e5 := hw.n 5 rfl
  have b1 : aN s 1 ≤ 4 := hw.b 1 rfl
  have b5 : aN s 5 ≤ 200 := hw.b 5 rfl
  intro n
  induction n with
  | zero =>
    intro i hi h
    rw [wX1_anyWordFits_2, hc.2.1, e1]
    exact ⟨fun _ => by simpa using h, fun c => absurd (nI_le (by omega) (by omega)) c⟩
  | succ n ih =>
    intro i hi h
    have hcl := costN_le hw (w := i) (by omega)
    rw [wX1_anyWordFits_2, hc.2.1, e1]
    refine ⟨fun c => absurd c (nI_ge (by omega) (by omega)), fun _ => q_cost s hw Mc hc i (by omega) _ ?_⟩
    rw [if_pos (by omega)]
    have h' : Q (canSayN s i || (List.range' (i + 1) n).any (canSayN s)) Mc := by
      rw [List.range'_succ] at h
      simpa using h
    refine ⟨fun c x hx => ?_, fun c => ?_⟩
    · rw [e5, nI_ltI (by omega) (by omega)] at c
      have e : canSayN s i = false := by unfold canSayN; simp; intro _; omega
      rw [e] at h'
      rw [hx, nI_1]
      exact ih (i + 1) (by omega) (by simpa using h')
    · rw [e5, nI_ltI (by omega) (by omega)] at c
      have e : canSayN s i = true := by unfold canSayN; simp; omega
      rw [e] at h'
      simpa using h'
theorem q_any (s : Nat → Int32) (hw : wfS s) (Mc : gS) (hc : relC s Mc) (Q : Bool → gS → Prop) (h : Q ((List.range (aN s 1)).any (canSayN s)) Mc) : wX1_anyWordFits (lastC (s (14 + aN s 6))) (s 5) Mc Q := by
  refine ⟨aN s 1 + 1, q_any_l s hw Mc hc Q (aN s 1) 0 (by omega) ?_⟩
  rw [← List.range_eq_range']
  exact h
/-- a quarrel that is over -/
def finC (Mq : gS) : gS := sg (sg Mq 0 0) 6 (1 - mg Mq 3)
theorem q_finish (Mq : gS) (Q : gS → Prop) (h : Q (finC Mq)) : wX6_finish Mq Q := by
  unfold wX6_finish
  intro N1 h1 x2 h2 N3 h3
  have e : N3 = finC Mq := by subst h3 h2 h1; rfl
  rw [e]; exact h
theorem bI_n0 {b : Bool} (h : ¬ bI b = 0) : b = true := by
  cases b with
  | false => exact absurd rfl h
  | true => rfl
theorem q_endIfStuck (s : Nat → Int32) (hw : wfS s) (Mq Mc : gS) (hq : relQ s Mq) (hc : relC s Mc) (hg : s 3 = 1) (Q : gS → gS → Prop) (h : Q (if canDoN s = true then Mq else finC Mq) Mc) : wX6_endIfStuck Mq Mc Q := by
  have b6 : aN s 6 ≤ 1 := hw.b 6 rfl
  have e6 := hw.n 6 rfl
  obtain ⟨-, g5, g6, -⟩ := hq.2.1 hg
  unfold wX6_endIfStuck
  refine q_mayThrow s hw Mq hq _ ⟨fun c => ?_, fun c => ?_⟩
  · rw [bI_0, hg] at c
    have ct : canThrowN s = false := by simpa using c
    rw [g6, e6, nI_clamp (by omega), hq.2.2.2.2.1 (Or.inl hg) _ (by omega), g5]
    refine ⟨vp_in_nI (by omega) (by decide), q_any s hw Mc hc _ ⟨fun c2 => ?_, fun c2 => ?_⟩⟩
    · rw [bI_0] at c2
      refine q_finish Mq _ ?_
      rw [if_neg (by unfold canDoN; rw [c2, ct]; decide)] at h
      exact h
    · rw [if_pos (by unfold canDoN; rw [bI_n0 c2]; rfl)] at h
      exact h
  · have ct := bI_n0 c
    rw [hg] at ct
    rw [if_pos (by unfold canDoN; simp at ct; rw [ct]; simp)] at h
    exact h
/-- the row behind a look whether something can be done -/
def lookS (s : Nat → Int32) : Nat → Int32 := if canDoN s = true then s else endS s
theorem lookM_row (M : gS) : ma (lookM M) 25 = lookS (ma M 25) := by
  unfold lookM lookS endM
  split
  · rfl
  · rw [ma_sF1]
/-- the quarrel behind it: as the row says, and if it is over, who has won -/
def postQ (s : Nat → Int32) (N : gS) : Prop := relQ (lookS s) N ∧ (canDoN s = false → mg N 6 = nI (winN s)) ∧ mg N 2 = s 5 ∧ mg N 4 = s 7
theorem relQ_fin {s : Nat → Int32} (hw : wfS s) {Mq : gS} (hq : relQ s Mq) : relQ (endS s) (finC Mq) := by
  have hl := winN_le hw
  obtain ⟨q0, q1, q2, q3, q4, q5⟩ := hq
  have keep : ∀ j, j ≠ 3 → j ≠ 18 → j ≠ 19 → endS s j = s j := by
    intro j h1 h2 h3
    unfold endS
    rw [upd_at, if_neg (by omega), upd_at, if_neg h1]
  have k3 : endS s 3 = 0 := by
    unfold endS
    rw [upd_at, if_neg (by omega), upd_at, if_pos rfl]
  refine ⟨?_, fun z => ?_, ?_, fun j hj => ?_, fun z j hj => ?_, fun j hj => ?_⟩
  · rw [k3]; rfl
  · rw [k3] at z; exact absurd z (by decide)
  · rw [keep 9 (by omega) (by omega) (by omega)]; exact q2
  · rw [keep (12 + j) (by omega) (by omega) (by omega)]; exact q3 j hj
  · rw [keep (14 + j) (by omega) (by omega) (by omega)]
    rw [k3, keep 0 (by omega) (by omega) (by omega)] at z
    exact q4 (Or.inr (z.resolve_left (by decide))) j hj
  · rw [keep (16 + j) (by omega) (by omega) (by omega)]; exact q5 j hj
theorem q_end (s : Nat → Int32) (hw : wfS s) (hs : spk s) (Mq Mc : gS) (hq : relQ s Mq) (hc : relC s Mc) (hg : s 3 = 1) (Q : gS → gS → Prop) (h : ∀ N, postQ s N → Q N Mc) : wX6_endIfStuck Mq Mc Q := by
  refine q_endIfStuck s hw Mq Mc hq hc hg Q (h _ ?_)
  unfold postQ lookS
  cases hd : canDoN s with
  | true =>
    rw [if_pos rfl, if_pos rfl]
    exact ⟨hq, fun z => absurd z (by decide), (hq.2.1 hg).2.1, (hq.2.1 hg).2.2.2⟩
  | false =>
    rw [if_neg (by decide), if_neg (by decide)]
    refine ⟨relQ_fin hw hq, fun _ => ?_, (hq.2.1 hg).2.1, (hq.2.1 hg).2.2.2⟩
    have b6 : aN s 6 ≤ 1 := hw.b 6 rfl
    obtain ⟨-, -, g6, -⟩ := hq.2.1 hg
    rw [spk_win hw hs]
    show 1 - mg Mq 3 = _
    rw [g6, hw.n 6 rfl, show (1 : Int32) = nI 1 from rfl, pk_sub b6]
