-- PURE: the class's Corner and Quarrel beside the reference's row
def relC (s : Nat → Int32) (Mc : gS) : Prop := mg Mc 0 = s 0 ∧ mg Mc 2 = s 1 ∧ mg Mc 4 = s 2 ∧ (∀ j, j < aN s 0 → ma Mc 1 j = nI (aN s (20 + 2 * j) * aN s (21 + 2 * j))) ∧ (∀ j, j < aN s 1 → ma Mc 3 j = s (28 + j))
/-- what the class keeps of the word said last -/
def lastC (x : Int32) : Int32 := if x = 9 then -1 else x
def relQ (s : Nat → Int32) (Mq : gS) : Prop := mg Mq 0 = s 3 ∧ (s 3 = 1 → mg Mq 1 = s 4 ∧ mg Mq 2 = s 5 ∧ mg Mq 3 = s 6 ∧ mg Mq 4 = s 7) ∧ mg Mq 5 = s 9 ∧ (∀ j, j < 2 → ma Mq 7 j = s (12 + j)) ∧ ((s 3 = 1 ∨ s 0 ≠ 0) → ∀ j, j < 2 → ma Mq 8 j = lastC (s (14 + j))) ∧ (∀ j, j < 2 → ma Mq 9 j = s (16 + j))
/-- who spoke last handed the turn over -/
def spk (s : Nat → Int32) : Prop := aN s 8 = 0 ∨ aN s 8 = 2 - aN s 6
theorem spk_win {s : Nat → Int32} (hw : wfS s) (h : spk s) : winN s = 1 - aN s 6 := by
  have b6 : aN s 6 ≤ 1 := hw.b 6 rfl
  unfold winN
  rcases h with h | h
  · rw [if_pos h]
  · rw [if_neg (by omega)]; omega
theorem lastC_eq {s : Nat → Int32} (hw : wfS s) {t w : Nat} (ht : t < 2) (h4 : w < 4) : nI w = lastC (s (14 + t)) ↔ aN s (14 + t) = w := by
  have e := hw.n (14 + t) (isB_14 _ ht)
  have b := hw.b (14 + t) (isB_14 _ ht); rw [bnd_14 _ ht] at b
  unfold lastC
  rw [e, show (9 : Int32) = nI 9 from rfl]
  by_cases h : nI (aN s (14 + t)) = nI 9
  · rw [if_pos h]
    rw [nI_eq (by omega) (by omega)] at h
    refine ⟨fun z => ?_, fun z => by omega⟩
    exfalso
    have z1 : (nI w).toInt = (-1 : Int32).toInt := by rw [z]
    rw [nI_toInt (by omega), show (-1 : Int32).toInt = -1 by decide] at z1
    omega
  · rw [if_neg h, nI_eq (by omega) (by omega)]
    exact ⟨fun z => z.symm, fun z => z.symm⟩
theorem q_cost (s : Nat → Int32) (hw : wfS s) (Mc : gS) (hc : relC s Mc) (w : Nat) (h4 : w < 4) (Q : Int32 → gS → Prop) (h : Q (if w < aN s 1 then nI (costN s w) else 1000) Mc) : wX1_cost (nI w) (lastC (s (14 + aN s 6))) Mc Q := by
  have b1 : aN s 1 ≤ 4 := hw.b 1 rfl
  have b6 : aN s 6 ≤ 1 := hw.b 6 rfl
  have e1 := hw.n 1 rfl; have e2 := hw.n 2 rfl
  obtain ⟨-, c1, c2, -, c4⟩ := hc
  unfold wX1_cost
  rw [c1, c2, e1]
  refine ⟨fun c => absurd c (nI_pos (by omega)), fun _ => ⟨fun c => ?_, fun c => ⟨fun _ => ⟨fun z => ?_, fun z => ?_⟩, fun z => absurd (nI_lt h4 (by decide)) z⟩⟩⟩
  · rw [nI_leI (by omega) (by omega)] at c
    rw [if_neg (by omega)] at h
    exact h
  · rw [nI_leI (by omega) (by omega)] at c
    rw [lastC_eq hw (by omega) h4] at z
    refine ⟨vp_in_nI h4 (by decide), ?_⟩
    rw [nI_clamp (by omega), c4 w (by omega), hw.n (28 + w) (isB_28 w h4), e2, nI_add]
    rw [if_pos (by omega)] at h
    unfold costN at h
    rw [if_pos z] at h
    exact h
  · rw [nI_leI (by omega) (by omega)] at c
    rw [lastC_eq hw (by omega) h4] at z
    refine ⟨vp_in_nI h4 (by decide), ?_⟩
    rw [nI_clamp (by omega), c4 w (by omega), hw.n (28 + w) (isB_28 w h4)]
    rw [if_pos (by omega)] at h
    unfold costN at h
    rw [if_neg z] at h
    exact h
theorem q_maySay (s : Nat → Int32) (hw : wfS s) (Mq Mc : gS) (hq : relQ s Mq) (hc : relC s Mc) (w : Nat) (h4 : w < 4) (Q : Bool → gS → gS → Prop) (h : Q (decide (s 3 = 1) && canSayN s w) Mq Mc) : wX6_maySay (nI w) Mq Mc Q := by
  have b5 : aN s 5 ≤ 200 := hw.b 5 rfl
  have b6 : aN s 6 ≤ 1 := hw.b 6 rfl
  have e5 := hw.n 5 rfl; have e6 := hw.n 6 rfl; have e3 := hw.n 3 rfl
  have b3 : aN s 3 ≤ 1 := hw.b 3 rfl
  obtain ⟨q0, q1, q2, q3, q4, q5⟩ := hq
  have hcl := costN_le hw h4
  unfold wX6_maySay
  refine ⟨fun c => ?_, fun c => ?_⟩
  · rw [q0] at c
    simpa [c] using h
  · rw [q0] at c
    have g : s 3 = 1 := by
      rw [e3] at c ⊢
      rw [show (0 : Int32) = nI 0 from rfl, nI_eq (by omega) (by omega)] at c
      rw [show (1 : Int32) = nI 1 from rfl, nI_eq (by omega) (by omega)]
      omega
    obtain ⟨-, g5, g6, -⟩ := q1 g
    rw [g6, e6, nI_clamp (by omega)]
    refine ⟨vp_in_nI (by omega) (by decide), ?_⟩
    rw [q4 (Or.inl g) _ (by omega)]
    refine q_cost s hw Mc hc w h4 _ ?_
    rw [g5, e5]
    rw [g] at h
    by_cases hlt : w < aN s 1
    · rw [if_pos hlt, nI_ltI (by omega) (by omega)]
      refine ⟨fun z => ?_, fun z => ?_⟩
      · have : canSayN s w = false := by unfold canSayN; simp; intro _; omega
        rw [this] at h; simpa using h
      · have : canSayN s w = true := by unfold canSayN; simp; omega
        rw [this] at h; simpa using h
    · rw [if_neg hlt, show (1000 : Int32) = nI 1000 from rfl, nI_ltI (by omega) (by omega)]
      refine ⟨fun z => ?_, fun z => by omega⟩
      have : canSayN s w = false := by unfold canSayN; simp; omega
      rw [this] at h; simpa using h
theorem q_mayThrow (s : Nat → Int32) (hw : wfS s) (Mq : gS) (hq : relQ s Mq) (Q : Bool → gS → Prop) (h : Q (decide (s 3 = 1) && canThrowN s) Mq) : wX6_mayThrow Mq Q := by
  have b4 : aN s 4 ≤ 72 := hw.b 4 rfl
  have b5 : aN s 5 ≤ 200 := hw.b 5 rfl
  have b6 : aN s 6 ≤ 1 := hw.b 6 rfl
  have b3 : aN s 3 ≤ 1 := hw.b 3 rfl
  have h6 : aN s 6 < 2 := by omega
  have bp := hw.b (12 + aN s 6) (isB_12 _ h6); rw [bnd_12 _ h6] at bp
  have e3 := hw.n 3 rfl; have e4 := hw.n 4 rfl; have e5 := hw.n 5 rfl; have e6 := hw.n 6 rfl
  have ep := hw.n (12 + aN s 6) (isB_12 _ h6)
  obtain ⟨q0, q1, q2, q3, q4, q5⟩ := hq
  unfold wX6_mayThrow
  refine ⟨fun c => ?_, fun c => ?_⟩
  · rw [q0] at c
    simpa [c] using h
  · rw [q0] at c
    have g : s 3 = 1 := by
      rw [e3] at c ⊢
      rw [show (0 : Int32) = nI 0 from rfl, nI_eq (by omega) (by omega)] at c
      rw [show (1 : Int32) = nI 1 from rfl, nI_eq (by omega) (by omega)]
      omega
    obtain ⟨g4, g5, g6, -⟩ := q1 g
    rw [g4, g5, g6, e6, nI_clamp (by omega), q3 _ h6, ep, e4, e5, nI_add]
    rw [g] at h
    refine ⟨vp_in_nI (by omega) (by decide), fun z => ?_, fun z => ?_⟩
    · rw [show (0 : Int32) = nI 0 from rfl, nI_leI (by omega) (by omega)] at z
      have : canThrowN s = false := by unfold canThrowN; simp; omega
      rw [this] at h; simpa using h
    · rw [show (0 : Int32) = nI 0 from rfl, nI_leI (by omega) (by omega)] at z
      rw [show (200 : Int32) = nI 200 from rfl, nI_ltI (by omega) (by omega)]
      refine ⟨fun z2 => ?_, fun z2 => ?_⟩
      · have : canThrowN s = false := by unfold canThrowN; simp; omega
        rw [this] at h; simpa using h
      · have : canThrowN s = true := by unfold canThrowN; simp; omega
        rw [this] at h; simpa using h
