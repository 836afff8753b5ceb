-- PURE: who can have it, by sums
def lk (k : Nat) : Nat := if k = 0 then 4 else k - 1
def costK (s : Nat → Int32) (w k : Nat) : Nat := aN s (28 + w) + (if w + 1 = k then aN s 2 else 0)
def kw (K w : Nat) : Nat := if K = 1 then 0 else w + 1
def kOK (s : Nat → Int32) (K : Nat) : Prop := (aN s 2 = 0 ∧ K = 1) ∨ (aN s 2 ≠ 0 ∧ K = aN s 1 + 1)
theorem costK_eq {s : Nat → Int32} {w k : Nat} (h : w < 4) : costK s w k = costW s w (lk k) := by
  unfold costK costW lk
  by_cases c : k = 0
  · subst c
    rw [if_pos rfl, if_neg (by omega), if_neg (by omega)]
  · rw [if_neg c]
    by_cases d : w + 1 = k
    · rw [if_pos d, if_pos (by omega)]
    · rw [if_neg d, if_neg (by omega)]
theorem costK_b {s : Nat → Int32} (hw : wfS s) {w k : Nat} (h : w < aN s 1) : 1 ≤ costK s w k ∧ costK s w k ≤ 18 := by
  have b1 : aN s 1 ≤ 4 := hw.b 1 rfl
  have b2 : aN s 2 ≤ 9 := hw.b 2 rfl
  have bw := hw.b (28 + w) (isB_28 w (by omega)); rw [bnd_28 w (by omega)] at bw
  have := hw.2.2.1 w h
  unfold costK
  split <;> omega
theorem canF_ag {s : Nat → Int32} (h2 : aN s 2 = 0) (v : Nat) : ∀ k left m t l h l' h', canF s v k left m t l h = canF s v k left m t l' h' := by
  have hc : ∀ w l, costW s w l = aN s (28 + w) := by
    intro w l; unfold costW; rw [h2]; split <;> rfl
  intro k
  induction k with
  | zero => intros; rfl
  | succ k ih =>
    intro left m t l h l' h'
    rw [canF, canF]
    congr 1
    · refine any_cg (fun w _ => ?_)
      rw [hc w l, hc w l', ih _ t m h w h' w]
    · rw [ih (left + v) (m - 1) t l h l' h']
theorem Can_ag {s : Nat → Int32} (h2 : aN s 2 = 0) (v left m t l h l' h' : Nat) : Can s v left m t l h = Can s v left m t l' h' := canF_ag h2 v _ _ _ _ _ _ _ _
theorem Can_kw {s : Nat → Int32} {K : Nat} (hK : kOK s K) (v left m t l w : Nat) (hw : w < aN s 1) : Can s v left m t l (lk (kw K w)) = Can s v left m t l w := by
  unfold kw
  by_cases c : K = 1
  · rcases hK with h | h
    · exact Can_ag h.1 v left m t _ _ _ _
    · omega
  · rw [if_neg c]; unfold lk; rw [if_neg (by omega), Nat.add_sub_cancel]
def stG (v σ m t : Nat) : Bool := decide (v * (m + t) ≤ σ) && decide (σ ≤ v * (m + t) + 200)
theorem stG_iff {v σ m t : Nat} : stG v σ m t = true ↔ v * (m + t) ≤ σ ∧ σ ≤ v * (m + t) + 200 := by
  unfold stG; rw [Bool.and_eq_true, decide_eq_true_eq, decide_eq_true_eq]
def wB (s : Nat → Int32) (v σ a b m t : Nat) : Bool := stG v σ m t && Can s v (σ - v * (m + t)) m t (lk a) (lk b)
def spB (s : Nat → Int32) (v K σ a b m t : Nat) : Prop := ∃ w, w < aN s 1 ∧ costK s w a ≤ σ ∧ v * (m + t) ≤ σ - costK s w a ∧ wB s v (σ - costK s w a) b (kw K w) t m = false
theorem sp_iff {s : Nat → Int32} (hw : wfS s) {K : Nat} (hK : kOK s K) {v σ a b m t : Nat} (hs : stG v σ m t = true) : (List.range (aN s 1)).any (fun w => decide (costW s w (lk a) ≤ σ - v * (m + t)) && !Can s v (σ - v * (m + t) - costW s w (lk a)) t m (lk b) w) = true ↔ spB s v K σ a b m t := by
  have b1 : aN s 1 ≤ 4 := hw.b 1 rfl
  rw [stG_iff] at hs
  rw [List.any_eq_true]
  have core : ∀ w, w < aN s 1 → costK s w a ≤ σ → v * (m + t) ≤ σ - costK s w a → wB s v (σ - costK s w a) b (kw K w) t m = Can s v (σ - v * (m + t) - costW s w (lk a)) t m (lk b) w := by
    intro w w1 w2 w3
    have hc := costK_b hw (k := a) w1
    unfold wB
    rw [Nat.add_comm t m]
    rw [stG_iff.2 (by rw [Nat.add_comm t m]; omega), Bool.true_and, Can_kw hK _ _ _ _ _ _ w1, ← costK_eq (by omega), Nat.sub_right_comm]
  constructor
  · rintro ⟨w, w1, w2⟩
    rw [List.mem_range] at w1
    rw [Bool.and_eq_true, decide_eq_true_eq, Bool.not_eq_true'] at w2
    obtain ⟨w2, w3⟩ := w2
    rw [← costK_eq (by omega)] at w2
    refine ⟨w, w1, by omega, by omega, ?_⟩
    rw [core w w1 (by omega) (by omega)]
    exact w3
  · rintro ⟨w, w1, w2, w3, w4⟩
    refine ⟨w, List.mem_range.2 w1, ?_⟩
    rw [core w w1 w2 w3] at w4
    rw [Bool.and_eq_true, decide_eq_true_eq, Bool.not_eq_true', ← costK_eq (by omega)]
    refine ⟨by omega, ?_⟩
    rw [costK_eq (by omega)]
    exact w4
theorem wB_iff {s : Nat → Int32} (hw : wfS s) {K : Nat} (hK : kOK s K) {v σ a b t : Nat} : ∀ m, wB s v σ a b m t = true ↔ stG v σ m t = true ∧ ∃ j, j ≤ m ∧ stG v σ j t = true ∧ spB s v K σ a b j t := by
  intro m
  induction m with
  | zero =>
    unfold wB
    rw [Bool.and_eq_true]
    refine and_congr_right (fun hs => ?_)
    rw [Can_eq hw, show decide (0 < 0) = false from rfl, Bool.false_and, Bool.false_and, Bool.or_false, sp_iff hw hK hs]
    exact ⟨fun z => ⟨0, Nat.le_refl _, hs, z⟩, fun ⟨j, j1, _, j3⟩ => by rw [show j = 0 by omega] at j3; exact j3⟩
  | succ m ih =>
    have e : v * (m + 1 + t) = v * (m + t) + v := by
      rw [show m + 1 + t = (m + t) + 1 by omega, Nat.mul_succ]
    unfold wB
    rw [Bool.and_eq_true]
    refine and_congr_right (fun hs => ?_)
    have hs' := stG_iff.1 hs
    rw [Can_eq hw, Bool.or_eq_true, sp_iff hw hK hs]
    have e2 : (decide (0 < m + 1) && decide (σ - v * (m + 1 + t) + v ≤ 200) && Can s v (σ - v * (m + 1 + t) + v) (m + 1 - 1) t (lk a) (lk b)) = true ↔ ∃ j, j ≤ m ∧ stG v σ j t = true ∧ spB s v K σ a b j t := by
      rw [decide_eq_true (show 0 < m + 1 by omega), Bool.true_and, Nat.add_sub_cancel, show σ - v * (m + 1 + t) + v = σ - v * (m + t) by omega]
      by_cases c : σ - v * (m + t) ≤ 200
      · have hm : stG v σ m t = true := stG_iff.2 (by omega)
        rw [decide_eq_true c, Bool.true_and]
        have := ih
        unfold wB at this
        rw [hm, Bool.true_and] at this
        rw [this]
        exact ⟨fun z => z.2, fun z => ⟨rfl, z⟩⟩
      · rw [decide_eq_false c, Bool.false_and]
        refine ⟨fun z => absurd z (by decide), fun ⟨j, j1, j2, _⟩ => ?_⟩
        rw [stG_iff] at j2
        have : v * (j + t) ≤ v * (m + t) := Nat.mul_le_mul_left v (by omega)
        omega
    rw [e2]
    constructor
    · rintro (z | ⟨j, j1, j2⟩)
      · exact ⟨m + 1, Nat.le_refl _, hs, z⟩
      · exact ⟨j, by omega, j2⟩
    · rintro ⟨j, j1, j2, j3⟩
      by_cases c : j = m + 1
      · subst c; exact Or.inl j3
      · exact Or.inr ⟨j, by omega, j2, j3⟩
