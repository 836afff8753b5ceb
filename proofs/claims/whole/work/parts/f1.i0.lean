-- PURE: how it begins
def tabP (p j : Nat) (N : gS) : Prop := ∀ k, k < 15 → ∀ b, b < 64 → lb (ml N 0 k) b = decide (b / 8 + b % 8 ≤ k ∧ (b < p ∨ (b = p ∧ k < j)))
theorem best_x : ∀ p, p < 64 → nI p / 8 + (nI p - nI p / 8 * 8) = nI (p / 8 + p % 8) := by decide +kernel
theorem best53 {Q : gS → Prop} {B : Int32 → gS → Prop} {p : Nat} (hp : p < 64) (h : ∀ N, tabP p 15 N → B (nI (p + 1)) N) : ∀ n j, j + n = 15 → p / 8 + p % 8 ≤ j → ∀ N, tabP p j N → wX0_init_53 B Q (n + 1) (nI p) (nI j) N := by
  intro n
  induction n with
  | zero =>
    intro j hj _ N hN
    rw [wX0_init_53]
    refine sw_t (show nI 14 < nI j from nI_lt (by omega) (by omega)) (fun x2 h2 => ?_)
    rw [h2, nI_1]
    exact h N (by rw [show 15 = j by omega]; exact hN)
  | succ n ih =>
    intro j hj hpj N hN
    rw [wX0_init_53, nI_clamp (by omega)]
    refine sw_f (show ¬ nI 14 < nI j from nI_nlt (by omega) (by omega)) ⟨vp_in_nI (by omega) (by decide), fun x3 h3 => ⟨vp_in_nI (by omega) (by decide), fun N4 h4 x5 h5 => ?_⟩⟩
    rw [h5, nI_1]
    refine ih (j + 1) (by omega) (by omega) N4 (fun k hk b hb => ?_)
    have e : ml N4 0 k = if k = j then x3 else ml N 0 k := by rw [h4]; rfl
    rw [e]
    by_cases z : k = j
    · subst z
      rw [if_pos rfl, h3, l_or, hN k hk b hb, l_shl p rfl hp 1 hb, l_1 _ (by omega), ← Bool.decide_and, ← Bool.decide_or]
      apply decide_eq_decide.2
      constructor
      · rintro (⟨q1, q2⟩ | ⟨q1, q2⟩)
        · exact ⟨q1, q2.elim Or.inl (fun y => Or.inr ⟨y.1, by omega⟩)⟩
        · have : b = p := by omega
          subst this
          exact ⟨hpj, Or.inr ⟨rfl, by omega⟩⟩
      · rintro ⟨q1, q2 | q2⟩
        · exact Or.inl ⟨q1, Or.inl q2⟩
        · exact Or.inr ⟨by omega, by omega⟩
    · rw [if_neg z, hN k hk b hb]
      apply decide_eq_decide.2
      constructor
      · rintro ⟨q1, q2⟩
        exact ⟨q1, q2.elim Or.inl (fun y => Or.inr ⟨y.1, by omega⟩)⟩
      · rintro ⟨q1, q2⟩
        exact ⟨q1, q2.elim Or.inl (fun y => Or.inr ⟨y.1, by omega⟩)⟩
theorem best37 {Q : gS → Prop} (h : ∀ N, okB N → Q N) : ∀ n p, p + n = 64 → ∀ N, tabP p 0 N → wX0_init_37 Q (n + 1) (nI p) N := by
  intro n
  induction n with
  | zero =>
    intro p hp N hN
    rw [wX0_init_37]
    refine sw_t (show nI 64 ≤ nI p from nI_le (by omega) (by omega)) (h N (fun k hk b hb => ?_))
    have := hN k hk b hb
    unfold lb at this
    rw [this]
    apply decide_eq_decide.2
    constructor
    · exact fun q => q.1
    · exact fun q => ⟨q, Or.inl (by omega)⟩
  | succ n ih =>
    intro p hp N hN
    rw [wX0_init_37]
    refine sw_f (Int32.not_le.2 (show nI p < nI 64 from nI_lt (by omega) (by omega))) (fun x2 h2 => ⟨15 - (p / 8 + p % 8) + 1, ?_⟩)
    rw [h2, best_x p (by omega)]
    refine best53 (by omega) (fun N' hN' => ih (p + 1) (by omega) N' (fun k hk b hb => ?_)) (15 - (p / 8 + p % 8)) (p / 8 + p % 8) (by omega) (Nat.le_refl _) N (fun k hk b hb => ?_)
    · rw [hN' k hk b hb]
      apply decide_eq_decide.2
      constructor
      · rintro ⟨q1, q2⟩
        exact ⟨q1, Or.inl (by omega)⟩
      · rintro ⟨q1, q2⟩
        exact ⟨q1, by omega⟩
    · rw [hN k hk b hb]
      apply decide_eq_decide.2
      constructor
      · rintro ⟨q1, q2⟩
        exact ⟨q1, Or.inl (by omega)⟩
      · rintro ⟨q1, q2⟩
        refine ⟨q1, Or.inl ?_⟩
        rcases q2 with y | ⟨y1, y2⟩
        · exact y
        · subst y1; omega
theorem c_best : wX0_init zS okB := ⟨65, best37 (fun N h => h) 64 0 rfl zS (fun k hk b hb => by
  rw [show ml zS 0 k = 0 from rfl, l_0]
  exact (decide_eq_false (by omega)).symm)⟩
def quar0 : gS := sa (sa (sg (sg zS 1 (1)) 6 (-1)) 8 0 (-1)) 8 1 (-1)
theorem inv_0 {M7 : gS} (h : okB M7) : inv zS zS zS zS quar0 zS M7 := by
  have a0 : ∀ k, aN (ma zS 25) k = 0 := fun k => rfl
  have s0 : ∀ k, ma zS 25 k = 0 := fun k => rfl
  refine ⟨⟨⟨fun k _ => ⟨by rw [s0]; decide, by rw [a0]; omega⟩, fun j _ => Or.inl (by rw [a0]; omega), fun j hj => absurd hj (by rw [a0]; omega), fun j hj => absurd hj (by rw [a0]; omega), fun j hj => absurd hj (by rw [a0]; omega)⟩, fun z => absurd z (by rw [s0]; decide)⟩, ⟨⟨fun j _ => rfl, rfl⟩, ⟨rfl, rfl, rfl, fun j hj => absurd hj (by rw [a0]; omega), fun j hj => absurd hj (by rw [a0]; omega)⟩, ⟨rfl, fun z => absurd z (by rw [s0]; decide), rfl, fun j _ => rfl, fun z => ?_, fun j _ => rfl⟩, ⟨rfl, fun j hj => absurd hj (by rw [a0]; omega)⟩⟩, ⟨rfl, ⟨0, by omega, rfl⟩, fun j => ⟨by rw [show ma zS 0 j = 0 from rfl]; decide, by show isByte 0; unfold isByte; decide⟩, rfl, ⟨0, by omega, rfl⟩⟩, h⟩
  rcases z with z | z
  · exact absurd z (by rw [s0]; decide)
  · exact absurd (s0 0) z
