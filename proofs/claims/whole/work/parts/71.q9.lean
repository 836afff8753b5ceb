theorem q_hasTune (s : Nat → Int32) (hw : wfS s) (Mc : gS) (hc : relC s Mc) (p : Int32) (Q : Bool → gS → Prop) (h : Q (decide (0 ≤ p) && decide (p < s 0)) Mc) : wX1_hasTune p Mc Q := by
  have b0 : aN s 0 ≤ 4 := hw.b 0 rfl
  have e0 := hw.n 0 rfl
  have t0 : (s 0).toInt = (aN s 0 : Int) := by rw [e0, nI_toInt (by omega)]
  have z0 : (0 : Int32).toInt = 0 := by decide
  have z4 : (4 : Int32).toInt = 4 := by decide
  unfold wX1_hasTune
  rw [hc.1]
  refine ⟨fun c => ?_, fun c => ⟨fun c2 => ?_, fun c2 => ⟨fun c3 => ?_, fun c3 => ?_⟩⟩⟩
  · rw [Int32.lt_iff_toInt_lt, z0] at c
    have e : ¬ (0 : Int32) ≤ p := by rw [Int32.le_iff_toInt_le, z0]; omega
    simpa [e] using h
  · rw [Int32.le_iff_toInt_le, t0] at c2
    have e : ¬ p < s 0 := by rw [Int32.lt_iff_toInt_lt, t0]; omega
    simpa [e] using h
  · rw [Int32.le_iff_toInt_le, z4] at c3
    rw [Int32.le_iff_toInt_le, t0] at c2
    omega
  · rw [Int32.lt_iff_toInt_lt, z0] at c
    rw [Int32.le_iff_toInt_le, t0] at c2
    have e : (0 : Int32) ≤ p := by rw [Int32.le_iff_toInt_le, z0]; omega
    have e2 : p < s 0 := by rw [Int32.lt_iff_toInt_lt, t0]; omega
    simpa [e, e2] using h
theorem q_verseOf (s : Nat → Int32) (hw : wfS s) (Mc : gS) (hc : relC s Mc) (t : Nat) (ht : t < aN s 0) (Q : Int32 → gS → Prop) (h : Q (nI (verseN s t)) Mc) : wX1_verseOf (nI t) Mc Q := by
  have b0 : aN s 0 ≤ 4 := hw.b 0 rfl
  unfold wX1_verseOf
  refine q_hasTune s hw Mc hc (nI t) _ ⟨fun c => ?_, fun _ => ?_⟩
  · rw [bI_0] at c
    exfalso
    have h1 : (0 : Int32) ≤ nI t := nI_pos' (by omega)
    have h2 : nI t < s 0 := by rw [hw.n 0 rfl]; exact nI_lt ht (by omega)
    simp [h1, h2] at c
  · refine ⟨vp_in_nI (by omega) (by decide), ?_⟩
    rw [nI_clamp (by omega), hc.2.2.2.1 t ht]
    exact h
/-- a quarrel whose words are forgotten -/
def forgC (Mq : gS) : gS := sa (sa (sa (sa (sg (sg Mq 4 0) 6 (-1)) 8 0 (-1)) 9 0 0) 8 1 (-1)) 9 1 0
theorem q_forget (Mq : gS) (Q : gS → Prop) (h : Q (forgC Mq)) : wX6_forgetWords Mq Q := by
  unfold wX6_forgetWords
  intro N1 h1 N2 h2
  refine ⟨3, ?_⟩
  rw [wX6_forgetWords_12]
  refine ⟨fun c => absurd c (by decide), fun _ => ⟨vp_in_c (j := 0) (by decide) (by decide) (by decide), fun N3 h3 => ⟨vp_in_c (j := 0) (by decide) (by decide) (by decide), fun N4 h4 x hx => ?_⟩⟩⟩
  have ex : x = 1 := by rw [hx]; rfl
  subst ex
  rw [wX6_forgetWords_12]
  refine ⟨fun c => absurd c (by decide), fun _ => ⟨vp_in_c (j := 1) (by decide) (by decide) (by decide), fun N5 h5 => ⟨vp_in_c (j := 1) (by decide) (by decide) (by decide), fun N6 h6 y hy => ?_⟩⟩⟩
  have ey : y = 2 := by rw [hy]; rfl
  subst ey
  rw [wX6_forgetWords_12]
  refine ⟨fun _ => ?_, fun c => absurd (by decide) c⟩
  have e : N6 = forgC Mq := by
    subst h6 h5 h4 h3 h2 h1
    unfold forgC
    rw [show Int32.toNatClampNeg 0 = 0 by decide, show Int32.toNatClampNeg 1 = 1 by decide]
  rw [e]; exact h
theorem q_start (s : Nat → Int32) (hw : wfS s) (Mq Mc : gS) (hc : relC s Mc) (q2 : mg Mq 5 = s 9) (q3 : ∀ j, j < 2 → ma Mq 7 j = s (12 + j)) (t : Nat) (ht : t < aN s 0) (f : Nat) (hf : f ≤ 1) (Q : gS → gS → Prop) (h : ∀ N, postQ (beginS s (verseN s t) f) N → Q N Mc) : wX6_start (nI t) (nI f) Mq Mc Q := by
  have b0 : aN s 0 ≤ 4 := hw.b 0 rfl
  have hv := verse_le hw (t := t) (by omega)
  have key : ∀ N8, N8 = sg (sg (sg (forgC Mq) 0 1) 1 (nI (verseN s t))) 2 (nI (verseN s t)) → wX6_start_36 Q (nI f) N8 Mc := by
    intro N8 h8
    unfold wX6_start_36
    intro N1 h1
    have rq : relQ (beginS s (verseN s t) f) N1 := by
      subst h1 h8
      refine ⟨rfl, fun _ => ⟨rfl, rfl, rfl, rfl⟩, ?_, fun j hj => ?_, fun _ j hj => ?_, fun j hj => ?_⟩
      · rw [begin_keep (by omega)]; exact q2
      · rw [begin_keep (by omega)]; exact q3 j hj
      · rcases (show j = 0 ∨ j = 1 by omega) with rfl | rfl <;> rfl
      · rcases (show j = 0 ∨ j = 1 by omega) with rfl | rfl <;> rfl
    exact q_end _ (begin_wf hw hv hf) begin_spk N1 Mc rq (begin_C hw hc) rfl _ h
  unfold wX6_start
  refine q_forget Mq _ ?_
  intro N3 h3
  refine q_verseOf s hw Mc hc t ht _ ?_
  intro N6 h6 x7 h7 N8 h8
  have e8 : N8 = sg (sg (sg (forgC Mq) 0 1) 1 (nI (verseN s t))) 2 (nI (verseN s t)) := by
    subst h8 h7 h6 h3; rfl
  refine ⟨fun c => ?_, fun c => ?_⟩
  · rw [show (0 : Int32) = nI 0 from rfl, nI_eq (by omega) (by omega)] at c
    subst c
    exact key N8 e8
  · rw [show (0 : Int32) = nI 0 from rfl, nI_eq (by omega) (by omega)] at c
    have : f = 1 := by omega
    subst this
    exact key N8 e8
