-- PURE: calls that go by rules, whatever they name
def ruls (n : Nat) (M : gS) (F : oF) (R : Nat → gS) : Prop := mg M 2 = nI n ∧ n ≤ 6 ∧ ∀ k, k < n → ∃ a, F k = some a ∧ ∃ m b τ, relRd M k (R k) m b τ
theorem tie_mono {M : gS} {wr : (Int32 → gS → Prop) → Prop} {wc wd : (Int32 → gS → gS → gS → gS → gS → gS → gS → gS → gS → gS → Prop) → Prop} (h : tieP M wr wc) (g : ∀ Q, wc Q → wd Q) : tieP M wr wd := by
  obtain ⟨r, N, k, h1, h2⟩ := h
  exact ⟨r, N, k, h1, fun Q z => g Q (h2 Q z)⟩
theorem ruls_ch {n : Nat} {M : gS} {F : oF} {R : Nat → gS} (h : ruls n M F R) {q : Nat} (hq : q < n) : ∃ a d, F q = some a ∧ chC (R q) d ∧ chM M (nI q) d := by
  obtain ⟨h1, h2, h3⟩ := h
  obtain ⟨a, e, m, b, τ, hr⟩ := h3 q hq
  exact ⟨a, fun s => chR (ma (R q) 1) (chN s (ma (R q) 1) τ b m 0), e, ⟨M, q, m, b, τ, hr, fun _ => rfl⟩, Or.inr ⟨q, m, b, τ, R q, by omega, rfl, hr, fun _ => rfl⟩⟩
theorem ruls_F {n : Nat} {M : gS} {F : oF} {R : Nat → gS} (h : ruls n M F R) : ∀ k, k < n → ∃ a, F k = some a := fun k hk => by
  obtain ⟨a, e, _⟩ := h.2.2 k hk
  exact ⟨a, e⟩
def c_runX (n : Nat) (p1 p2 : Int32) (M0 M1 M2 M3 M4 M5 M6 M7 M8 M9 : gS) (F : oF) (R : Nat → gS) (Q : Int32 → gS → gS → gS → gS → gS → gS → gS → gS → gS → gS → Prop) : Prop := (wX11_runnn p1 p2 M0 M1 M2 M3 M4 M5 M6 M7 M8 M9 F (fun r N0 N1 N2 N3 N4 N5 N6 N7 N8 N9 F' => F' = F ∧ Q r N0 N1 N2 N3 N4 N5 N6 N7 N8 N9)) ∨ (∃ q1 h11, q1 < n ∧ p1 = nI q1 ∧ p2 = -1 ∧ F q1 = some h11 ∧ wX11_runan h11 p1 p2 M0 M1 M2 M3 M4 M5 M6 M7 M8 M9 F (R q1) (fun r N0 N1 N2 N3 N4 N5 N6 N7 N8 N9 F' S1 => F' = F ∧ frC (R q1) S1 ∧ Q r N0 N1 N2 N3 N4 N5 N6 N7 N8 N9)) ∨ (∃ q1 h11, q1 < n ∧ p1 = -1 ∧ p2 = nI q1 ∧ F q1 = some h11 ∧ wX11_runna h11 p1 p2 M0 M1 M2 M3 M4 M5 M6 M7 M8 M9 F (R q1) (fun r N0 N1 N2 N3 N4 N5 N6 N7 N8 N9 F' S1 => F' = F ∧ frC (R q1) S1 ∧ Q r N0 N1 N2 N3 N4 N5 N6 N7 N8 N9)) ∨ (∃ q1 h11, q1 < n ∧ p1 = nI q1 ∧ p2 = nI q1 ∧ F q1 = some h11 ∧ wX11_runaa h11 p1 p2 M0 M1 M2 M3 M4 M5 M6 M7 M8 M9 F (R q1) (fun r N0 N1 N2 N3 N4 N5 N6 N7 N8 N9 F' S1 => F' = F ∧ frC (R q1) S1 ∧ Q r N0 N1 N2 N3 N4 N5 N6 N7 N8 N9)) ∨ (∃ q1 q2 h11 h12, q1 < n ∧ q2 < n ∧ ¬ q1 = q2 ∧ p1 = nI q1 ∧ p2 = nI q2 ∧ F q1 = some h11 ∧ F q2 = some h12 ∧ wX11_runab h11 h12 p1 p2 M0 M1 M2 M3 M4 M5 M6 M7 M8 M9 F (R q1) (R q2) (fun r N0 N1 N2 N3 N4 N5 N6 N7 N8 N9 F' S1 S2 => F' = F ∧ frC (R q1) S1 ∧ frC (R q2) S2 ∧ Q r N0 N1 N2 N3 N4 N5 N6 N7 N8 N9))
def c_wouldX (n : Nat) (p1 p2 p3 : Int32) (M0 M1 M2 M3 M4 M5 M6 M7 M8 M9 : gS) (F : oF) (R : Nat → gS) (Q : Int32 → gS → gS → gS → gS → gS → gS → gS → gS → gS → gS → Prop) : Prop := (wX11_wouldnn p1 p2 p3 M0 M1 M2 M3 M4 M5 M6 M7 M8 M9 F (fun r N0 N1 N2 N3 N4 N5 N6 N7 N8 N9 F' => F' = F ∧ Q r N0 N1 N2 N3 N4 N5 N6 N7 N8 N9)) ∨ (∃ q1 h11, q1 < n ∧ p1 = nI q1 ∧ p2 = -1 ∧ F q1 = some h11 ∧ wX11_wouldan h11 p1 p2 p3 M0 M1 M2 M3 M4 M5 M6 M7 M8 M9 F (R q1) (fun r N0 N1 N2 N3 N4 N5 N6 N7 N8 N9 F' S1 => F' = F ∧ frC (R q1) S1 ∧ Q r N0 N1 N2 N3 N4 N5 N6 N7 N8 N9)) ∨ (∃ q1 h11, q1 < n ∧ p1 = -1 ∧ p2 = nI q1 ∧ F q1 = some h11 ∧ wX11_wouldna h11 p1 p2 p3 M0 M1 M2 M3 M4 M5 M6 M7 M8 M9 F (R q1) (fun r N0 N1 N2 N3 N4 N5 N6 N7 N8 N9 F' S1 => F' = F ∧ frC (R q1) S1 ∧ Q r N0 N1 N2 N3 N4 N5 N6 N7 N8 N9)) ∨ (∃ q1 h11, q1 < n ∧ p1 = nI q1 ∧ p2 = nI q1 ∧ F q1 = some h11 ∧ wX11_wouldaa h11 p1 p2 p3 M0 M1 M2 M3 M4 M5 M6 M7 M8 M9 F (R q1) (fun r N0 N1 N2 N3 N4 N5 N6 N7 N8 N9 F' S1 => F' = F ∧ frC (R q1) S1 ∧ Q r N0 N1 N2 N3 N4 N5 N6 N7 N8 N9)) ∨ (∃ q1 q2 h11 h12, q1 < n ∧ q2 < n ∧ ¬ q1 = q2 ∧ p1 = nI q1 ∧ p2 = nI q2 ∧ F q1 = some h11 ∧ F q2 = some h12 ∧ wX11_wouldab h11 h12 p1 p2 p3 M0 M1 M2 M3 M4 M5 M6 M7 M8 M9 F (R q1) (R q2) (fun r N0 N1 N2 N3 N4 N5 N6 N7 N8 N9 F' S1 S2 => F' = F ∧ frC (R q1) S1 ∧ frC (R q2) S2 ∧ Q r N0 N1 N2 N3 N4 N5 N6 N7 N8 N9))
def c_lotsX (n : Nat) (p1 p2 p3 p4 p5 : Int32) (M0 M1 M2 M3 M4 M5 M6 M7 M8 M9 : gS) (F : oF) (R : Nat → gS) (Q : Int32 → gS → gS → gS → gS → gS → gS → gS → gS → gS → gS → Prop) : Prop := (wX11_lotsnn p1 p2 p3 p4 p5 M0 M1 M2 M3 M4 M5 M6 M7 M8 M9 F (fun r N0 N1 N2 N3 N4 N5 N6 N7 N8 N9 F' => F' = F ∧ Q r N0 N1 N2 N3 N4 N5 N6 N7 N8 N9)) ∨ (∃ q1 h11, q1 < n ∧ p1 = nI q1 ∧ p2 = nI q1 ∧ F q1 = some h11 ∧ wX11_lotsaa h11 p1 p2 p3 p4 p5 M0 M1 M2 M3 M4 M5 M6 M7 M8 M9 F (R q1) (fun r N0 N1 N2 N3 N4 N5 N6 N7 N8 N9 F' S1 => F' = F ∧ frC (R q1) S1 ∧ Q r N0 N1 N2 N3 N4 N5 N6 N7 N8 N9)) ∨ (∃ q1 q2 h11 h12, q1 < n ∧ q2 < n ∧ ¬ q1 = q2 ∧ p1 = nI q1 ∧ p2 = nI q2 ∧ F q1 = some h11 ∧ F q2 = some h12 ∧ wX11_lotsab h11 h12 p1 p2 p3 p4 p5 M0 M1 M2 M3 M4 M5 M6 M7 M8 M9 F (R q1) (R q2) (fun r N0 N1 N2 N3 N4 N5 N6 N7 N8 N9 F' S1 S2 => F' = F ∧ frC (R q1) S1 ∧ frC (R q2) S2 ∧ Q r N0 N1 N2 N3 N4 N5 N6 N7 N8 N9))
theorem t_runX {M M0 M1 M2 M3 M4 M5 M6 M7 M8 M9 : gS} (hi : inv M M0 M1 M2 M3 M4 M7) {n : Nat} {F : oF} {R : Nat → gS} (hR : ruls n M F R) (p1 p2 : Int32) : tieP M (fun Q => wX12_run p1 p2 M Q) (fun Q => c_runX n p1 p2 M0 M1 M2 M3 M4 M5 M6 M7 M8 M9 F R Q) := by
  have hn := hR.2.1
  have h2 := hR.1
  have hF := ruls_F hR
  by_cases a : ma M 25 3 = 1 ∧ isRp n p1 ∧ isRp n p2
  · obtain ⟨g, z1, z2⟩ := a
    rcases z1 with z1 | ⟨q1, k1, z1⟩
    · rcases z2 with z2 | ⟨q2, k2, z2⟩
      · rw [z1, z2]
        exact tie_mono (t_runnn hi g hn h2 hF) (fun Q h => Or.inl h)
      · obtain ⟨x, d, e1, e2, e3⟩ := ruls_ch hR k2
        rw [z1, z2]
        exact tie_mono (t_runna hi g hn h2 hF k2 e1 e2 e3) (fun Q h => Or.inr (Or.inr (Or.inl ⟨q2, x, k2, rfl, rfl, e1, h⟩)))
    · obtain ⟨x, d, e1, e2, e3⟩ := ruls_ch hR k1
      rcases z2 with z2 | ⟨q2, k2, z2⟩
      · rw [z1, z2]
        exact tie_mono (t_runan hi g hn h2 hF k1 e1 e2 e3) (fun Q h => Or.inr (Or.inl ⟨q1, x, k1, rfl, rfl, e1, h⟩))
      · obtain ⟨y, d', f1, f2, f3⟩ := ruls_ch hR k2
        rw [z1, z2]
        by_cases e : q1 = q2
        · subst e
          exact tie_mono (t_runaa hi g hn h2 hF k1 e1 e2 e3) (fun Q h => Or.inr (Or.inr (Or.inr (Or.inl ⟨q1, x, k1, rfl, rfl, e1, h⟩))))
        · exact tie_mono (t_runab hi g hn h2 hF k1 e1 e2 e3 k2 f1 f2 f3) (fun Q h => Or.inr (Or.inr (Or.inr (Or.inr ⟨q1, q2, x, y, k1, k2, e, rfl, rfl, e1, f1, h⟩))))
  · exact tie_mono (t_run_no hi hn h2 hF a) (fun Q h => Or.inl h)
theorem t_wouldX {M M0 M1 M2 M3 M4 M5 M6 M7 M8 M9 : gS} (hi : inv M M0 M1 M2 M3 M4 M7) {n : Nat} {F : oF} {R : Nat → gS} (hR : ruls n M F R) (p1 p2 p3 : Int32) : tieP M (fun Q => wX12_would p1 p2 p3 M Q) (fun Q => c_wouldX n p1 p2 p3 M0 M1 M2 M3 M4 M5 M6 M7 M8 M9 F R Q) := by
  have hn := hR.2.1
  have h2 := hR.1
  have hF := ruls_F hR
  by_cases a : ma M 25 3 = 1 ∧ isRp n p1 ∧ isRp n p2 ∧ 0 ≤ p3 ∧ p3 ≤ 3
  · obtain ⟨g, z1, z2, hp⟩ := a
    rcases z1 with z1 | ⟨q1, k1, z1⟩
    · rcases z2 with z2 | ⟨q2, k2, z2⟩
      · rw [z1, z2]
        exact tie_mono (t_wouldnn hi g hn h2 hF hp) (fun Q h => Or.inl h)
      · obtain ⟨x, d, e1, e2, e3⟩ := ruls_ch hR k2
        rw [z1, z2]
        exact tie_mono (t_wouldna hi g hn h2 hF k2 e1 e2 e3 hp) (fun Q h => Or.inr (Or.inr (Or.inl ⟨q2, x, k2, rfl, rfl, e1, h⟩)))
    · obtain ⟨x, d, e1, e2, e3⟩ := ruls_ch hR k1
      rcases z2 with z2 | ⟨q2, k2, z2⟩
      · rw [z1, z2]
        exact tie_mono (t_wouldan hi g hn h2 hF k1 e1 e2 e3 hp) (fun Q h => Or.inr (Or.inl ⟨q1, x, k1, rfl, rfl, e1, h⟩))
      · obtain ⟨y, d', f1, f2, f3⟩ := ruls_ch hR k2
        rw [z1, z2]
        by_cases e : q1 = q2
        · subst e
          exact tie_mono (t_wouldaa hi g hn h2 hF k1 e1 e2 e3 hp) (fun Q h => Or.inr (Or.inr (Or.inr (Or.inl ⟨q1, x, k1, rfl, rfl, e1, h⟩))))
        · exact tie_mono (t_wouldab hi g hn h2 hF k1 e1 e2 e3 k2 f1 f2 f3 hp) (fun Q h => Or.inr (Or.inr (Or.inr (Or.inr ⟨q1, q2, x, y, k1, k2, e, rfl, rfl, e1, f1, h⟩))))
  · exact tie_mono (t_would_no hi hn h2 hF a) (fun Q h => Or.inl h)
theorem lot_n {s : Nat → Int32} {p3 p4 p5 : Int32} (h : lotOK s p3 p4 p5) : ∃ m p, p3 = nI m ∧ p4 = nI p ∧ m ≤ 50 ∧ p ≤ 7 := by
  obtain ⟨_, ⟨a1, a2⟩, ⟨b1, b2⟩, _⟩ := h
  have na : ¬ p3 < 0 := Int32.not_lt.2 (Int32.le_trans (by decide) a1)
  obtain ⟨m, hm, e3⟩ := nI_of na
  obtain ⟨p, hp, e4⟩ := nI_of (Int32.not_lt.2 b1)
  refine ⟨m, p, e3, e4, ?_, ?_⟩
  · rw [e3] at a2
    exact Nat.le_of_not_lt (fun z => Int32.not_lt.2 a2 (show nI 50 < nI m from nI_lt z hm))
  · rw [e4] at b2
    exact Nat.le_of_not_lt (fun z => Int32.not_lt.2 b2 (show nI 7 < nI p from nI_lt z hp))
theorem t_lotsX {M M0 M1 M2 M3 M4 M5 M6 M7 M8 M9 : gS} (hi : inv M M0 M1 M2 M3 M4 M7) {n : Nat} {F : oF} {R : Nat → gS} (hR : ruls n M F R) (p1 p2 p3 p4 p5 : Int32) : tieP M (fun Q => wX12_lots p1 p2 p3 p4 p5 M Q) (fun Q => c_lotsX n p1 p2 p3 p4 p5 M0 M1 M2 M3 M4 M5 M6 M7 M8 M9 F R Q) := by
  have hn := hR.2.1
  have h2 := hR.1
  have hF := ruls_F hR
  by_cases a : isR2 n p1 p2 ∧ lotOK (ma M 25) p3 p4 p5
  · obtain ⟨z, lo⟩ := a
    obtain ⟨m, p, e3, e4, hm, hp⟩ := lot_n lo
    rw [e3, e4] at lo ⊢
    rcases z with ⟨z1, z2⟩ | ⟨q1, q2, k1, k2, z1, z2⟩
    · rw [z1, z2]
      exact tie_mono (t_lotsnn hi hn h2 lo hm hp) (fun Q h => Or.inl h)
    · obtain ⟨x, d, e1, e2, e3⟩ := ruls_ch hR k1
      obtain ⟨y, d', f1, f2, f3⟩ := ruls_ch hR k2
      rw [z1, z2]
      by_cases e : q1 = q2
      · subst e
        exact tie_mono (t_lotsaa hi hn h2 k1 e1 e2 e3 lo hm hp) (fun Q h => Or.inr (Or.inl ⟨q1, x, k1, rfl, rfl, e1, h⟩))
      · exact tie_mono (t_lotsab hi hn h2 k1 e1 e2 e3 k2 f1 f2 f3 lo hm hp) (fun Q h => Or.inr (Or.inr ⟨q1, q2, x, y, k1, k2, e, rfl, rfl, e1, f1, h⟩))
  · exact tie_mono (t_lots_no hi hn h2 hF a) (fun Q h => Or.inl h)
