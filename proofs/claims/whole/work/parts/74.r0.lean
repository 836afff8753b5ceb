-- PURE: the whole class beside the whole reference
def relO (s : Nat → Int32) (M4 : gS) : Prop := mg M4 0 = s 10 ∧ ∀ j, j < aN s 10 → ma M4 1 j = s (32 + 2 * j) ∧ ma M4 2 j = s (33 + 2 * j)
def relS (s : Nat → Int32) (M1 M2 M3 M4 : gS) : Prop := relW s M1 ∧ relC s M2 ∧ relQ s M3 ∧ relO s M4
/-- a quarrel that goes on -/
def onS (s : Nat → Int32) : Prop := spk s ∧ 1 ≤ aN s 0 ∧ (∀ j, j < 2 → aN s (14 + j) < aN s 1 ∨ aN s (14 + j) = 9) ∧ 1 ≤ aN s 4
def goodS (s : Nat → Int32) : Prop := wfS s ∧ (s 3 = 1 → onS s)
def isByte (x : Int32) : Prop := -128 ≤ x.toInt ∧ x.toInt ≤ 127
/-- tape and the number of rules -/
def relT (M M0 : gS) : Prop := mg M0 1 = mg M 1 ∧ (∃ n, n ≤ 400 ∧ mg M 1 = nI n) ∧ (∀ j, ma M0 0 j = ma M 0 j &&& 255 ∧ isByte (ma M 0 j)) ∧ mg M0 3 = mg M 2 ∧ (∃ n, n ≤ 6 ∧ mg M 2 = nI n)
/-- BestPlay's table of purses -/
def okB (M7 : gS) : Prop := ∀ k, k < 15 → ∀ b, b < 64 → (ml M7 0 k).toBitVec.getLsbD b = decide (b / 8 + b % 8 ≤ k)
def inv (M M0 M1 M2 M3 M4 M7 : gS) : Prop := goodS (ma M 25) ∧ relS (ma M 25) M1 M2 M3 M4 ∧ relT M M0 ∧ okB M7
/-- alike in all that stays from call to call -/
def eqM (M N : gS) : Prop := mg N 1 = mg M 1 ∧ mg N 2 = mg M 2 ∧ ma N 0 = ma M 0 ∧ ma N 3 = ma M 3 ∧ ma N 5 = ma M 5 ∧ ma N 6 = ma M 6 ∧ ma N 25 = ma M 25 ∧ ma N 35 = ma M 35 ∧ ma N 36 = ma M 36
/-- rules and images stay -/
def keepR (M N : gS) : Prop := mg N 2 = mg M 2 ∧ ma N 3 = ma M 3 ∧ ma N 5 = ma M 5 ∧ ma N 6 = ma M 6 ∧ ma N 35 = ma M 35 ∧ ma N 36 = ma M 36
theorem eqM_refl (M : gS) : eqM M M := ⟨rfl, rfl, rfl, rfl, rfl, rfl, rfl, rfl, rfl⟩
theorem eqM_trans {A B C : gS} (h : eqM A B) (g : eqM B C) : eqM A C := by
  obtain ⟨a1, a2, a3, a4, a5, a6, a7, a8, a9⟩ := h
  obtain ⟨b1, b2, b3, b4, b5, b6, b7, b8, b9⟩ := g
  exact ⟨b1.trans a1, b2.trans a2, b3.trans a3, b4.trans a4, b5.trans a5, b6.trans a6, b7.trans a7, b8.trans a8, b9.trans a9⟩
theorem keepR_refl (M : gS) : keepR M M := ⟨rfl, rfl, rfl, rfl, rfl, rfl⟩
theorem inv_eq {M N M0 M1 M2 M3 M4 M7 : gS} (h : eqM M N) (hi : inv M M0 M1 M2 M3 M4 M7) : inv N M0 M1 M2 M3 M4 M7 := by
  obtain ⟨a1, a2, a3, -, -, -, a7, -, -⟩ := h
  unfold inv relT at *
  rw [a1, a2, a3, a7]
  exact hi
/-- class and reference answer alike, and stand to each other behind it as before -/
def tieP (M : gS) (wr : (Int32 → gS → Prop) → Prop) (wc : (Int32 → gS → gS → gS → gS → gS → gS → gS → gS → gS → gS → Prop) → Prop) : Prop := ∃ (r : Int32) (N' : gS), keepR M N' ∧ (∀ Q : Int32 → gS → Prop, (∀ N, eqM N' N → Q r N) → wr Q) ∧ (∀ Q : Int32 → gS → gS → gS → gS → gS → gS → gS → gS → gS → gS → Prop, (∀ N0 N1 N2 N3 N4 N5 N6 N7 N8 N9 : gS, inv N' N0 N1 N2 N3 N4 N7 → Q r N0 N1 N2 N3 N4 N5 N6 N7 N8 N9) → wc Q)
theorem tieP_same {M M0 M1 M2 M3 M4 M5 M6 M7 M8 M9 : gS} {wr : (Int32 → gS → Prop) → Prop} {wc : (Int32 → gS → gS → gS → gS → gS → gS → gS → gS → gS → gS → Prop) → Prop} (hi : inv M M0 M1 M2 M3 M4 M7) (r : Int32) (hr : ∀ Q : Int32 → gS → Prop, (∀ N, eqM M N → Q r N) → wr Q) (hc : ∀ Q : Int32 → gS → gS → gS → gS → gS → gS → gS → gS → gS → gS → Prop, Q r M0 M1 M2 M3 M4 M5 M6 M7 M8 M9 → wc Q) : tieP M wr wc :=
  ⟨r, M, keepR_refl M, hr, fun Q h => hc Q (h _ _ _ _ _ _ _ _ _ _ hi)⟩
theorem tieP_row {M M0 M1 M2 M3 M4 M5 M6 M7 M8 M9 : gS} {wr : (Int32 → gS → Prop) → Prop} {wc : (Int32 → gS → gS → gS → gS → gS → gS → gS → gS → gS → gS → Prop) → Prop} (hi : inv M M0 M1 M2 M3 M4 M7) (r : Int32) (u : Nat → Int32) (hu : goodS u) (hr : ∀ Q : Int32 → gS → Prop, (∀ N, eqM (sF M 25 u) N → Q r N) → wr Q) (hc : ∀ Q : Int32 → gS → gS → gS → gS → gS → gS → gS → gS → gS → gS → Prop, (∀ N1 N2 N3 N4 : gS, relS u N1 N2 N3 N4 → Q r M0 N1 N2 N3 N4 M5 M6 M7 M8 M9) → wc Q) : tieP M wr wc :=
  ⟨r, sF M 25 u, ⟨rfl, rfl, rfl, rfl, rfl, rfl⟩, hr, fun Q h => hc Q (fun N1 N2 N3 N4 hN => h _ _ _ _ _ _ _ _ _ _ ⟨hu, hN, hi.2.2.1, hi.2.2.2⟩)⟩
theorem bw_t {A B : Prop} (h : B) : (bI true = 0 → A) ∧ (¬ bI true = 0 → B) := ⟨fun c => absurd c (by decide), fun _ => h⟩
theorem bw_f {A B : Prop} (h : A) : (bI false = 0 → A) ∧ (¬ bI false = 0 → B) := ⟨fun _ => h, fun c => absurd rfl c⟩
theorem m_in_t {p lo hi : Int32} {a b : Int64} {M : gS} {Q : Bool → gS → Prop} (ha : a = Int32.toInt64 lo) (hb : b = Int32.toInt64 hi) (h1 : lo ≤ p) (h2 : p ≤ hi) (h : Q true M) : wX12_in (Int32.toInt64 p) a b M Q := by
  refine m_in _ _ _ M Q ?_
  subst ha hb
  have e1 : Int32.toInt64 lo ≤ Int32.toInt64 p := by
    rw [Int64.le_iff_toInt_le, Int32.toInt_toInt64, Int32.toInt_toInt64]; exact Int32.le_iff_toInt_le.1 h1
  have e2 : Int32.toInt64 p ≤ Int32.toInt64 hi := by
    rw [Int64.le_iff_toInt_le, Int32.toInt_toInt64, Int32.toInt_toInt64]; exact Int32.le_iff_toInt_le.1 h2
  rw [decide_eq_true e1, decide_eq_true e2]
  exact h
theorem m_in_f {p lo hi : Int32} {a b : Int64} {M : gS} {Q : Bool → gS → Prop} (ha : a = Int32.toInt64 lo) (hb : b = Int32.toInt64 hi) (h1 : ¬ (lo ≤ p ∧ p ≤ hi)) (h : Q false M) : wX12_in (Int32.toInt64 p) a b M Q := by
  refine m_in _ _ _ M Q ?_
  subst ha hb
  have e : (decide (Int32.toInt64 lo ≤ Int32.toInt64 p) && decide (Int32.toInt64 p ≤ Int32.toInt64 hi)) = false := by
    rw [Bool.eq_false_iff]
    intro z
    rw [Bool.and_eq_true, decide_eq_true_eq, decide_eq_true_eq, Int64.le_iff_toInt_le, Int64.le_iff_toInt_le, Int32.toInt_toInt64, Int32.toInt_toInt64, Int32.toInt_toInt64] at z
    exact h1 ⟨Int32.le_iff_toInt_le.2 z.1, Int32.le_iff_toInt_le.2 z.2⟩
  rw [e]
  exact h
theorem m_side_t {p : Int32} {M : gS} {Q : Bool → gS → Prop} (hp : p = 0 ∨ p = 1) (h : Q true M) : wX12_isSide p M Q := by
  unfold wX12_isSide wX12_isSide_9
  exact ⟨fun _ => h, fun _ => ⟨fun _ => h, fun c => by rcases hp with e | e <;> contradiction⟩⟩
theorem m_side_f {p : Int32} {M : gS} {Q : Bool → gS → Prop} (hp : ¬ (p = 0 ∨ p = 1)) (h : Q false M) : wX12_isSide p M Q := by
  unfold wX12_isSide wX12_isSide_9
  exact ⟨fun c => absurd (Or.inl c) hp, fun _ => ⟨fun c => absurd (Or.inr c) hp, fun _ => h⟩⟩
theorem c_side_t {p : Int32} {Q : Bool → Prop} (hp : p = 0 ∨ p = 1) (h : Q true) : wX11_isSide p Q := by
  unfold wX11_isSide wX11_isSide_9
  exact ⟨fun _ => h, fun _ => ⟨fun _ => h, fun c => by rcases hp with e | e <;> contradiction⟩⟩
theorem c_side_f {p : Int32} {Q : Bool → Prop} (hp : ¬ (p = 0 ∨ p = 1)) (h : Q false) : wX11_isSide p Q := by
  unfold wX11_isSide wX11_isSide_9
  exact ⟨fun c => absurd (Or.inl c) hp, fun _ => ⟨fun c => absurd (Or.inr c) hp, fun _ => h⟩⟩
theorem side_nat {p : Int32} (hp : p = 0 ∨ p = 1) : ∃ f, f ≤ 1 ∧ p = nI f := by
  rcases hp with e | e
  · exact ⟨0, by omega, e⟩
  · exact ⟨1, by omega, e⟩
theorem nat_lt {p : Int32} {a : Nat} (ha : a < 2 ^ 31) (h1 : 0 ≤ p) (h2 : p < nI a) : ∃ t, t < a ∧ p = nI t := by
  have h3 : ¬ p < 0 := by
    rw [Int32.lt_iff_toInt_lt]; rw [Int32.le_iff_toInt_le] at h1; omega
  obtain ⟨t, ht, rfl⟩ := nI_of h3
  exact ⟨t, (nI_ltI ht ha).1 h2, rfl⟩
theorem lt_pred {a : Nat} (ha : a ≤ 1000) (p : Int32) : p ≤ nI a - 1 ↔ p < nI a := by
  rw [Int32.le_iff_toInt_le, Int32.lt_iff_toInt_lt]
  have e : (nI a - 1).toInt = (nI a).toInt - 1 := by
    cases a with
    | zero => decide
    | succ a =>
      rw [show (1 : Int32) = nI 1 from rfl, pk_sub (by omega), nI_toInt (by omega), nI_toInt (by omega)]
      omega
  omega
theorem m_goes_t {M : gS} {Q : Bool → gS → Prop} (hg : ma M 25 3 = 1) (h : Q true M) : wX12_goesOn M Q :=
  m_goesOn M Q (by rw [decide_eq_true hg]; exact h)
theorem m_goes_f {M : gS} {Q : Bool → gS → Prop} (hg : ¬ ma M 25 3 = 1) (h : Q false M) : wX12_goesOn M Q :=
  m_goesOn M Q (by rw [decide_eq_false hg]; exact h)
theorem eq_look (M : gS) (u : Nat → Int32) : eqM (sF M 25 (lookS u)) (lookM (sF M 25 u)) := by
  unfold lookM lookS endM
  rw [ma_sF1]
  by_cases h : canDoN u = true
  · rw [if_pos h, if_pos h]; exact eqM_refl _
  · rw [if_neg h, if_neg h]; exact ⟨rfl, rfl, rfl, rfl, rfl, rfl, rfl, rfl, rfl⟩
theorem eq_end (M : gS) (u : Nat → Int32) : eqM (sF M 25 (endS u)) (endM (sF M 25 u)) := by
  unfold endM
  rw [ma_sF1]
  exact ⟨rfl, rfl, rfl, rfl, rfl, rfl, rfl, rfl, rfl⟩
