theorem sa_25 (M : gS) (i : Nat) (v : Int32) : sa M 25 i v = sF M 25 (upd (ma M 25) i v) := rfl
theorem sF_sF (M : gS) (k : Nat) (f g : Nat → Int32) : sF (sF M k f) k g = sF M k g := by
  unfold sF
  rw [show va_up (va_up M.2.2.1 k f) k g = va_up M.2.2.1 k g from bx_uu _ _ _ _]
theorem ma_sF1 (M : gS) (k : Nat) (f : Nat → Int32) : ma (sF M k f) k = f := by rw [ma_sF, if_pos rfl]
theorem sg_sF (M : gS) (k : Nat) (f : Nat → Int32) (j : Nat) (v : Int32) : sg (sF M k f) j v = sF (sg M j v) k f := rfl
theorem m_canDo_l (M : gS) (hw : wfS (ma M 25)) (Q : Bool → gS → Prop) : ∀ (n i : Nat), i + n = aN (ma M 25) 1 → Q ((List.range' i n).any (canSayN (ma M 25)) || canThrowN (ma M 25)) M → wX12_canDo_2 Q (n + 1) (nI i) M := by
  have e1 := hw.n 1 rfl
  have b1 : aN (ma M 25) 1 ≤ 4 := hw.b 1 rfl
  intro n
  induction n with
  | zero =>
    intro i hi h
    rw [wX12_canDo_2, e1]
    refine ⟨fun _ => m_canThrow M hw _ (by simpa using h), fun c => absurd (nI_le (by omega) (by omega)) c⟩
  | succ n ih =>
    intro i hi h
    rw [wX12_canDo_2, e1]
    refine ⟨fun c => absurd c (nI_ge (by omega) (by omega)), fun c => m_canSay M hw i (by omega) _ ?_⟩
    have h' : Q (canSayN (ma M 25) i || ((List.range' (i + 1) n).any (canSayN (ma M 25)) || canThrowN (ma M 25))) M := by
      rw [List.range'_succ] at h
      simpa [Bool.or_assoc] using h
    refine ⟨fun c2 x hx => ?_, fun c2 => ?_⟩
    · rw [bI_0] at c2
      rw [c2] at h'
      rw [hx, nI_1]
      exact ih (i + 1) (by omega) (by simpa using h')
    · rw [bI_0] at c2
      have c3 : canSayN (ma M 25) i = true := by
        cases hc : canSayN (ma M 25) i with
        | false => exact absurd hc c2
        | true => rfl
      rw [c3] at h'
      simpa using h'
theorem m_canDo (M : gS) (hw : wfS (ma M 25)) (Q : Bool → gS → Prop) (h : Q (canDoN (ma M 25)) M) : wX12_canDo M Q := by
  refine ⟨aN (ma M 25) 1 + 1, m_canDo_l M hw Q (aN (ma M 25) 1) 0 (by omega) ?_⟩
  rw [← List.range_eq_range']
  exact h
/-- who has won, if it is over now -/
def winN (s : Nat → Int32) : Nat := if aN s 8 = 0 then 1 - aN s 6 else aN s 8 - 1
def endS (s : Nat → Int32) : Nat → Int32 := upd (upd s 3 0) (18 + winN s) (s (18 + winN s) + 1)
def endM (M : gS) : gS := sF (sg M 26 (nI (winN (ma M 25)))) 25 (endS (ma M 25))
theorem winN_le {s : Nat → Int32} (hw : wfS s) : winN s ≤ 1 := by
  have b8 : aN s 8 ≤ 2 := hw.b 8 rfl
  unfold winN
  split <;> omega
theorem m_winner (M : gS) (hw : wfS (ma M 25)) (Q : Int32 → gS → Prop) (h : Q (nI (winN (ma M 25))) M) : wX12_winner M Q := by
  have e6 := hw.n 6 rfl; have e8 := hw.n 8 rfl
  have b6 : aN (ma M 25) 6 ≤ 1 := hw.b 6 rfl
  have b8 : aN (ma M 25) 8 ≤ 2 := hw.b 8 rfl
  unfold wX12_winner
  rw [e6, e8]
  refine ⟨fun c => ?_, fun c => ?_⟩
  · rw [show (0 : Int32) = nI 0 from rfl, nI_leI (by omega) (by omega)] at c
    rw [show (1 : Int32) = nI 1 from rfl, pk_sub b6]
    have e : winN (ma M 25) = 1 - aN (ma M 25) 6 := by unfold winN; rw [if_pos (by omega)]
    rw [e] at h; exact h
  · rw [show (0 : Int32) = nI 0 from rfl, nI_leI (by omega) (by omega)] at c
    rw [show (1 : Int32) = nI 1 from rfl, pk_sub (by omega)]
    have e : winN (ma M 25) = aN (ma M 25) 8 - 1 := by unfold winN; rw [if_neg (by omega)]
    rw [e] at h; exact h
theorem m_ends (M : gS) (hw : wfS (ma M 25)) (Q : Int32 → gS → Prop) (h : Q (nI (winN (ma M 25))) (endM M)) : wX12_ends M Q := by
  have hl := winN_le hw
  unfold wX12_ends
  refine m_winner M hw _ ?_
  intro M3 h3 M4 h4
  have e26 : mg M4 26 = nI (winN (ma M 25)) := by subst h4 h3; rfl
  rw [e26, show (18 : Int32) + nI (winN (ma M 25)) = nI (18 + winN (ma M 25)) from nI_add 18 _, nI_clamp (by omega)]
  refine ⟨vp_in_nI (by omega) (by omega), fun x5 h5 => ⟨vp_in_nI (by omega) (by omega), fun M6 h6 => ?_⟩⟩
  have e : M6 = endM M := by
    subst h6 h5 h4 h3
    unfold endM endS
    rw [sa_25, sa_25, sF_sF, ma_sF1, ma_sg, show upd (ma M 25) 3 0 (18 + winN (ma M 25)) = ma M 25 (18 + winN (ma M 25)) from pk_un (by omega)]
  rw [e]
  have e2 : mg (endM M) 26 = nI (winN (ma M 25)) := rfl
  rw [e2]
  exact h
def lookM (M : gS) : gS := if canDoN (ma M 25) = true then M else endM M
theorem m_looks (M : gS) (hw : wfS (ma M 25)) (Q : gS → Prop) (h : Q (lookM M)) : wX12_looks M Q := by
  unfold wX12_looks
  refine m_canDo M hw _ ⟨fun c => ?_, fun c => ?_⟩
  · rw [bI_0] at c
    refine m_ends M hw _ ?_
    unfold lookM at h
    rw [if_neg (by rw [c]; decide)] at h
    exact h
  · rw [bI_0] at c
    unfold lookM at h
    rw [if_pos (by cases hc : canDoN (ma M 25) with
      | false => exact absurd hc c
      | true => rfl)] at h
    exact h
