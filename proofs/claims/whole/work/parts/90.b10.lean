-- PURE: fair, bribe
def frB (s : Nat → Int32) (t m n : Nat) : Bool := Can s (verseN s t) (verseN s t) m n 4 4
def frK (zero one : Bool) : Int32 := if zero = true then (if one = true then 0 else 1) else (if one = true then 2 else 3)
def frS (s : Nat → Int32) (what : Int32) : Nat → Nat → Int32 → Int32
  | 0, _, acc => acc
  | n + 1, i, acc => frS s what n (i + 1) (if frK (frB s i (aN s 12) (aN s 13)) (frB s i (aN s 13) (aN s 12)) = what then acc ||| ((1 : Int32) <<< (nI i &&& 31)) else acc)
theorem fr_case {P : Int32 → Prop} (b1 b2 : Bool) (h : P (frK b1 b2)) : ((bI b1 = 0 → ((bI b2 = 0 → P 3) ∧ (¬ bI b2 = 0 → P 2))) ∧ (¬ bI b1 = 0 → ((bI b2 = 0 → P 1) ∧ (¬ bI b2 = 0 → P 0)))) := by
  cases b1 <;> cases b2
  · exact bw_f (bw_f h)
  · exact bw_f (bw_t h)
  · exact bw_t (bw_f h)
  · exact bw_t (bw_t h)
theorem m_fair_l {M : gS} (hw : wfS (ma M 25)) (what : Int32) (Q : Int32 → gS → Prop) (hQ : ∀ r tb, r = frS (ma M 25) what (aN (ma M 25) 0) 0 0 → Q r (sF M 28 tb)) : ∀ n i, i + n = aN (ma M 25) 0 → ∀ acc tb, frS (ma M 25) what n i acc = frS (ma M 25) what (aN (ma M 25) 0) 0 0 → wX12_fair_25 Q (n + 1) what acc (nI i) (sF M 28 tb) := by
  have b0 : aN (ma M 25) 0 ≤ 4 := hw.b 0 rfl
  have e0 : ma M 25 0 = nI (aN (ma M 25) 0) := hw.n 0 rfl
  have p0 : aN (ma M 25) 12 ≤ 7 := hw.b 12 rfl
  have p1 : aN (ma M 25) 13 ≤ 7 := hw.b 13 rfl
  intro n
  induction n with
  | zero =>
    intro i hi acc tb he
    rw [wX12_fair_25]
    refine sw_t (by show ma M 25 0 ≤ nI i; rw [e0]; exact nI_le (by omega) (by omega)) (hQ _ _ he)
  | succ n ih =>
    intro i hi acc tb he
    rw [wX12_fair_25]
    refine sw_f (by show ¬ ma M 25 0 ≤ nI i; rw [e0]; exact nI_ge (by omega) (by omega)) (m_verseOf (sF M 28 tb) hw i (by omega) _ ?_)
    show wX12_fillsTable (nI (verseN (ma M 25) i)) (sF M 28 tb) _
    have hv := verse_le hw (t := i) (by omega)
    refine m_fillsTable (sF M 28 tb) hw (by omega) _ (fun tb2 htb => ?_)
    rw [sF_sF]
    have ht : tabF (ma M 25) (verseN (ma M 25) i) tb2 := htb
    show wX12_can (nI (verseN (ma M 25) i)) (ma M 25 12) (ma M 25 13) (nI 4) (nI 4) (sF M 28 tb2) _
    rw [hw.n 12 rfl, hw.n 13 rfl]
    refine m_can (sF M 28 tb2) (by omega) p0 p1 (by omega) (by omega) _ ?_
    rw [ma_sF1, ht _ _ _ _ _ (by omega) p0 p1 (by omega) (by omega)]
    show wX12_can (nI (verseN (ma M 25) i)) (ma M 25 13) (ma M 25 12) (nI 4) (nI 4) (sF M 28 tb2) _
    rw [hw.n 12 rfl, hw.n 13 rfl]
    refine m_can (sF M 28 tb2) (by omega) p1 p0 (by omega) (by omega) _ ?_
    rw [ma_sF1, ht _ _ _ _ _ (by omega) p1 p0 (by omega) (by omega)]
    rw [frS] at he
    have fin : ∀ z0, z0 = frK (frB (ma M 25) i (aN (ma M 25) 12) (aN (ma M 25) 13)) (frB (ma M 25) i (aN (ma M 25) 13) (aN (ma M 25) 12)) → wX12_fair_120 (fun y1 y2 y3 M => wX12_fair_25 Q (n + 1) y1 y2 y3 M) Q what acc (nI i) z0 (sF M 28 tb2) := by
      intro z0 hz
      unfold wX12_fair_120
      rw [← hz] at he
      by_cases c : z0 = what
      · rw [if_pos c] at he
        refine sw_t c ?_
        unfold wX12_fair_136
        intro x1 h1 x2 h2
        rw [h1, h2, nI_1]
        exact ih (i + 1) (by omega) _ tb2 he
      · rw [if_neg c] at he
        refine sw_f c ?_
        unfold wX12_fair_136
        intro x1 h1 x2 h2
        rw [h1, h2, nI_1, Int32.or_zero]
        exact ih (i + 1) (by omega) _ tb2 he
    exact fr_case (P := fun z0 => wX12_fair_120 (fun y1 y2 y3 M => wX12_fair_25 Q (n + 1) y1 y2 y3 M) Q what acc (nI i) z0 (sF M 28 tb2)) _ _ (fin _ rfl)
theorem c_startW {s : Nat → Int32} (hw : wfS s) {M0 M1 M2 M3 M4 M5 M6 M7 M8 M9 : gS} (hC : relC s M2) (hB : okB M7) {t pen : Nat} (ht : t < aN s 0) (hp : pen ≤ 14) (Q : Int64 → gS → gS → gS → gS → gS → gS → gS → gS → gS → gS → Prop) (h : ∀ r N7, okB N7 → (∀ m n, m < 8 → n < 8 → m + n ≤ pen → lb r (8 * n + m) = frB s t m n) → Q r M0 M1 M2 M3 M4 M5 M6 N7 M8 M9) : wX11_startWinners (nI t) (nI pen) M0 M1 M2 M3 M4 M5 M6 M7 M8 M9 Q := by
  have b0 : aN s 0 ≤ 4 := hw.b 0 rfl
  have hv := verse_le hw (t := t) (by omega)
  unfold wX11_startWinners
  refine q_verseOf s hw M2 hC t ht _ ?_
  change wX0_winners (nI (verseN s t)) (nI (verseN s t)) (nI (8 * 0 + 0)) (nI pen) M7 M2 _
  exact c_winners hw hC (verse_pos hw ht) (by omega) (Nat.zero_le _) (Nat.zero_le _) (by omega) hp hB _ (fun r N hN hr => h r N hN hr)
theorem c_fair_l {s : Nat → Int32} (hw : wfS s) {M0 M1 M2 M3 M4 M5 M6 M8 M9 : gS} (hC : relC s M2) (what : Int32) (Q : Int32 → gS → gS → gS → gS → gS → gS → gS → gS → gS → gS → Prop) (hQ : ∀ r N7, okB N7 → r = frS s what (aN s 0) 0 0 → Q r M0 M1 M2 M3 M4 M5 M6 N7 M8 M9) : ∀ n i, i + n = aN s 0 → ∀ acc M7, okB M7 → frS s what n i acc = frS s what (aN s 0) 0 0 → wX11_fair_50 Q (n + 1) what (nI (aN s 12)) (nI (aN s 13)) acc (nI i) M0 M1 M2 M3 M4 M5 M6 M7 M8 M9 := by
  have b0 : aN s 0 ≤ 4 := hw.b 0 rfl
  have e0 := hw.n 0 rfl
  have p0 : aN s 12 ≤ 7 := hw.b 12 rfl
  have p1 : aN s 13 ≤ 7 := hw.b 13 rfl
  intro n
  induction n with
  | zero =>
    intro i hi acc M7 hB he
    rw [wX11_fair_50, hC.1, e0]
    exact sw_t (nI_le (by omega) (by omega)) (hQ _ _ hB he)
  | succ n ih =>
    intro i hi acc M7 hB he
    rw [wX11_fair_50, hC.1, e0, nI_add]
    refine sw_f (nI_ge (by omega) (by omega)) (c_startW hw hC hB (by omega) (by omega) _ (fun r N7 hN7 hr => c_holds r (by omega) (by omega) _ (c_holds r (by omega) (by omega) _ ?_)))
    rw [hr _ _ (by omega) (by omega) (by omega), hr _ _ (by omega) (by omega) (by omega)]
    rw [frS] at he
    have fin : ∀ z0, z0 = frK (frB s i (aN s 12) (aN s 13)) (frB s i (aN s 13) (aN s 12)) → ((z0 = what → (∀ x21 : Int32, x21 = (acc ||| ((1 : Int32) <<< (nI i &&& 31))) → (wX11_fair_114 (fun y1 y2 y3 y4 y5 M0 M1 M2 M3 M4 M5 M6 M7 M8 M9 => wX11_fair_50 Q (n + 1) y1 y2 y3 y4 y5 M0 M1 M2 M3 M4 M5 M6 M7 M8 M9) Q what (nI (aN s 12)) (nI (aN s 13)) x21 (nI i) M0 M1 M2 M3 M4 M5 M6 N7 M8 M9))) ∧ (¬ z0 = what → (wX11_fair_114 (fun y1 y2 y3 y4 y5 M0 M1 M2 M3 M4 M5 M6 M7 M8 M9 => wX11_fair_50 Q (n + 1) y1 y2 y3 y4 y5 M0 M1 M2 M3 M4 M5 M6 M7 M8 M9) Q what (nI (aN s 12)) (nI (aN s 13)) acc (nI i) M0 M1 M2 M3 M4 M5 M6 N7 M8 M9))) := by
      intro z0 hz
      rw [← hz] at he
      by_cases c : z0 = what
      · rw [if_pos c] at he
        refine sw_t c (fun x21 h21 => ?_)
        unfold wX11_fair_114
        intro x1 h1
        rw [h1, h21, nI_1]
        exact ih (i + 1) (by omega) _ N7 hN7 he
      · rw [if_neg c] at he
        refine sw_f c ?_
        unfold wX11_fair_114
        intro x1 h1
        rw [h1, nI_1]
        exact ih (i + 1) (by omega) _ N7 hN7 he
    unfold wX11_fairness
    cases h1 : frB s i (aN s 12) (aN s 13) <;> cases h2 : frB s i (aN s 13) (aN s 12) <;> rw [h1, h2] at fin
    · exact bw_f (bw_f (fin _ rfl))
    · exact bw_f (bw_t (fin _ rfl))
    · exact bw_t (bw_f (fin _ rfl))
    · exact bw_t (bw_t (fin _ rfl))
theorem t_fair {M M0 M1 M2 M3 M4 M5 M6 M7 M8 M9 : gS} (hi : inv M M0 M1 M2 M3 M4 M7) (p1 : Int32) : tieP M (fun Q => wX12_fair p1 M Q) (fun Q => wX11_fair p1 M0 M1 M2 M3 M4 M5 M6 M7 M8 M9 Q) := by
  obtain ⟨⟨hw, hsp⟩, ⟨hW, hC, hq, hO⟩, hT, hB⟩ := id hi
  by_cases c0 : ma M 25 0 ≤ 0
  · refine tieP_same (M5 := M5) (M6 := M6) (M8 := M8) (M9 := M9) hi (-1) (fun Q h => m_corner_f c0 (bw_f (h _ (eqM_refl _)))) (fun Q h => ?_)
    by_cases d : p1 < 0
    · exact sw_t d h
    · refine sw_f d ?_
      by_cases e : 3 < p1
      · exact sw_t e h
      · exact sw_f e (c_corner_f hC c0 (bw_f h))
  by_cases c : 0 ≤ p1 ∧ p1 ≤ 3
  rotate_left
  · refine tieP_same (M5 := M5) (M6 := M6) (M8 := M8) (M9 := M9) hi (-1) (fun Q h => m_corner_t c0 (bw_t (m_in_f (lo := 0) (hi := 3) (by decide) (by decide) c (bw_f (h _ (eqM_refl _)))))) (fun Q h => ?_)
    by_cases d : p1 < 0
    · exact sw_t d h
    · exact sw_f d (sw_t (Classical.byContradiction fun z => c ⟨nlt_le.1 d, nlt_le.1 z⟩) h)
  refine tieP_7 (M5 := M5) (M6 := M6) (M8 := M8) (M9 := M9) hi (frS (ma M 25) p1 (aN (ma M 25) 0) 0 0) (fun Q h => m_corner_t c0 (bw_t (m_in_t (lo := 0) (hi := 3) (by decide) (by decide) c.1 c.2 (bw_t ⟨aN (ma M 25) 0 + 1, ?_⟩)))) (fun Q h => sw_f (nlt_le.2 c.1) (sw_f (nlt_le.2 c.2) (c_corner_t hC c0 (bw_t (fun x18 h18 x19 h19 => ⟨aN (ma M 25) 0 + 1, ?_⟩)))))
  · have := m_fair_l hw p1 Q (fun r tb hr => by rw [hr]; exact h _ (eq_28 _ _)) (aN (ma M 25) 0) 0 (by omega) 0 (ma M 28) rfl
    rw [sF_self] at this
    exact this
  · rw [hq.2.2.2.1 0 (by omega), hw.n 12 rfl] at h18
    rw [hq.2.2.2.1 1 (by omega), hw.n 13 rfl] at h19
    rw [h18, h19]
    exact c_fair_l hw hC p1 Q (fun r N7 h7 hr => by rw [hr]; exact h N7 h7) (aN (ma M 25) 0) 0 (by omega) 0 M7 hB rfl
