-- PURE: bribe
theorem iadd {a b : Int32} (h1 : -2147483648 ≤ a.toInt + b.toInt) (h2 : a.toInt + b.toInt < 2147483648) : (a + b).toInt = a.toInt + b.toInt := by
  rw [Int32.toInt_add]
  unfold Int.bmod
  simp only []
  split <;> omega
def brV (s : Nat → Int32) (e : Int) : Nat := if 1 ≤ (aN s 4 : Int) + e then ((aN s 4 : Int) + e).toNat else 1
def brL (s : Nat → Int32) (e : Int) : Nat := if 0 ≤ (aN s 5 : Int) + e then (if (aN s 5 : Int) + e ≤ 200 then ((aN s 5 : Int) + e).toNat else 200) else 0
def brB (s : Nat → Int32) (side : Nat) (e : Int) : Bool := decide (hav s (brV s e) (brL s e) (aN s 12) (aN s 13) = side)
theorem brV_b {s : Nat → Int32} (hw : wfS s) {e : Int} (h1 : -20 ≤ e) (h2 : e ≤ 20) : 1 ≤ brV s e ∧ brV s e ≤ 92 := by
  have b4 : aN s 4 ≤ 72 := hw.b 4 rfl
  unfold brV; split <;> omega
theorem brL_b {s : Nat → Int32} (hw : wfS s) {e : Int} (h1 : -20 ≤ e) (h2 : e ≤ 20) : brL s e ≤ 200 := by
  unfold brL; split
  · split <;> omega
  · omega
theorem toI_n {p : Int32} {n : Nat} (hn : n < 2 ^ 31) (h : p.toInt = (n : Int)) : p = nI n := by
  apply Int32.toInt_inj.1
  rw [h, nI_toInt hn]
theorem le_i {a b : Int32} {x y : Int} (ha : a.toInt = x) (hb : b.toInt = y) : a ≤ b ↔ x ≤ y := by
  rw [Int32.le_iff_toInt_le, ha, hb]
theorem lt_i {a b : Int32} {x y : Int} (ha : a.toInt = x) (hb : b.toInt = y) : a < b ↔ x < y := by
  rw [Int32.lt_iff_toInt_lt, ha, hb]
theorem m_bribes {M : gS} (hw : wfS (ma M 25)) {side : Nat} (hs : side ≤ 1) {p : Int32} {e : Int} (hp : p.toInt = e) (h1 : -20 ≤ e) (h2 : e ≤ 20) (tb : Nat → Int32) (Q : Bool → gS → Prop) (h : ∀ tb', Q (brB (ma M 25) side e) (sF M 28 tb')) : wX12_bribes (nI side) p (sF M 28 tb) Q := by
  have b4 : aN (ma M 25) 4 ≤ 72 := hw.b 4 rfl
  have b5 : aN (ma M 25) 5 ≤ 200 := hw.b 5 rfl
  have p0 : aN (ma M 25) 12 ≤ 7 := hw.b 12 rfl
  have p1 : aN (ma M 25) 13 ≤ 7 := hw.b 13 rfl
  have vb := brV_b hw h1 h2
  have lbb := brL_b hw h1 h2
  have t4 : (ma M 25 4).toInt = (aN (ma M 25) 4 : Int) := by rw [hw.n 4 rfl]; exact nI_toInt (by omega)
  have t5 : (ma M 25 5).toInt = (aN (ma M 25) 5 : Int) := by rw [hw.n 5 rfl]; exact nI_toInt (by omega)
  have s4 : (ma M 25 4 + p).toInt = (aN (ma M 25) 4 : Int) + e := by rw [iadd (by omega) (by omega), t4, hp]
  have s5 : (ma M 25 5 + p).toInt = (aN (ma M 25) 5 : Int) + e := by rw [iadd (by omega) (by omega), t5, hp]
  have z1 : (1 : Int32).toInt = 1 := by decide
  have z0 : (0 : Int32).toInt = 0 := by decide
  have z2 : (200 : Int32).toInt = 200 := by decide
  have hl := hav_le hw (brV (ma M 25) e) (brL (ma M 25) e) (aN (ma M 25) 12) (aN (ma M 25) 13)
  have last : ∀ tb2, tabF (ma M 25) (brV (ma M 25) e) tb2 → wX12_bribes_66 Q (nI side) (nI (brL (ma M 25) e)) (sF M 28 tb2) := by
    intro tb2 ht
    unfold wX12_bribes_66
    show wX12_haver (nI (brL (ma M 25) e)) (ma M 25 12) (ma M 25 13) (sF M 28 tb2) _
    rw [hw.n 12 rfl, hw.n 13 rfl]
    refine m_haver (M := sF M 28 tb2) hw (v := brV (ma M 25) e) (by rw [ma_sF1]; exact ht) lbb p0 p1 _ ?_
    have hne : nI (hav (ma M 25) (brV (ma M 25) e) (brL (ma M 25) e) (aN (ma M 25) 12) (aN (ma M 25) 13)) = nI side ↔ hav (ma M 25) (brV (ma M 25) e) (brL (ma M 25) e) (aN (ma M 25) 12) (aN (ma M 25) 13) = side := nI_eq (by omega) (by omega)
    have hh := h tb2
    unfold brB at hh
    by_cases c : hav (ma M 25) (brV (ma M 25) e) (brL (ma M 25) e) (aN (ma M 25) 12) (aN (ma M 25) 13) = side
    · rw [decide_eq_true c] at hh
      exact sw_t (hne.2 c) hh
    · rw [decide_eq_false c] at hh
      exact sw_f (fun z => c (hne.1 z)) hh
  have mid : wX12_bribes_24 Q (nI side) p (nI (brV (ma M 25) e)) (sF M 28 tb) := by
    unfold wX12_bribes_24
    intro x1 hx1
    have tx : x1.toInt = (aN (ma M 25) 5 : Int) + e := by rw [hx1]; exact s5
    refine m_fillsTable (sF M 28 tb) hw (by omega) _ (fun tb2 ht2 => ?_)
    rw [sF_sF]
    have ht : tabF (ma M 25) (brV (ma M 25) e) tb2 := ht2
    have hlast := last tb2 ht
    unfold brL at hlast
    by_cases c : 0 ≤ (aN (ma M 25) 5 : Int) + e
    · rw [if_pos c] at hlast
      refine sw_t ((le_i z0 tx).2 c) ?_
      by_cases d : (aN (ma M 25) 5 : Int) + e ≤ 200
      · rw [if_pos d] at hlast
        refine sw_t ((le_i tx z2).2 d) ?_
        rw [show x1 = nI ((aN (ma M 25) 5 : Int) + e).toNat from toI_n (by omega) (by rw [tx]; omega)]
        exact hlast
      · rw [if_neg d] at hlast
        exact sw_f (fun z => d ((le_i tx z2).1 z)) hlast
    · rw [if_neg c] at hlast
      exact sw_f (fun z => c ((le_i z0 tx).1 z)) hlast
  unfold wX12_bribes
  show (1 ≤ ma M 25 4 + p → wX12_bribes_24 Q (nI side) p (ma M 25 4 + p) (sF M 28 tb)) ∧ (¬ 1 ≤ ma M 25 4 + p → wX12_bribes_24 Q (nI side) p 1 (sF M 28 tb))
  unfold brV at mid
  by_cases c : 1 ≤ (aN (ma M 25) 4 : Int) + e
  · rw [if_pos c] at mid
    refine sw_t ((le_i z1 s4).2 c) ?_
    rw [show ma M 25 4 + p = nI ((aN (ma M 25) 4 : Int) + e).toNat from toI_n (by omega) (by rw [s4]; omega)]
    exact mid
  · rw [if_neg c] at mid
    exact sw_f (fun z => c ((le_i z1 s4).1 z)) mid
theorem c_bribedHas {s : Nat → Int32} (hw : wfS s) (ho : onS s) {M0 M1 M2 M3 M4 M5 M6 M7 M8 M9 : gS} (hC : relC s M2) (hq : relQ s M3) (hg : s 3 = 1) (hB : okB M7) {side : Nat} (hs : side ≤ 1) {p : Int32} {e : Int} (hp : p.toInt = e) (h1 : -20 ≤ e) (h2 : e ≤ 20) (Q : Bool → gS → gS → gS → gS → gS → gS → gS → gS → gS → gS → Prop) (h : ∀ N7, okB N7 → Q (brB s side e) M0 M1 M2 M3 M4 M5 M6 N7 M8 M9) : wX11_bribedHas (nI side) p M0 M1 M2 M3 M4 M5 M6 M7 M8 M9 Q := by
  have b4 : aN s 4 ≤ 72 := hw.b 4 rfl
  have b5 : aN s 5 ≤ 200 := hw.b 5 rfl
  have b6 : aN s 6 ≤ 1 := hw.b 6 rfl
  have vb := brV_b hw h1 h2
  have lbb := brL_b hw h1 h2
  have t4 : (s 4).toInt = (aN s 4 : Int) := by rw [hw.n 4 rfl]; exact nI_toInt (by omega)
  have t5 : (s 5).toInt = (aN s 5 : Int) := by rw [hw.n 5 rfl]; exact nI_toInt (by omega)
  have s4 : (s 4 + p).toInt = (aN s 4 : Int) + e := by rw [iadd (by omega) (by omega), t4, hp]
  have s5 : (s 5 + p).toInt = (aN s 5 : Int) + e := by rw [iadd (by omega) (by omega), t5, hp]
  have z1 : (1 : Int32).toInt = 1 := by decide
  have z0 : (0 : Int32).toInt = 0 := by decide
  have z2 : (200 : Int32).toInt = 200 := by decide
  unfold wX11_bribedHas
  rw [(hq.2.1 hg).1, (hq.2.1 hg).2.1]
  intro x1 hx1 x2 hx2
  have ex1 : x1 = nI (brV s e) := by
    rw [hx1]
    unfold brV
    by_cases c : 1 ≤ (aN s 4 : Int) + e
    · rw [if_pos c]
      by_cases d : 1 < s 4 + p
      · rw [if_pos d]
        exact toI_n (by omega) (by rw [s4]; omega)
      · rw [if_neg d]
        rw [lt_i z1 s4] at d
        rw [show ((aN s 4 : Int) + e).toNat = 1 by omega]; rfl
    · rw [if_neg c, if_neg (fun z => c (by rw [lt_i z1 s4] at z; omega))]; rfl
  have ex2 : x2 = nI (brL s e) := by
    rw [hx2]
    unfold brL
    by_cases c : s 5 + p < 200
    · rw [if_pos c]
      rw [lt_i s5 z2] at c
      by_cases d : 0 < s 5 + p
      · rw [if_pos d]
        rw [lt_i z0 s5] at d
        rw [if_pos (by omega), if_pos (by omega)]
        exact toI_n (by omega) (by rw [s5]; omega)
      · rw [if_neg d]
        rw [lt_i z0 s5] at d
        by_cases f : 0 ≤ (aN s 5 : Int) + e
        · rw [if_pos f, if_pos (by omega), show ((aN s 5 : Int) + e).toNat = 0 by omega]; rfl
        · rw [if_neg f]; rfl
    · rw [if_neg c, if_pos (by decide)]
      rw [lt_i s5 z2] at c
      rw [if_pos (by omega)]
      by_cases d : (aN s 5 : Int) + e ≤ 200
      · rw [if_pos d, show ((aN s 5 : Int) + e).toNat = 200 by omega]; rfl
      · rw [if_neg d]; rfl
  rw [ex1, ex2]
  refine c_turnHas hw ho hC hq hg hB vb.1 (by omega) lbb _ (fun N7 h7 => ?_)
  rw [(hq.2.1 hg).2.2.1, hw.n 6 rfl, nI_eq (by omega) (by omega)]
  have hh := h N7 h7
  have ep : hav s (brV s e) (brL s e) (aN s 12) (aN s 13) = if Can s (brV s e) (brL s e) (aN s (12 + aN s 6)) (aN s (12 + (1 - aN s 6))) (LA s (aN s 6)) (LA s (1 - aN s 6)) = true then aN s 6 else 1 - aN s 6 := by
    unfold hav
    rcases (show aN s 6 = 0 ∨ aN s 6 = 1 by omega) with c | c <;> rw [c] <;> simp
  unfold brB at hh
  rw [ep] at hh
  unfold wX11_bribedHas_67
  cases hb : Can s (brV s e) (brL s e) (aN s (12 + aN s 6)) (aN s (12 + (1 - aN s 6))) (LA s (aN s 6)) (LA s (1 - aN s 6)) with
  | true =>
    rw [hb, if_pos rfl] at hh
    by_cases c : side = aN s 6
    · rw [decide_eq_true c.symm] at hh
      exact sw_t c (sw_t rfl hh)
    · rw [decide_eq_false (fun z => c z.symm)] at hh
      exact sw_f c (sw_f (by decide) hh)
  | false =>
    rw [hb, if_neg (by decide)] at hh
    by_cases c : side = aN s 6
    · rw [decide_eq_false (show ¬ 1 - aN s 6 = side by omega)] at hh
      exact sw_t c (sw_f (by decide) hh)
    · rw [decide_eq_true (show 1 - aN s 6 = side by omega)] at hh
      exact sw_f c (sw_t rfl hh)
def brS (s : Nat → Int32) (side : Nat) : Nat → Nat → Int32
  | 0, _ => -100
  | n + 1, d => if brB s side (-(d : Int)) = true then -nI d else if brB s side (d : Int) = true then nI d else brS s side n (d + 1)
theorem neg_i {d : Nat} (hd : d ≤ 20) : (-nI d).toInt = -(d : Int) := by
  rw [Int32.toInt_neg, nI_toInt (by omega)]
  unfold Int.bmod
  simp only []
  split <;> omega
theorem m_bribe_l {M : gS} (hw : wfS (ma M 25)) {side : Nat} (hs : side ≤ 1) (Q : Int32 → gS → Prop) : ∀ n d, d + n = 21 → ∀ tb, (∀ tb', Q (brS (ma M 25) side n d) (sF M 28 tb')) → wX12_bribe_31 Q (n + 1) (nI side) (nI d) (sF M 28 tb) := by
  intro n
  induction n with
  | zero =>
    intro d hd tb hQ
    rw [wX12_bribe_31]
    exact sw_t (nI_lt (a := 20) (by omega) (by omega)) (hQ tb)
  | succ n ih =>
    intro d hd tb hQ
    rw [wX12_bribe_31]
    refine sw_f (nI_nlt (a := 20) (by omega) (by omega)) (m_bribes hw hs (neg_i (by omega)) (by omega) (by omega) tb _ (fun tb1 => ?_))
    rw [brS] at hQ
    cases c : brB (ma M 25) side (-(d : Int)) with
    | true => rw [c, if_pos rfl] at hQ; exact bw_t (hQ tb1)
    | false =>
      rw [c, if_neg (by decide)] at hQ
      refine bw_f (m_bribes hw hs (nI_toInt (by omega)) (by omega) (by omega) tb1 _ (fun tb2 => ?_))
      cases c2 : brB (ma M 25) side (d : Int) with
      | true => rw [c2, if_pos rfl] at hQ; exact bw_t (hQ tb2)
      | false =>
        rw [c2, if_neg (by decide)] at hQ
        refine bw_f (fun x hx => ?_)
        rw [hx, nI_1]
        exact ih (d + 1) (by omega) tb2 hQ
theorem c_bribe_l {s : Nat → Int32} (hw : wfS s) (ho : onS s) {M0 M1 M2 M3 M4 M5 M6 M8 M9 : gS} (hC : relC s M2) (hq : relQ s M3) (hg : s 3 = 1) {side : Nat} (hs : side ≤ 1) (Q : Int32 → gS → gS → gS → gS → gS → gS → gS → gS → gS → gS → Prop) : ∀ n d, d + n = 21 → 1 ≤ d → ∀ M7, okB M7 → (∀ N7, okB N7 → Q (brS s side n d) M0 M1 M2 M3 M4 M5 M6 N7 M8 M9) → wX11_bribe_26 Q (n + 1) (nI side) (nI d) M0 M1 M2 M3 M4 M5 M6 M7 M8 M9 := by
  intro n
  induction n with
  | zero =>
    intro d hd hd1 M7 hB hQ
    rw [wX11_bribe_26]
    exact sw_t (nI_lt (a := 20) (by omega) (by omega)) (hQ M7 hB)
  | succ n ih =>
    intro d hd hd1 M7 hB hQ
    rw [wX11_bribe_26]
    refine sw_f (nI_nlt (a := 20) (by omega) (by omega)) (c_bribedHas hw ho hC hq hg hB hs (neg_i (by omega)) (by omega) (by omega) _ (fun N1 hN1 => ?_))
    rw [brS] at hQ
    cases c : brB s side (-(d : Int)) with
    | true => rw [c, if_pos rfl] at hQ; exact bw_t (hQ N1 hN1)
    | false =>
      rw [c, if_neg (by decide)] at hQ
      refine bw_f (sw_f (nI_nle (by omega) (by omega)) (c_bribedHas hw ho hC hq hg hN1 hs (nI_toInt (by omega)) (by omega) (by omega) _ (fun N2 hN2 => ?_)))
      cases c2 : brB s side (d : Int) with
      | true => rw [c2, if_pos rfl] at hQ; exact bw_t (hQ N2 hN2)
      | false =>
        rw [c2, if_neg (by decide)] at hQ
        refine bw_f ?_
        unfold wX11_bribe_60
        intro x hx
        rw [hx, nI_1]
        exact ih (d + 1) (by omega) (by omega) N2 hN2 hQ
theorem t_bribe {M M0 M1 M2 M3 M4 M5 M6 M7 M8 M9 : gS} (hi : inv M M0 M1 M2 M3 M4 M7) (p1 : Int32) : tieP M (fun Q => wX12_bribe p1 M Q) (fun Q => wX11_bribe p1 M0 M1 M2 M3 M4 M5 M6 M7 M8 M9 Q) := by
  obtain ⟨⟨hw, hsp⟩, ⟨hW, hC, hq, hO⟩, hT, hB⟩ := id hi
  by_cases g : ma M 25 3 = 1
  rotate_left
  · refine tieP_same (M5 := M5) (M6 := M6) (M8 := M8) (M9 := M9) hi (-200) (fun Q h => m_goes_f g (bw_f (h _ (eqM_refl _)))) (fun Q h => ?_)
    by_cases c : p1 = 0 ∨ p1 = 1
    · exact c_side_t c (bw_t (sw_t (by rw [hq.1]; exact goes_n hw g) h))
    · exact c_side_f c (bw_f h)
  by_cases c : p1 = 0 ∨ p1 = 1
  rotate_left
  · exact tieP_same (M5 := M5) (M6 := M6) (M8 := M8) (M9 := M9) hi (-200) (fun Q h => m_goes_t g (bw_t (m_side_f c (bw_f (h _ (eqM_refl _)))))) (fun Q h => c_side_f c (bw_f h))
  have ho := hsp g
  obtain ⟨side, hs, rfl⟩ := side_nat c
  refine tieP_7 (M5 := M5) (M6 := M6) (M8 := M8) (M9 := M9) hi (if brB (ma M 25) side 0 = true then 0 else brS (ma M 25) side 20 1) (fun Q h => m_goes_t g (bw_t (m_side_t c (bw_t ?_)))) (fun Q h => c_side_t c (bw_t (sw_f (by rw [hq.1, g]; decide) ⟨22, ?_⟩)))
  · have := m_bribes (M := M) hw hs (p := 0) (e := 0) (by decide) (by omega) (by omega) (ma M 28) (fun b11 M10 => (((bI b11) = 0 → (∃ k31 : Nat, wX12_bribe_31 Q k31 (nI side) 1 M10)) ∧ (¬ (bI b11) = 0 → (Q 0 M10)))) (fun tb => ?_)
    · rw [sF_self] at this
      exact this
    · cases d : brB (ma M 25) side 0 with
      | true => rw [d, if_pos rfl] at h; exact bw_t (h _ (eq_28 _ _))
      | false =>
        rw [d, if_neg (by decide)] at h
        exact bw_f ⟨21, m_bribe_l hw hs Q 20 1 (by omega) tb (fun tb' => h _ (eq_28 _ _))⟩
  · rw [wX11_bribe_26]
    refine sw_f (by decide) (c_bribedHas hw ho hC hq g hB hs (p := -0) (e := 0) (by decide) (by omega) (by omega) _ (fun N1 hN1 => ?_))
    cases d : brB (ma M 25) side 0 with
    | true => rw [d, if_pos rfl] at h; exact bw_t (h N1 hN1)
    | false =>
      rw [d, if_neg (by decide)] at h
      refine bw_f (sw_t (by decide) ?_)
      unfold wX11_bribe_60
      intro x hx
      have ex : x = nI 1 := by rw [hx]; rfl
      rw [ex]
      exact c_bribe_l hw ho hC hq g hs Q 20 1 (by omega) (by omega) N1 hN1 h
