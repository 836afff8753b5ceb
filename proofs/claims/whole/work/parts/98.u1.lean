theorem tok_and {t : Nat} (ht : tokOK t) : nI t &&& 15 = nI (t % 16) ∧ nI t >>> ((4 : Int32) &&& 31) = nI (t / 16) := by
  have h : t < 2 ^ 31 := by unfold tokOK at ht; omega
  refine ⟨?_, ?_⟩
  · rw [show (15 : Int32) = nI (2 ^ 4 - 1) from rfl, fa_mask]
  · rw [pk_shrN h _ 4 (by decide)]
theorem m_words {M : gS} (hw : wfS (ma M 25)) (Q : gS → Prop) (hQ : ∀ N, frm M N → ma N = ma M → (∀ k, k < 9 → ml N 24 k = (ownI (ma M 25) k).toInt64) → Q N) : wX12_words M Q := by
  have b6 : aN (ma M 25) 6 ≤ 1 := hw.b 6 rfl
  unfold wX12_words
  intro x1 h1
  have e1 : x1 = nI (aN (ma M 25) 6) := by rw [h1]; exact hw.n 6 rfl
  rw [e1, show (12 : Int32) + nI (aN (ma M 25) 6) = nI (12 + aN (ma M 25) 6) from nI_add 12 _, show (13 : Int32) - nI (aN (ma M 25) 6) = nI (13 - aN (ma M 25) 6) from pk_sub (show aN (ma M 25) 6 ≤ 13 by omega), show (14 : Int32) + nI (aN (ma M 25) 6) = nI (14 + aN (ma M 25) 6) from nI_add 14 _, show (15 : Int32) - nI (aN (ma M 25) 6) = nI (15 - aN (ma M 25) 6) from pk_sub (show aN (ma M 25) 6 ≤ 15 by omega), show (16 : Int32) + nI (aN (ma M 25) 6) = nI (16 + aN (ma M 25) 6) from nI_add 16 _, nI_clamp (by omega), nI_clamp (by omega), nI_clamp (by omega), nI_clamp (by omega), nI_clamp (by omega), show 13 - aN (ma M 25) 6 = 12 + (1 - aN (ma M 25) 6) by omega, show 15 - aN (ma M 25) 6 = 14 + (1 - aN (ma M 25) 6) by omega]
  intro x2 h2 M3 h3 x4 h4 M5 h5 x6 h6 M7 h7
  refine ⟨vp_in_nI (by omega) (by decide), fun x8 h8 M9 h9 => ⟨vp_in_nI (by omega) (by decide), fun x10 h10 M11 h11 => ⟨vp_in_nI (by omega) (by decide), fun x12 h12 M13 h13 => ⟨vp_in_nI (by omega) (by decide), fun x14 h14 M15 h15 => ⟨vp_in_nI (by omega) (by decide), fun x16 h16 M17 h17 x18 h18 M19 h19 => ?_⟩⟩⟩⟩⟩
  rw [← hw.n 6 rfl] at h2
  subst h19 h18 h17 h16 h15 h14 h13 h12 h11 h10 h9 h8 h7 h6 h5 h4 h3 h2
  refine hQ _ ⟨fun _ _ => rfl, fun _ _ _ => rfl, fun _ => rfl⟩ rfl (fun k hk => ?_)
  rcases (show k = 0 ∨ k = 1 ∨ k = 2 ∨ k = 3 ∨ k = 4 ∨ k = 5 ∨ k = 6 ∨ k = 7 ∨ k = 8 by omega) with rfl | rfl | rfl | rfl | rfl | rfl | rfl | rfl | rfl <;> rfl
theorem m_reckons_l {M : gS} {k e : Nat} (hk : k < 6) (he : e ≤ 400) (τ : Nat → Nat) (hτ : ∀ i, i < e → tokOK (τ i) ∧ ma M 3 (400 * k + i) = nI (τ i)) (Q : Int64 → gS → Prop) : ∀ n i, i + n = e → ∀ N st ty, frm M N → ma N = ma M → (∀ j, j < 9 → ml N 24 j = (ownI (ma M 25) j).toInt64) → mg N 23 = nI st.length → stkR (ml N 22) st → typd st ty → st.length ≤ 60 → tyN τ n i ty = some [true] → (∀ v N', frm M N' → ma N' = ma M → (∀ j, j < 9 → ml N' 24 j = (ownI (ma M 25) j).toInt64) → evN (ma M 25) τ n i st = [v] → (v = 0 ∨ v = 1) → Q v N') → wX12_reckons_8 Q (n + 1) (nI k) (nI e) (nI i) N := by
  intro n
  induction n with
  | zero =>
    intro i hi N st ty hf hm hw9 h23 hst hty hl htn hQ
    rw [wX12_reckons_8]
    refine sw_t (nI_le (by omega) (by omega)) ?_
    have : ty = [true] := Option.some.inj htn
    subst this
    match st, hty, hst, h23, hQ with
    | [v], hty, hst, h23, hQ =>
      exact m_pop (st := []) (by decide) h23 hst _ (fun N' f1 f2 f3 _ _ => hQ v N' (frm_trans hf f1) (f2.trans hm) (fun j hj => by rw [f3]; exact hw9 j hj) rfl (hty.1 rfl))
  | succ n ih =>
    intro i hi N st ty hf hm hw9 h23 hst hty hl htn hQ
    obtain ⟨hok, hsg⟩ := hτ i (by omega)
    obtain ⟨d1, d2⟩ := tok_and hok
    have i4 : (400 : Int32) * nI k + nI i = nI (400 * k + i) := by
      rw [show (400 : Int32) = nI 400 from rfl, pk_mul, nI_add]
    rw [wX12_reckons_8, i4, nI_clamp (by omega), hm, hsg, d1, d2]
    refine sw_f (nI_ge (by omega) (by omega)) ⟨vp_in_nI (by omega) (by decide), fun x4 h4 => ⟨vp_in_nI (by omega) (by decide), fun x5 h5 => ?_⟩⟩
    have hm16 := Nat.mod_lt (τ i) (show 16 > 0 by omega)
    have hb5 : τ i / 16 ≤ 99999 := by unfold tokOK at hok; omega
    have ne : ∀ c : Nat, c < 100 → (nI (τ i % 16) = nI c ↔ τ i % 16 = c) := fun c hc => nI_eq (by omega) (by omega)
    rw [h4, h5]
    rw [tyN] at htn
    -- one step of both
    cases htt : tyT ty (τ i) with
    | none => rw [htt] at htn; exact absurd htn (by simp)
    | some ty' =>
      rw [htt] at htn
      simp only [] at htn
      have htl : ty'.length ≤ 60 := Classical.byContradiction fun z => by rw [if_neg z] at htn; exact absurd htn (by simp)
      rw [if_pos htl] at htn
      have hty' := typd_step (s := ma M 25) hok hty htt
      have hlen := typd_len _ _ hty'
      have go : ∀ N2, frm N N2 → ma N2 = ma N → ml N2 24 = ml N 24 → mg N2 23 = nI (evT (ma M 25) st (τ i)).length → stkR (ml N2 22) (evT (ma M 25) st (τ i)) → wX12_reckons_129 (fun y1 y3 y4 M => wX12_reckons_8 Q (n + 1) y1 y3 y4 M) Q (nI k) (nI e) (nI i) N2 := by
        intro N2 g1 g2 g3 g4 g5
        unfold wX12_reckons_129
        intro x hx
        rw [hx, nI_1]
        exact ih (i + 1) (by omega) N2 (evT (ma M 25) st (τ i)) ty' (frm_trans hf g1) (g2.trans hm) (fun j hj => by rw [g3]; exact hw9 j hj) g4 g5 hty' (by omega) htn hQ
      have hstl := typd_len _ _ hty
      unfold evT at go
      unfold tyT at htt
      by_cases c0 : τ i % 16 = 0
      · rw [if_pos c0] at go
        exact sw_t ((ne 0 (by omega)).2 c0) (m_push (by omega) h23 hst _ _ (fun N2 g1 g2 g3 g4 g5 => go N2 g1 g2 g3 g4 g5))
      rw [if_neg c0] at go htt
      refine sw_f (fun z => c0 ((ne 0 (by omega)).1 z)) ?_
      by_cases c1 : τ i % 16 = 1
      · rw [if_pos c1] at go
        have h8 : τ i / 16 ≤ 8 := by unfold tokOK at hok; omega
        refine sw_t ((ne 1 (by omega)).2 c1) ⟨vp_in_nI (by omega) (by decide), ?_⟩
        rw [nI_clamp (by omega), hw9 _ (by omega)]
        exact m_push (by omega) h23 hst _ _ (fun N2 g1 g2 g3 g4 g5 => go N2 g1 g2 g3 g4 g5)
      rw [if_neg c1] at go htt
      refine sw_f (fun z => c1 ((ne 1 (by omega)).1 z)) ?_
      by_cases c11 : τ i % 16 = 11
      · rw [if_pos c11] at go htt
        refine sw_t ((ne 11 (by omega)).2 c11) ?_
        match ty, st, hty, htt, h23, hst, go, hl with
        | true :: r, x :: a, hty, htt, h23, hst, go, hl =>
          simp only [List.length_cons] at hl
          exact m_pop (by omega) h23 hst _ (fun N1 p1 p2 p3 p4 p5 => m_push (by omega) p4 p5 _ _ (fun N2 g1 g2 g3 g4 g5 => go N2 (frm_trans p1 g1) (g2.trans p2) (g3.trans p3) g4 g5))
      rw [if_neg c11] at go htt
      refine sw_f (fun z => c11 ((ne 11 (by omega)).1 z)) ?_
      have h13 : 2 ≤ τ i % 16 ∧ τ i % 16 ≤ 13 := by unfold tokOK at hok; omega
      match ty, st, hty, htt, h23, hst, go, hl with
      | b1 :: b2 :: r, y :: x :: a, hty, htt, h23, hst, go, hl =>
        simp only [List.length_cons] at hl
        exact m_pop (st := x :: a) (by simp only [List.length_cons]; omega) h23 hst _ (fun N1 p1 p2 p3 p4 p5 => m_pop (by omega) p4 p5 _ (fun N2 q1 q2 q3 q4 q5 => m_one h13.1 h13.2 c11 x y _ (m_push (by omega) q4 q5 _ _ (fun N3 g1 g2 g3 g4 g5 => go N3 (frm_trans p1 (frm_trans q1 g1)) (g2.trans (q2.trans p2)) (g3.trans (q3.trans p3)) g4 g5))))
      | [], st, hty, htt, _, _, _, _ => exact absurd htt (by simp)
      | [b1], st, hty, htt, _, _, _, _ => cases b1 <;> exact absurd htt (by simp)
theorem m_reckons {M : gS} {k b e : Nat} (hk : k < 6) (he : e ≤ 400) (hb : b ≤ e) (τ : Nat → Nat) (hτ : ∀ i, i < e → tokOK (τ i) ∧ ma M 3 (400 * k + i) = nI (τ i)) (hw9 : ∀ j, j < 9 → ml M 24 j = (ownI (ma M 25) j).toInt64) (hty : tyN τ (e - b) b [] = some [true]) (Q : Int64 → gS → Prop) (hQ : ∀ v N', frm M N' → ma N' = ma M → (∀ j, j < 9 → ml N' 24 j = (ownI (ma M 25) j).toInt64) → evN (ma M 25) τ (e - b) b [] = [v] → (v = 0 ∨ v = 1) → Q v N') : wX12_reckons (nI k) (nI b) (nI e) M Q := by
  unfold wX12_reckons
  intro M1 h1
  refine ⟨e - b + 1, ?_⟩
  have f1 : frm M M1 := by rw [h1]; exact frm_sg _ _
  exact m_reckons_l hk he τ hτ Q (e - b) b (by omega) M1 [] [] f1 (by rw [h1]; rfl) (by rw [h1]; exact hw9) (by rw [h1]; rfl) trivial trivial (by decide) hty hQ
theorem le64 (a b : Int64) : a ≤ b ↔ ¬ b < a := by
  rw [Int64.le_iff_toInt_le, Int64.lt_iff_toInt_lt]; omega
theorem cj_end {c : Prop} [Decidable c] {A B : Prop} (h1 : c → B) (h2 : ¬ c → A) : (bI (decide c) = 0 → A) ∧ (¬ bI (decide c) = 0 → B) := by
  by_cases z : c
  · rw [decide_eq_true z]; exact bw_t (h1 z)
  · rw [decide_eq_false z]; exact bw_f (h2 z)
theorem c_cmp6 (x y : Int64) (Q : Bool → Prop) (h : Q (decide (x < y))) : wX8_compares (-14) x y Q := by
  unfold wX8_compares
  refine sw_f (by decide) ?_
  refine sw_f (by decide) ?_
  refine sw_f (by decide) ?_
  refine sw_t rfl ?_
  have e : (0 ≤ lg_cmp x y) ↔ ¬ x < y := by rw [← lgc_lt, nlt_le]
  by_cases z : x < y
  · rw [decide_eq_true z] at h; exact sw_f (fun k => e.1 k z) h
  · rw [decide_eq_false z] at h; exact sw_t (e.2 z) h
theorem c_cmp7 (x y : Int64) (Q : Bool → Prop) (h : Q (decide (x ≤ y))) : wX8_compares (-15) x y Q := by
  unfold wX8_compares
  refine sw_f (by decide) ?_
  refine sw_f (by decide) ?_
  refine sw_t rfl ?_
  rw [lgc_gt]
  by_cases z : x ≤ y
  · rw [decide_eq_true z] at h; exact sw_f ((le64 x y).1 z) h
  · rw [decide_eq_false z] at h; exact sw_t (Classical.byContradiction fun k => z ((le64 x y).2 k)) h
theorem c_cmp8 (x y : Int64) (Q : Bool → Prop) (h : Q (decide (x = y))) : wX8_compares (-16) x y Q := by
  unfold wX8_compares
  refine sw_f (by decide) ?_
  refine sw_t rfl ?_
  rw [lgc_eq]
  by_cases z : x = y
  · rw [decide_eq_true z] at h; exact sw_t z h
  · rw [decide_eq_false z] at h; exact sw_f z h
theorem c_cmp9 (x y : Int64) (Q : Bool → Prop) (h : Q (decide (y ≤ x))) : wX8_compares (-17) x y Q := by
  unfold wX8_compares
  refine sw_t rfl ?_
  rw [lgc_lt]
  by_cases z : y ≤ x
  · rw [decide_eq_true z] at h; exact sw_f ((le64 y x).1 z) h
  · rw [decide_eq_false z] at h; exact sw_t (Classical.byContradiction fun k => z ((le64 y x).2 k)) h
theorem c_cmp10 (x y : Int64) (Q : Bool → Prop) (h : Q (decide (y < x))) : wX8_compares (-18) x y Q := by
  unfold wX8_compares
  refine sw_f (by decide) ?_
  refine sw_f (by decide) ?_
  refine sw_f (by decide) ?_
  refine sw_f (by decide) ?_
  have e : (lg_cmp x y ≤ 0) ↔ ¬ y < x := by rw [← lgc_gt, nlt_le]
  by_cases z : y < x
  · rw [decide_eq_true z] at h; exact sw_f (fun k => e.1 k z) h
  · rw [decide_eq_false z] at h; exact sw_t (e.2 z) h
theorem c_joined {o : Nat} (h2 : 2 ≤ o) (h13 : o ≤ 13) (h11 : o ≠ 11) (x y : Int64) (Q : Int64 → Prop) (hQ : Q (opL o x y)) : wX8_joined (-8 - nI o) x y Q := by
  rcases (show o = 2 ∨ o = 3 ∨ o = 4 ∨ o = 5 ∨ o = 6 ∨ o = 7 ∨ o = 8 ∨ o = 9 ∨ o = 10 ∨ o = 12 ∨ o = 13 by omega) with rfl | rfl | rfl | rfl | rfl | rfl | rfl | rfl | rfl | rfl | rfl
  · rw [show (-8 - nI 2 : Int32) = -10 by decide]
    unfold wX8_joined
    refine sw_f (by decide) ?_
    refine sw_f (by decide) ?_
    refine sw_f (by decide) ?_
    refine sw_f (by decide) ?_
    refine sw_f (by decide) ?_
    refine sw_f (by decide) ?_
    refine sw_f (by decide) ?_
    refine sw_f (by decide) ?_
    refine sw_f (by decide) ?_
    refine sw_f (by decide) ?_
    refine sw_f (by decide) ?_
    refine sw_t rfl ?_
    exact hQ
  · rw [show (-8 - nI 3 : Int32) = -11 by decide]
    unfold wX8_joined
    refine sw_f (by decide) ?_
    refine sw_f (by decide) ?_
    refine sw_f (by decide) ?_
    refine sw_f (by decide) ?_
    refine sw_f (by decide) ?_
    refine sw_f (by decide) ?_
    refine sw_f (by decide) ?_
    refine sw_f (by decide) ?_
    refine sw_f (by decide) ?_
    refine sw_f (by decide) ?_
    refine sw_t rfl ?_
    exact hQ
  · rw [show (-8 - nI 4 : Int32) = -12 by decide]
    unfold wX8_joined
    refine sw_f (by decide) ?_
    refine sw_f (by decide) ?_
    refine sw_f (by decide) ?_
    refine sw_f (by decide) ?_
    refine sw_f (by decide) ?_
    refine sw_f (by decide) ?_
    refine sw_f (by decide) ?_
    refine sw_f (by decide) ?_
    refine sw_f (by decide) ?_
    refine sw_t rfl ?_
    exact hQ
  · rw [show (-8 - nI 5 : Int32) = -13 by decide]
    unfold wX8_joined
    refine sw_f (by decide) ?_
    refine sw_f (by decide) ?_
    refine sw_f (by decide) ?_
    refine sw_f (by decide) ?_
    refine sw_f (by decide) ?_
    refine sw_f (by decide) ?_
    refine sw_f (by decide) ?_
    refine sw_f (by decide) ?_
    refine sw_t rfl ?_
    rw [lgc_eq]
    have hq : Q (if y = 0 then 0 else x / y) := hQ
    by_cases z : y = 0
    · rw [if_pos z] at hq; exact sw_t z hq
    · rw [if_neg z] at hq; exact sw_f z ⟨z, hq⟩
  · rw [show (-8 - nI 6 : Int32) = -14 by decide]
    unfold wX8_joined
    refine sw_f (by decide) ?_
    refine sw_f (by decide) ?_
    refine sw_f (by decide) ?_
    refine sw_f (by decide) ?_
    refine sw_f (by decide) ?_
    refine sw_f (by decide) ?_
    refine sw_f (by decide) ?_
    refine sw_t rfl ?_
    have hq : Q (if x < y then 1 else 0) := hQ
    exact c_cmp6 x y _ (cj_end (fun z => by rw [if_pos z] at hq; exact hq) (fun z => by rw [if_neg z] at hq; exact hq))
  · rw [show (-8 - nI 7 : Int32) = -15 by decide]
    unfold wX8_joined
    refine sw_f (by decide) ?_
    refine sw_f (by decide) ?_
    refine sw_f (by decide) ?_
    refine sw_f (by decide) ?_
    refine sw_f (by decide) ?_
    refine sw_f (by decide) ?_
    refine sw_t rfl ?_
    have hq : Q (if x ≤ y then 1 else 0) := hQ
    exact c_cmp7 x y _ (cj_end (fun z => by rw [if_pos z] at hq; exact hq) (fun z => by rw [if_neg z] at hq; exact hq))
  · rw [show (-8 - nI 8 : Int32) = -16 by decide]
    unfold wX8_joined
    refine sw_f (by decide) ?_
    refine sw_f (by decide) ?_
    refine sw_f (by decide) ?_
    refine sw_f (by decide) ?_
    refine sw_f (by decide) ?_
    refine sw_t rfl ?_
    have hq : Q (if x = y then 1 else 0) := hQ
    exact c_cmp8 x y _ (cj_end (fun z => by rw [if_pos z] at hq; exact hq) (fun z => by rw [if_neg z] at hq; exact hq))
  · rw [show (-8 - nI 9 : Int32) = -17 by decide]
    unfold wX8_joined
    refine sw_f (by decide) ?_
    refine sw_f (by decide) ?_
    refine sw_f (by decide) ?_
    refine sw_f (by decide) ?_
    refine sw_t rfl ?_
    have hq : Q (if y ≤ x then 1 else 0) := hQ
    exact c_cmp9 x y _ (cj_end (fun z => by rw [if_pos z] at hq; exact hq) (fun z => by rw [if_neg z] at hq; exact hq))
  · rw [show (-8 - nI 10 : Int32) = -18 by decide]
    unfold wX8_joined
    refine sw_f (by decide) ?_
    refine sw_f (by decide) ?_
    refine sw_f (by decide) ?_
    refine sw_t rfl ?_
    have hq : Q (if y < x then 1 else 0) := hQ
    exact c_cmp10 x y _ (cj_end (fun z => by rw [if_pos z] at hq; exact hq) (fun z => by rw [if_neg z] at hq; exact hq))
  · rw [show (-8 - nI 12 : Int32) = -20 by decide]
    unfold wX8_joined
    refine sw_f (by decide) ?_
    refine sw_t rfl ?_
    exact hQ
  · rw [show (-8 - nI 13 : Int32) = -21 by decide]
    unfold wX8_joined
    refine sw_t rfl ?_
    exact hQ
