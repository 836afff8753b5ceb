theorem c_own {s : Nat → Int32} (hw : wfS s) {Mq : gS} (hq : relQ s Mq) (hg : s 3 = 1) {k : Nat} (hk : k ≤ 8) (Q : Int64 → gS → Prop) (h : Q (ownI s k).toInt64 Mq) : wX6_ownWord (-1 - nI k) Mq Q := by
  have b6 : aN s 6 ≤ 1 := hw.b 6 rfl
  obtain ⟨q0, q1, q2, q3, q4, q5⟩ := hq
  obtain ⟨g4, g5, g6, g7⟩ := q1 hg
  have e3 : mg Mq 3 = nI (aN s 6) := by rw [g6, hw.n 6 rfl]
  have c3 : Int32.toNatClampNeg (mg Mq 3) = aN s 6 := by rw [e3]; exact nI_clamp (by omega)
  have e4 : (1 : Int32) - mg Mq 3 = nI (1 - aN s 6) := by rw [e3]; exact pk_sub b6
  have c4 : Int32.toNatClampNeg (1 - mg Mq 3) = 1 - aN s 6 := by rw [e4]; exact nI_clamp (by omega)
  have v3 : vp_in (mg Mq 3) 2 := by rw [e3]; exact vp_in_nI (by omega) (by decide)
  have v4 : vp_in (1 - mg Mq 3) 2 := by rw [e4]; exact vp_in_nI (by omega) (by decide)
  have lst : ∀ j, j < 2 → ∀ (A B : Prop), (s (14 + j) = 9 → A) → (ma Mq 8 j = s (14 + j) → B) → ((ma Mq 8 j = -1 → A) ∧ (¬ ma Mq 8 j = -1 → B)) := by
    intro j hj A B hA hB
    have b := hw.b (14 + j) (isB_14 _ hj); rw [bnd_14 _ hj] at b
    have e := hw.n (14 + j) (isB_14 _ hj)
    have q := q4 (Or.inl hg) j hj
    unfold lastC at q
    by_cases c : s (14 + j) = 9
    · rw [if_pos c] at q
      exact sw_t q (hA c)
    · rw [if_neg c] at q
      refine sw_f (fun z => ?_) (hB q)
      rw [q, e] at z
      have z1 : (nI (aN s (14 + j))).toInt = (-1 : Int32).toInt := by rw [z]
      rw [nI_toInt (by omega), show (-1 : Int32).toInt = -1 by decide] at z1
      omega
  rcases (show k = 0 ∨ k = 1 ∨ k = 2 ∨ k = 3 ∨ k = 4 ∨ k = 5 ∨ k = 6 ∨ k = 7 ∨ k = 8 by omega) with rfl | rfl | rfl | rfl | rfl | rfl | rfl | rfl | rfl
  · rw [show (-1 - nI 0 : Int32) = -1 by decide]
    unfold wX6_ownWord
    refine sw_f (by decide) ?_
    refine sw_f (by decide) ?_
    refine sw_f (by decide) ?_
    refine sw_f (by decide) ?_
    refine sw_f (by decide) ?_
    refine sw_f (by decide) ?_
    refine sw_f (by decide) ?_
    refine sw_t rfl ?_
    rw [g6]; exact h
  · rw [show (-1 - nI 1 : Int32) = -2 by decide]
    unfold wX6_ownWord
    refine sw_f (by decide) ?_
    refine sw_f (by decide) ?_
    refine sw_f (by decide) ?_
    refine sw_f (by decide) ?_
    refine sw_f (by decide) ?_
    refine sw_f (by decide) ?_
    refine sw_t rfl ?_
    rw [g5]; exact h
  · rw [show (-1 - nI 2 : Int32) = -3 by decide]
    unfold wX6_ownWord
    refine sw_f (by decide) ?_
    refine sw_f (by decide) ?_
    refine sw_f (by decide) ?_
    refine sw_f (by decide) ?_
    refine sw_f (by decide) ?_
    refine sw_t rfl ?_
    rw [g4]; exact h
  · rw [show (-1 - nI 3 : Int32) = -4 by decide]
    unfold wX6_ownWord
    refine sw_f (by decide) ?_
    refine sw_f (by decide) ?_
    refine sw_f (by decide) ?_
    refine sw_f (by decide) ?_
    refine sw_t rfl ?_
    refine ⟨v3, ?_⟩
    rw [c3, q3 _ (by omega)]; exact h
  · rw [show (-1 - nI 4 : Int32) = -5 by decide]
    unfold wX6_ownWord
    refine sw_f (by decide) ?_
    refine sw_f (by decide) ?_
    refine sw_f (by decide) ?_
    refine sw_t rfl ?_
    refine ⟨v4, ?_⟩
    rw [c4, q3 _ (by omega)]; exact h
  · rw [show (-1 - nI 5 : Int32) = -6 by decide]
    unfold wX6_ownWord
    refine sw_f (by decide) ?_
    refine sw_f (by decide) ?_
    refine sw_t rfl ?_
    rw [c3]
    have hh : Q (s (14 + aN s 6)).toInt64 Mq := h
    exact ⟨v3, lst _ (by omega) _ _ (fun z => by rw [z] at hh; exact hh) (fun z => ⟨v3, by rw [z]; exact hh⟩)⟩
  · rw [show (-1 - nI 6 : Int32) = -7 by decide]
    unfold wX6_ownWord
    refine sw_f (by decide) ?_
    refine sw_t rfl ?_
    rw [c4]
    have hh : Q (s (14 + (1 - aN s 6))).toInt64 Mq := h
    exact ⟨v4, lst _ (by omega) _ _ (fun z => by rw [z] at hh; exact hh) (fun z => ⟨v4, by rw [z]; exact hh⟩)⟩
  · rw [show (-1 - nI 7 : Int32) = -8 by decide]
    unfold wX6_ownWord
    refine sw_t rfl ?_
    refine ⟨v3, ?_⟩
    rw [c3, q5 _ (by omega)]; exact h
  · rw [show (-1 - nI 8 : Int32) = -9 by decide]
    unfold wX6_ownWord
    refine sw_f (by decide) ?_
    refine sw_f (by decide) ?_
    refine sw_f (by decide) ?_
    refine sw_f (by decide) ?_
    refine sw_f (by decide) ?_
    refine sw_f (by decide) ?_
    refine sw_f (by decide) ?_
    refine sw_f (by decide) ?_
    rw [g7]; exact h
theorem cod_cases {t : Nat} (ht : tokOK t) : (t % 16 = 0 → ¬ cod t < -9 ∧ ¬ cod t < 0 ∧ cod t = nI (t / 16)) ∧ (t % 16 = 1 → ¬ cod t < -9 ∧ cod t < 0 ∧ cod t = -1 - nI (t / 16)) ∧ (2 ≤ t % 16 → cod t < -9 ∧ (cod t = -19 ↔ t % 16 = 11) ∧ cod t = -8 - nI (t % 16)) := by
  refine ⟨fun h => ?_, fun h => ?_, fun h => ?_⟩
  · have e : cod t = nI (t / 16) := by unfold cod; rw [if_pos h]
    have hb : t / 16 ≤ 99999 := by unfold tokOK at ht; omega
    rw [e]
    refine ⟨?_, nI_pos (by omega), rfl⟩
    rw [Int32.lt_iff_toInt_lt, nI_toInt (by omega), show (-9 : Int32).toInt = -9 by decide]
    omega
  · have e : cod t = -1 - nI (t / 16) := by unfold cod; rw [if_neg (by omega), if_pos h]
    have hb : t / 16 ≤ 8 := by unfold tokOK at ht; omega
    rw [e]
    have all : ∀ k, k ≤ 8 → ¬ (-1 - nI k : Int32) < -9 ∧ (-1 - nI k : Int32) < 0 := by decide
    exact ⟨(all _ hb).1, (all _ hb).2, rfl⟩
  · have e : cod t = -8 - nI (t % 16) := by unfold cod; rw [if_neg (by omega), if_neg (by omega)]
    have hb : t % 16 ≤ 13 := by unfold tokOK at ht; omega
    rw [e]
    have all : ∀ k, k ≤ 13 → 2 ≤ k → (-8 - nI k : Int32) < -9 ∧ ((-8 - nI k : Int32) = -19 ↔ k = 11) := by decide
    exact ⟨(all _ hb h).1, (all _ hb h).2, rfl⟩
/-- only the stack of a Rule is changed -/
def frC (M N : gS) : Prop := ma N = ma M ∧ mg N = mg M
theorem frC_trans {A B C : gS} (h : frC A B) (g : frC B C) : frC A C := ⟨g.1.trans h.1, g.2.trans h.2⟩
theorem c_holds6 {s : Nat → Int32} (hw : wfS s) {M0 Mq : gS} (hq : relQ s Mq) (hg : s 3 = 1) {e : Nat} (he : e ≤ 400) (τ : Nat → Nat) (hτ : ∀ i, i < e → tokOK (τ i) ∧ ma M0 3 i = cod (τ i)) (Q : Bool → gS → gS → Prop) : ∀ n i, i + n = e → ∀ N st ty, frC M0 N → stkR (ml N 5) st → typd st ty → st.length ≤ 60 → tyN τ n i ty = some [true] → (∀ v N', frC M0 N' → evN s τ n i st = [v] → (v = 0 ∨ v = 1) → Q (decide (v = 1)) N' Mq) → wX8_holds_6 Q (n + 1) (nI e) (nI st.length) (nI i) N Mq := by
  intro n
  induction n with
  | zero =>
    intro i hi N st ty hf hst hty hl htn hQ
    rw [wX8_holds_6]
    refine sw_t (nI_le (by omega) (by omega)) ?_
    have : ty = [true] := Option.some.inj htn
    subst this
    match st, hty, hst, hQ with
    | [v], hty, hst, hQ =>
      unfold wX8_holds_153 wX8_holds_169
      refine sw_f (show ¬ (1 : Int32) = 0 by decide) ?_
      rw [lgc_eq, show ml N 5 0 = v from hst.1]
      have hh := hQ v N hf rfl (hty.1 rfl)
      rcases hty.1 rfl with z | z
      · rw [z] at hh ⊢
        exact sw_t rfl hh
      · rw [z] at hh ⊢
        exact sw_f (by decide) hh
  | succ n ih =>
    intro i hi N st ty hf hst hty hl htn hQ
    obtain ⟨hok, hcd⟩ := hτ i (by omega)
    rw [wX8_holds_6, nI_clamp (show i < 2 ^ 31 by omega), hf.1, hcd]
    refine sw_f (nI_ge (by omega) (by omega)) (sw_f (nI_ge (b := 400) (by omega) (by omega)) ⟨vp_in_nI (by omega) (by decide), fun x3 h3 => ?_⟩)
    rw [h3]
    have hm16 := Nat.mod_lt (τ i) (show 16 > 0 by omega)
    obtain ⟨k0, k1, k2⟩ := cod_cases hok
    rw [tyN] at htn
    cases htt : tyT ty (τ i) with
    | none => rw [htt] at htn; exact absurd htn (by simp)
    | some ty' =>
      rw [htt] at htn
      simp only [] at htn
      have htl : ty'.length ≤ 60 := Classical.byContradiction fun z => by rw [if_neg z] at htn; exact absurd htn (by simp)
      rw [if_pos htl] at htn
      have hty' := typd_step (s := s) hok hty htt
      have hlen := typd_len _ _ hty'
      have hstl := typd_len _ _ hty
      have go : ∀ N2, frC N N2 → stkR (ml N2 5) (evT s st (τ i)) → wX8_holds_147 (fun y2 y4 y5 M0 M1 => wX8_holds_6 Q (n + 1) y2 y4 y5 M0 M1) Q (nI e) (nI (evT s st (τ i)).length) (nI i) N2 Mq := by
        intro N2 g1 g2
        unfold wX8_holds_147
        intro x hx
        rw [hx, nI_1]
        exact ih (i + 1) (by omega) N2 (evT s st (τ i)) ty' (frC_trans hf g1) g2 hty' (by omega) htn hQ
      have psh : ∀ v : Int64, evT s st (τ i) = v :: st → wX8_holds_66 (fun y2 y4 y5 M0 M1 => wX8_holds_6 Q (n + 1) y2 y4 y5 M0 M1) Q (nI e) (nI st.length) (nI i) (nI st.length) v N Mq := by
        intro v hv
        rw [hv] at hty' hlen go
        simp only [List.length_cons] at hlen
        unfold wX8_holds_66
        rw [nI_clamp (by omega)]
        refine ⟨vp_in_nI (by omega) (by decide), fun N1 h1 x2 h2 => ?_⟩
        rw [h2, nI_1]
        refine go N1 (by rw [h1]; exact ⟨rfl, rfl⟩) ?_
        have e5 : ml N1 5 = vp_updL (ml N 5) st.length v := by rw [h1]; rfl
        rw [e5]
        exact stkR_push hst
      by_cases c0 : τ i % 16 = 0
      · obtain ⟨a1, a2, a3⟩ := k0 c0
        have ev : evT s st (τ i) = (nI (τ i / 16)).toInt64 :: st := by unfold evT; rw [if_pos c0]
        have hl2 : st.length < 60 := by rw [ev] at hlen; simp only [List.length_cons] at hlen; omega
        refine sw_f a1 (sw_f (nI_ge (b := 60) hl2 (by omega)) (sw_f a2 ?_))
        rw [a3]
        exact psh _ ev
      by_cases c1 : τ i % 16 = 1
      · obtain ⟨a1, a2, a3⟩ := k1 c1
        have ev : evT s st (τ i) = (ownI s (τ i / 16)).toInt64 :: st := by unfold evT; rw [if_neg c0, if_pos c1]
        have hl2 : st.length < 60 := by rw [ev] at hlen; simp only [List.length_cons] at hlen; omega
        refine sw_f a1 (sw_f (nI_ge (b := 60) hl2 (by omega)) (sw_t a2 ?_))
        rw [a3]
        have h8 : τ i / 16 ≤ 8 := by unfold tokOK at hok; omega
        exact c_own hw hq hg h8 _ (psh _ ev)
      obtain ⟨a1, a2, a3⟩ := k2 (by omega)
      refine sw_t a1 ?_
      unfold evT at go
      unfold tyT at htt
      rw [if_neg c0, if_neg c1] at go htt
      by_cases c11 : τ i % 16 = 11
      · rw [if_pos c11] at go htt
        refine sw_t (a2.2 c11) ?_
        match ty, st, hty, htt, hst, go, hl with
        | true :: r, x :: a, hty, htt, hst, go, hl =>
          simp only [List.length_cons] at hl
          refine sw_f (nI_nle (by simp only [List.length_cons]; omega) (by simp only [List.length_cons]; omega)) ?_
          simp only [List.length_cons]
          rw [nI_pred, nI_clamp (by omega)]
          refine ⟨vp_in_nI (by omega) (by decide), fun x11 h11 => ⟨vp_in_nI (by omega) (by decide), fun N12 h12 => ?_⟩⟩
          rw [show ml N 5 a.length = x from hst.1] at h11
          refine go N12 (by rw [h12]; exact ⟨rfl, rfl⟩) ?_
          have e5 : ml N12 5 = vp_updL (ml N 5) a.length x11 := by rw [h12]; rfl
          rw [e5, h11]
          exact stkR_push hst.2
      rw [if_neg c11] at go htt
      refine sw_f (fun z => c11 (a2.1 z)) ?_
      have h13 : 2 ≤ τ i % 16 ∧ τ i % 16 ≤ 13 := by unfold tokOK at hok; omega
      match ty, st, hty, htt, hst, go, hl with
      | b1 :: b2 :: r, y :: x :: a, hty, htt, hst, go, hl =>
        simp only [List.length_cons] at hl
        refine sw_f (by simp only [List.length_cons]; rw [show (1 : Int32) = nI 1 from rfl, nI_leI (by omega) (by omega)]; omega) (fun x7 h7 => ?_)
        have e7 : x7 = nI (a.length + 1) := by
          rw [h7]
          simp only [List.length_cons]
          rw [← nI_pred (a.length + 1), Int32.sub_eq_add_neg]
        rw [e7, nI_pred, nI_clamp (show a.length < 2 ^ 31 by omega), nI_clamp (show a.length + 1 < 2 ^ 31 by omega), show ml N 5 a.length = x from hst.2.1, show ml N 5 (a.length + 1) = y from hst.1, a3]
        refine ⟨vp_in_nI (by omega) (by decide), vp_in_nI (by omega) (by decide), c_joined h13.1 h13.2 c11 x y _ ⟨vp_in_nI (by omega) (by decide), fun N9 h9 => ?_⟩⟩
        refine go N9 (by rw [h9]; exact ⟨rfl, rfl⟩) ?_
        have e5 : ml N9 5 = vp_updL (ml N 5) a.length (opL (τ i % 16) x y) := by rw [h9]; rfl
        rw [e5]
        exact stkR_push hst.2.2
      | [], st, hty, htt, _, _, _ => exact absurd htt (by simp)
      | [b1], st, hty, htt, _, _, _ => cases b1 <;> exact absurd htt (by simp)
