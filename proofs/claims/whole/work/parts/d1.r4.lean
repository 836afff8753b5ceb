-- PURE: rule() in both
/-- what rule() may change in the reference -/
def gR (k : Nat) (M N : gS) : Prop := (∀ j, j ≠ 3 → j ≠ 4 → j ≠ 5 → j ≠ 6 → j ≠ 20 → ma N j = ma M j) ∧ (∀ j, (j < 400 * k ∨ 400 * k + 400 ≤ j) → ma N 3 j = ma M 3 j) ∧ (∀ j, (j < 48 * k ∨ 48 * k + 48 ≤ j) → ma N 5 j = ma M 5 j) ∧ (∀ j, j ≠ k → ma N 6 j = ma M 6 j)
theorem m_readsR {c : Nat → Nat} {L k : Nat} {M : gS} (hk : k < 6) (ht : txR c L M) (h16 : mg M 16 = nI k) (h6 : ma M 6 k = 0) (Q : Bool → gS → Prop) (h1 : ∀ ts ds, rlF c L = .inr (ts, ds) → ∀ N, gR k M N → mg N 1 = 0 → mg N 2 = mg M 2 → rkR k ts N → clQ k ds N → Q true N) (h2 : ∀ f, rlF c L = .inl f → ∀ N, gR k M N → mg N 1 = 0 → mg N 2 = mg M 2 → mg N 14 = nI f → Q false N) : wX12_readsAll M Q := by
  have hL := ht.2.1
  obtain ⟨_, hfb⟩ := rlF_ok (c := c) hL
  unfold wX12_readsAll
  rw [h16, nI_clamp (show k < 2 ^ 31 by omega)]
  refine ⟨vp_in_nI (by omega) (by decide), fun X1 e1 X2 e2 X3 e3 X4 e4 X5 e5 => ?_⟩
  have a5 : ∀ j, j ≠ 4 → ma X5 j = ma M j := fun j hj => by rw [e5, e4, e3, e2, e1]; show ma (sa M 4 _ _) j = _; rw [ma_sa, if_neg hj]
  have g5 : ∀ j, j ≠ 13 → j ≠ 14 → j ≠ 17 → j ≠ 19 → mg X5 j = mg M j := fun j p1 p2 p3 p4 => by rw [e5, mg_sg, if_neg p3, e4, mg_sg, if_neg p2, e3, mg_sg, if_neg p1, e2, mg_sg, if_neg p4, e1]; rfl
  have t5 : txR c L X5 := by unfold txR; rw [a5 0 (by decide), g5 1 (by decide) (by decide) (by decide) (by decide)]; exact ht
  have s5 : stR c L k (sk c L 0) 0 [] X5 := by
    refine ⟨t5, ⟨0, by omega, by rw [e5, e4, e3]; rfl, rfl⟩, by rw [e5, e4]; rfl, ?_, by rw [e5]; rfl, ?_, fun i hi => absurd hi (Nat.not_lt_zero i)⟩
    · rw [g5 16 (by decide) (by decide) (by decide) (by decide)]; exact h16
    · have : ma X5 4 = upd (ma M 4) k 0 := by rw [e5, e4, e3, e2, e1]; rfl
      rw [this, upd_at, if_pos rfl]; rfl
  have s19 : mg X5 19 = nI 0 := by rw [e5, e4, e3, e2]; rfl
  have c5 : clQ k [] X5 := ⟨by rw [a5 6 (by decide)]; exact h6, fun i hi => absurd hi (Nat.not_lt_zero i)⟩
  have gR5 : ∀ N, fR k X5 N → ∀ N2, N2 = sg N 1 0 → gR k M N2 ∧ mg N2 2 = mg M 2 ∧ mg N2 1 = 0 := by
    intro N f N2 hN2
    rw [hN2]
    refine ⟨⟨fun j p1 p2 p3 p4 p5 => ?_, fun j hj => ?_, fun j hj => ?_, fun j hj => ?_⟩, ?_, by rw [mg_sg, if_pos rfl]⟩
    · show ma N j = ma M j
      rw [f.1 j p1 p2 p3 p4 p5, a5 j p2]
    · show ma N 3 j = ma M 3 j
      rw [f.2.1 j hj, a5 3 (by decide)]
    · show ma N 5 j = ma M 5 j
      rw [f.2.2.1 j hj, a5 5 (by decide)]
    · show ma N 6 j = ma M 6 j
      rw [f.2.2.2.1 j hj, a5 6 (by decide)]
    · show mg N 2 = mg M 2
      rw [f.2.2.2.2 2 (by decide) (by decide) (by decide) (by decide) (by decide) (by decide) (by decide), g5 2 (by decide) (by decide) (by decide) (by decide)]
  have ok125 : ∀ ts ds, rlF c L = .inr (ts, ds) → ∀ N, fR k X5 N → mg N 14 = 0 → rkR k ts N → clQ k ds N → wX12_readsAll_125 Q N := by
    intro ts ds ek N f g r1 r2
    unfold wX12_readsAll_125
    intro N2 hN2
    obtain ⟨q1, q2, q3⟩ := gR5 N f N2 hN2
    exact sw_t (by rw [hN2]; exact g) (h1 ts ds ek N2 q1 q3 q2 (by rw [hN2]; exact r1) (by rw [hN2]; exact r2))
  have no125 : ∀ f, rlF c L = .inl f → ∀ N, fR k X5 N → mg N 14 = nI f → wX12_readsAll_125 Q N := by
    intro f ef N fr g
    obtain ⟨b1, b2⟩ := hfb f ef
    unfold wX12_readsAll_125
    intro N2 hN2
    obtain ⟨q1, q2, q3⟩ := gR5 N fr N2 hN2
    have q14 : mg N2 14 = nI f := by rw [hN2]; exact g
    exact sw_f (by rw [q14]; exact nI_ne0 (by omega) (by omega)) (h2 f ef N2 q1 q3 q2 q14)
  have eF : rlF c L = bnd2 (pCl c L 0 (sk c L 0) 0 []) (fun a => rlX c L 12 a.2.1 a.2.2.1 a.2.2.2 ([] ++ [(a.1, a.2.2.2.length)])) := rfl
  refine m_clR (ds := []) hk (by decide) (by omega) (Nat.zero_le _) s5 s19 c5 rfl _ (fun d' p' m' ts' ek N f s g19 cc => ⟨13, ?_⟩) (fun fl ef N f g14 => ⟨1, ?_⟩)
  · have ek : pCl c L 0 (sk c L 0) 0 [] = .inr (d', p', m', ts') := ek
    rw [ek] at eF
    have eF : rlF c L = rlX c L 12 p' m' ts' [(d', ts'.length)] := eF
    obtain ⟨q1, q2, q3, q4, seg, q5, q6, _⟩ := (pCl_t hL (sk_le (by omega)) (by omega)).1 _ _ _ _ ek
    have q5 : ts' = seg := q5
    refine m_rl35 (B := X5) hk Q 12 [(d', ts'.length)] rfl (by omega) p' m' ts' N f s q4 (by rw [q5]; omega) g19 cc rfl (fun t e h => ok125 t e (by rw [eF]; exact h)) (fun fl h => no125 fl (by rw [eF]; exact h))
  · have ef : pCl c L 0 (sk c L 0) 0 [] = .inl fl := ef
    rw [ef] at eF
    rw [wX12_readsAll_35]
    unfold wX12_readsAll_66 wX12_readsAll_88
    exact sw_t rfl (sw_t rfl (sw_t rfl (no125 fl eF N f g14)))
theorem m_rule {c : Nat → Nat} {L k : Nat} {M : gS} (hk : k < 6) (ht : txR c L M) (h2 : mg M 2 = nI k) (Q : Int32 → gS → Prop) (h1 : ∀ ts ds, rlF c L = .inr (ts, ds) → ∀ N, gR k M N → mg N 1 = 0 → mg N 2 = nI (k + 1) → rkR k ts N → clQ k ds N → Q (nI k) N) (hF : ∀ f, rlF c L = .inl f → ∀ N, gR k M N → mg N 1 = 0 → mg N 2 = nI k → Q (-2 - nI f) N) : wX12_rule M Q := by
  unfold wX12_rule
  rw [h2]
  refine sw_f (fun z => absurd ((nI_eq (by omega) (by omega)).1 (show nI k = nI 6 from z)) (by omega)) (fun x2 hx2 M3 e3 => ?_)
  have m16 : mg M3 16 = nI k := by rw [e3, mg_sg, if_pos rfl, hx2]
  rw [m16, nI_clamp (show k < 2 ^ 31 by omega)]
  refine ⟨vp_in_nI (by omega) (by decide), fun M4 e4 => ?_⟩
  have g4 : ∀ N, gR k M4 N → gR k M N := by
    intro N f
    have a4 : ∀ j, j ≠ 6 → ma M4 j = ma M j := fun j hj => by rw [e4, ma_sa, if_neg hj, e3]; rfl
    refine ⟨fun j p1 p2 p3 p4 p5 => by rw [f.1 j p1 p2 p3 p4 p5, a4 j p4], fun j hj => by rw [f.2.1 j hj, a4 3 (by decide)], fun j hj => by rw [f.2.2.1 j hj, a4 5 (by decide)], fun j hj => ?_⟩
    rw [f.2.2.2 j hj, e4, ma_sa, if_pos rfl, upd_at, if_neg hj, e3]
    rfl
  have m2 : mg M4 2 = nI k := by rw [e4, e3]; exact h2
  refine m_readsR hk (by rw [e4, e3]; exact ht) (by rw [e4]; exact m16) (by rw [e4, ma_sa, if_pos rfl, upd_at, if_pos rfl]) _ (fun ts ds ek N g q1 q2 r1 r2 => bw_t (fun x9 h9 M10 e10 => ?_)) (fun f ef N g q1 q2 g14 => bw_f ?_)
  · rw [m2] at q2
    have n2 : mg M10 2 = nI (k + 1) := by rw [e10, mg_sg, if_pos rfl, h9, q2, nI_1]
    rw [n2, nI_pred]
    exact h1 ts ds ek M10 (by rw [e10]; exact g4 N g) (by rw [e10]; exact q1) n2 (by rw [e10]; exact r1) (by rw [e10]; exact r2)
  · rw [m2] at q2
    rw [g14]
    exact hF f ef N (g4 N g) q1 q2
/-- after rule() number k -/
def ruP (k : Nat) (M M1 M2 M3 M4 M7 N N0 R : gS) : Prop := gR k M N ∧ inv N N0 M1 M2 M3 M4 M7 ∧ (mg N 2 = nI k ∨ (mg N 2 = nI (k + 1) ∧ ∃ n b τ, relRd N k R n b τ))
theorem t_rule {M M0 M1 M2 M3 M4 M5 M6 M7 M8 M9 : gS} {k : Nat} (hi : inv M M0 M1 M2 M3 M4 M7) (hk : k < 6) (e2 : mg M 2 = nI k) : ∃ (r : Int32) (PN : gS → Prop) (PC : gS → gS → Prop), (∀ N N0 R, PN N → PC N0 R → ruP k M M1 M2 M3 M4 M7 N N0 R) ∧ (∀ Q : Int32 → gS → Prop, (∀ N, PN N → Q r N) → wX12_rule M Q) ∧ (∀ (F10 : oF) h11 M11 Q, F10 k = some h11 → (∀ N0 R, PC N0 R → Q r N0 M1 M2 M3 M4 M5 M6 M7 M8 M9 F10 R) → wX11_ruleold h11 M0 M1 M2 M3 M4 M5 M6 M7 M8 M9 F10 M11 Q) ∧ (∀ (F10 : oF) Q, F10 k = none → (∀ h11 N0 R, PC N0 R → Q r N0 M1 M2 M3 M4 M5 M6 M7 M8 M9 (va_up F10 k (some h11)) R) → wX11_rulenew M0 M1 M2 M3 M4 M5 M6 M7 M8 M9 F10 Q) := by
  obtain ⟨hg, hS, hT, hB⟩ := id hi
  obtain ⟨L, hL, l1, l2, hc⟩ := tap_ok hT
  have m3 : mg M0 3 = nI k := by rw [hT.2.2.2.1]; exact e2
  have tR : txR (tapN M0) L M := ⟨l1, hL, fun j => ⟨(hc j).1, (hc j).2.2⟩⟩
  have lt6 : mg M0 3 < (6 : Int32) := by rw [m3]; exact show nI k < nI 6 from nI_lt (by omega) (by omega)
  have hinv : ∀ N N0, gR k M N → mg N 1 = 0 → (∃ n, n ≤ 6 ∧ mg N 2 = nI n) → mg N0 1 = 0 → ma N0 0 = ma M0 0 → mg N0 3 = mg N 2 → inv N N0 M1 M2 M3 M4 M7 := by
    intro N N0 g q1 q2 q3 q4 q5
    have e25 : ma N 25 = ma M 25 := g.1 25 (by decide) (by decide) (by decide) (by decide) (by decide)
    have e0 : ma N 0 = ma M 0 := g.1 0 (by decide) (by decide) (by decide) (by decide) (by decide)
    refine ⟨by rw [e25]; exact hg, by rw [e25]; exact hS, ⟨by rw [q1, q3], ⟨0, by omega, q1⟩, ?_, q5, q2⟩, hB⟩
    rw [e0, q4]
    exact hT.2.2.1
  -- the class reads
  have cls : ∀ (R : gS) (Q : Int32 → gS → gS → gS → gS → Prop), (∀ N3 : gS, N3 = sg zS 1 (if (400 : Int32) < (mg M0 1) then 400 else (mg M0 1)) → ∀ N4 : gS, N4 = sg M0 1 (0 : Int32) → (∀ ts ds, rlF (tapN M0) L = .inr (ts, ds) → ∀ N0 N R', rkC ts R' → clC ds R' → Q 0 N0 N N4 R') → (∀ f, rlF (tapN M0) L = .inl f → 1 ≤ f → f < 10000 → ∀ N0 N R', Q (nI f) N0 N N4 R') → wX9_read zS N3 N4 R Q) := by
    intro R Q N3 e3 N4 e4 q1 q2
    have eN : mg N3 1 = nI L := by
      rw [e3, mg_sg, if_pos rfl, l2]
      exact if_neg (show ¬ nI 400 < nI L from nI_nlt hL (by omega))
    have tC : txC (tapN M0) L N3 N4 := ⟨eN, hL, fun j => ⟨(hc j).1, by rw [e4]; exact (hc j).2.1⟩⟩
    exact c_rule tC (by rw [e3]; rfl) (by rw [e3]; rfl) Q q1 q2
  have n43 : ∀ N4 : gS, N4 = sg M0 1 (0 : Int32) → mg N4 3 = nI k := fun N4 h => by rw [h]; exact m3
  have kc : (nI k).toNatClampNeg = k := nI_clamp (show k < 2 ^ 31 by omega)
  obtain ⟨okF1, okF2⟩ := rlF_ok (c := tapN M0) hL
  cases er : rlF (tapN M0) L with
  | inr a =>
    obtain ⟨ts, ds⟩ := a
    obtain ⟨o1, o2, o3⟩ := okF1 ts ds er
    have uni : ∀ ts' ds', rlF (tapN M0) L = .inr (ts', ds') → ts' = ts ∧ ds' = ds := fun ts' ds' h => by
      rw [er] at h
      have h' := Sum.inr.inj h
      simp only [Prod.mk.injEq] at h'
      exact ⟨h'.1.symm, h'.2.symm⟩
    have nof : ∀ f, ¬ rlF (tapN M0) L = .inl f := fun f h => by rw [er] at h; exact absurd h (by simp)
    refine ⟨nI k, fun N => gR k M N ∧ mg N 1 = 0 ∧ mg N 2 = nI (k + 1) ∧ rkR k ts N ∧ clQ k ds N, fun N0 R => N0 = sg (sg M0 1 0) 3 (nI (k + 1)) ∧ rkC ts R ∧ clC ds R, ?_, ?_, ?_, ?_⟩
    · rintro N N0 R ⟨p1, p2, p3, p4, p5⟩ ⟨c1, c2, c3⟩
      exact ⟨p1, hinv N N0 p1 p2 ⟨k + 1, by omega, p3⟩ (by rw [c1]; rfl) (by rw [c1]; rfl) (by rw [c1, p3]; rfl), Or.inr ⟨p3, _, _, _, rel_of o1 o2 o3 p4 p5 c2 c3⟩⟩
    · intro Q h
      refine m_rule hk tR e2 Q (fun ts' ds' ek N g q1 q2 r1 r2 => ?_) (fun f ef => absurd ef (nof f))
      obtain ⟨rfl, rfl⟩ := uni ts' ds' ek
      exact h N ⟨g, q1, q2, r1, r2⟩
    · intro F10 h11 M11 Q hF h
      unfold wX11_ruleold
      refine sw_t lt6 ?_
      rw [m3, kc]
      refine ⟨vp_in_nI (by omega) (by decide), hF, fun N3 h3 N4 h4 => ?_⟩
      rw [n43 N4 h4, kc]
      refine ⟨vp_in_nI (by omega) (by decide), hF, cls M11 _ N3 h3 N4 h4 (fun ts' ds' ek N0 N R' r1 r2 N11 h11' => sw_t rfl (fun x13 h13 N14 h14 => ?_)) (fun f ef => absurd ef (nof f))⟩
      obtain ⟨rfl, rfl⟩ := uni ts' ds' ek
      rw [sF_self] at h11'
      have e14 : N14 = sg (sg M0 1 0) 3 (nI (k + 1)) := by rw [h14, h13, h11', n43 N4 h4, nI_1, h4]
      have e3' : mg N14 3 = nI (k + 1) := by rw [e14]; rfl
      rw [e3', nI_pred]
      exact h N14 R' ⟨e14, r1, r2⟩
    · intro F10 Q hF h
      unfold wX11_rulenew
      refine sw_t lt6 ?_
      rw [m3, kc]
      refine ⟨vp_in_nI (by omega) (by decide), hF, fun h11 => ⟨vp_in_nI (by omega) (by decide), fun v4 hv4 N5 h5 N6 h6 => ?_⟩⟩
      rw [n43 N6 h6, kc]
      refine ⟨vp_in_nI (by omega) (by decide), by rw [hv4]; exact if_pos rfl, cls zS _ N5 h5 N6 h6 (fun ts' ds' ek N0 N R' r1 r2 N13 h13 => sw_t rfl (fun x15 h15 N16 h16 => ?_)) (fun f ef => absurd ef (nof f))⟩
      obtain ⟨rfl, rfl⟩ := uni ts' ds' ek
      rw [sF_self] at h13
      have e14 : N16 = sg (sg M0 1 0) 3 (nI (k + 1)) := by rw [h16, h15, h13, n43 N6 h6, nI_1, h6]
      have e3' : mg N16 3 = nI (k + 1) := by rw [e14]; rfl
      rw [e3', nI_pred, hv4]
      exact h h11 N16 R' ⟨e14, r1, r2⟩
  | inl f =>
    obtain ⟨b1, b2⟩ := okF2 f er
    have uni : ∀ f', rlF (tapN M0) L = .inl f' → f' = f := fun f' h => by rw [er] at h; exact (Sum.inl.inj h).symm
    have nor : ∀ ts ds, ¬ rlF (tapN M0) L = .inr (ts, ds) := fun ts ds h => by rw [er] at h; exact absurd h (by simp)
    refine ⟨-2 - nI f, fun N => gR k M N ∧ mg N 1 = 0 ∧ mg N 2 = nI k, fun N0 _ => N0 = sg M0 1 0, ?_, ?_, ?_, ?_⟩
    · rintro N N0 R ⟨p1, p2, p3⟩ c1
      exact ⟨p1, hinv N N0 p1 p2 ⟨k, by omega, p3⟩ (by rw [c1]; rfl) (by rw [c1]; rfl) (by rw [c1, p3]; exact m3), Or.inl p3⟩
    · intro Q h
      refine m_rule hk tR e2 Q (fun ts' ds' ek => absurd ek (nor ts' ds')) (fun f' ef N g q1 q2 => ?_)
      rw [uni f' ef]
      exact h N ⟨g, q1, q2⟩
    · intro F10 h11 M11 Q hF h
      unfold wX11_ruleold
      refine sw_t lt6 ?_
      rw [m3, kc]
      refine ⟨vp_in_nI (by omega) (by decide), hF, fun N3 h3 N4 h4 => ?_⟩
      rw [n43 N4 h4, kc]
      refine ⟨vp_in_nI (by omega) (by decide), hF, cls M11 _ N3 h3 N4 h4 (fun ts' ds' ek => absurd ek (nor ts' ds')) (fun f' ef _ _ N0 N R' N11 h11' => ?_)⟩
      rw [uni f' ef]
      rw [sF_self, h4] at h11'
      exact sw_f (nI_ne0 (by omega) (by omega)) (h N11 R' h11')
    · intro F10 Q hF h
      unfold wX11_rulenew
      refine sw_t lt6 ?_
      rw [m3, kc]
      refine ⟨vp_in_nI (by omega) (by decide), hF, fun h11 => ⟨vp_in_nI (by omega) (by decide), fun v4 hv4 N5 h5 N6 h6 => ?_⟩⟩
      rw [n43 N6 h6, kc]
      refine ⟨vp_in_nI (by omega) (by decide), by rw [hv4]; exact if_pos rfl, cls zS _ N5 h5 N6 h6 (fun ts' ds' ek => absurd ek (nor ts' ds')) (fun f' ef _ _ N0 N R' N13 h13 => ?_)⟩
      rw [uni f' ef]
      rw [sF_self, h6] at h13
      rw [hv4]
      exact sw_f (nI_ne0 (by omega) (by omega)) (h h11 N13 R' h13)
theorem t_rule_full {M M0 M1 M2 M3 M4 M5 M6 M7 M8 M9 : gS} (hi : inv M M0 M1 M2 M3 M4 M7) (e2 : mg M 2 = nI 6) : (∀ Q : Int32 → gS → Prop, Q (-1) M → wX12_rule M Q) ∧ (∀ (F10 : oF) Q, Q (-1) M0 M1 M2 M3 M4 M5 M6 M7 M8 M9 F10 → wX11_rulefull M0 M1 M2 M3 M4 M5 M6 M7 M8 M9 F10 Q) := by
  have m3 : mg M0 3 = nI 6 := by rw [hi.2.2.1.2.2.2.1]; exact e2
  refine ⟨fun Q h => ?_, fun F10 Q h => ?_⟩
  · unfold wX12_rule
    exact sw_t e2 h
  · unfold wX11_rulefull
    exact sw_f (by rw [m3]; exact show ¬ nI 6 < nI 6 from nI_nlt (Nat.le_refl _) (by omega)) h
