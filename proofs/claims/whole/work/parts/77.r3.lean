theorem t_count {M M0 M1 M2 M3 M4 M5 M6 M7 M8 M9 : gS} (hi : inv M M0 M1 M2 M3 M4 M7) (p1 : Int32) : tieP M (fun Q => wX12_count p1 M Q) (fun Q => wX11_count p1 M0 M1 M2 M3 M4 M5 M6 M7 M8 M9 Q) := by
  obtain ⟨⟨hw, hsp⟩, ⟨hW, hC, hq, hO⟩, hT, hB⟩ := id hi
  obtain ⟨q0, q1, q2, q3, q4, q5⟩ := hq
  have e := eqM_refl M
  have fin : ∀ r : Int32, (∀ Q : Int32 → gS → Prop, Q r M → wX12_count p1 M Q) → (∀ Q : Int32 → gS → gS → gS → gS → gS → gS → gS → gS → gS → gS → Prop, Q r M0 M1 M2 M3 M4 M5 M6 M7 M8 M9 → wX11_count p1 M0 M1 M2 M3 M4 M5 M6 M7 M8 M9 Q) → tieP M (fun Q => wX12_count p1 M Q) (fun Q => wX11_count p1 M0 M1 M2 M3 M4 M5 M6 M7 M8 M9 Q) := fun r a b => tieP_same (M5 := M5) (M6 := M6) (M8 := M8) (M9 := M9) hi r (fun Q h => a Q (h _ e)) b
  have cg : ∀ (A B : Prop), (ma M 25 3 = 1 → B) → (¬ ma M 25 3 = 1 → A) → ((mg M3 0 = 0 → A) ∧ (¬ mg M3 0 = 0 → B)) := by
    intro A B hb ha
    rw [q0]
    by_cases g : ma M 25 3 = 1
    · exact sw_f (by rw [g]; decide) (hb g)
    · exact sw_t (goes_n hw g) (ha g)
  have rg : ∀ (A B : gS → Prop), (ma M 25 3 = 1 → B M) → (¬ ma M 25 3 = 1 → A M) → wX12_goesOn M (fun b N => (bI b = 0 → A N) ∧ (¬ bI b = 0 → B N)) := by
    intro A B hb ha
    by_cases g : ma M 25 3 = 1
    · exact m_goes_t g (bw_t (hb g))
    · exact m_goes_f g (bw_f (ha g))
  by_cases e0 : p1 = 0
  · subst e0
    exact fin (ma M 25 0) (fun Q h => sw_t rfl ⟨vp_in_c (j := 0) (by decide) (by decide) (by decide), h⟩) (fun Q h => sw_t rfl (by rw [hC.1]; exact h))
  by_cases e1 : p1 = 1
  · subst e1
    exact fin (ma M 25 1) (fun Q h => sw_f e0 (sw_t rfl ⟨vp_in_c (j := 1) (by decide) (by decide) (by decide), h⟩)) (fun Q h => sw_f e0 (sw_t rfl (by rw [hC.2.1]; exact h)))
  by_cases e2 : p1 = 2
  · exact fin (mg M 2) (fun Q h => sw_f e0 (sw_f e1 (sw_t e2 h))) (fun Q h => sw_f e0 (sw_f e1 (sw_t e2 (by rw [hT.2.2.2.1]; exact h))))
  by_cases e3 : p1 = 3
  · refine fin (if ma M 25 3 = 1 then ma M 25 5 else 0) (fun Q h => sw_f e0 (sw_f e1 (sw_f e2 (sw_t e3 (rg _ _ (fun g => ?_) (fun g => ?_)))))) (fun Q h => sw_f e0 (sw_f e1 (sw_f e2 (sw_t e3 (cg _ _ (fun g => ?_) (fun g => ?_))))))
    · rw [if_pos g] at h; exact h
    · rw [if_neg g] at h; exact h
    · rw [if_pos g] at h; rw [(q1 g).2.1]; exact h
    · rw [if_neg g] at h; exact h
  by_cases e4 : p1 = 4
  · refine fin (if ma M 25 3 = 1 then ma M 25 6 else -1) (fun Q h => sw_f e0 (sw_f e1 (sw_f e2 (sw_f e3 (sw_t e4 (rg _ _ (fun g => ?_) (fun g => ?_))))))) (fun Q h => sw_f e0 (sw_f e1 (sw_f e2 (sw_f e3 (sw_t e4 (cg _ _ (fun g => ?_) (fun g => ?_)))))))
    · rw [if_pos g] at h; exact h
    · rw [if_neg g] at h; exact h
    · rw [if_pos g] at h; rw [(q1 g).2.2.1]; exact h
    · rw [if_neg g] at h; exact h
  by_cases e5 : p1 = 5
  · refine fin (if ma M 25 3 = 1 then ma M 25 4 else 0) (fun Q h => sw_f e0 (sw_f e1 (sw_f e2 (sw_f e3 (sw_f e4 (sw_t e5 (rg _ _ (fun g => ?_) (fun g => ?_)))))))) (fun Q h => sw_f e0 (sw_f e1 (sw_f e2 (sw_f e3 (sw_f e4 (sw_t e5 (cg _ _ (fun g => ?_) (fun g => ?_))))))))
    · rw [if_pos g] at h; exact h
    · rw [if_neg g] at h; exact h
    · rw [if_pos g] at h; rw [(q1 g).1]; exact h
    · rw [if_neg g] at h; exact h
  by_cases e6 : p1 = 6
  · exact fin (ma M 25 9) (fun Q h => sw_f e0 (sw_f e1 (sw_f e2 (sw_f e3 (sw_f e4 (sw_f e5 (sw_t e6 h))))))) (fun Q h => sw_f e0 (sw_f e1 (sw_f e2 (sw_f e3 (sw_f e4 (sw_f e5 (sw_t e6 (by rw [q2]; exact h))))))))
  by_cases e7 : p1 = 7
  · refine fin (if ma M 25 3 = 1 then ma M 25 7 else 0) (fun Q h => sw_f e0 (sw_f e1 (sw_f e2 (sw_f e3 (sw_f e4 (sw_f e5 (sw_f e6 (sw_t e7 (rg _ _ (fun g => ?_) (fun g => ?_)))))))))) (fun Q h => sw_f e0 (sw_f e1 (sw_f e2 (sw_f e3 (sw_f e4 (sw_f e5 (sw_f e6 (sw_t e7 (cg _ _ (fun g => ?_) (fun g => ?_))))))))))
    · rw [if_pos g] at h; exact h
    · rw [if_neg g] at h; exact h
    · rw [if_pos g] at h; rw [(q1 g).2.2.2]; exact h
    · rw [if_neg g] at h; exact h
  by_cases e8 : p1 = 8
  · refine fin (ma M 25 18 + ma M 25 19) (fun Q h => sw_f e0 (sw_f e1 (sw_f e2 (sw_f e3 (sw_f e4 (sw_f e5 (sw_f e6 (sw_f e7 (sw_t e8 h))))))))) (fun Q h => sw_f e0 (sw_f e1 (sw_f e2 (sw_f e3 (sw_f e4 (sw_f e5 (sw_f e6 (sw_f e7 (sw_t e8 ?_)))))))))
    unfold wX10_allWon
    rw [hW.1 0 (by omega), hW.1 1 (by omega)]
    exact h
  by_cases e9 : p1 = 9
  · exact fin (ma M 25 10) (fun Q h => sw_f e0 (sw_f e1 (sw_f e2 (sw_f e3 (sw_f e4 (sw_f e5 (sw_f e6 (sw_f e7 (sw_f e8 (sw_t e9 h)))))))))) (fun Q h => sw_f e0 (sw_f e1 (sw_f e2 (sw_f e3 (sw_f e4 (sw_f e5 (sw_f e6 (sw_f e7 (sw_f e8 (sw_t e9 (by rw [hO.1]; exact h)))))))))))
  by_cases e10 : p1 = 10
  · exact fin (ma M 25 11) (fun Q h => sw_f e0 (sw_f e1 (sw_f e2 (sw_f e3 (sw_f e4 (sw_f e5 (sw_f e6 (sw_f e7 (sw_f e8 (sw_f e9 (sw_t e10 h))))))))))) (fun Q h => sw_f e0 (sw_f e1 (sw_f e2 (sw_f e3 (sw_f e4 (sw_f e5 (sw_f e6 (sw_f e7 (sw_f e8 (sw_f e9 (sw_t e10 (by rw [hW.2]; exact h))))))))))))
  by_cases e11 : p1 = 11
  · exact fin (mg M 1) (fun Q h => sw_f e0 (sw_f e1 (sw_f e2 (sw_f e3 (sw_f e4 (sw_f e5 (sw_f e6 (sw_f e7 (sw_f e8 (sw_f e9 (sw_f e10 (sw_t e11 h)))))))))))) (fun Q h => sw_f e0 (sw_f e1 (sw_f e2 (sw_f e3 (sw_f e4 (sw_f e5 (sw_f e6 (sw_f e7 (sw_f e8 (sw_f e9 (sw_f e10 (sw_t e11 (by rw [hT.1]; exact h)))))))))))))
  exact fin (-1) (fun Q h => sw_f e0 (sw_f e1 (sw_f e2 (sw_f e3 (sw_f e4 (sw_f e5 (sw_f e6 (sw_f e7 (sw_f e8 (sw_f e9 (sw_f e10 (sw_f e11 h)))))))))))) (fun Q h => sw_f e0 (sw_f e1 (sw_f e2 (sw_f e3 (sw_f e4 (sw_f e5 (sw_f e6 (sw_f e7 (sw_f e8 (sw_f e9 (sw_f e10 (sw_f e11 h))))))))))))
theorem t_seed {M M0 M1 M2 M3 M4 M5 M6 M7 M8 M9 : gS} (hi : inv M M0 M1 M2 M3 M4 M7) (p1 : Int32) : tieP M (fun Q => wX12_seed p1 M Q) (fun Q => wX11_seed p1 M0 M1 M2 M3 M4 M5 M6 M7 M8 M9 Q) := by
  obtain ⟨⟨hw, hsp⟩, ⟨hW, hC, hq, hO⟩, hT, hB⟩ := id hi
  by_cases c : 0 ≤ p1
  rotate_left
  · exact tieP_same (M5 := M5) (M6 := M6) (M8 := M8) (M9 := M9) hi (-1) (fun Q h => sw_f c (h _ (eqM_refl _))) (fun Q h => sw_f c h)
  have uk : ∀ j, j ≠ 11 → upd (ma M 25) 11 p1 j = ma M 25 j := fun j h => by rw [upd_at, if_neg h]
  have ua : ∀ j, j ≠ 11 → aN (upd (ma M 25) 11 p1) j = aN (ma M 25) j := fun j h => by unfold aN; rw [uk j h]
  have hwu : wfS (upd (ma M 25) 11 p1) := by
    refine wfS_upd hw (fun _ => ⟨c, ?_⟩) (by omega) (by omega) (by omega) (by omega) (by omega)
    have h3 : ¬ p1 < 0 := nlt_le.2 c
    obtain ⟨t, ht, rfl⟩ := nI_of h3
    rw [nI_clamp ht]
    show t ≤ 2147483647
    omega
  refine tieP_row (M5 := M5) (M6 := M6) (M8 := M8) (M9 := M9) hi (ma M 25 11) (upd (ma M 25) 11 p1) ⟨hwu, fun z => ?_⟩ (fun Q h => ?_) (fun Q h => ?_)
  · rw [uk 3 (by omega)] at z
    exact on_keep (hsp z) (fun j hj => uk j (by omega))
  · refine sw_t c (fun x2 h2 M3 h3 => ?_)
    subst h3 h2
    exact h _ (eqM_refl _)
  · refine sw_t c (fun x2 h2 N3 h3 => ?_)
    rw [hW.2] at h2
    subst h3 h2
    refine h _ _ _ _ ⟨⟨fun j hj => ?_, ?_⟩, relC_keep hw hC (fun k hk => uk k (by unfold isCr at hk; omega)), relQ_keep hq (fun k hk => uk k (by omega)), relO_keep hw hO (fun k hk => uk k (by omega))⟩
    · rw [uk _ (by omega)]; exact hW.1 j hj
    · show p1 = upd (ma M 25) 11 p1 11
      rw [upd_at, if_pos rfl]
theorem t_end {M M0 M1 M2 M3 M4 M5 M6 M7 M8 M9 : gS} (hi : inv M M0 M1 M2 M3 M4 M7) (p1 : Int32) : tieP M (fun Q => wX12_end p1 M Q) (fun Q => wX11_end p1 M0 M1 M2 M3 M4 M5 M6 M7 M8 M9 Q) := by
  obtain ⟨hg, hS, hT, hB⟩ := id hi
  obtain ⟨t1, ⟨n, hn, t2⟩, t3, t4, t5⟩ := hT
  by_cases c : p1 < 0
  · exact tieP_same (M5 := M5) (M6 := M6) (M8 := M8) (M9 := M9) hi (-1) (fun Q h => sw_t c (h _ (eqM_refl _))) (fun Q h => sw_t c h)
  by_cases c2 : p1 ≤ mg M 1
  · refine ⟨p1, sg M 1 p1, ⟨rfl, rfl, rfl, rfl, rfl, rfl⟩, fun Q h => ?_, fun Q h => ?_⟩
    · refine sw_f c (sw_t c2 (fun M3 h3 => ?_))
      subst h3
      exact h _ (eqM_refl _)
    · refine sw_f c (sw_t (by rw [t1]; exact c2) (fun N3 h3 => ?_))
      subst h3
      refine h _ _ _ _ _ _ _ _ _ _ ⟨hg, hS, ⟨rfl, ?_, t3, t4, t5⟩, hB⟩
      rw [t2] at c2
      obtain ⟨t, ht, rfl⟩ := rng_n (b := n) (by omega) (nlt_le.1 c) c2
      exact ⟨t, by omega, rfl⟩
  · exact tieP_same (M5 := M5) (M6 := M6) (M8 := M8) (M9 := M9) hi (-1) (fun Q h => sw_f c (sw_f c2 (h _ (eqM_refl _)))) (fun Q h => sw_f c (sw_f (by rw [t1]; exact c2) h))
theorem t_waits {M M0 M1 M2 M3 M4 M5 M6 M7 M8 M9 : gS} (hi : inv M M0 M1 M2 M3 M4 M7) (p1 p2 : Int32) : tieP M (fun Q => wX12_waits p1 p2 M Q) (fun Q => wX11_waits p1 p2 M0 M1 M2 M3 M4 M5 M6 M7 M8 M9 Q) := by
  obtain ⟨⟨hw, hsp⟩, ⟨hW, hC, hq, hO⟩, hT, hB⟩ := id hi
  have b10 : aN (ma M 25) 10 ≤ 6 := hw.b 10 rfl
  have e10 := hw.n 10 rfl
  by_cases c : p1 = -1
  · have uk : ∀ j, j ≠ 10 → upd (ma M 25) 10 0 j = ma M 25 j := fun j h => by rw [upd_at, if_neg h]
    have ua : ∀ j, j ≠ 10 → aN (upd (ma M 25) 10 0) j = aN (ma M 25) j := fun j h => by unfold aN; rw [uk j h]
    have u0 : aN (upd (ma M 25) 10 0) 10 = 0 := by rw [aN_upd, if_pos rfl]; decide
    have hwu : wfS (upd (ma M 25) 10 0) := by
      refine ⟨wf_upd hw.1 (fun _ => nI_ok (n := 0) (b := 6) (by omega) (by decide)), fun j hj => ?_, fun j hj => ?_, fun j hj => ?_, fun j hj => ?_⟩
      · rw [ua _ (by omega)]; exact hw.2.1 j hj
      · rw [ua _ (by omega)] at hj; rw [ua _ (by omega)]; exact hw.2.2.1 j hj
      · rw [ua _ (by omega)] at hj; rw [ua _ (by omega), ua _ (by omega)]; exact hw.2.2.2.1 j hj
      · rw [u0] at hj; omega
    refine tieP_row (M5 := M5) (M6 := M6) (M8 := M8) (M9 := M9) hi 0 (upd (ma M 25) 10 0) ⟨hwu, fun z => ?_⟩ (fun Q h => ?_) (fun Q h => ?_)
    · rw [uk 3 (by omega)] at z
      exact on_keep (hsp z) (fun j hj => uk j (by omega))
    · refine sw_t c (fun M3 h3 => ?_)
      subst h3
      exact h _ (eqM_refl _)
    · refine sw_t c (fun N3 h3 => ?_)
      subst h3
      refine h _ _ _ _ ⟨relW_keep hW ⟨uk _ (by omega), uk _ (by omega), uk _ (by omega)⟩, relC_keep hw hC (fun k hk => uk k (by unfold isCr at hk; omega)), relQ_keep hq (fun k hk => uk k (by omega)), rfl, fun j hj => ?_⟩
      rw [u0] at hj; omega
  by_cases c0 : ma M 25 0 ≤ 0
  · exact tieP_same (M5 := M5) (M6 := M6) (M8 := M8) (M9 := M9) hi (-2) (fun Q h => sw_f c (m_corner_f c0 (bw_f (h _ (eqM_refl _))))) (fun Q h => sw_f c (c_corner_f hC c0 (bw_f h)))
  by_cases c1 : 1 ≤ p1 ∧ p1 ≤ 999
  rotate_left
  · refine tieP_same (M5 := M5) (M6 := M6) (M8 := M8) (M9 := M9) hi (-2) (fun Q h => sw_f c (m_corner_t c0 (bw_t (m_in_f (lo := 1) (hi := 999) (by decide) (by decide) c1 (bw_f (h _ (eqM_refl _))))))) (fun Q h => sw_f c (c_corner_t hC c0 (bw_t ?_)))
    by_cases d : p1 < 1
    · exact sw_t d h
    · exact sw_f d (sw_t (Classical.byContradiction fun z => c1 ⟨nlt_le.1 d, nlt_le.1 z⟩) h)
  by_cases c2 : 0 ≤ p2 ∧ p2 ≤ 99
  rotate_left
  · refine tieP_same (M5 := M5) (M6 := M6) (M8 := M8) (M9 := M9) hi (-2) (fun Q h => sw_f c (m_corner_t c0 (bw_t (m_in_t (lo := 1) (hi := 999) (by decide) (by decide) c1.1 c1.2 (bw_t (m_in_f (lo := 0) (hi := 99) (by decide) (by decide) c2 (bw_f (h _ (eqM_refl _))))))))) (fun Q h => sw_f c (c_corner_t hC c0 (bw_t (sw_f (nlt_le.2 c1.1) (sw_f (nlt_le.2 c1.2) ?_)))))
    by_cases d : p2 < 0
    · exact sw_t d h
    · exact sw_f d (sw_t (Classical.byContradiction fun z => c2 ⟨nlt_le.1 d, nlt_le.1 z⟩) h)
  by_cases c3 : ma M 25 10 = 6
  · refine tieP_same (M5 := M5) (M6 := M6) (M8 := M8) (M9 := M9) hi (-2) (fun Q h => sw_f c (m_corner_t c0 (bw_t (m_in_t (lo := 1) (hi := 999) (by decide) (by decide) c1.1 c1.2 (bw_t (m_in_t (lo := 0) (hi := 99) (by decide) (by decide) c2.1 c2.2 (bw_t (sw_t c3 (h _ (eqM_refl _)))))))))) (fun Q h => sw_f c (c_corner_t hC c0 (bw_t (sw_f (nlt_le.2 c1.1) (sw_f (nlt_le.2 c1.2) (sw_f (nlt_le.2 c2.1) (sw_f (nlt_le.2 c2.2) ?_)))))))
    unfold wX4_add
    rw [hO.1, c3]
    exact sw_f (by decide) (sw_f (by decide) (bw_f h))
  have hn : aN (ma M 25) 10 < 6 := by
    rcases (show aN (ma M 25) 10 < 6 ∨ aN (ma M 25) 10 = 6 by omega) with z | z
    · exact z
    · rw [z] at e10; exact absurd e10 c3
  have p10 : 0 ≤ p1 := by
    have z := c1.1
    rw [Int32.le_iff_toInt_le] at z ⊢
    have z1 : (1 : Int32).toInt = 1 := by decide
    have z0 : (0 : Int32).toInt = 0 := by decide
    omega
  obtain ⟨bt, hbt, rfl⟩ := rng_n (b := 999) (by omega) p10 c1.2
  obtain ⟨wt, hwt, rfl⟩ := rng_n (b := 99) (by omega) c2.1 c2.2
  have hb1 : 1 ≤ bt := by
    have := c1.1
    rw [show (1 : Int32) = nI 1 from rfl, nI_leI (by omega) (by omega)] at this
    exact this
  generalize hnn : aN (ma M 25) 10 = n at *
  have i32 : (32 : Int32) + 2 * nI n = nI (32 + 2 * n) := by
    rw [show (2 : Int32) = nI 2 from rfl, pk_mul]; exact nI_add 32 _
  have i33 : nI (32 + 2 * n) + 1 = nI (33 + 2 * n) := by rw [nI_1]; congr 1; omega
  have uk : ∀ j, j ≠ 32 + 2 * n → j ≠ 33 + 2 * n → j ≠ 10 → upd (upd (upd (ma M 25) (32 + 2 * n) (nI bt)) (33 + 2 * n) (nI wt)) 10 (nI (n + 1)) j = ma M 25 j := fun j h1 h2 h3 => by rw [upd_at, if_neg h3, upd_at, if_neg h2, upd_at, if_neg h1]
  have ua : ∀ j, j ≠ 32 + 2 * n → j ≠ 33 + 2 * n → j ≠ 10 → aN (upd (upd (upd (ma M 25) (32 + 2 * n) (nI bt)) (33 + 2 * n) (nI wt)) 10 (nI (n + 1))) j = aN (ma M 25) j := fun j h1 h2 h3 => by unfold aN; rw [uk j h1 h2 h3]
  have u10 : aN (upd (upd (upd (ma M 25) (32 + 2 * n) (nI bt)) (33 + 2 * n) (nI wt)) 10 (nI (n + 1))) 10 = n + 1 := by
    rw [aN_upd, if_pos rfl, nI_clamp (by omega)]
  have u32 : upd (upd (upd (ma M 25) (32 + 2 * n) (nI bt)) (33 + 2 * n) (nI wt)) 10 (nI (n + 1)) (32 + 2 * n) = nI bt := by
    rw [upd_at, if_neg (by omega), upd_at, if_neg (by omega), upd_at, if_pos rfl]
  have u33 : upd (upd (upd (ma M 25) (32 + 2 * n) (nI bt)) (33 + 2 * n) (nI wt)) 10 (nI (n + 1)) (33 + 2 * n) = nI wt := by
    rw [upd_at, if_neg (by omega), upd_at, if_pos rfl]
  have hbb : ∀ t, t < 6 → bnd (32 + 2 * t) = 999 ∧ bnd (33 + 2 * t) = 99 := by decide
  have hwu : wfS (upd (upd (upd (ma M 25) (32 + 2 * n) (nI bt)) (33 + 2 * n) (nI wt)) 10 (nI (n + 1))) := by
    refine ⟨wf_upd (wf_upd (wf_upd hw.1 (fun _ => ?_)) (fun _ => ?_)) (fun _ => nI_ok (b := 6) (by omega) (by decide)), fun j hj => ?_, fun j hj => ?_, fun j hj => ?_, fun j hj => ?_⟩
    · rw [(hbb n hn).1]; exact nI_ok hbt (by decide)
    · rw [(hbb n hn).2]; exact nI_ok hwt (by decide)
    · rw [ua _ (by omega) (by omega) (by omega)]; exact hw.2.1 j hj
    · have b1 : aN (ma M 25) 1 ≤ 4 := hw.b 1 rfl
      rw [ua _ (by omega) (by omega) (by omega)] at hj; rw [ua _ (by omega) (by omega) (by omega)]; exact hw.2.2.1 j hj
    · have b0 : aN (ma M 25) 0 ≤ 4 := hw.b 0 rfl
      rw [ua _ (by omega) (by omega) (by omega)] at hj; rw [ua _ (by omega) (by omega) (by omega), ua _ (by omega) (by omega) (by omega)]; exact hw.2.2.2.1 j hj
    · rw [u10] at hj
      by_cases ej : j = n
      · subst ej
        unfold aN; rw [u32, nI_clamp (by omega)]; exact hb1
      · rw [ua _ (by omega) (by omega) (by omega)]; exact hw.2.2.2.2 j (by omega)
  refine tieP_row (M5 := M5) (M6 := M6) (M8 := M8) (M9 := M9) hi (nI (n + 1)) _ ⟨hwu, fun z => ?_⟩ (fun Q h => ?_) (fun Q h => ?_)
  · rw [uk 3 (by omega) (by omega) (by omega)] at z
    exact on_keep (hsp z) (fun j hj => uk j (by omega) (by omega) (by omega))
  · refine sw_f c (m_corner_t c0 (bw_t (m_in_t (lo := 1) (hi := 999) (by decide) (by decide) c1.1 c1.2 (bw_t (m_in_t (lo := 0) (hi := 99) (by decide) (by decide) c2.1 c2.2 (bw_t (sw_f c3 ?_)))))))
    rw [e10, i32, nI_clamp (by omega)]
    refine ⟨vp_in_nI (by omega) (by decide), fun M15 h15 => ?_⟩
    have r15 : ma M15 25 10 = nI n := by
      subst h15
      show upd (ma M 25) (32 + 2 * n) (nI bt) 10 = nI n
      rw [upd_at, if_neg (by omega)]; exact e10
    rw [r15, i32, i33, nI_clamp (by omega)]
    refine ⟨vp_in_nI (by omega) (by decide), fun M16 h16 x17 h17 M18 h18 => ?_⟩
    have r16 : ma M16 25 10 = nI n := by
      subst h16
      show upd (ma M15 25) (33 + 2 * n) (nI wt) 10 = nI n
      rw [upd_at, if_neg (by omega)]; exact r15
    have e18 : M18 = sF M 25 (upd (upd (upd (ma M 25) (32 + 2 * n) (nI bt)) (33 + 2 * n) (nI wt)) 10 (nI (n + 1))) := by
      rw [h18, h17, r16, h16, h15, nI_1]
      simp only [sa_25, ma_sF1, sF_sF]
    have r18 : ma M18 25 10 = nI (n + 1) := by
      rw [e18, ma_sF1, upd_at, if_pos rfl]
    rw [r18, e18]
    exact h _ (eqM_refl _)
  · refine sw_f c (c_corner_t hC c0 (bw_t (sw_f (nlt_le.2 c1.1) (sw_f (nlt_le.2 c1.2) (sw_f (nlt_le.2 c2.1) (sw_f (nlt_le.2 c2.2) ?_))))))
    unfold wX4_add
    have o0 : mg M4 0 = nI n := by rw [hO.1]; exact e10
    rw [o0, nI_clamp (by omega)]
    refine sw_f (nI_pos (by omega)) (sw_t (nI_lt hn (by decide)) ⟨vp_in_nI hn (by decide), fun N3 h3 => ?_⟩)
    have o3 : mg N3 0 = nI n := by rw [h3]; exact o0
    rw [o3, nI_clamp (by omega)]
    refine ⟨vp_in_nI hn (by decide), fun N4 h4 x5 h5 N6 h6 => bw_t ?_⟩
    have o4 : mg N4 0 = nI n := by rw [h4]; exact o3
    rw [o4, nI_1] at h5
    have o6 : mg N6 0 = nI (n + 1) := by rw [h6, h5]; rfl
    rw [o6]
    refine h _ _ _ _ ⟨relW_keep hW ⟨uk _ (by omega) (by omega) (by omega), uk _ (by omega) (by omega) (by omega), uk _ (by omega) (by omega) (by omega)⟩, relC_keep hw hC (fun k hk => uk k (by unfold isCr at hk; omega) (by unfold isCr at hk; omega) (by unfold isCr at hk; omega)), relQ_keep hq (fun k hk => uk k (by omega) (by omega) (by omega)), ?_, fun j hj => ?_⟩
    · rw [o6, upd_at, if_pos rfl]
    · rw [u10] at hj
      have a1 : ma N6 1 j = upd (ma M4 1) n (nI bt) j := by subst h6 h4 h3; rfl
      have a2 : ma N6 2 j = upd (ma M4 2) n (nI wt) j := by subst h6 h4 h3; rfl
      rw [a1, a2, upd_at (ma M4 1), upd_at (ma M4 2)]
      by_cases ej : j = n
      · rw [if_pos ej, if_pos ej, ej, u32, u33]; exact ⟨rfl, rfl⟩
      · rw [if_neg ej, if_neg ej, uk _ (by omega) (by omega) (by omega), uk _ (by omega) (by omega) (by omega)]
        exact hO.2 j (by omega)
