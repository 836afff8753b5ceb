theorem sw_t {A B c : Prop} (h : c) (a : A) : (c → A) ∧ (¬ c → B) := ⟨fun _ => a, fun z => absurd h z⟩
theorem sw_f {A B c : Prop} (h : ¬ c) (b : B) : (c → A) ∧ (¬ c → B) := ⟨fun z => absurd z h, fun _ => b⟩
theorem relQ_keep {s u : Nat → Int32} {Mq : gS} (h : relQ s Mq) (hk : ∀ k, k = 0 ∨ (3 ≤ k ∧ k ≤ 9) ∨ (12 ≤ k ∧ k ≤ 17) → u k = s k) : relQ u Mq := by
  obtain ⟨q0, q1, q2, q3, q4, q5⟩ := h
  refine ⟨?_, fun z => ?_, ?_, fun j hj => ?_, fun z j hj => ?_, fun j hj => ?_⟩
  · rw [hk 3 (by omega)]; exact q0
  · rw [hk 3 (by omega)] at z
    rw [hk 4 (by omega), hk 5 (by omega), hk 6 (by omega), hk 7 (by omega)]; exact q1 z
  · rw [hk 9 (by omega)]; exact q2
  · rw [hk _ (by omega)]; exact q3 j hj
  · rw [hk _ (by omega)]
    rw [hk 3 (by omega), hk 0 (by omega)] at z
    exact q4 z j hj
  · rw [hk _ (by omega)]; exact q5 j hj
theorem m_corner_t {M : gS} {Q : Bool → gS → Prop} (hc : ¬ ma M 25 0 ≤ 0) (h : Q true M) : wX12_isCorner M Q := sw_f hc h
theorem m_corner_f {M : gS} {Q : Bool → gS → Prop} (hc : ma M 25 0 ≤ 0) (h : Q false M) : wX12_isCorner M Q := sw_t hc h
theorem c_corner_t {s : Nat → Int32} {M0 M1 M2 M3 M4 M5 M6 M7 M8 M9 : gS} {Q : Bool → gS → gS → gS → gS → gS → gS → gS → gS → gS → gS → Prop} (hC : relC s M2) (hc : ¬ s 0 ≤ 0) (h : Q true M0 M1 M2 M3 M4 M5 M6 M7 M8 M9) : wX11_hasCorner M0 M1 M2 M3 M4 M5 M6 M7 M8 M9 Q := by
  unfold wX11_hasCorner
  rw [hC.1]
  exact sw_f hc h
theorem c_corner_f {s : Nat → Int32} {M0 M1 M2 M3 M4 M5 M6 M7 M8 M9 : gS} {Q : Bool → gS → gS → gS → gS → gS → gS → gS → gS → gS → gS → Prop} (hC : relC s M2) (hc : s 0 ≤ 0) (h : Q false M0 M1 M2 M3 M4 M5 M6 M7 M8 M9) : wX11_hasCorner M0 M1 M2 M3 M4 M5 M6 M7 M8 M9 Q := by
  unfold wX11_hasCorner
  rw [hC.1]
  exact sw_t hc h
theorem rng_n {p : Int32} {b : Nat} (hb : b < 2 ^ 31) (h1 : 0 ≤ p) (h2 : p ≤ nI b) : ∃ t, t ≤ b ∧ p = nI t := by
  have h3 : ¬ p < 0 := by
    rw [Int32.lt_iff_toInt_lt]; rw [Int32.le_iff_toInt_le] at h1; omega
  obtain ⟨t, ht, rfl⟩ := nI_of h3
  exact ⟨t, (nI_leI ht hb).1 h2, rfl⟩
theorem nlt_le {a b : Int32} : ¬ a < b ↔ b ≤ a := by
  rw [Int32.lt_iff_toInt_lt, Int32.le_iff_toInt_le]; omega
theorem c_purse_t {p : Int32} {Q : Bool → Prop} (hp : 0 ≤ p ∧ p ≤ 7) (h : Q true) : wX11_isPurse p Q :=
  sw_f (nlt_le.2 hp.1) (sw_f (nlt_le.2 hp.2) h)
theorem c_purse_f {p : Int32} {Q : Bool → Prop} (hp : ¬ (0 ≤ p ∧ p ≤ 7)) (h : Q false) : wX11_isPurse p Q := by
  by_cases c : p < 0
  · exact sw_t c h
  · by_cases c2 : 7 < p
    · exact sw_f c (sw_t c2 h)
    · exact absurd ⟨nlt_le.1 c, nlt_le.1 c2⟩ hp
theorem t_fill {M M0 M1 M2 M3 M4 M5 M6 M7 M8 M9 : gS} (hi : inv M M0 M1 M2 M3 M4 M7) (p1 p2 : Int32) : tieP M (fun Q => wX12_fill p1 p2 M Q) (fun Q => wX11_fill p1 p2 M0 M1 M2 M3 M4 M5 M6 M7 M8 M9 Q) := by
  obtain ⟨⟨hw, hsp⟩, ⟨hW, hC, hq, hO⟩, hT, hB⟩ := id hi
  have b6 : aN (ma M 25) 6 ≤ 1 := hw.b 6 rfl
  by_cases c0 : ma M 25 0 ≤ 0
  · refine tieP_same (M5 := M5) (M6 := M6) (M8 := M8) (M9 := M9) hi (-1) (fun Q h => m_corner_f c0 (bw_f (h _ (eqM_refl _)))) (fun Q h => ?_)
    show wX11_fill p1 p2 M0 M1 M2 M3 M4 M5 M6 M7 M8 M9 Q
    unfold wX11_fill
    by_cases c1 : p1 = 0 ∨ p1 = 1
    · by_cases c2 : 0 ≤ p2 ∧ p2 ≤ 7
      · exact c_side_t c1 (bw_t (c_purse_t c2 (bw_t (c_corner_f hC c0 (bw_f h)))))
      · exact c_side_t c1 (bw_t (c_purse_f c2 (bw_f h)))
    · exact c_side_f c1 (bw_f h)
  by_cases c1 : p1 = 0 ∨ p1 = 1
  rotate_left
  · exact tieP_same (M5 := M5) (M6 := M6) (M8 := M8) (M9 := M9) hi (-1) (fun Q h => m_corner_t c0 (bw_t (m_side_f c1 (bw_f (h _ (eqM_refl _)))))) (fun Q h => c_side_f c1 (bw_f h))
  by_cases c2 : 0 ≤ p2 ∧ p2 ≤ 7
  rotate_left
  · exact tieP_same (M5 := M5) (M6 := M6) (M8 := M8) (M9 := M9) hi (-1) (fun Q h => m_corner_t c0 (bw_t (m_side_t c1 (bw_t (m_in_f (lo := 0) (hi := 7) (by decide) (by decide) c2 (bw_f (h _ (eqM_refl _)))))))) (fun Q h => c_side_t c1 (bw_t (c_purse_f c2 (bw_f h))))
  obtain ⟨f, hf, rfl⟩ := side_nat c1
  obtain ⟨n, hn, rfl⟩ := rng_n (b := 7) (by omega) c2.1 c2.2
  have i12 : (12 : Int32) + nI f = nI (12 + f) := nI_add 12 f
  have hwu : wfS (upd (ma M 25) (12 + f) (nI n)) := by
    refine wfS_upd hw (fun _ => ?_) (by omega) (by omega) (by omega) (by omega) (by omega)
    rw [bnd_12 f (by omega)]; exact nI_ok hn (by omega)
  have uk : ∀ j, j ≠ 12 + f → upd (ma M 25) (12 + f) (nI n) j = ma M 25 j := fun j h => by rw [upd_at, if_neg h]
  have ua : ∀ j, j ≠ 12 + f → aN (upd (ma M 25) (12 + f) (nI n)) j = aN (ma M 25) j := fun j h => by unfold aN; rw [uk j h]
  have hCu : relC (upd (ma M 25) (12 + f) (nI n)) M2 := relC_keep hw hC (fun k hk => uk k (by unfold isCr at hk; omega))
  have hOu : relO (upd (ma M 25) (12 + f) (nI n)) M4 := relO_keep hw hO (fun k hk => uk k (by omega))
  have hWu : relW (upd (ma M 25) (12 + f) (nI n)) M1 := relW_keep hW ⟨uk _ (by omega), uk _ (by omega), uk _ (by omega)⟩
  have hqu : relQ (upd (ma M 25) (12 + f) (nI n)) (sa M3 7 f (nI n)) := by
    obtain ⟨q0, q1, q2, q3, q4, q5⟩ := hq
    refine ⟨?_, fun z => ?_, ?_, fun j hj => ?_, fun z j hj => ?_, fun j hj => ?_⟩
    · rw [uk 3 (by omega)]; exact q0
    · rw [uk 3 (by omega)] at z
      rw [uk 4 (by omega), uk 5 (by omega), uk 6 (by omega), uk 7 (by omega)]; exact q1 z
    · rw [uk 9 (by omega)]; exact q2
    · show upd (ma M3 7) f (nI n) j = _
      rw [upd_at, upd_at]
      by_cases e : j = f
      · rw [if_pos e, if_pos (by omega)]
      · rw [if_neg e, if_neg (by omega)]; exact q3 j hj
    · rw [uk _ (by omega)]
      rw [uk 3 (by omega), uk 0 (by omega)] at z
      exact q4 z j hj
    · rw [uk _ (by omega)]; exact q5 j hj
  have row : sa M 25 (12 + f) (nI n) = sF M 25 (upd (ma M 25) (12 + f) (nI n)) := rfl
  by_cases g : ma M 25 3 = 1
  · have gu : upd (ma M 25) (12 + f) (nI n) 3 = 1 := by rw [uk 3 (by omega)]; exact g
    have hsu : onS (upd (ma M 25) (12 + f) (nI n)) := on_keep (hsp g) (fun j hj => uk j (by omega))
    refine tieP_row (M5 := M5) (M6 := M6) (M8 := M8) (M9 := M9) hi (ma M 25 (12 + f)) (lookS (upd (ma M 25) (12 + f) (nI n))) (look_good hwu hsu) (fun Q h => ?_) (fun Q h => ?_)
    · refine m_corner_t c0 (bw_t (m_side_t c1 (bw_t (m_in_t (lo := 0) (hi := 7) (by decide) (by decide) c2.1 c2.2 (bw_t ?_)))))
      rw [i12, nI_clamp (by omega)]
      refine ⟨vp_in_nI (by omega) (by decide), fun x13 h13 => ⟨vp_in_nI (by omega) (by decide), fun M14 h14 => ?_⟩⟩
      rw [row] at h14
      subst h14 h13
      refine m_goes_t (by rw [ma_sF1]; exact gu) (bw_t (m_looks _ (by rw [ma_sF1]; exact hwu) _ (h _ (eq_look _ _))))
    · refine c_side_t c1 (bw_t (c_purse_t c2 (bw_t (c_corner_t hC c0 (bw_t ?_)))))
      rw [nI_clamp (by omega)]
      refine ⟨vp_in_nI (by omega) (by decide), fun x22 h22 => ⟨vp_in_nI (by omega) (by decide), fun N23 h23 => ?_⟩⟩
      rw [hq.2.2.2.1 f (by omega)] at h22
      subst h23 h22
      refine sw_f (by rw [hqu.1, gu]; decide) ?_
      refine q_end _ hwu hsu.1 _ M2 hqu hCu gu _ (fun N hN => ?_)
      refine c_note hwu gu hN hWu hCu hOu _ (fun N1 hr => ?_)
      exact h _ _ _ _ hr
  · have gu : ¬ upd (ma M 25) (12 + f) (nI n) 3 = 1 := by rw [uk 3 (by omega)]; exact g
    refine tieP_row (M5 := M5) (M6 := M6) (M8 := M8) (M9 := M9) hi (ma M 25 (12 + f)) (upd (ma M 25) (12 + f) (nI n)) ⟨hwu, fun z => absurd z gu⟩ (fun Q h => ?_) (fun Q h => ?_)
    · refine m_corner_t c0 (bw_t (m_side_t c1 (bw_t (m_in_t (lo := 0) (hi := 7) (by decide) (by decide) c2.1 c2.2 (bw_t ?_)))))
      rw [i12, nI_clamp (by omega)]
      refine ⟨vp_in_nI (by omega) (by decide), fun x13 h13 => ⟨vp_in_nI (by omega) (by decide), fun M14 h14 => ?_⟩⟩
      rw [row] at h14
      subst h14 h13
      exact m_goes_f (by rw [ma_sF1]; exact gu) (bw_f (h _ (eqM_refl _)))
    · refine c_side_t c1 (bw_t (c_purse_t c2 (bw_t (c_corner_t hC c0 (bw_t ?_)))))
      rw [nI_clamp (by omega)]
      refine ⟨vp_in_nI (by omega) (by decide), fun x22 h22 => ⟨vp_in_nI (by omega) (by decide), fun N23 h23 => ?_⟩⟩
      rw [hq.2.2.2.1 f (by omega)] at h22
      subst h23 h22
      refine sw_t (by rw [hqu.1, goes_n hwu gu]) (h _ _ _ _ ⟨hWu, hCu, hqu, hOu⟩)
theorem t_side {M M0 M1 M2 M3 M4 M5 M6 M7 M8 M9 : gS} (hi : inv M M0 M1 M2 M3 M4 M7) (p1 p2 : Int32) : tieP M (fun Q => wX12_side p1 p2 M Q) (fun Q => wX11_side p1 p2 M0 M1 M2 M3 M4 M5 M6 M7 M8 M9 Q) := by
  obtain ⟨⟨hw, hsp⟩, ⟨hW, hC, hq, hO⟩, hT, hB⟩ := id hi
  by_cases c1 : p1 = 0 ∨ p1 = 1
  rotate_left
  · refine tieP_same (M5 := M5) (M6 := M6) (M8 := M8) (M9 := M9) hi (-1) (fun Q h => ?_) (fun Q h => c_side_f c1 (bw_f h))
    by_cases c0 : ma M 25 0 ≤ 0
    · exact m_corner_f c0 (bw_f (h _ (eqM_refl _)))
    · exact m_corner_t c0 (bw_t (m_side_f c1 (bw_f (h _ (eqM_refl _)))))
  by_cases c0 : ma M 25 0 ≤ 0
  · exact tieP_same (M5 := M5) (M6 := M6) (M8 := M8) (M9 := M9) hi (-1) (fun Q h => m_corner_f c0 (bw_f (h _ (eqM_refl _)))) (fun Q h => c_side_t c1 (bw_t (c_corner_f hC c0 (bw_f h))))
  obtain ⟨f, hf, rfl⟩ := side_nat c1
  have i12 : (12 : Int32) + nI f = nI (12 + f) := nI_add 12 f
  have i14 : (14 : Int32) + nI f = nI (14 + f) := nI_add 14 f
  have i16 : (16 : Int32) + nI f = nI (16 + f) := nI_add 16 f
  have i18 : (18 : Int32) + nI f = nI (18 + f) := nI_add 18 f
  have cf : Int32.toNatClampNeg (nI f) = f := nI_clamp (by omega)
  have k12 : Int32.toNatClampNeg (12 + nI f) = 12 + f := by rw [i12]; exact nI_clamp (by omega)
  have k14 : Int32.toNatClampNeg (14 + nI f) = 14 + f := by rw [i14]; exact nI_clamp (by omega)
  have k16 : Int32.toNatClampNeg (16 + nI f) = 16 + f := by rw [i16]; exact nI_clamp (by omega)
  have k18 : Int32.toNatClampNeg (18 + nI f) = 18 + f := by rw [i18]; exact nI_clamp (by omega)
  have v12 : vp_in (12 + nI f) 44 := by rw [i12]; exact vp_in_nI (by omega) (by decide)
  have v14 : vp_in (14 + nI f) 44 := by rw [i14]; exact vp_in_nI (by omega) (by decide)
  have v16 : vp_in (16 + nI f) 44 := by rw [i16]; exact vp_in_nI (by omega) (by decide)
  have v18 : vp_in (18 + nI f) 44 := by rw [i18]; exact vp_in_nI (by omega) (by decide)
  have vf : vp_in (nI f) 2 := vp_in_nI (by omega) (by decide)
  obtain ⟨q0, q1, q2, q3, q4, q5⟩ := hq
  have fin : ∀ r : Int32, (∀ Q : Int32 → gS → Prop, (∀ N, eqM M N → Q r N) → wX12_side (nI f) p2 M Q) → (∀ Q : Int32 → gS → gS → gS → gS → gS → gS → gS → gS → gS → gS → Prop, Q r M0 M1 M2 M3 M4 M5 M6 M7 M8 M9 → wX11_side (nI f) p2 M0 M1 M2 M3 M4 M5 M6 M7 M8 M9 Q) → tieP M (fun Q => wX12_side (nI f) p2 M Q) (fun Q => wX11_side (nI f) p2 M0 M1 M2 M3 M4 M5 M6 M7 M8 M9 Q) := fun r a b => tieP_same (M5 := M5) (M6 := M6) (M8 := M8) (M9 := M9) hi r a b
  by_cases e0 : p2 = 0
  · subst e0
    refine fin (ma M 25 (12 + f)) (fun Q h => m_corner_t c0 (bw_t (m_side_t c1 (bw_t (m_in_t (lo := 0) (hi := 3) (by decide) (by decide) (by decide) (by decide) (bw_t (sw_f (by decide) (sw_t rfl ⟨v12, ?_⟩)))))))) (fun Q h => c_side_t c1 (bw_t (c_corner_t hC c0 (bw_t (sw_t rfl ⟨vf, ?_⟩)))))
    · rw [k12]; exact h _ (eqM_refl _)
    · rw [cf, q3 f (by omega)]; exact h
  by_cases e1 : p2 = 1
  · subst e1
    refine fin (lastC (ma M 25 (14 + f))) (fun Q h => m_corner_t c0 (bw_t (m_side_t c1 (bw_t (m_in_t (lo := 0) (hi := 3) (by decide) (by decide) (by decide) (by decide) (bw_t (sw_t rfl ⟨v14, ?_⟩))))))) (fun Q h => c_side_t c1 (bw_t (c_corner_t hC c0 (bw_t (sw_f (by decide) (sw_t rfl ⟨vf, ?_⟩))))))
    · rw [k14]
      by_cases c9 : ma M 25 (14 + f) = 9
      · refine sw_t c9 ?_
        unfold lastC at h
        rw [if_pos c9] at h
        exact h _ (eqM_refl _)
      · refine sw_f c9 ⟨v14, ?_⟩
        unfold lastC at h
        rw [if_neg c9] at h
        exact h _ (eqM_refl _)
    · rw [cf, q4 (Or.inr (fun z => c0 (by rw [z]; decide))) f (by omega)]; exact h
  by_cases e2 : p2 = 2
  · subst e2
    refine fin (ma M 25 (16 + f)) (fun Q h => m_corner_t c0 (bw_t (m_side_t c1 (bw_t (m_in_t (lo := 0) (hi := 3) (by decide) (by decide) (by decide) (by decide) (bw_t (sw_f (by decide) (sw_f (by decide) (sw_t rfl ⟨v16, ?_⟩))))))))) (fun Q h => c_side_t c1 (bw_t (c_corner_t hC c0 (bw_t (sw_f (by decide) (sw_f (by decide) (sw_t rfl ⟨vf, ?_⟩)))))))
    · rw [k16]; exact h _ (eqM_refl _)
    · rw [cf, q5 f (by omega)]; exact h
  by_cases e3 : p2 = 3
  · subst e3
    refine fin (ma M 25 (18 + f)) (fun Q h => m_corner_t c0 (bw_t (m_side_t c1 (bw_t (m_in_t (lo := 0) (hi := 3) (by decide) (by decide) (by decide) (by decide) (bw_t (sw_f (by decide) (sw_f (by decide) (sw_f (by decide) ⟨v18, ?_⟩))))))))) (fun Q h => c_side_t c1 (bw_t (c_corner_t hC c0 (bw_t (sw_f (by decide) (sw_f (by decide) (sw_f (by decide) (sw_t rfl ⟨vf, ?_⟩))))))))
    · rw [k18]; exact h _ (eqM_refl _)
    · rw [cf, hW.1 f (by omega)]; exact h
  refine fin (-1) (fun Q h => m_corner_t c0 (bw_t (m_side_t c1 (bw_t (m_in_f (lo := 0) (hi := 3) (by decide) (by decide) (fun z => ?_) (bw_f (h _ (eqM_refl _)))))))) (fun Q h => c_side_t c1 (bw_t (c_corner_t hC c0 (bw_t (sw_f e0 (sw_f e1 (sw_f e2 (sw_f e3 h))))))))
  obtain ⟨t, ht, rfl⟩ := rng_n (b := 3) (by omega) z.1 z.2
  rcases (show t = 0 ∨ t = 1 ∨ t = 2 ∨ t = 3 by omega) with rfl | rfl | rfl | rfl
  · exact e0 rfl
  · exact e1 rfl
  · exact e2 rfl
  · exact e3 rfl
