-- PURE: the search counts plR
def frP (d : Nat) (N N' : gS) : Prop := (∀ k, k ≠ 25 → k ≠ 29 → k ≠ 30 → ma N' k = ma N k) ∧ (∀ k, k ≠ 23 → k ≠ 26 → mg N' k = mg N k) ∧ (∀ j, 44 ≤ j → ma N' 25 j = ma N 25 j) ∧ (∀ i, i < 44 * (d + 1) → ma N' 29 i = ma N 29 i) ∧ (∀ i, i < d → ma N' 30 i = ma N 30 i)
theorem frP_trans {d : Nat} {A B C : gS} (h : frP d A B) (g : frP d B C) : frP d A C :=
  ⟨fun k a b c => (g.1 k a b c).trans (h.1 k a b c), fun k a b => (g.2.1 k a b).trans (h.2.1 k a b), fun j a => (g.2.2.1 j a).trans (h.2.2.1 j a), fun i a => (g.2.2.2.1 i a).trans (h.2.2.2.1 i a), fun i a => (g.2.2.2.2 i a).trans (h.2.2.2.2 i a)⟩
def plE (y2 y3 y4 : Int32) (u : Nat → Int32) : Nat := if nI (winN u) = y3 ∧ u 9 - y4 = y2 then 1 else 0
theorem opU_ok {r : Nat → Int32} (hw : wfS r) (ho : onS r) {q : Nat} (ha : avl r q = true) : wfS (opU r q) ∧ onS (opU r q) ∧ kp_r (opU r q) r := by
  have b6 : aN r 6 ≤ 1 := hw.b 6 rfl
  unfold avl at ha
  unfold opU
  by_cases c : q < 4
  · rw [if_pos c] at ha ⊢
    have h1 : q < aN r 1 := by unfold canSayN at ha; simp only [Bool.and_eq_true, decide_eq_true_eq] at ha; exact ha.1
    exact ⟨say_wf hw c, on_say hw ho c h1, fun k hk => say_keep (by omega) (by omega) (by omega) (by omega) (by omega) (by omega)⟩
  · rw [if_neg c] at ha ⊢
    by_cases c2 : q = 4
    · rw [if_pos c2] at ha ⊢
      exact ⟨throw_wf hw ha, on_throw hw ho, fun k hk => throw_keep hw (by omega) (by omega) (by omega) (by omega)⟩
    · rw [if_neg c2]
      exact ⟨hw, ho, fun _ _ => rfl⟩
theorem m_pl_c {n : Nat} (hn : n ≤ 8) {y2 y3 y4 : Int32} (Q : Int32 → gS → Prop) {k d : Nat} (hdk : d + k + 1 = n) (desc : 1 ≤ k → ∀ u acc f N, wfS u → onS u → u 3 = 1 → (∀ j, j < 44 → ma N 29 (44 * (d + 1) + j) = u j) → (∀ j, 44 ≤ j → ma N 25 j = u j) → ma N 30 (d + 1) = -1 → (∀ N', frP (d + 1) N N' → wX12_plays_69 Q f (nI n) y2 y3 y4 (nI (acc + plR (plE y2 y3 y4) k u)) (nI d) N') → wX12_plays_69 Q (stN k u + f) (nI n) y2 y3 y4 (nI acc) (nI (d + 1)) N) {r : Nat → Int32} (hw : wfS r) (ho : onS r) (hg : r 3 = 1) : ∀ c q, q + c = 6 → ∀ acc f N, (∀ j, j < 44 → ma N 29 (44 * d + j) = r j) → (∀ j, 44 ≤ j → ma N 25 j = r j) → ma N 30 d + 1 = nI q → (∀ N', frP d N N' → wX12_plays_69 Q f (nI n) y2 y3 y4 (nI (acc + sumR (plO (plE y2 y3 y4) (plR (plE y2 y3 y4) k) r) c q)) (nI d + (-1)) N') → wX12_plays_69 Q (sumR (stO (stN k) r) c q + 1 + f) (nI n) y2 y3 y4 (nI acc) (nI d) N := by
  intro c
  induction c using Nat.strongRecOn with
  | ind c ih =>
    intro q hq acc f N hst h44 h30 hco
    rw [show sumR (stO (stN k) r) c q + 1 + f = (sumR (stO (stN k) r) c q + f) + 1 by omega, wX12_plays_69]
    refine sw_f (nI_pos (by omega)) (m_putsBackAt (by omega) hst h44 _ ?_)
    have f1 : frP d N (sF N 25 r) := ⟨fun k a _ _ => by rw [ma_sF, if_neg a], fun _ _ _ => rfl, fun j hj => by rw [ma_sF1]; exact (h44 j hj).symm, fun i _ => by rw [ma_sF, if_neg (by decide)], fun i _ => by rw [ma_sF, if_neg (by decide)]⟩
    refine m_doesNext (by omega) hw (ma_sF1 _ _ _) (q0 := q) (by omega) (by rw [ma_sF, if_neg (by decide)]; exact h30) (fun q' N' g1 g2 g3 g4 g5 => ?_) (fun e6 N' g1 g2 g3 => ?_)
    · obtain ⟨o1, o2, o3, o4, o5⟩ := g5
      obtain ⟨u1, u2, u3⟩ := opU_ok hw ho g3
      have f2 : frP d (sF N 25 r) N' := by
        refine ⟨fun k a _ b => o1 k a b, fun k _ a => o2 k a, fun j hj => ?_, fun i _ => by rw [o1 29 (by decide) (by decide)], fun i hi => by rw [o3, upd_at, if_neg (by omega)]⟩
        rw [ma_sF1]
        cases hov : ovr r q' with
        | true => rw [(o4 hov).1, end_keep u1 (by omega) (by omega) (by omega), u3 j (by omega)]
        | false => rw [o5 hov, u3 j (by omega)]
      have f12 := frP_trans f1 f2
      have hst' : ∀ j, j < 44 → ma N' 29 (44 * d + j) = r j := fun j hj => by rw [f12.2.2.2.1 _ (by omega)]; exact hst j hj
      have h44' : ∀ j, 44 ≤ j → ma N' 25 j = r j := fun j hj => by rw [f12.2.2.1 j hj]; exact h44 j hj
      have h30' : ma N' 30 d + 1 = nI (q' + 1) := by rw [o3, upd_at, if_pos rfl, nI_1]
      have sk : ∀ g : Nat → Nat, (∀ i, avl r i = false → g i = 0) → sumR g c q = g q' + sumR g (5 - q') (q' + 1) := by
        intro g hgz
        have := sumR_skip (f := g) (q' - q) (6 - q') q (fun i a b => hgz i (g4 i a (by omega)))
        rw [show q' - q + (6 - q') = c by omega, show q + (q' - q) = q' by omega, show 6 - q' = (5 - q') + 1 by omega, sumR_s] at this
        exact this
      have z1 : ∀ i, avl r i = false → stO (stN k) r i = 0 := fun i hz => by unfold stO; rw [if_neg (by rw [hz]; decide)]
      have z2 : ∀ i, avl r i = false → plO (plE y2 y3 y4) (plR (plE y2 y3 y4) k) r i = 0 := fun i hz => by unfold plO; rw [if_neg (by rw [hz]; decide)]
      rw [sk _ z1]
      rw [sk _ z2] at hco
      have nxt : ∀ acc' N2, frP d N N2 → (∀ j, j < 44 → ma N2 29 (44 * d + j) = r j) → (∀ j, 44 ≤ j → ma N2 25 j = r j) → ma N2 30 d + 1 = nI (q' + 1) → acc' = acc + plO (plE y2 y3 y4) (plR (plE y2 y3 y4) k) r q' → wX12_plays_69 Q (sumR (stO (stN k) r) (5 - q') (q' + 1) + 1 + f) (nI n) y2 y3 y4 (nI acc') (nI d) N2 := by
        intro acc' N2 fr s1 s2 s3 ha
        refine ih (5 - q') (by omega) (q' + 1) (by omega) acc' f N2 s1 s2 s3 (fun N3 f3 => ?_)
        have := hco N3 (frP_trans fr f3)
        rw [ha, show acc + plO (plE y2 y3 y4) (plR (plE y2 y3 y4) k) r q' + sumR (plO (plE y2 y3 y4) (plR (plE y2 y3 y4) k) r) (5 - q') (q' + 1) = acc + (plO (plE y2 y3 y4) (plR (plE y2 y3 y4) k) r q' + sumR (plO (plE y2 y3 y4) (plR (plE y2 y3 y4) k) r) (5 - q') (q' + 1)) by omega]
        exact this
      refine bw_t ?_
      cases hov : ovr r q' with
      | true =>
        have es : stO (stN k) r q' = 1 := by unfold stO; rw [if_pos g3, if_pos hov]
        have ep : plO (plE y2 y3 y4) (plR (plE y2 y3 y4) k) r q' = plE y2 y3 y4 (opU r q') := by unfold plO; rw [if_pos g3, if_pos hov]
        obtain ⟨e25, e26⟩ := o4 hov
        rw [ep] at nxt
        rw [es, show 1 + sumR (stO (stN k) r) (5 - q') (q' + 1) + f = sumR (stO (stN k) r) (5 - q') (q' + 1) + 1 + f by omega]
        have e9 : ma N' 25 9 = opU r q' 9 := by rw [e25, end_keep u1 (by omega) (by omega) (by omega)]
        refine m_goes_f (by rw [e25, end_3]; decide) (bw_f ?_)
        unfold plE at nxt
        unfold wX12_plays_130 wX12_plays_131
        rw [e26, e9]
        by_cases c1 : nI (winN (opU r q')) = y3
        · by_cases c2 : opU r q' 9 - y4 = y2
          · rw [if_pos ⟨c1, c2⟩] at nxt
            refine sw_t c1 (sw_t c2 (fun x hx => ?_))
            rw [hx, nI_1]
            exact nxt (acc + 1) N' f12 hst' h44' h30' rfl
          · rw [if_neg (fun z => c2 z.2)] at nxt
            refine sw_t c1 (sw_f c2 (fun x hx => ?_))
            rw [hx, Int32.add_zero]
            exact nxt acc N' f12 hst' h44' h30' rfl
        · rw [if_neg (fun z => c1 z.1)] at nxt
          refine sw_f c1 (fun x hx => ?_)
          rw [hx, Int32.add_zero]
          exact nxt acc N' f12 hst' h44' h30' rfl
      | false =>
        have es : stO (stN k) r q' = stN k (opU r q') + 1 := by unfold stO; rw [if_pos g3, if_neg (by rw [hov]; decide)]
        have ep : plO (plE y2 y3 y4) (plR (plE y2 y3 y4) k) r q' = plR (plE y2 y3 y4) k (opU r q') := by unfold plO; rw [if_pos g3, if_neg (by rw [hov]; decide)]
        have e25 := o5 hov
        rw [ep] at nxt
        rw [es]
        have en : nI n - 1 = nI (d + k) := by rw [← hdk]; exact nI_pred (d + k)
        rw [en]
        refine m_goes_t (by rw [e25, u3 3 (by omega)]; exact hg) (bw_t ?_)
        by_cases ck : k = 0
        · have e1 : stN k (opU r q') = 0 := by rw [ck]; rfl
          have e2 : plR (plE y2 y3 y4) k (opU r q') = 0 := by rw [ck]; rfl
          rw [e1, show 0 + 1 + sumR (stO (stN k) r) (5 - q') (q' + 1) + f = sumR (stO (stN k) r) (5 - q') (q' + 1) + 1 + f by omega]
          rw [e2] at nxt
          exact sw_t (nI_le (by omega) (by omega)) (nxt acc N' f12 hst' h44' h30' rfl)
        · rw [show stN k (opU r q') + 1 + sumR (stO (stN k) r) (5 - q') (q' + 1) + f = stN k (opU r q') + (sumR (stO (stN k) r) (5 - q') (q' + 1) + 1 + f) by omega]
          refine sw_f (nI_ge (by omega) (by omega)) (fun x15 h15 => ?_)
          rw [h15, nI_1]
          refine m_keepsAt (by omega) _ (fun N2 p1 p2 p3 p4 p5 => ?_)
          refine desc (by omega) (opU r q') acc _ N2 u1 u2 (by rw [u3 3 (by omega)]; exact hg) (fun j hj => by rw [p4 j hj, e25]) (fun j hj => by rw [p1 25 (by decide) (by decide), e25]) (by rw [p5, upd_at, if_pos rfl]) (fun N3 f3 => ?_)
          have f4 : frP d N' N3 := by
            refine ⟨fun k a b c => by rw [f3.1 k a b c, p1 k b c], fun k a b => by rw [f3.2.1 k a b, p2], fun j hj => by rw [f3.2.2.1 j hj, p1 25 (by decide) (by decide)], fun i hi => by rw [f3.2.2.2.1 i (by omega), p3 i hi], fun i hi => by rw [f3.2.2.2.2 i (by omega), p5, upd_at, if_neg (by omega)]⟩
          refine nxt _ N3 (frP_trans f12 f4) (fun j hj => by rw [f4.2.2.2.1 _ (by omega)]; exact hst' j hj) (fun j hj => by rw [f4.2.2.1 j hj]; exact h44' j hj) ?_ rfl
          rw [f3.2.2.2.2 d (by omega), p5, upd_at, if_neg (by omega)]
          exact h30'
    · have c0 : c = 0 := by omega
      refine bw_f (fun x20 h20 => ?_)
      have f2 : frP d N N' := frP_trans f1 ⟨fun k _ _ b => g1 k b, fun k _ _ => by rw [g2], fun j _ => by rw [g1 25 (by decide)], fun i _ => by rw [g1 29 (by decide)], fun i hi => by rw [g3, upd_at, if_neg (by omega)]⟩
      have := hco N' f2
      rw [c0] at this ⊢
      rw [h20]
      rw [show sumR (stO (stN k) r) 0 q + f = f from Nat.zero_add f]
      exact this
theorem m_pl {n : Nat} (hn : n ≤ 8) {y2 y3 y4 : Int32} (Q : Int32 → gS → Prop) : ∀ k d, d + k + 1 = n → ∀ r acc f N, wfS r → onS r → r 3 = 1 → (∀ j, j < 44 → ma N 29 (44 * d + j) = r j) → (∀ j, 44 ≤ j → ma N 25 j = r j) → ma N 30 d = -1 → (∀ N', frP d N N' → wX12_plays_69 Q f (nI n) y2 y3 y4 (nI (acc + plR (plE y2 y3 y4) (k + 1) r)) (nI d + (-1)) N') → wX12_plays_69 Q (stN (k + 1) r + f) (nI n) y2 y3 y4 (nI acc) (nI d) N := by
  intro k
  induction k with
  | zero =>
    intro d hd r acc f N hw ho hg hst h44 h30 hco
    exact m_pl_c (k := 0) (d := d) hn Q hd (fun z => absurd z (by omega)) hw ho hg 6 0 (by omega) acc f N hst h44 (by rw [h30]; rfl) hco
  | succ k ih =>
    intro d hd r acc f N hw ho hg hst h44 h30 hco
    refine m_pl_c (k := k + 1) (d := d) hn Q hd (fun _ u acc' f' N' w1 w2 w3 w4 w5 w6 w7 => ?_) hw ho hg 6 0 (by omega) acc f N hst h44 (by rw [h30]; rfl) hco
    refine ih (d + 1) (by omega) u acc' f' N' w1 w2 w3 w4 w5 w6 (fun N2 f2 => ?_)
    have e : nI (d + 1) + (-1) = nI d := by rw [← Int32.sub_eq_add_neg]; exact nI_pred d
    rw [e]
    exact w7 N2 f2
theorem m_plays {M : gS} (hw : wfS (ma M 25)) (ho : onS (ma M 25)) (hg : ma M 25 3 = 1) {n : Nat} (hn : n ≤ 8) {p2 p3 : Int32} (h2 : 0 ≤ p2 ∧ p2 ≤ 14) (h3 : p3 = 0 ∨ p3 = 1) (Q : Int32 → gS → Prop) (h : ∀ N, eqM M N → Q (nI (plR (plE p2 p3 (ma M 25 9)) n (ma M 25))) N) : wX12_plays (nI n) p2 p3 M Q := by
  unfold wX12_plays
  refine m_goes_t hg (bw_t (m_in_t (lo := 0) (hi := 8) (by decide) (by decide) (nI_pos' (by omega)) (show nI n ≤ nI 8 from nI_le hn (by omega)) (bw_t (m_in_t (lo := 0) (hi := 14) (by decide) (by decide) h2.1 h2.2 (bw_t (m_side_t h3 (bw_t (fun x17 h17 => ?_))))))))
  have fin : ∀ N f, (∀ k, k ≠ 25 → k ≠ 29 → k ≠ 30 → ma N k = ma M k) → (∀ k, k ≠ 23 → k ≠ 26 → mg N k = mg M k) → (∀ j, 44 ≤ j → ma N 25 j = ma M 25 j) → (∀ j, j < 44 → ma N 29 j = ma M 25 j) → wX12_plays_69 Q (f + 1) (nI n) p2 p3 x17 (nI (plR (plE p2 p3 (ma M 25 9)) n (ma M 25))) (-1) N := by
    intro N f g1 g2 g3 g4
    rw [wX12_plays_69]
    refine sw_t (by decide) ?_
    refine m_putsBackAt (d := 0) (r := ma M 25) (by omega) (fun j hj => by rw [Nat.mul_zero, Nat.zero_add]; exact g4 j hj) g3 _ (h _ ?_)
    refine ⟨g2 1 (by decide) (by decide), g2 2 (by decide) (by decide), ?_, ?_, ?_, ?_, ma_sF1 _ _ _, ?_, ?_⟩
    · exact g1 0 (by decide) (by decide) (by decide)
    · exact g1 3 (by decide) (by decide) (by decide)
    · exact g1 5 (by decide) (by decide) (by decide)
    · exact g1 6 (by decide) (by decide) (by decide)
    · exact g1 35 (by decide) (by decide) (by decide)
    · exact g1 36 (by decide) (by decide) (by decide)
  unfold wX12_plays_62
  by_cases c : n = 0
  · refine sw_t (by rw [c]; rfl) (m_keepsAt (d := 0) (by omega) _ (fun N p1 p2 p3 p4 p5 => ⟨1, ?_⟩))
    have := fin N 0 (fun k _ a b => p1 k a b) (fun k _ _ => by rw [p2]) (fun j _ => by rw [p1 25 (by decide) (by decide)]) (fun j hj => by have := p4 j hj; rw [Nat.mul_zero, Nat.zero_add] at this; exact this)
    rw [c] at this ⊢
    exact this
  · obtain ⟨k, rfl⟩ : ∃ k, n = k + 1 := ⟨n - 1, by omega⟩
    refine sw_f (nI_ne0 (by omega) (by omega)) (m_keepsAt (d := 0) (by omega) _ (fun N p1 p2 p3 p4 p5 => ⟨stN (k + 1) (ma M 25) + 1, ?_⟩))
    have p4' : ∀ j, j < 44 → ma N 29 j = ma M 25 j := fun j hj => by have := p4 j hj; rw [Nat.mul_zero, Nat.zero_add] at this; exact this
    have e25 : ma N 25 = ma M 25 := p1 25 (by decide) (by decide)
    refine m_pl hn Q k 0 (by omega) (ma M 25) 0 1 N hw ho hg (fun j hj => by rw [Nat.mul_zero, Nat.zero_add]; exact p4' j hj) (fun j _ => by rw [e25]) (by rw [p5, upd_at, if_pos rfl]) (fun N' f' => ?_)
    rw [Nat.zero_add]
    have := fin N' 0 (fun k a b c => by rw [f'.1 k a b c, p1 k b c]) (fun k a b => by rw [f'.2.1 k a b, p2]) (fun j hj => by rw [f'.2.2.1 j hj, e25]) (fun j hj => by rw [f'.2.2.2.1 j (by omega)]; exact p4' j hj)
    rw [h17] at this ⊢
    exact this
