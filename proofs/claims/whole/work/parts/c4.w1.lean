-- PURE: facts and tests, the class
theorem c_cmpA {c : Nat → Nat} {L p : Nat} {M0 M Mt R : gS} (ht : txC c L M Mt) (hr : rdC c L p M) (Q : Int32 → gS → gS → gS → gS → Prop) (h : Q (match cmpK c L p with | none => -100 | some k => cod (6 + k)) M0 M Mt R) : wX9_comparisonAhead M0 M Mt R Q := by
  obtain ⟨r1, r2, r3, r4, r5⟩ := id hr
  have hc := (ht.2.2 p).1
  have none22 : cmpK c L p = none → wX9_comparisonAhead_22 Q (-1) M0 M Mt R := by
    intro e
    rw [e] at h
    unfold wX9_comparisonAhead_22
    exact sw_f (by decide) (sw_f (by decide) (sw_f (by decide) (sw_f (by decide) (sw_f (by decide) h))))
  unfold wX9_comparisonAhead
  by_cases a : p < L
  · cases b : bL c L p with
    | true =>
      refine sw_f (by rw [(r4 a).1 b]; decide) (none22 ?_)
      unfold bL at b
      simp only [Bool.and_eq_true, decide_eq_true_eq] at b
      unfold cmpK
      rw [if_pos a, if_neg (by omega), if_neg (by omega), if_neg (by omega)]
    | false =>
      cases d : bD c L p with
      | true =>
        refine sw_f (by rw [((r4 a).2.1 b d).1]; decide) (none22 ?_)
        unfold bD at d
        simp only [Bool.and_eq_true, decide_eq_true_eq] at d
        unfold cmpK
        rw [if_pos a, if_neg (by omega), if_neg (by omega), if_neg (by omega)]
      | false =>
        obtain ⟨q4, q5⟩ := (r4 a).2.2 b d
        refine sw_t q4 ?_
        rw [q5]
        unfold wX9_comparisonAhead_22
        unfold cmpK at h
        rw [if_pos a] at h
        have hs : sgN c L p < 1000 := by unfold sgN; split <;> omega
        have ne : ∀ x, x < 1000 → sgN c L p ≠ x → ¬ nI (sgN c L p) = nI x := fun x hx z y => z ((nI_eq (by omega) (by omega)).1 y)
        by_cases e60 : c p = 60
        · rw [if_pos e60] at h
          by_cases s : s2 c L p = true
          · rw [if_pos s] at h
            have es : sgN c L p = 316 := by unfold sgN; rw [if_pos s, e60]
            rw [es]
            exact sw_f (by decide) (sw_f (by decide) (sw_f (by decide) (sw_t rfl h)))
          · rw [if_neg s] at h
            have es : sgN c L p = 60 := by unfold sgN; rw [if_neg s, e60]
            rw [es]
            exact sw_t rfl h
        · rw [if_neg e60] at h
          by_cases e61 : c p = 61
          · rw [if_pos e61] at h
            have s : s2 c L p = false := by unfold s2; rw [decide_eq_false (by omega), Bool.false_and]
            have es : sgN c L p = 61 := by unfold sgN; rw [if_neg (by rw [s]; decide), e61]
            rw [es]
            exact sw_f (by decide) (sw_t rfl h)
          · rw [if_neg e61] at h
            by_cases e62 : c p = 62
            · rw [if_pos e62] at h
              by_cases s : s2 c L p = true
              · rw [if_pos s] at h
                have es : sgN c L p = 318 := by unfold sgN; rw [if_pos s, e62]
                rw [es]
                exact sw_f (by decide) (sw_f (by decide) (sw_f (by decide) (sw_f (by decide) (sw_t rfl h))))
              · rw [if_neg s] at h
                have es : sgN c L p = 62 := by unfold sgN; rw [if_neg s, e62]
                rw [es]
                exact sw_f (by decide) (sw_f (by decide) (sw_t rfl h))
            · rw [if_neg e62] at h
              have s : s2 c L p = false := by unfold s2; rw [decide_eq_false (by omega), Bool.false_and]
              have es : sgN c L p = c p := by unfold sgN; rw [if_neg (by rw [s]; decide)]
              exact sw_f (ne 60 (by omega) (by omega)) (sw_f (ne 61 (by omega) (by omega)) (sw_f (ne 62 (by omega) (by omega)) (sw_f (ne 316 (by omega) (by omega)) (sw_f (ne 318 (by omega) (by omega)) h))))
  · refine sw_f (by rw [r5 a]; decide) (none22 ?_)
    unfold cmpK
    rw [if_neg a]
theorem c_cmpA_any {M0 M Mt R : gS} (Q : Int32 → gS → gS → gS → gS → Prop) (h : ∀ r, Q r M0 M Mt R) : wX9_comparisonAhead M0 M Mt R Q := by
  unfold wX9_comparisonAhead wX9_comparisonAhead_22
  exact ⟨fun _ => ⟨fun _ => h _, fun _ => ⟨fun _ => h _, fun _ => ⟨fun _ => h _, fun _ => ⟨fun _ => h _, fun _ => ⟨fun _ => h _, fun _ => h _⟩⟩⟩⟩⟩, fun _ => ⟨fun _ => h _, fun _ => ⟨fun _ => h _, fun _ => ⟨fun _ => h _, fun _ => ⟨fun _ => h _, fun _ => ⟨fun _ => h _, fun _ => h _⟩⟩⟩⟩⟩⟩
theorem c_name_f {c : Nat → Nat} {L f : Nat} {B M Mt : gS} (ht : txC c L B Mt) (hr : flC c L f B M) {k : Nat} (hk : k < 6) (Q : Int32 → gS → gS → Prop) (h : ∀ r, Q r M Mt) : wX7_nameAmong k M Mt Q := by
  obtain ⟨h1, h7, p, hp⟩ := hr
  exact c_name (txC_F ht h1) hp hk Q (h _)
def okQ (c : Nat → Nat) (L : Nat) (B Mt R : gS) (Q : gS → gS → gS → gS → Prop) (x : Sum Nat (Nat × Nat × List Nat)) : Prop := (∀ p' m' ts', x = .inr (p', m', ts') → ∀ N0 N R', rcF R R' → frF B N → mg N 7 = 0 → rdC c L p' N → mg N0 2 = nI m' → rkC ts' R' → Q N0 N Mt R') ∧ (∀ f, x = .inl f → 1 ≤ f → f < 10000 → ∀ N0 N R', flC c L f B N → Q N0 N Mt R')
def rdS (c : Nat → Nat) (L p m : Nat) (ts : List Nat) (B M0 Mr R : gS) : Prop := ts.length ≤ p ∧ frF B Mr ∧ mg Mr 7 = 0 ∧ rdC c L p Mr ∧ mg M0 2 = nI m ∧ m ≤ 60 ∧ rkC ts R
def factC (c : Nat → Nat) (L e : Nat) : Prop := ∀ (B Mt : gS), txC c L B Mt → ∀ p m ts M0 Mr R Q, rdS c L p m ts B M0 Mr R → okQ c L B Mt R Q (pFc c L e p m ts) → wX9_readFact (wN (e + 1)) (nI (10 - e)) M0 Mr Mt R Q
def factF (c : Nat → Nat) (L e : Nat) : Prop := ∀ (B Mt : gS), txC c L B Mt → ∀ f M0 Mr R Q, 1 ≤ f → f < 10000 → flC c L f B Mr → (∀ N0 N R', flC c L f B N → Q N0 N Mt R') → wX9_readFact (wN (e + 1)) (nI (10 - e)) M0 Mr Mt R Q
/-- SUM sign SUM -/
theorem c_pcmp {c : Nat → Nat} {L : Nat} {B Mt : gS} (ht : txC c L B Mt) {p m : Nat} {ts : List Nat} {M0 Mr R : gS} (hs : rdS c L p m ts B M0 Mr R) (Q : gS → gS → gS → gS → Prop) (hQ : okQ c L B Mt R Q (pCmp c L p m ts)) : wX9_readSum M0 Mr Mt R (fun (N8 : gS) (N9 : gS) (N10 : gS) (N11 : gS) => (wX9_comparisonAhead N8 N9 N10 N11 (fun (r12 : Int32) (N13 : gS) (N14 : gS) (N15 : gS) (N16 : gS) => ((r12 = (-100 : Int32) → (wX7_fail (0 : Int32) N14 N15 (fun (N36 : gS) (N37 : gS) => (Q N13 N36 N37 N16)))) ∧ (¬ r12 = (-100 : Int32) → (wX9_isRoomForNode N13 N14 N15 N16 (fun (b23 : Bool) (N19 : gS) (N20 : gS) (N21 : gS) (N22 : gS) => (((bI b23) = 0 → (Q N19 N20 N21 N22)) ∧ (¬ (bI b23) = 0 → (wX7_advance N20 N21 (fun (N26 : gS) (N27 : gS) => (wX9_readSum N19 N26 N27 N22 (fun (N29 : gS) (N30 : gS) (N31 : gS) (N32 : gS) => (wX8_put r12 N32 (fun (N34 : gS) => (Q N29 N30 N31 N34)))))))))))))))) := by
  obtain ⟨s1, s2, s3, s4, s5, s6, s7⟩ := hs
  have hL := ht.2.1
  obtain ⟨h1, hF⟩ := hQ
  unfold pCmp at h1 hF
  refine c_sum ht s1 s2 s3 s4 s5 s6 s7 _ (fun p1 m1 t1 e1 N0 N R1 c1 f1 g7 r1 g2 k1 => ?_) (fun f ef b1 b2 N0 N R1 hN => ?_)
  · obtain ⟨a1, a2, a3, a4, _⟩ := pSum_t s4.1 s6 e1
    have al := addT_len (pSum_t s4.1 s6 e1)
    rw [e1] at h1 hF
    have tN := txC_F ht f1
    refine c_cmpA tN r1 _ ?_
    cases ek : cmpK c L p1 with
    | none =>
      have hF' : ∀ f, (match cmpK c L p1 with | none => (Sum.inl (1 + 8 * p1 + 0) : Sum Nat (Nat × Nat × List Nat)) | some k => if m1 = 60 then .inl (1 + 8 * p1 + 3) else bnd2 (pSum c L (nxP c L p1) (m1 + 1) t1) (fun b => .inr (b.1, b.2.1, b.2.2 ++ [6 + k]))) = .inl f → 1 ≤ f → f < 10000 → ∀ N0 N R', flC c L f B N → Q N0 N Mt R' := hF
      rw [ek] at hF'
      refine sw_t rfl (c_fail0 r1 g7 0 _ (fun N2 hN2 => hF' _ rfl (by omega) (by omega) N0 N2 R1 ⟨frF_trans f1 hN2.1, hN2.2⟩))
    | some k =>
      obtain ⟨k4, kL⟩ := cmpK_b ek
      have h1' : ∀ p' m' ts', (match cmpK c L p1 with | none => (Sum.inl (1 + 8 * p1 + 0) : Sum Nat (Nat × Nat × List Nat)) | some k => if m1 = 60 then .inl (1 + 8 * p1 + 3) else bnd2 (pSum c L (nxP c L p1) (m1 + 1) t1) (fun b => .inr (b.1, b.2.1, b.2.2 ++ [6 + k]))) = .inr (p', m', ts') → ∀ N0 N R', rcF R R' → frF B N → mg N 7 = 0 → rdC c L p' N → mg N0 2 = nI m' → rkC ts' R' → Q N0 N Mt R' := h1
      have hF' : ∀ f, (match cmpK c L p1 with | none => (Sum.inl (1 + 8 * p1 + 0) : Sum Nat (Nat × Nat × List Nat)) | some k => if m1 = 60 then .inl (1 + 8 * p1 + 3) else bnd2 (pSum c L (nxP c L p1) (m1 + 1) t1) (fun b => .inr (b.1, b.2.1, b.2.2 ++ [6 + k]))) = .inl f → 1 ≤ f → f < 10000 → ∀ N0 N R', flC c L f B N → Q N0 N Mt R' := hF
      rw [ek] at h1' hF'
      have ncod : ¬ cod (6 + k) = -100 := by
        rcases (show k = 0 ∨ k = 1 ∨ k = 2 ∨ k = 3 ∨ k = 4 by omega) with rfl | rfl | rfl | rfl | rfl <;> decide
      have hgt := nxP_gt (c := c) kL
      have hnx := nxP_le (c := c) a2
      refine sw_f ncod (c_room r1 g7 a4 g2 _ (fun z N2 g22 => bw_t ?_) (fun z N2 N3 hN3 => bw_f (hF' _ (by show (if m1 = 60 then _ else _) = _; rw [if_pos z]) (by omega) (by omega) N2 N3 R1 ⟨frF_trans f1 hN3.1, hN3.2⟩)))
      refine c_next tN r1 _ (fun N4 f4 r4 => ?_)
      have g74 : mg N4 7 = 0 := by rw [f4.2.1]; exact g7
      refine c_sum ht (by omega) (frF_trans f1 (frF_7 f4)) g74 r4 g22 (by omega) k1 _ (fun p2 m2 t2 e2 N5 N6 R2 c2 f6 g76 r6 g26 k2 => ?_) (fun f ef b1 b2 N5 N6 R2 hN => ?_)
      · obtain ⟨b1, b2, b3, b4, _⟩ := pSum_t hnx (by omega) e2
        have bl := addT_len (pSum_t hnx (by omega) e2)
        refine c_put k2 (by omega) rfl _ (fun R3 c3 k3 => ?_)
        refine h1' _ _ _ ?_ N5 N6 R3 (rcF_trans c1 (rcF_trans c2 c3)) f6 g76 r6 g26 k3
        show (if m1 = 60 then _ else bnd2 (pSum c L (nxP c L p1) (m1 + 1) t1) _) = _
        rw [if_neg (by omega), e2]
        rfl
      · refine c_put_any _ (fun R3 => hF' f ?_ b1 b2 N5 N6 R3 hN)
        show (if m1 = 60 then _ else bnd2 (pSum c L (nxP c L p1) (m1 + 1) t1) _) = _
        rw [if_neg (by omega), ef]
        rfl
  · rw [ef] at hF
    have ov : ∀ N0 N R', flC c L f B N → Q N0 N Mt R' := fun N0 N R' hN => hF f rfl b1 b2 N0 N R' hN
    refine c_cmpA_any _ (fun r => ⟨fun _ => c_fail_f b1 b2 hN 0 _ (fun N2 hN2 => ov _ _ _ hN2), fun _ => ?_⟩)
    refine c_room_f b1 b2 hN _ (fun b N2 N3 hN3 => ⟨fun _ => ov _ _ _ hN3, fun _ => c_next_f ht hN3 _ (fun N4 hN4 => ?_)⟩)
    exact c_sum_f b1 b2 hN4 _ (c_put_any _ (fun R3 => ov _ _ _ hN4))
theorem c_pcmp_f {c : Nat → Nat} {L : Nat} {B Mt : gS} (ht : txC c L B Mt) {f : Nat} (b1 : 1 ≤ f) (b2 : f < 10000) {M0 Mr R : gS} (hr : flC c L f B Mr) (Q : gS → gS → gS → gS → Prop) (ov : ∀ N0 N R', flC c L f B N → Q N0 N Mt R') : wX9_readSum M0 Mr Mt R (fun (N8 : gS) (N9 : gS) (N10 : gS) (N11 : gS) => (wX9_comparisonAhead N8 N9 N10 N11 (fun (r12 : Int32) (N13 : gS) (N14 : gS) (N15 : gS) (N16 : gS) => ((r12 = (-100 : Int32) → (wX7_fail (0 : Int32) N14 N15 (fun (N36 : gS) (N37 : gS) => (Q N13 N36 N37 N16)))) ∧ (¬ r12 = (-100 : Int32) → (wX9_isRoomForNode N13 N14 N15 N16 (fun (b23 : Bool) (N19 : gS) (N20 : gS) (N21 : gS) (N22 : gS) => (((bI b23) = 0 → (Q N19 N20 N21 N22)) ∧ (¬ (bI b23) = 0 → (wX7_advance N20 N21 (fun (N26 : gS) (N27 : gS) => (wX9_readSum N19 N26 N27 N22 (fun (N29 : gS) (N30 : gS) (N31 : gS) (N32 : gS) => (wX8_put r12 N32 (fun (N34 : gS) => (Q N29 N30 N31 N34)))))))))))))))) := by
  refine c_sum_f b1 b2 hr _ (c_cmpA_any _ (fun r => ⟨fun _ => c_fail_f b1 b2 hr 0 _ (fun N2 hN2 => ov _ _ _ hN2), fun _ => ?_⟩))
  refine c_room_f b1 b2 hr _ (fun b N2 N3 hN3 => ⟨fun _ => ov _ _ _ hN3, fun _ => c_next_f ht hN3 _ (fun N4 hN4 => ?_)⟩)
  exact c_sum_f b1 b2 hN4 _ (c_put_any _ (fun R3 => ov _ _ _ hN4))
theorem c_testL {c : Nat → Nat} {L e : Nat} (hFc : factC c L e) {B Mt : gS} (ht : txC c L B Mt) (Q : gS → gS → gS → gS → Prop) : ∀ n i a o p m ts M0 Mr R, L - p < n → 2 * i ≤ p → ts.length + bNn a + bNn o ≤ p → rdS c L p m ts B M0 Mr R → okQ c L B Mt R Q (pTL (pFc c L e) c L n a o p m ts) → wX9_readTest_7 (wN (e + 1)) Q (n + 1) (nI (10 - e)) (bI a) (bI o) (nI i) M0 Mr Mt R := by
  have hL := ht.2.1
  have hok := pFc_ok (c := c) hL e
  intro n
  induction n with
  | zero => intro i a o p m ts M0 Mr R h; omega
  | succ n ih =>
    intro i a o p m ts M0 Mr R hn hi hlen hs hQ
    obtain ⟨s1, s2, s3, s4, s5, s6, s7⟩ := id hs
    have hp := s4.1
    rw [pTL] at hQ
    obtain ⟨h1, hF⟩ := hQ
    rw [wX9_readTest_7]
    refine sw_f (nI_ge (b := 400) (by omega) (by omega)) (sw_t s3 ?_)
    have l7 : ∀ f y1 y2 y3 y4 M0 M R, 1 ≤ f → f < 10000 → flC c L f B M → (∀ N0 N R', flC c L f B N → Q N0 N Mt R') → wX9_readTest_7 (wN (e + 1)) Q (n + 1) y1 y2 y3 y4 M0 M Mt R := by
      intro f y1 y2 y3 y4 M0 M R b1 b2 hM ov
      rw [wX9_readTest_7]
      exact ⟨fun _ => ov _ _ _ hM, fun _ => sw_f (by rw [hM.2.1]; exact nI_ne0 (by omega) (by omega)) (ov _ _ _ hM)⟩
    refine hFc B Mt ht p m ts M0 Mr R _ hs ⟨fun p1 m1 t1 e1 N0 N R1 c1 f1 g7 r1 g2 k1 => ?_, fun f ef b1 b2 N0 N R1 hN => ?_⟩
    · obtain ⟨a1, a2, a3, a4, _⟩ := hok.1 _ _ _ _ _ _ hp s6 e1
      have al := addT_len (hok.1 _ _ _ _ _ _ hp s6 e1)
      rw [e1] at h1 hF
      have h1 : ∀ p' m' ts', (if lsW c L p1 = Wand then pTL (pFc c L e) c L n true o (nxP c L p1) m1 (t1 ++ bT a 12) else if lsW c L p1 = Wor then pTL (pFc c L e) c L n false true (nxP c L p1) m1 (t1 ++ bT a 12 ++ bT o 13) else .inr (p1, m1, t1 ++ bT a 12 ++ bT o 13) : Sum Nat (Nat × Nat × List Nat)) = .inr (p', m', ts') → ∀ N0 N R', rcF R R' → frF B N → mg N 7 = 0 → rdC c L p' N → mg N0 2 = nI m' → rkC ts' R' → Q N0 N Mt R' := h1
      have hF : ∀ f, (if lsW c L p1 = Wand then pTL (pFc c L e) c L n true o (nxP c L p1) m1 (t1 ++ bT a 12) else if lsW c L p1 = Wor then pTL (pFc c L e) c L n false true (nxP c L p1) m1 (t1 ++ bT a 12 ++ bT o 13) else .inr (p1, m1, t1 ++ bT a 12 ++ bT o 13) : Sum Nat (Nat × Nat × List Nat)) = .inl f → 1 ≤ f → f < 10000 → ∀ N0 N R', flC c L f B N → Q N0 N Mt R' := hF
      have tN := txC_F ht f1
      have la : (t1 ++ bT a 12).length = t1.length + bNn a := by rw [List.length_append]; cases a <;> rfl
      have lo : (t1 ++ bT a 12 ++ bT o 13).length = t1.length + bNn a + bNn o := by rw [List.length_append, la]; cases o <;> rfl
      have c43 : ∀ R2, rcF R1 R2 → rkC (t1 ++ bT a 12) R2 → wX9_readTest_43 (wN (e + 1)) (fun (y1 : Int32) (y2 : Int32) (y3 : Int32) (y4 : Int32) (M0 : gS) (M1 : gS) (M2 : gS) (M3 : gS) => wX9_readTest_7 (wN (e + 1)) Q (n + 1) y1 y2 y3 y4 M0 M1 M2 M3) Q (nI (10 - e)) (bI o) (nI i) N0 N Mt R2 := by
        intro R2 c2 k2
        unfold wX9_readTest_43
        refine c_name tN r1 (by omega) _ ?_
        rw [na_3]
        by_cases e2 : lsW c L p1 = Wand
        · rw [if_pos e2] at h1 hF
          have pL := ls_lt ok_and e2
          have hgt := nxP_gt (c := c) pL
          rw [if_pos e2]
          refine sw_t rfl ?_
          unfold wX9_readTest_64 wX9_readTest_94 wX9_readTest_103
          refine sw_f (by decide) (sw_f (by decide) (c_next tN r1 _ (fun N4 f4 r4 x4 h4 => ?_)))
          rw [h4, nI_1]
          have bt : bNn true = 1 := rfl
          exact ih (i + 1) true o _ m1 _ N0 N4 R2 (by omega) (by omega) (by rw [la]; omega) ⟨by rw [la]; omega, frF_trans f1 (frF_7 f4), by rw [f4.2.1]; exact g7, r4, g2, a4, k2⟩ ⟨fun p' m' ts' ee N0' N' R' z1 => h1 p' m' ts' ee N0' N' R' (rcF_trans c1 (rcF_trans c2 z1)), hF⟩
        · rw [if_neg e2] at h1 hF
          rw [if_neg e2]
          have c82 : ∀ R3 y5, rcF R2 R3 → rkC (t1 ++ bT a 12 ++ bT o 13) R3 → (y5 = 1 ↔ lsW c L p1 = Wor) → wX9_readTest_82 (wN (e + 1)) (fun (y1 : Int32) (y2 : Int32) (y3 : Int32) (y4 : Int32) (M0 : gS) (M1 : gS) (M2 : gS) (M3 : gS) => wX9_readTest_7 (wN (e + 1)) Q (n + 1) y1 y2 y3 y4 M0 M1 M2 M3) Q (nI (10 - e)) 0 (nI i) y5 N0 N Mt R3 := by
            intro R3 y5 c3 k3 hy
            unfold wX9_readTest_82 wX9_readTest_93 wX9_readTest_94 wX9_readTest_103
            by_cases e3 : lsW c L p1 = Wor
            · rw [if_pos e3] at h1 hF
              have pL := ls_lt ok_or e3
              have hgt := nxP_gt (c := c) pL
              refine sw_t (hy.2 e3) (sw_t rfl (sw_f (by decide) (c_next tN r1 _ (fun N4 f4 r4 x4 h4 => ?_))))
              rw [h4, nI_1]
              have bt : bNn true = 1 := rfl
              have bt0 : bNn false = 0 := rfl
              exact ih (i + 1) false true _ m1 _ N0 N4 R3 (by omega) (by omega) (by rw [lo]; omega) ⟨by rw [lo]; omega, frF_trans f1 (frF_7 f4), by rw [f4.2.1]; exact g7, r4, g2, a4, k3⟩ ⟨fun p' m' ts' ee N0' N' R' z1 => h1 p' m' ts' ee N0' N' R' (rcF_trans c1 (rcF_trans c2 (rcF_trans c3 z1))), hF⟩
            · rw [if_neg e3] at h1 hF
              exact sw_f (fun z => e3 (hy.1 z)) (sw_t rfl (sw_t rfl (h1 _ _ _ rfl N0 N R3 (rcF_trans c1 (rcF_trans c2 c3)) f1 g7 r1 g2 k3)))
          have c64 : ∀ y5, (y5 = 1 ↔ lsW c L p1 = Wor) → wX9_readTest_64 (wN (e + 1)) (fun (y1 : Int32) (y2 : Int32) (y3 : Int32) (y4 : Int32) (M0 : gS) (M1 : gS) (M2 : gS) (M3 : gS) => wX9_readTest_7 (wN (e + 1)) Q (n + 1) y1 y2 y3 y4 M0 M1 M2 M3) Q (nI (10 - e)) (bI o) (nI i) y5 0 N0 N Mt R2 := by
            intro y5 hy
            unfold wX9_readTest_64
            refine sw_t rfl ?_
            cases o with
            | false =>
              refine sw_t rfl (c82 R2 y5 (rcF_refl R2) ?_ hy)
              show rkC (t1 ++ bT a 12 ++ []) R2
              rw [List.append_nil]
              exact k2
            | true =>
              have bt : bNn true = 1 := rfl
              exact sw_f (by decide) (c_put k2 (by rw [la]; omega) (t := 13) (by decide) _ (fun R3 c3 k3 => c82 R3 y5 c3 k3 hy))
          by_cases e3 : lsW c L p1 = Wor
          · rw [if_pos e3]
            exact sw_f (by decide) (c64 _ ⟨fun _ => e3, fun _ => rfl⟩)
          · rw [if_neg e3]
            exact sw_f (by decide) (c64 _ ⟨fun z => absurd z (by decide), fun z => absurd z e3⟩)
      cases a with
      | false =>
        refine sw_t rfl (c43 R1 (rcF_refl R1) ?_)
        show rkC (t1 ++ []) R1
        rw [List.append_nil]
        exact k1
      | true =>
        have bt : bNn true = 1 := rfl
        exact sw_f (by decide) (c_put k1 (by omega) (t := 12) (by decide) _ (fun R2 c2 k2 => c43 R2 c2 k2))
    · rw [ef] at hF
      have ov : ∀ N0 N R', flC c L f B N → Q N0 N Mt R' := fun N0 N R' hN => hF f rfl b1 b2 N0 N R' hN
      have o103 : ∀ y1 y2 y3 y4 N0 N R, flC c L f B N → wX9_readTest_103 (wN (e + 1)) (fun (y1 : Int32) (y2 : Int32) (y3 : Int32) (y4 : Int32) (M0 : gS) (M1 : gS) (M2 : gS) (M3 : gS) => wX9_readTest_7 (wN (e + 1)) Q (n + 1) y1 y2 y3 y4 M0 M1 M2 M3) Q y1 y2 y3 y4 N0 N Mt R := by
        intro y1 y2 y3 y4 N0 N R hN
        unfold wX9_readTest_103
        exact c_next_f ht hN _ (fun N4 hN4 x4 _ => l7 f _ _ _ _ _ _ _ b1 b2 hN4 ov)
      have o94 : ∀ y1 y2 y3 y4 N0 N R, flC c L f B N → wX9_readTest_94 (wN (e + 1)) (fun (y1 : Int32) (y2 : Int32) (y3 : Int32) (y4 : Int32) (M0 : gS) (M1 : gS) (M2 : gS) (M3 : gS) => wX9_readTest_7 (wN (e + 1)) Q (n + 1) y1 y2 y3 y4 M0 M1 M2 M3) Q y1 y2 y3 y4 N0 N Mt R := by
        intro y1 y2 y3 y4 N0 N R hN
        unfold wX9_readTest_94
        exact ⟨fun _ => ⟨fun _ => ov _ _ _ hN, fun _ => o103 _ _ _ _ _ _ _ hN⟩, fun _ => o103 _ _ _ _ _ _ _ hN⟩
      have o82 : ∀ y1 y2 y4 y5 N0 N R, flC c L f B N → wX9_readTest_82 (wN (e + 1)) (fun (y1 : Int32) (y2 : Int32) (y3 : Int32) (y4 : Int32) (M0 : gS) (M1 : gS) (M2 : gS) (M3 : gS) => wX9_readTest_7 (wN (e + 1)) Q (n + 1) y1 y2 y3 y4 M0 M1 M2 M3) Q y1 y2 y4 y5 N0 N Mt R := by
        intro y1 y2 y4 y5 N0 N R hN
        unfold wX9_readTest_82 wX9_readTest_93
        exact ⟨fun _ => o94 _ _ _ _ _ _ _ hN, fun _ => o94 _ _ _ _ _ _ _ hN⟩
      have o43 : ∀ y1 y3 y4 N0 N R, flC c L f B N → wX9_readTest_43 (wN (e + 1)) (fun (y1 : Int32) (y2 : Int32) (y3 : Int32) (y4 : Int32) (M0 : gS) (M1 : gS) (M2 : gS) (M3 : gS) => wX9_readTest_7 (wN (e + 1)) Q (n + 1) y1 y2 y3 y4 M0 M1 M2 M3) Q y1 y3 y4 N0 N Mt R := by
        intro y1 y3 y4 N0 N R hN
        unfold wX9_readTest_43 wX9_readTest_64
        refine c_name_f ht hN (by omega) _ (fun r => ⟨fun _ => ⟨fun _ => ⟨fun _ => o82 _ _ _ _ _ _ _ hN, fun _ => c_put_any _ (fun R2 => o82 _ _ _ _ _ _ _ hN)⟩, fun _ => o94 _ _ _ _ _ _ _ hN⟩, fun _ => ⟨fun _ => ⟨fun _ => o82 _ _ _ _ _ _ _ hN, fun _ => c_put_any _ (fun R2 => o82 _ _ _ _ _ _ _ hN)⟩, fun _ => o94 _ _ _ _ _ _ _ hN⟩⟩)
      exact ⟨fun _ => o43 _ _ _ _ _ _ hN, fun _ => c_put_any _ (fun R2 => o43 _ _ _ _ _ _ hN)⟩
theorem c_test {c : Nat → Nat} {L e : Nat} (hFc : factC c L e) {B Mt : gS} (ht : txC c L B Mt) {p m : Nat} {ts : List Nat} {M0 Mr R : gS} (Q : gS → gS → gS → gS → Prop) (hs : rdS c L p m ts B M0 Mr R) (hQ : okQ c L B Mt R Q (pTst (pFc c L e) c L p m ts)) : wX9_readTest (wN (e + 1)) (nI (10 - e)) M0 Mr Mt R Q := by
  have b0 : bNn false = 0 := rfl
  have := hs.1
  exact ⟨L - p + 1 + 1, c_testL hFc ht Q (L - p + 1) 0 false false p m ts M0 Mr R (by omega) (by omega) (by omega) hs hQ⟩
theorem c_test_f {c : Nat → Nat} {L f : Nat} {T : Int32 → Int32 → gS → gS → gS → gS → (gS → gS → gS → gS → Prop) → Prop} {d : Int32} (b1 : 1 ≤ f) (b2 : f < 10000) {B Mt M0 Mr R : gS} (hr : flC c L f B Mr) (Q : gS → gS → gS → gS → Prop) (h : Q M0 Mr Mt R) : wX9_readTest T d M0 Mr Mt R Q := by
  refine ⟨1, ?_⟩
  rw [wX9_readTest_7]
  exact sw_f (by decide) (sw_f (by rw [hr.2.1]; exact nI_ne0 (by omega) (by omega)) h)
theorem c_factF (c : Nat → Nat) (L : Nat) : ∀ e, e ≤ 10 → factF c L e := by
  intro e
  induction e with
  | zero =>
    intro _ B Mt ht f M0 Mr R Q b1 b2 hr ov
    have nest : ∀ z, wX9_readFact_34 (wN 1) Q (nI 10) z M0 Mr Mt R := by
      intro z
      unfold wX9_readFact_34
      rw [wN]
      unfold wX9_readNested
      exact sw_f (by decide) (c_fail_f b1 b2 hr 2 _ (fun N hN => ov _ _ _ hN))
    have f17 : ∀ z, wX9_readFact_17 (wN 1) Q (nI 10) z M0 Mr Mt R := by
      intro z
      unfold wX9_readFact_17
      exact ⟨fun _ => c_isSign_any _ (fun b => ⟨fun _ => c_pcmp_f ht b1 b2 hr Q ov, fun _ => nest z⟩), fun _ => nest z⟩
    show wX9_readFact (wN 1) (nI 10) M0 Mr Mt R Q
    unfold wX9_readFact
    exact c_name_f ht hr (by omega) _ (fun r => ⟨fun _ => f17 1, fun _ => f17 0⟩)
  | succ e ih =>
    intro he B Mt ht f M0 Mr R Q b1 b2 hr ov
    have ihf := ih (by omega)
    have ed : nI (10 - (e + 1)) + 1 = nI (10 - e) := by rw [nI_1]; congr 1; omega
    have nest : ∀ z, wX9_readFact_34 (wN (e + 1 + 1)) Q (nI (10 - (e + 1))) z M0 Mr Mt R := by
      intro z
      unfold wX9_readFact_34
      rw [wN]
      unfold wX9_readNested
      refine sw_t (show nI (10 - (e + 1)) < nI 10 from nI_lt (by omega) (by omega)) (c_next_f ht hr _ (fun N hN => ⟨fun _ => ?_, fun _ => ?_⟩))
      · exact c_test_f b1 b2 hN _ (c_isSign_any _ (fun b => ⟨fun _ => c_fail_f b1 b2 hN 0 _ (fun N2 hN2 => ov _ _ _ hN2), fun _ => c_next_f ht hN _ (fun N2 hN2 => ov _ _ _ hN2)⟩))
      · rw [ed]
        exact ihf B Mt ht f M0 N R _ b1 b2 hN (fun N0 N2 R2 hN2 => c_put_any _ (fun R3 => ov _ _ _ hN2))
    have f17 : ∀ z, wX9_readFact_17 (wN (e + 1 + 1)) Q (nI (10 - (e + 1))) z M0 Mr Mt R := by
      intro z
      unfold wX9_readFact_17
      exact ⟨fun _ => c_isSign_any _ (fun b => ⟨fun _ => c_pcmp_f ht b1 b2 hr Q ov, fun _ => nest z⟩), fun _ => nest z⟩
    unfold wX9_readFact
    exact c_name_f ht hr (by omega) _ (fun r => ⟨fun _ => f17 1, fun _ => f17 0⟩)
theorem c_factC (c : Nat → Nat) (L : Nat) : ∀ e, e ≤ 10 → factC c L e := by
  intro e
  induction e with
  | zero =>
    intro _ B Mt ht p m ts M0 Mr R Q hs hQ
    obtain ⟨s1, s2, s3, s4, s5, s6, s7⟩ := id hs
    have hL := ht.2.1
    have hp := s4.1
    have tM := txC_F ht s2
    rw [pFc_0] at hQ
    have nest : ∀ z, (lsW c L p = Wnot ∨ (p < L ∧ c p = 91)) → wX9_readFact_34 (wN 1) Q (nI 10) z M0 Mr Mt R := by
      intro z hz
      rw [if_pos hz] at hQ
      unfold wX9_readFact_34
      rw [wN]
      unfold wX9_readNested
      exact sw_f (by decide) (c_fail0 s4 s3 2 _ (fun N hN => hQ.2 _ rfl (by omega) (by omega) M0 N R ⟨frF_trans s2 hN.1, hN.2⟩))
    show wX9_readFact (wN 1) (nI 10) M0 Mr Mt R Q
    unfold wX9_readFact
    refine c_name tM s4 (by omega) _ ?_
    rw [na_4]
    unfold wX9_readFact_17
    by_cases e1 : lsW c L p = Wnot
    · rw [if_pos e1]
      exact sw_t rfl (sw_f (by decide) (nest 1 (Or.inl e1)))
    · rw [if_neg e1]
      refine sw_f (by decide) (sw_t rfl (c_isSignX (x := 91) tM s4 (by omega) _ ?_))
      by_cases e2 : p < L ∧ c p = 91
      · rw [decide_eq_true e2]
        exact bw_t (nest 0 (Or.inr e2))
      · rw [decide_eq_false e2]
        rw [if_neg (fun z => z.elim e1 e2)] at hQ
        exact bw_f (c_pcmp ht hs Q hQ)
  | succ e ih =>
    intro he B Mt ht p m ts M0 Mr R Q hs hQ
    obtain ⟨s1, s2, s3, s4, s5, s6, s7⟩ := id hs
    have hL := ht.2.1
    have hp := s4.1
    have tM := txC_F ht s2
    have ihc := ih (by omega)
    have hok := pFc_ok (c := c) hL e
    have ed : nI (10 - (e + 1)) + 1 = nI (10 - e) := by rw [nI_1]; congr 1; omega
    have hnx := nxP_le (c := c) hp
    rw [pFc_s] at hQ
    unfold wX9_readFact
    refine c_name tM s4 (by omega) _ ?_
    rw [na_4]
    unfold wX9_readFact_17
    by_cases e1 : lsW c L p = Wnot
    · rw [if_pos e1] at hQ ⊢
      have pL := ls_lt ok_not e1
      have hgt := nxP_gt (c := c) pL
      obtain ⟨h1, hF⟩ := hQ
      refine sw_t rfl (sw_f (by decide) ?_)
      unfold wX9_readFact_34
      rw [wN]
      unfold wX9_readNested
      refine sw_t (show nI (10 - (e + 1)) < nI 10 from nI_lt (by omega) (by omega)) (c_next tM s4 _ (fun N f r => sw_f (by decide) ?_))
      rw [ed]
      refine ihc B Mt ht (nxP c L p) m ts M0 N R _ ⟨by omega, frF_trans s2 (frF_7 f), by rw [f.2.1]; exact s3, r, s5, s6, s7⟩ ⟨fun p1 m1 t1 ee N0 N2 R1 c1 f1 g7 r1 g2 k1 => ?_, fun fl ef b1 b2 N0 N2 R1 hN => ?_⟩
      · obtain ⟨a1, a2, a3, a4, _⟩ := hok.1 _ _ _ _ _ _ hnx s6 ee
        have al := addT_len (hok.1 _ _ _ _ _ _ hnx s6 ee)
        rw [ee] at h1
        exact c_put k1 (by omega) (t := 11) (by decide) _ (fun R2 c2 k2 => h1 _ _ _ rfl N0 N2 R2 (rcF_trans c1 c2) f1 g7 r1 g2 k2)
      · rw [ef] at hF
        exact c_put_any _ (fun R2 => hF fl rfl b1 b2 N0 N2 R2 hN)
    · rw [if_neg e1] at hQ ⊢
      refine sw_f (by decide) (sw_t rfl (c_isSignX (x := 91) tM s4 (by omega) _ ?_))
      by_cases e2 : p < L ∧ c p = 91
      · rw [decide_eq_true e2]
        rw [if_pos e2] at hQ
        have hgt := nxP_gt (c := c) e2.1
        obtain ⟨h1, hF⟩ := hQ
        refine bw_t ?_
        unfold wX9_readFact_34
        rw [wN]
        unfold wX9_readNested
        refine sw_t (show nI (10 - (e + 1)) < nI 10 from nI_lt (by omega) (by omega)) (c_next tM s4 _ (fun N f r => sw_t rfl ?_))
        rw [ed]
        refine c_test ihc ht _ (⟨by omega, frF_trans s2 (frF_7 f), by rw [f.2.1]; exact s3, r, s5, s6, s7⟩ : rdS c L (nxP c L p) m ts B M0 N R) ⟨fun p1 m1 t1 ee N0 N2 R1 c1 f1 g7 r1 g2 k1 => ?_, fun fl ef b1 b2 N0 N2 R1 hN => ?_⟩
        · rw [ee] at h1 hF
          have h1' : ∀ p' m' ts', (if p1 < L ∧ c p1 = 93 then Sum.inr (nxP c L p1, m1, t1) else Sum.inl (1 + 8 * p1 + 0) : Sum Nat (Nat × Nat × List Nat)) = .inr (p', m', ts') → ∀ N0 N R', rcF R R' → frF B N → mg N 7 = 0 → rdC c L p' N → mg N0 2 = nI m' → rkC ts' R' → Q N0 N Mt R' := h1
          have hF' : ∀ f, (if p1 < L ∧ c p1 = 93 then Sum.inr (nxP c L p1, m1, t1) else Sum.inl (1 + 8 * p1 + 0) : Sum Nat (Nat × Nat × List Nat)) = .inl f → 1 ≤ f → f < 10000 → ∀ N0 N R', flC c L f B N → Q N0 N Mt R' := hF
          have tN := txC_F ht f1
          have hp1 := r1.1
          refine c_isSignX (x := 93) tN r1 (by omega) _ ?_
          by_cases e3 : p1 < L ∧ c p1 = 93
          · rw [decide_eq_true e3]
            rw [if_pos e3] at h1'
            exact bw_t (c_next tN r1 _ (fun N4 f4 r4 => h1' _ _ _ rfl N0 N4 R1 c1 (frF_trans f1 (frF_7 f4)) (by rw [f4.2.1]; exact g7) r4 g2 k1))
          · rw [decide_eq_false e3]
            rw [if_neg e3] at hF'
            exact bw_f (c_fail0 r1 g7 0 _ (fun N4 hN4 => hF' _ rfl (by omega) (by omega) N0 N4 R1 ⟨frF_trans f1 hN4.1, hN4.2⟩))
        · rw [ef] at hF
          have ov : ∀ N0 N R', flC c L fl B N → Q N0 N Mt R' := fun N0 N R' hN => hF fl rfl b1 b2 N0 N R' hN
          exact c_isSign_any _ (fun b => ⟨fun _ => c_fail_f b1 b2 hN 0 _ (fun N4 hN4 => ov _ _ _ hN4), fun _ => c_next_f ht hN _ (fun N4 hN4 => ov _ _ _ hN4)⟩)
      · rw [decide_eq_false e2]
        rw [if_neg e2] at hQ
        exact bw_f (c_pcmp ht hs Q hQ)
