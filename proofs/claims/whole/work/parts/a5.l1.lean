-- PURE: lots by rules (in part printed by program)
theorem m_runs2 {d1 d2 : (Nat → Int32) → Int32} (hok : okD (dd_r d1 d2)) {z1 z2 : Int32} {M : gS} (h1 : chM M z1 d1) (h2 : chM M z2 d2) (hw : wfS (ma M 25)) (ho : onS (ma M 25)) (hg : ma M 25 3 = 1) (Q : Int32 → gS → Prop) (h : ∀ N, frm M N → ma N 25 = endS (lotU d1 d2 (ma M 25)) → Q (nI (winN (lotU d1 d2 (ma M 25)))) N) : wX12_runs z1 z2 (lookM M) Q := by
  unfold lookM
  unfold lotU at h
  by_cases z : canDoN (ma M 25) = true
  · rw [if_pos z]
    rw [if_pos z] at h
    exact m_runs hok h1 h2 hw ho hg Q h
  · rw [if_neg z]
    rw [if_neg z] at h
    refine ⟨1, ?_⟩
    rw [wX12_runs_0]
    have e25 : ma (endM M) 25 = endS (ma M 25) := by unfold endM; rw [ma_sF1]
    exact m_goes_f (by rw [e25, end_3]; decide) (bw_f (h (endM M) (frm_end M) e25))
theorem mx_sx1 (M : gS) (v : Int64) : mx (sx M 33 v) 33 = v := by rw [mx_sx, if_pos rfl]
/-- all stays but the row, what is drawn, and what is ended -/
def frx (M N : gS) : Prop := (∀ k, k ≠ 25 → ma N k = ma M k) ∧ (∀ k, k ≠ 23 → k ≠ 26 → mg N k = mg M k)
theorem frx_trans {A B C : gS} (h : frx A B) (g : frx B C) : frx A C := ⟨fun k hk => (g.1 k hk).trans (h.1 k hk), fun k h1 h2 => (g.2 k h1 h2).trans (h.2 k h1 h2)⟩
theorem m_drawn {d1 d2 : (Nat → Int32) → Int32} (hok : okD (dd_r d1 d2)) {q1 : Nat} (hq1 : q1 < 2 ^ 31) {z2 : Int32} {M : gS} (h1 : chM M (nI q1) d1) (h2 : chM M z2 d2) (hw : wfS (ma M 25)) (h0 : 1 ≤ aN (ma M 25) 0) {x p : Nat} (hx : mx M 33 = lN x) (hl : x < 2 ^ 31) (hp : p ≤ 7) (Q : Int32 → gS → Prop) (h : ∀ N, frx M N → mx N 33 = lN (nx4 x) → ma N 25 = endS (lotU d1 d2 (lotS (ma M 25) p x)) → Q (nI (winN (lotU d1 d2 (lotS (ma M 25) p x)))) N) : wX12_drawn (nI q1) z2 (nI p) M Q := by
  have b0 : aN (ma M 25) 0 ≤ 4 := hw.b 0 rfl
  have e0 := hw.n 0 rfl
  have t1 := dv_lt (nx x) (b := aN (ma M 25) 0) h0
  have t3 := dv_lt (nx (nx (nx x))) (b := p + 1) (by omega)
  have t4 := dv_lt (nx4 x) (b := p + 1) (by omega)
  obtain ⟨l1, l2, l3, l4⟩ := lotS_ok hw h0 (x := x) hp
  unfold wX12_drawn
  rw [e0]
  refine m_draw hx hl h0 (by omega) _ (m_draw (b := 2) (x := nx x) (mx_sx1 _ _) (nx_lt _) (by omega) (by omega) _ ⟨3, ?_⟩)
  rw [wX12_drawn_22, nI_1]
  refine sw_f (by decide) (m_draw (x := nx (nx x)) (mx_sx1 _ _) (nx_lt _) (by omega) (by omega) _ ⟨show vp_in (nI 12) 44 from vp_in_nI (by omega) (by decide), fun M7 h7 x8 h8 => ?_⟩)
  have e8 : x8 = 1 := by rw [h8]; rfl
  have f7 : frx M M7 := by rw [h7]; exact ⟨fun k hk => by rw [ma_sa, if_neg hk]; rfl, fun k _ _ => rfl⟩
  have x7 : mx M7 33 = lN (nx (nx (nx x))) := by rw [h7, mx_sa, mx_sx1]
  have r7 : ma M7 25 = upd (ma M 25) 12 (nI (dv (nx (nx (nx x))) (p + 1))) := by rw [h7]; rfl
  rw [e8, wX12_drawn_22, nI_1]
  refine sw_f (by decide) (m_draw x7 (nx_lt _) (by omega) (by omega) _ ⟨show vp_in (nI 13) 44 from vp_in_nI (by omega) (by decide), fun M9 h9 x10 h10 => ?_⟩)
  have e10 : x10 = 2 := by rw [h10]; rfl
  have f9 : frx M M9 := frx_trans f7 (by rw [h9]; exact ⟨fun k hk => by rw [ma_sa, if_neg hk]; rfl, fun k _ _ => rfl⟩)
  have x9 : mx M9 33 = lN (nx4 x) := by rw [h9, mx_sa, mx_sx1]; rfl
  have r9 : ma M9 25 = rowP (ma M 25) (dv (nx (nx (nx x))) (p + 1)) (dv (nx4 x) (p + 1)) := by
    rw [h9]
    show upd (ma M7 25) 13 _ = _
    rw [r7]
    rfl
  rw [e10, wX12_drawn_22]
  refine sw_t (by decide) (sw_t (nI_pos' hq1) ?_)
  unfold wX12_drawn_107
  have w9 : wfS (ma M9 25) := by rw [r9]; exact rowP_wf hw (by omega) (by omega)
  refine m_verseOf M9 w9 _ (by omega) _ ?_
  rw [r9, rowP_v]
  refine m_begins M9 _ _ _ ?_
  have rS : ma (sF M9 25 (beginS (ma M9 25) (verseN (ma M 25) (dv (nx x) (aN (ma M 25) 0))) (dv (nx (nx x)) 2))) 25 = lotS (ma M 25) p x := by rw [ma_sF1, r9]; rfl
  refine m_looks _ (by rw [rS]; exact l1) _ ?_
  refine m_runs2 (M := sF M9 25 (beginS (ma M9 25) (verseN (ma M 25) (dv (nx x) (aN (ma M 25) 0))) (dv (nx (nx x)) 2))) hok (chM_frm h1 (f9.1 3 (by decide)) (f9.1 5 (by decide)) (f9.1 6 (by decide))) (chM_frm h2 (f9.1 3 (by decide)) (f9.1 5 (by decide)) (f9.1 6 (by decide))) (by rw [rS]; exact l1) (by rw [rS]; exact l2) (by rw [rS]; exact l3) _ (fun N f e => ?_)
  rw [rS] at e ⊢
  refine h N (frx_trans f9 ⟨fun k hk => ?_, fun k h1 h2 => f.2.1 k h1 h2⟩) ?_ e
  · rw [f.1 k hk, ma_sF, if_neg hk]
  · rw [f.2.2 33]; exact x9
theorem m_lots_l {d1 d2 : (Nat → Int32) → Int32} (hok : okD (dd_r d1 d2)) {q1 : Nat} (hq1 : q1 < 2 ^ 31) {z2 : Int32} {M : gS} (h1 : chM M (nI q1) d1) (h2 : chM M z2 d2) (hw : wfS (ma M 25)) (h0 : 1 ≤ aN (ma M 25) 0) (h27 : ∀ j, j < 44 → ma M 27 j = ma M 25 j) {m p : Nat} (hm : m ≤ 50) (hp : p ≤ 7) {what : Int32} (Q : Int32 → gS → Prop) : ∀ n i x acc N, i + n = m → frx M N → ma N 25 = ma M 25 → mx N 33 = lN x → x < 2 ^ 31 → (∀ N', frx M N' → ma N' 25 = ma M 25 → Q (lotsN d1 d2 (ma M 25) p what n x acc) N') → wX12_lots_107 Q (n + 1) (nI q1) z2 (nI m) (nI p) what acc (nI i) N := by
  intro n
  induction n with
  | zero =>
    intro i x acc N hi hf h25 hx hl h
    rw [wX12_lots_107]
    exact sw_t (nI_le (by omega) (by omega)) (h N hf h25)
  | succ n ih =>
    intro i x acc N hi hf h25 hx hl h
    rw [wX12_lots_107]
    refine sw_f (nI_ge (by omega) (by omega)) ?_
    refine m_drawn hok hq1 (chM_frm h1 (hf.1 3 (by decide)) (hf.1 5 (by decide)) (hf.1 6 (by decide))) (chM_frm h2 (hf.1 3 (by decide)) (hf.1 5 (by decide)) (hf.1 6 (by decide))) (by rw [h25]; exact hw) (by rw [h25]; exact h0) hx hl hp _ (fun N1 f1 x1 e1 => ?_)
    rw [h25] at e1 ⊢
    obtain ⟨l1, l2, l3, l4⟩ := lotS_ok hw h0 (x := x) hp
    obtain ⟨u1, u2⟩ := lotU_ok hok l1 l2
    have f2 := frx_trans hf f1
    have e27 : ma N1 27 = ma M 27 := f2.1 27 (by decide)
    have go : ∀ z, z = addR what (lotU d1 d2 (lotS (ma M 25) p x)) (ma M 25) → wX12_lots_161 (fun (y1 : Int32) (y2 : Int32) (y3 : Int32) (y4 : Int32) (y5 : Int32) (y6 : Int32) (y7 : Int32) (M : gS) => wX12_lots_107 Q (n + 1) y1 y2 y3 y4 y5 y6 y7 M) Q (nI q1) z2 (nI m) (nI p) what (nI i) acc z N1 := by
      intro z hz
      unfold wX12_lots_161
      intro x2 hx2
      refine m_putsBack _ (fun x4 hx4 => ?_)
      rw [hx2, hz, hx4, nI_1, e1, e27, back_row (s := ma M 25) (fun j hj => by rw [end_keep u1 (by omega) (by omega) (by omega), u2 j (by omega), l4 j (by omega)]) h27]
      refine ih (i + 1) (nx4 x) _ _ (by omega) ⟨fun k hk => ?_, fun k h1 h2 => f2.2 k h1 h2⟩ (ma_sF1 _ _ _) x1 (nx_lt _) h
      rw [ma_sF, if_neg hk]
      exact f2.1 k hk
    unfold addR at go
    by_cases c2 : what = 2
    · refine sw_t c2 (go _ ?_)
      rw [if_pos c2, e1, e27, h27 9 (by omega), end_keep u1 (by omega) (by omega) (by omega)]
    · refine sw_f c2 ?_
      rw [if_neg c2] at go
      by_cases cw : nI (winN (lotU d1 d2 (lotS (ma M 25) p x))) = what
      · exact sw_t cw (go _ (by rw [if_pos cw]))
      · exact sw_f cw (go _ (by rw [if_neg cw]))
/-- what lots asks of its numbers -/
def lotOK (s : Nat → Int32) (p3 p4 p5 : Int32) : Prop := ¬ s 0 ≤ 0 ∧ (1 ≤ p3 ∧ p3 ≤ 50) ∧ (0 ≤ p4 ∧ p4 ≤ 7) ∧ (0 ≤ p5 ∧ p5 ≤ 2)
theorem eqM_frx {M N : gS} {f : Nat → Int32} {x : Int64} (hf : frx (sx (sF M 27 f) 33 x) N) (h : ma N 25 = ma M 25) : eqM M N := by
  refine ⟨hf.2 1 (by decide) (by decide), hf.2 2 (by decide) (by decide), ?_, ?_, ?_, ?_, h, ?_, ?_⟩
  · exact hf.1 0 (by decide)
  · exact hf.1 3 (by decide)
  · exact hf.1 5 (by decide)
  · exact hf.1 6 (by decide)
  · exact hf.1 35 (by decide)
  · exact hf.1 36 (by decide)
theorem m_lots {M : gS} {d1 d2 : (Nat → Int32) → Int32} (hok : okD (dd_r d1 d2)) {n : Nat} (hn : n ≤ 6) (h2 : mg M 2 = nI n) {q1 q2 : Nat} (hq1 : q1 < n) (hq2 : q2 < n) (k1 : chM M (nI q1) d1) (k2 : chM M (nI q2) d2) (hw : wfS (ma M 25)) {m p : Nat} {what : Int32} (hs : lotOK (ma M 25) (nI m) (nI p) what) (hm : m ≤ 50) (hp : p ≤ 7) {Q : Int32 → gS → Prop} (h : ∀ N, eqM M N → Q (lotsN d1 d2 (ma M 25) p what m (aN (ma M 25) 11) 0) N) : wX12_lots (nI q1) (nI q2) (nI m) (nI p) what M Q := by
  obtain ⟨s0, s3, s4, s5⟩ := hs
  have h0 : 1 ≤ aN (ma M 25) 0 := by
    rw [hw.n 0 rfl, show (0 : Int32) = nI 0 from rfl, nI_leI (by have : aN (ma M 25) 0 ≤ 4 := hw.b 0 rfl; omega) (by omega)] at s0
    omega
  have b11 : aN (ma M 25) 11 ≤ 2147483647 := hw.b 11 rfl
  unfold wX12_lots
  refine m_corner_t s0 (bw_t (m_areRules_t hn h2 (Or.inr ⟨q1, hq1, rfl⟩) (Or.inr ⟨q2, hq2, rfl⟩) (bw_t (sw_t (nI_pos' (by omega)) ?_))))
  unfold wX12_lots_25
  refine sw_t (nI_pos' (by omega)) ?_
  unfold wX12_lots_34
  refine sw_t rfl (m_in_t (lo := 1) (hi := 50) (by decide) (by decide) s3.1 s3.2 (bw_t (m_in_t (lo := 0) (hi := 7) (by decide) (by decide) s4.1 s4.2 (bw_t (m_in_t (lo := 0) (hi := 2) (by decide) (by decide) s5.1 s5.2 (bw_t (sw_t (nI_pos' (by omega)) ?_)))))))
  unfold wX12_lots_85
  refine m_keeps _ (fun x3 h3 M4 h4 => ⟨m + 1, ?_⟩)
  have e3 : x3 = lN (aN (ma M 25) 11) := by
    rw [h3]
    show Int32.toInt64 (ma M 25 11) = _
    rw [hw.n 11 rfl, nI_l (by omega)]
  rw [h4, e3]
  refine m_lots_l (M := sx (sF M 27 (fa_fill (ma M 25) (ma M 27) 44)) 33 (lN (aN (ma M 25) 11))) hok (by omega) (chM_frm k1 rfl rfl rfl) (chM_frm k2 rfl rfl rfl) hw h0 (fun j hj => fa_fill_in hj) hm hp Q m 0 (aN (ma M 25) 11) 0 _ (by omega) ⟨fun _ _ => rfl, fun _ _ _ => rfl⟩ rfl rfl (by omega) (fun N f e => h N (eqM_frx f e))
/-- two numbers of rules, or twice none -/
def isR2 (n : Nat) (p1 p2 : Int32) : Prop := (p1 = -1 ∧ p2 = -1) ∨ ∃ k1 k2, k1 < n ∧ k2 < n ∧ p1 = nI k1 ∧ p2 = nI k2
theorem m_lots_no {M : gS} {n : Nat} (hn : n ≤ 6) (h2 : mg M 2 = nI n) {p1 p2 p3 p4 p5 : Int32} (hno : ¬ (isR2 n p1 p2 ∧ lotOK (ma M 25) p3 p4 p5)) {Q : Int32 → gS → Prop} (h : Q (-1) M) : wX12_lots p1 p2 p3 p4 p5 M Q := by
  unfold wX12_lots
  by_cases c0 : ma M 25 0 ≤ 0
  · exact m_corner_f c0 (bw_f h)
  refine m_corner_t c0 (bw_t ?_)
  by_cases r : isRp n p1 ∧ isRp n p2
  · refine m_areRules_t hn h2 r.1 r.2 (bw_t ?_)
    have l34 : ∀ z1 z0 : Int32, (z1 = z0 → isR2 n p1 p2) → wX12_lots_34 Q p1 p2 p3 p4 p5 z1 z0 M := by
      intro z1 z0 hz
      unfold wX12_lots_34
      by_cases c : z1 = z0
      · refine sw_t c ?_
        have hno' : ¬ lotOK (ma M 25) p3 p4 p5 := fun z => hno ⟨hz c, z⟩
        by_cases c3 : 1 ≤ p3 ∧ p3 ≤ 50
        · refine m_in_t (lo := 1) (hi := 50) (by decide) (by decide) c3.1 c3.2 (bw_t ?_)
          by_cases c4 : 0 ≤ p4 ∧ p4 ≤ 7
          · refine m_in_t (lo := 0) (hi := 7) (by decide) (by decide) c4.1 c4.2 (bw_t ?_)
            exact m_in_f (lo := 0) (hi := 2) (by decide) (by decide) (fun z => hno' ⟨c0, c3, c4, z⟩) (bw_f h)
          · exact m_in_f (lo := 0) (hi := 7) (by decide) (by decide) c4 (bw_f h)
        · exact m_in_f (lo := 1) (hi := 50) (by decide) (by decide) c3 (bw_f h)
      · exact sw_f c h
    have m1 : ¬ (0 : Int32) ≤ -1 := by decide
    unfold wX12_lots_25
    rcases r.1 with e1 | ⟨k1, hk1, e1⟩ <;> rcases r.2 with e2 | ⟨k2, hk2, e2⟩
    · exact sw_f (by rw [e1]; exact m1) (sw_f (by rw [e2]; exact m1) (l34 _ _ (fun _ => Or.inl ⟨e1, e2⟩)))
    · exact sw_f (by rw [e1]; exact m1) (sw_t (by rw [e2]; exact nI_pos' (by omega)) (l34 _ _ (fun z => absurd z (by decide))))
    · exact sw_t (by rw [e1]; exact nI_pos' (by omega)) (sw_f (by rw [e2]; exact m1) (l34 _ _ (fun z => absurd z (by decide))))
    · exact sw_t (by rw [e1]; exact nI_pos' (by omega)) (sw_t (by rw [e2]; exact nI_pos' (by omega)) (l34 _ _ (fun _ => Or.inr ⟨k1, k2, hk1, hk2, e1, e2⟩)))
  · exact m_areRules_f hn h2 r (bw_f h)
theorem t_lots_no {M M0 M1 M2 M3 M4 M5 M6 M7 M8 M9 : gS} (hi : inv M M0 M1 M2 M3 M4 M7) {n : Nat} (hn : n ≤ 6) (h2 : mg M 2 = nI n) {F : oF} (hF : ∀ k, k < n → ∃ a, F k = some a) {p1 p2 p3 p4 p5 : Int32} (hno : ¬ (isR2 n p1 p2 ∧ lotOK (ma M 25) p3 p4 p5)) : tieP M (fun Q => wX12_lots p1 p2 p3 p4 p5 M Q) (fun Q => wX11_lotsnn p1 p2 p3 p4 p5 M0 M1 M2 M3 M4 M5 M6 M7 M8 M9 F (fun r N0 N1 N2 N3 N4 N5 N6 N7 N8 N9 F' => F' = F ∧ Q r N0 N1 N2 N3 N4 N5 N6 N7 N8 N9)) := by
  obtain ⟨⟨hw, hsp⟩, ⟨hW, hC, hq, hO⟩, hT, hB⟩ := id hi
  have h3 : mg M0 3 = nI n := hT.2.2.2.1.trans h2
  refine tieP_same (M5 := M5) (M6 := M6) (M8 := M8) (M9 := M9) hi (-1) (fun Q h => m_lots_no hn h2 hno (h _ (eqM_refl _))) (fun Q h => ?_)
  show wX11_lotsnn p1 p2 p3 p4 p5 M0 M1 M2 M3 M4 M5 M6 M7 M8 M9 F _
  have l40 : ∀ y6 : Int32, isR2 n p1 p2 → wX11_lotsnn_40 (fun r N0 N1 N2 N3 N4 N5 N6 N7 N8 N9 F' => F' = F ∧ Q r N0 N1 N2 N3 N4 N5 N6 N7 N8 N9) p1 p2 p3 p4 p5 y6 M0 M1 M2 M3 M4 M5 M6 M7 M8 M9 F := by
    intro y6 hr
    have hno' : ¬ lotOK (ma M 25) p3 p4 p5 := fun z => hno ⟨hr, z⟩
    unfold wX11_lotsnn_40
    by_cases c1 : p3 < 1
    · exact sw_t c1 ⟨rfl, h⟩
    refine sw_f c1 ?_
    by_cases c2 : 50 < p3
    · exact sw_t c2 ⟨rfl, h⟩
    refine sw_f c2 ?_
    by_cases c4 : 0 ≤ p4 ∧ p4 ≤ 7
    · refine c_purse_t c4 (bw_t ?_)
      by_cases c5 : p5 < 0
      · exact sw_t c5 ⟨rfl, h⟩
      refine sw_f c5 ?_
      by_cases c6 : 2 < p5
      · exact sw_t c6 ⟨rfl, h⟩
      refine sw_f c6 ?_
      refine c_corner_f hC (Classical.byContradiction fun z => hno' ⟨z, ⟨nlt_le.1 c1, nlt_le.1 c2⟩, c4, nlt_le.1 c5, nlt_le.1 c6⟩) (bw_f ⟨rfl, h⟩)
    · exact c_purse_f c4 (bw_f ⟨rfl, h⟩)
  have l15 : ¬ (p1 = -1 ∧ p2 = -1) → wX11_lotsnn_15 (fun r N0 N1 N2 N3 N4 N5 N6 N7 N8 N9 F' => F' = F ∧ Q r N0 N1 N2 N3 N4 N5 N6 N7 N8 N9) p1 p2 p3 p4 p5 0 M0 M1 M2 M3 M4 M5 M6 M7 M8 M9 F := by
    intro hz
    unfold wX11_lotsnn_15
    refine sw_t rfl ?_
    by_cases r1 : ∃ k1, k1 < n ∧ p1 = nI k1
    · obtain ⟨k1, hk1, e1⟩ := r1
      obtain ⟨a1, ha1⟩ := hF k1 hk1
      rw [e1]
      refine c_ruleAt_k hn h3 hk1 ha1 ⟨fun z => absurd z (by simp), fun _ _ => ?_⟩
      by_cases r2 : ∃ k2, k2 < n ∧ p2 = nI k2
      · obtain ⟨k2, hk2, e2⟩ := r2
        obtain ⟨a2, ha2⟩ := hF k2 hk2
        have g40 := l40 0 (Or.inr ⟨k1, k2, hk1, hk2, e1, e2⟩)
        rw [e1, e2] at g40
        rw [e2]
        exact c_ruleAt_k hn h3 hk2 ha2 ⟨fun z => absurd z (by simp), fun _ _ => g40⟩
      · by_cases z : p2 = -1
        · rw [z]
          exact c_ruleAt_m ⟨fun _ => ⟨rfl, h⟩, fun a z => absurd z (by simp)⟩
        · exact c_ruleAt_f hn h3 (fun y => y.elim z r2) ⟨fun _ => ⟨rfl, h⟩, fun a z => absurd z (by simp)⟩
    · by_cases z : p1 = -1
      · rw [z]
        exact c_ruleAt_m ⟨fun _ => ⟨rfl, h⟩, fun a z => absurd z (by simp)⟩
      · exact c_ruleAt_f hn h3 (fun y => y.elim z r1) ⟨fun _ => ⟨rfl, h⟩, fun a z => absurd z (by simp)⟩
  unfold wX11_lotsnn wX11_lotsnn_14
  by_cases z1 : p1 = -1
  · refine sw_t z1 ?_
    by_cases z2 : p2 = -1
    · refine sw_t z2 ?_
      unfold wX11_lotsnn_15
      exact sw_f (by decide) (l40 1 (Or.inl ⟨z1, z2⟩))
    · exact sw_f z2 (l15 (fun z => z2 z.2))
  · exact sw_f z1 (l15 (fun z => z1 z.1))
theorem c_goZaa {d1 : (Nat → Int32) → Int32} {u : Nat → Int32} (hw : wfS u) (ho : onS u) (hg : u 3 = 1) {Mq Mc R1 : gS} (hN : postQ u Mq) (hc : relC u Mc) (k1 : chC R1 d1) (Q : gS → gS → gS → Prop) (h : ∀ N S1, postE (lotU d1 d1 u) N → frC R1 S1 → Q N Mc S1) : wX6_goByRulesaa Mq Mc R1 Q := by
  unfold lotU at h
  by_cases z : canDoN u = true
  · rw [if_pos z] at h
    have hq := hN.1
    have el : lookS u = u := by unfold lookS; rw [if_pos z]
    rw [el] at hq
    exact c_goByaa hw ho hg hq hc k1 Q h
  · rw [if_neg z] at h
    have hE := postQ_E hN (ts_nt z)
    refine ⟨1, ?_⟩
    rw [wX6_goByRulesaa_3]
    exact sw_f (by decide) (sw_t (by rw [hE.1.1]; exact end_3) (h Mq R1 hE ⟨rfl, rfl⟩))
theorem c_lotsaa_l {d1 : (Nat → Int32) → Int32} {s : Nat → Int32} (hw : wfS s) (h0 : 1 ≤ aN s 0) {m p : Nat} (hm : m ≤ 50) (hp : p ≤ 7) {what : Int32} {M0 M1 M2 M3 M4 M5 M7 M8 : gS} {F : oF} (hC : relC s M2) (Q : Int32 → gS → gS → gS → gS → gS → gS → gS → gS → gS → gS → oF → gS → Prop) : ∀ n i x acc M6 M9 R1, i + n = m → mg M9 0 = nI x → x < 2 ^ 31 → chC R1 d1 → (∀ N6 N9 S1, frC R1 S1 → Q (lotsN d1 d1 s p what n x acc) M0 M1 M2 M3 M4 M5 N6 M7 M8 N9 F S1) → wX11_lotsByRulesaa_6 Q (n + 1) (nI m) (nI p) what acc (nI i) M0 M1 M2 M3 M4 M5 M6 M7 M8 M9 F R1 := by
  intro n
  induction n with
  | zero =>
    intro i x acc M6 M9 R1 hi hx hl k1 h
    rw [wX11_lotsByRulesaa_6]
    exact sw_t (nI_le (by omega) (by omega)) (h M6 M9 R1 ⟨rfl, rfl⟩)
  | succ n ih =>
    intro i x acc M6 M9 R1 hi hx hl k1 h
    have b0 : aN s 0 ≤ 4 := hw.b 0 rfl
    have t1 := dv_lt (nx x) (b := aN s 0) h0
    have t2 := dv_lt (nx (nx x)) (b := 2) (by omega)
    have t3 := dv_lt (nx (nx (nx x))) (b := p + 1) (by omega)
    have t4 := dv_lt (nx4 x) (b := p + 1) (by omega)
    obtain ⟨l1, l2, l3, l4⟩ := lotS_ok hw h0 (x := x) hp
    have hok : okD (dd_r d1 d1) := ok_dd (chC_ok k1) (chC_ok k1)
    obtain ⟨u1, u2⟩ := lotU_ok hok l1 l2
    rw [wX11_lotsByRulesaa_6, hC.1, hw.n 0 rfl]
    refine sw_f (nI_ge (by omega) (by omega)) (c_draw hx hl h0 b0 hp _ (fun N3 y0 y1 y2 y3 y4 N4 n4 x5 n5 N6 n6 x7 n7 N8 n8 => ?_))
    rw [y1, y2]
    have rC : relC (sh (-(s 9)) (rowP s (dv (nx (nx (nx x))) (p + 1)) (dv (nx4 x) (p + 1)))) M2 := relC_keep hw hC (fun k hk => by unfold isCr at hk; rw [sh_k (by omega), rowP_k (by omega) (by omega)])
    have a0 : aN (sh (-(s 9)) (rowP s (dv (nx (nx (nx x))) (p + 1)) (dv (nx4 x) (p + 1)))) 0 = aN s 0 := by unfold aN; rw [sh_k (by omega), rowP_k (by omega) (by omega)]
    have hv : verseN (sh (-(s 9)) (rowP s (dv (nx (nx (nx x))) (p + 1)) (dv (nx4 x) (p + 1)))) (dv (nx x) (aN s 0)) = verseN s (dv (nx x) (aN s 0)) := by
      unfold verseN
      rw [sh_a (by omega), sh_a (by omega)]
      exact rowP_v
    refine q_start (sh (-(s 9)) (rowP s (dv (nx (nx (nx x))) (p + 1)) (dv (nx4 x) (p + 1)))) (sh_wf (rowP_wf hw (by omega) (by omega))) N8 M2 rC ?_ ?_ (dv (nx x) (aN s 0)) (by rw [a0]; exact t1) (dv (nx (nx x)) 2) (by omega) _ (fun N10 hN10 => ?_)
    · rw [sh_9, rowP_k (by omega) (by omega), Int32.add_right_neg, n8, n6, n4]
      rfl
    · intro k hk
      rw [sh_k (by omega)]
      rcases (show k = 0 ∨ k = 1 by omega) with rfl | rfl
      · rw [n8, n6, n5, y3]; rfl
      · rw [n8, n7, y4]; rfl
    · rw [hv, sh_begin] at hN10
      have hN : postQ (sh (-(s 9)) (lotS s p x)) N10 := hN10
      have onS' : onS (sh (-(s 9)) (lotS s p x)) := on_keep l2 (fun k hk => sh_k (by omega))
      refine c_goZaa (sh_wf l1) onS' (by rw [sh_k (by omega)]; exact l3) hN (relC_keep hw hC (fun k hk => by unfold isCr at hk; rw [sh_k (by omega), l4 k (by omega)])) k1 _ (fun N13 S1 hE f1 => ?_)
      rw [sh_lotU (chC_bl k1) (chC_bl k1)] at hE
      have h5 : mg N13 5 = lotU d1 d1 (lotS s p x) 9 - s 9 := by
        rw [hE.1.2.2.1, end_keep (sh_wf u1) (by omega) (by omega) (by omega), sh_9, Int32.sub_eq_add_neg]
      have h6 : mg N13 6 = nI (winN (lotU d1 d1 (lotS s p x))) := by rw [hE.2.1, sh_win]
      have go : ∀ z, z = acc + addR what (lotU d1 d1 (lotS s p x)) s → wX11_lotsByRulesaa_151 (fun (y3 : Int32) (y4 : Int32) (y5 : Int32) (y6 : Int32) (y7 : Int32) (M0 : gS) (M1 : gS) (M2 : gS) (M3 : gS) (M4 : gS) (M5 : gS) (M6 : gS) (M7 : gS) (M8 : gS) (M9 : gS) (F10 : oF) (M11 : gS) => wX11_lotsByRulesaa_6 Q (n + 1) y3 y4 y5 y6 y7 M0 M1 M2 M3 M4 M5 M6 M7 M8 M9 F10 M11) Q (nI m) (nI p) what z (nI i) M0 M1 M2 M3 M4 M5 N13 M7 M8 N3 F S1 := by
        intro z hz
        unfold wX11_lotsByRulesaa_151
        intro x1 hx1
        rw [hx1, nI_1, hz]
        exact ih (i + 1) (nx4 x) _ N13 N3 S1 (by omega) y0 (nx_lt _) (chC_fr k1 f1) (fun N6 N9 T1 g1 => h N6 N9 T1 (frC_trans f1 g1))
      unfold addR at go
      by_cases c2 : what = 2
      · rw [if_pos c2] at go
        exact sw_t c2 (fun x20 h20 => go _ (by rw [h20, h5]))
      · rw [if_neg c2] at go
        refine sw_f c2 ?_
        rw [h6]
        by_cases cw : nI (winN (lotU d1 d1 (lotS s p x))) = what
        · rw [if_pos cw] at go
          exact sw_t cw (fun x19 h19 => go _ h19)
        · rw [if_neg cw] at go
          exact sw_f cw (go _ (by rw [Int32.add_zero]))
theorem t_lotsaa {M M0 M1 M2 M3 M4 M5 M6 M7 M8 M9 : gS} (hi : inv M M0 M1 M2 M3 M4 M7) {n : Nat} (hn : n ≤ 6) (h2 : mg M 2 = nI n) {F : oF} {h11 : Nat} {q1 : Nat} {R1 : gS} {d1 : (Nat → Int32) → Int32} (hk1 : q1 < n) (hF1 : F q1 = some h11) (k1 : chC R1 d1) (e1 : chM M (nI q1) d1) {m p : Nat} {what : Int32} (hs : lotOK (ma M 25) (nI m) (nI p) what) (hm : m ≤ 50) (hp : p ≤ 7) : tieP M (fun Q => wX12_lots (nI q1) (nI q1) (nI m) (nI p) what M Q) (fun Q => wX11_lotsaa h11 (nI q1) (nI q1) (nI m) (nI p) what M0 M1 M2 M3 M4 M5 M6 M7 M8 M9 F R1 (fun r N0 N1 N2 N3 N4 N5 N6 N7 N8 N9 F' S1 => F' = F ∧ frC R1 S1 ∧ Q r N0 N1 N2 N3 N4 N5 N6 N7 N8 N9)) := by
  obtain ⟨⟨hw, hsp⟩, ⟨hW, hC, hq, hO⟩, hT, hB⟩ := id hi
  have h3 : mg M0 3 = nI n := hT.2.2.2.1.trans h2
  have hok : okD (dd_r d1 d1) := ok_dd (chC_ok k1) (chC_ok k1)
  have b11 : aN (ma M 25) 11 ≤ 2147483647 := hw.b 11 rfl
  obtain ⟨s0, s3, s4, s5⟩ := id hs
  have h0 : 1 ≤ aN (ma M 25) 0 := by
    rw [hw.n 0 rfl, show (0 : Int32) = nI 0 from rfl, nI_leI (by have : aN (ma M 25) 0 ≤ 4 := hw.b 0 rfl; omega) (by omega)] at s0
    omega
  refine ⟨lotsN d1 d1 (ma M 25) p what m (aN (ma M 25) 11) 0, M, keepR_refl M, fun Q h => m_lots hok hn h2 hk1 hk1 e1 e1 hw hs hm hp h, fun Q h => ?_⟩
  show wX11_lotsaa h11 (nI q1) (nI q1) (nI m) (nI p) what M0 M1 M2 M3 M4 M5 M6 M7 M8 M9 F R1 _
  unfold wX11_lotsaa wX11_lotsaa_14 wX11_lotsaa_15
  refine sw_f (nI_nm1 (by omega)) (sw_t rfl (c_ruleAt_k hn h3 hk1 hF1 ⟨fun z => absurd z (by simp), fun _ _ => c_ruleAt_k hn h3 hk1 hF1 ⟨fun z => absurd z (by simp), fun _ _ => ?_⟩⟩))
  unfold wX11_lotsaa_40
  refine sw_f (nlt_le.2 s3.1) (sw_f (nlt_le.2 s3.2) (c_purse_t s4 (bw_t (sw_f (nlt_le.2 s5.1) (sw_f (nlt_le.2 s5.2) (c_corner_t hC s0 (bw_t (fun x23 h23 N24 h24 => sw_t rfl ?_))))))))
  refine c_ruleAt_k hn h3 hk1 hF1 (c_ruleAt_k hn h3 hk1 hF1 ⟨rfl, rfl, m + 1, ?_⟩)
  have e9 : mg N24 0 = nI (aN (ma M 25) 11) := by
    rw [h24, h23, hW.2, hw.n 11 rfl]
    rfl
  exact c_lotsaa_l hw h0 hm hp hC _ m 0 (aN (ma M 25) 11) 0 M6 N24 R1 (by omega) e9 (by omega) k1 (fun N6 N9 S1 f1 => ⟨rfl, f1, h _ _ _ _ _ _ _ _ _ _ hi⟩)
theorem c_goZab {d1 : (Nat → Int32) → Int32} {d2 : (Nat → Int32) → Int32} {u : Nat → Int32} (hw : wfS u) (ho : onS u) (hg : u 3 = 1) {Mq Mc R1 R2 : gS} (hN : postQ u Mq) (hc : relC u Mc) (k1 : chC R1 d1) (k2 : chC R2 d2) (Q : gS → gS → gS → gS → Prop) (h : ∀ N S1 S2, postE (lotU d1 d2 u) N → frC R1 S1 → frC R2 S2 → Q N Mc S1 S2) : wX6_goByRulesab Mq Mc R1 R2 Q := by
  unfold lotU at h
  by_cases z : canDoN u = true
  · rw [if_pos z] at h
    have hq := hN.1
    have el : lookS u = u := by unfold lookS; rw [if_pos z]
    rw [el] at hq
    exact c_goByab hw ho hg hq hc k1 k2 Q h
  · rw [if_neg z] at h
    have hE := postQ_E hN (ts_nt z)
    refine ⟨1, ?_⟩
    rw [wX6_goByRulesab_3]
    exact sw_f (by decide) (sw_t (by rw [hE.1.1]; exact end_3) (h Mq R1 R2 hE ⟨rfl, rfl⟩ ⟨rfl, rfl⟩))
theorem c_lotsab_l {d1 : (Nat → Int32) → Int32} {d2 : (Nat → Int32) → Int32} {s : Nat → Int32} (hw : wfS s) (h0 : 1 ≤ aN s 0) {m p : Nat} (hm : m ≤ 50) (hp : p ≤ 7) {what : Int32} {M0 M1 M2 M3 M4 M5 M7 M8 : gS} {F : oF} (hC : relC s M2) (Q : Int32 → gS → gS → gS → gS → gS → gS → gS → gS → gS → gS → oF → gS → gS → Prop) : ∀ n i x acc M6 M9 R1 R2, i + n = m → mg M9 0 = nI x → x < 2 ^ 31 → chC R1 d1 → chC R2 d2 → (∀ N6 N9 S1 S2, frC R1 S1 → frC R2 S2 → Q (lotsN d1 d2 s p what n x acc) M0 M1 M2 M3 M4 M5 N6 M7 M8 N9 F S1 S2) → wX11_lotsByRulesab_6 Q (n + 1) (nI m) (nI p) what acc (nI i) M0 M1 M2 M3 M4 M5 M6 M7 M8 M9 F R1 R2 := by
  intro n
  induction n with
  | zero =>
    intro i x acc M6 M9 R1 R2 hi hx hl k1 k2 h
    rw [wX11_lotsByRulesab_6]
    exact sw_t (nI_le (by omega) (by omega)) (h M6 M9 R1 R2 ⟨rfl, rfl⟩ ⟨rfl, rfl⟩)
  | succ n ih =>
    intro i x acc M6 M9 R1 R2 hi hx hl k1 k2 h
    have b0 : aN s 0 ≤ 4 := hw.b 0 rfl
    have t1 := dv_lt (nx x) (b := aN s 0) h0
    have t2 := dv_lt (nx (nx x)) (b := 2) (by omega)
    have t3 := dv_lt (nx (nx (nx x))) (b := p + 1) (by omega)
    have t4 := dv_lt (nx4 x) (b := p + 1) (by omega)
    obtain ⟨l1, l2, l3, l4⟩ := lotS_ok hw h0 (x := x) hp
    have hok : okD (dd_r d1 d2) := ok_dd (chC_ok k1) (chC_ok k2)
    obtain ⟨u1, u2⟩ := lotU_ok hok l1 l2
    rw [wX11_lotsByRulesab_6, hC.1, hw.n 0 rfl]
    refine sw_f (nI_ge (by omega) (by omega)) (c_draw hx hl h0 b0 hp _ (fun N3 y0 y1 y2 y3 y4 N4 n4 x5 n5 N6 n6 x7 n7 N8 n8 => ?_))
    rw [y1, y2]
    have rC : relC (sh (-(s 9)) (rowP s (dv (nx (nx (nx x))) (p + 1)) (dv (nx4 x) (p + 1)))) M2 := relC_keep hw hC (fun k hk => by unfold isCr at hk; rw [sh_k (by omega), rowP_k (by omega) (by omega)])
    have a0 : aN (sh (-(s 9)) (rowP s (dv (nx (nx (nx x))) (p + 1)) (dv (nx4 x) (p + 1)))) 0 = aN s 0 := by unfold aN; rw [sh_k (by omega), rowP_k (by omega) (by omega)]
    have hv : verseN (sh (-(s 9)) (rowP s (dv (nx (nx (nx x))) (p + 1)) (dv (nx4 x) (p + 1)))) (dv (nx x) (aN s 0)) = verseN s (dv (nx x) (aN s 0)) := by
      unfold verseN
      rw [sh_a (by omega), sh_a (by omega)]
      exact rowP_v
    refine q_start (sh (-(s 9)) (rowP s (dv (nx (nx (nx x))) (p + 1)) (dv (nx4 x) (p + 1)))) (sh_wf (rowP_wf hw (by omega) (by omega))) N8 M2 rC ?_ ?_ (dv (nx x) (aN s 0)) (by rw [a0]; exact t1) (dv (nx (nx x)) 2) (by omega) _ (fun N10 hN10 => ?_)
    · rw [sh_9, rowP_k (by omega) (by omega), Int32.add_right_neg, n8, n6, n4]
      rfl
    · intro k hk
      rw [sh_k (by omega)]
      rcases (show k = 0 ∨ k = 1 by omega) with rfl | rfl
      · rw [n8, n6, n5, y3]; rfl
      · rw [n8, n7, y4]; rfl
    · rw [hv, sh_begin] at hN10
      have hN : postQ (sh (-(s 9)) (lotS s p x)) N10 := hN10
      have onS' : onS (sh (-(s 9)) (lotS s p x)) := on_keep l2 (fun k hk => sh_k (by omega))
      refine c_goZab (sh_wf l1) onS' (by rw [sh_k (by omega)]; exact l3) hN (relC_keep hw hC (fun k hk => by unfold isCr at hk; rw [sh_k (by omega), l4 k (by omega)])) k1 k2 _ (fun N13 S1 S2 hE f1 f2 => ?_)
      rw [sh_lotU (chC_bl k1) (chC_bl k2)] at hE
      have h5 : mg N13 5 = lotU d1 d2 (lotS s p x) 9 - s 9 := by
        rw [hE.1.2.2.1, end_keep (sh_wf u1) (by omega) (by omega) (by omega), sh_9, Int32.sub_eq_add_neg]
      have h6 : mg N13 6 = nI (winN (lotU d1 d2 (lotS s p x))) := by rw [hE.2.1, sh_win]
      have go : ∀ z, z = acc + addR what (lotU d1 d2 (lotS s p x)) s → wX11_lotsByRulesab_151 (fun (y3 : Int32) (y4 : Int32) (y5 : Int32) (y6 : Int32) (y7 : Int32) (M0 : gS) (M1 : gS) (M2 : gS) (M3 : gS) (M4 : gS) (M5 : gS) (M6 : gS) (M7 : gS) (M8 : gS) (M9 : gS) (F10 : oF) (M11 : gS) (M12 : gS) => wX11_lotsByRulesab_6 Q (n + 1) y3 y4 y5 y6 y7 M0 M1 M2 M3 M4 M5 M6 M7 M8 M9 F10 M11 M12) Q (nI m) (nI p) what z (nI i) M0 M1 M2 M3 M4 M5 N13 M7 M8 N3 F S1 S2 := by
        intro z hz
        unfold wX11_lotsByRulesab_151
        intro x1 hx1
        rw [hx1, nI_1, hz]
        exact ih (i + 1) (nx4 x) _ N13 N3 S1 S2 (by omega) y0 (nx_lt _) (chC_fr k1 f1) (chC_fr k2 f2) (fun N6 N9 T1 T2 g1 g2 => h N6 N9 T1 T2 (frC_trans f1 g1) (frC_trans f2 g2))
      unfold addR at go
      by_cases c2 : what = 2
      · rw [if_pos c2] at go
        exact sw_t c2 (fun x20 h20 => go _ (by rw [h20, h5]))
      · rw [if_neg c2] at go
        refine sw_f c2 ?_
        rw [h6]
        by_cases cw : nI (winN (lotU d1 d2 (lotS s p x))) = what
        · rw [if_pos cw] at go
          exact sw_t cw (fun x19 h19 => go _ h19)
        · rw [if_neg cw] at go
          exact sw_f cw (go _ (by rw [Int32.add_zero]))
theorem t_lotsab {M M0 M1 M2 M3 M4 M5 M6 M7 M8 M9 : gS} (hi : inv M M0 M1 M2 M3 M4 M7) {n : Nat} (hn : n ≤ 6) (h2 : mg M 2 = nI n) {F : oF} {h11 h12 : Nat} {q1 q2 : Nat} {R1 R2 : gS} {d1 : (Nat → Int32) → Int32} {d2 : (Nat → Int32) → Int32} (hk1 : q1 < n) (hF1 : F q1 = some h11) (k1 : chC R1 d1) (e1 : chM M (nI q1) d1) (hk2 : q2 < n) (hF2 : F q2 = some h12) (k2 : chC R2 d2) (e2 : chM M (nI q2) d2) {m p : Nat} {what : Int32} (hs : lotOK (ma M 25) (nI m) (nI p) what) (hm : m ≤ 50) (hp : p ≤ 7) : tieP M (fun Q => wX12_lots (nI q1) (nI q2) (nI m) (nI p) what M Q) (fun Q => wX11_lotsab h11 h12 (nI q1) (nI q2) (nI m) (nI p) what M0 M1 M2 M3 M4 M5 M6 M7 M8 M9 F R1 R2 (fun r N0 N1 N2 N3 N4 N5 N6 N7 N8 N9 F' S1 S2 => F' = F ∧ frC R1 S1 ∧ frC R2 S2 ∧ Q r N0 N1 N2 N3 N4 N5 N6 N7 N8 N9)) := by
  obtain ⟨⟨hw, hsp⟩, ⟨hW, hC, hq, hO⟩, hT, hB⟩ := id hi
  have h3 : mg M0 3 = nI n := hT.2.2.2.1.trans h2
  have hok : okD (dd_r d1 d2) := ok_dd (chC_ok k1) (chC_ok k2)
  have b11 : aN (ma M 25) 11 ≤ 2147483647 := hw.b 11 rfl
  obtain ⟨s0, s3, s4, s5⟩ := id hs
  have h0 : 1 ≤ aN (ma M 25) 0 := by
    rw [hw.n 0 rfl, show (0 : Int32) = nI 0 from rfl, nI_leI (by have : aN (ma M 25) 0 ≤ 4 := hw.b 0 rfl; omega) (by omega)] at s0
    omega
  refine ⟨lotsN d1 d2 (ma M 25) p what m (aN (ma M 25) 11) 0, M, keepR_refl M, fun Q h => m_lots hok hn h2 hk1 hk2 e1 e2 hw hs hm hp h, fun Q h => ?_⟩
  show wX11_lotsab h11 h12 (nI q1) (nI q2) (nI m) (nI p) what M0 M1 M2 M3 M4 M5 M6 M7 M8 M9 F R1 R2 _
  unfold wX11_lotsab wX11_lotsab_14 wX11_lotsab_15
  refine sw_f (nI_nm1 (by omega)) (sw_t rfl (c_ruleAt_k hn h3 hk1 hF1 ⟨fun z => absurd z (by simp), fun _ _ => c_ruleAt_k hn h3 hk2 hF2 ⟨fun z => absurd z (by simp), fun _ _ => ?_⟩⟩))
  unfold wX11_lotsab_40
  refine sw_f (nlt_le.2 s3.1) (sw_f (nlt_le.2 s3.2) (c_purse_t s4 (bw_t (sw_f (nlt_le.2 s5.1) (sw_f (nlt_le.2 s5.2) (c_corner_t hC s0 (bw_t (fun x23 h23 N24 h24 => sw_t rfl ?_))))))))
  refine c_ruleAt_k hn h3 hk1 hF1 (c_ruleAt_k hn h3 hk2 hF2 ⟨rfl, rfl, m + 1, ?_⟩)
  have e9 : mg N24 0 = nI (aN (ma M 25) 11) := by
    rw [h24, h23, hW.2, hw.n 11 rfl]
    rfl
  exact c_lotsab_l hw h0 hm hp hC _ m 0 (aN (ma M 25) 11) 0 M6 N24 R1 R2 (by omega) e9 (by omega) k1 k2 (fun N6 N9 S1 S2 f1 f2 => ⟨rfl, f1, f2, h _ _ _ _ _ _ _ _ _ _ hi⟩)
