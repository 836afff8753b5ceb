-- PURE: run, would (printed by program but for the head)
theorem sw_b {A B : Prop} {b : Bool} (h1 : b = false → A) (h2 : b = true → B) : (bI b = 0 → A) ∧ (¬ bI b = 0 → B) := ⟨fun z => h1 ((bI_0 b).1 z), fun z => h2 (bI_n0 z)⟩
/-- a rule's number, or none -/
def isRp (n : Nat) (p : Int32) : Prop := p = -1 ∨ ∃ k, k < n ∧ p = nI k
theorem isRp_n {n : Nat} (hn : n ≤ 6) {p : Int32} (h : ¬ isRp n p) : ¬ p = -1 ∧ (p < 0 ∨ (¬ p < 0 ∧ nI n ≤ p)) := by
  refine ⟨fun z => h (Or.inl z), ?_⟩
  by_cases c : p < 0
  · exact Or.inl c
  · refine Or.inr ⟨c, ?_⟩
    obtain ⟨k, hk, rfl⟩ := nI_of c
    rw [nI_leI (by omega) hk]
    exact Classical.byContradiction fun z => h (Or.inr ⟨k, by omega, rfl⟩)
theorem m_isRule_t {M : gS} {n k : Nat} (hn : n ≤ 6) (h2 : mg M 2 = nI n) (hk : k < n) {Q : Bool → gS → Prop} (h : Q true M) : wX12_isRule (nI k) M Q := by
  unfold wX12_isRule
  rw [h2]
  exact sw_f (nI_pos (by omega)) (sw_f (nI_ge hk (by omega)) h)
theorem m_isRule_f {M : gS} {n : Nat} (hn : n ≤ 6) (h2 : mg M 2 = nI n) {p : Int32} (hp : ¬ isRp n p) {Q : Bool → gS → Prop} (h : Q false M) : wX12_isRule p M Q := by
  unfold wX12_isRule
  rw [h2]
  rcases (isRp_n hn hp).2 with z | ⟨z, y⟩
  · exact sw_t z h
  · exact sw_f z (sw_t y h)
theorem m_areRules_t {M : gS} {n : Nat} (hn : n ≤ 6) (h2 : mg M 2 = nI n) {p1 p2 : Int32} (h1 : isRp n p1) (h3 : isRp n p2) {Q : Bool → gS → Prop} (h : Q true M) : wX12_areRules p1 p2 M Q := by
  have g : wX12_areRules_13 Q p2 M := by
    unfold wX12_areRules_13 wX12_areRules_26
    rcases h3 with rfl | ⟨k, hk, rfl⟩
    · exact sw_t rfl h
    · exact sw_f (nI_nm1 (by omega)) (m_isRule_t hn h2 hk (bw_t h))
  unfold wX12_areRules
  rcases h1 with rfl | ⟨k, hk, rfl⟩
  · exact sw_t rfl g
  · exact sw_f (nI_nm1 (by omega)) (m_isRule_t hn h2 hk (bw_t g))
theorem m_areRules_f {M : gS} {n : Nat} (hn : n ≤ 6) (h2 : mg M 2 = nI n) {p1 p2 : Int32} (h1 : ¬ (isRp n p1 ∧ isRp n p2)) {Q : Bool → gS → Prop} (h : Q false M) : wX12_areRules p1 p2 M Q := by
  have g : ¬ isRp n p2 → wX12_areRules_13 Q p2 M := by
    intro h3
    unfold wX12_areRules_13 wX12_areRules_26
    exact sw_f (isRp_n hn h3).1 (m_isRule_f hn h2 h3 (bw_f h))
  unfold wX12_areRules
  by_cases z : isRp n p1
  · have y : ¬ isRp n p2 := fun y => h1 ⟨z, y⟩
    rcases z with rfl | ⟨k, hk, rfl⟩
    · exact sw_t rfl (g y)
    · exact sw_f (nI_nm1 (by omega)) (m_isRule_t hn h2 hk (bw_t (g y)))
  · exact sw_f (isRp_n hn z).1 (m_isRule_f hn h2 z (bw_f h))
theorem c_ruleAt_k {M0 : gS} {F : oF} {n k h11 : Nat} (hn : n ≤ 6) (h3 : mg M0 3 = nI n) (hk : k < n) (hF : F k = some h11) {Q : Option Nat → gS → oF → Prop} (h : Q (some h11) M0 F) : wX11_ruleAt (nI k) M0 F Q := by
  unfold wX11_ruleAt
  rw [h3, nI_clamp (by omega), hF]
  exact sw_f (nI_pos (by omega)) (sw_f (nI_ge hk (by omega)) (sw_f (nI_ge (b := 6) (by omega) (by omega)) ⟨vp_in_nI (by omega) (by decide), h⟩))
theorem c_ruleAt_m {M0 : gS} {F : oF} {Q : Option Nat → gS → oF → Prop} (h : Q none M0 F) : wX11_ruleAt (-1) M0 F Q := by
  unfold wX11_ruleAt
  exact sw_t (by decide) h
theorem c_ruleAt_f {M0 : gS} {F : oF} {n : Nat} (hn : n ≤ 6) (h3 : mg M0 3 = nI n) {p : Int32} (hp : ¬ isRp n p) {Q : Option Nat → gS → oF → Prop} (h : Q none M0 F) : wX11_ruleAt p M0 F Q := by
  unfold wX11_ruleAt
  rw [h3]
  rcases (isRp_n hn hp).2 with z | ⟨z, y⟩
  · exact sw_t z h
  · exact sw_f z (sw_t y h)
theorem c_isR_t {M0 : gS} {F : oF} {n : Nat} (hn : n ≤ 6) (h3 : mg M0 3 = nI n) (hF : ∀ k, k < n → ∃ a, F k = some a) {p : Int32} (hp : isRp n p) {Q : Bool → gS → oF → Prop} (h : Q true M0 F) : wX11_isRuleOrNone p M0 F Q := by
  unfold wX11_isRuleOrNone wX11_isRuleOrNone_13
  rcases hp with rfl | ⟨k, hk, rfl⟩
  · exact sw_t rfl h
  · obtain ⟨a, ha⟩ := hF k hk
    exact sw_f (nI_nm1 (by omega)) (c_ruleAt_k hn h3 hk ha ⟨fun z => absurd z (by simp), fun _ _ => h⟩)
theorem c_isR_f {M0 : gS} {F : oF} {n : Nat} (hn : n ≤ 6) (h3 : mg M0 3 = nI n) {p : Int32} (hp : ¬ isRp n p) {Q : Bool → gS → oF → Prop} (h : Q false M0 F) : wX11_isRuleOrNone p M0 F Q := by
  unfold wX11_isRuleOrNone wX11_isRuleOrNone_13
  exact sw_f (isRp_n hn hp).1 (c_ruleAt_f hn h3 hp ⟨fun _ => h, fun a z => absurd z (by simp)⟩)
theorem eqM_frm {M N : gS} {u : Nat → Int32} (hf : frm M N) (h : ma N 25 = u) : eqM (sF M 25 u) N := by
  refine ⟨hf.2.1 1 (by decide) (by decide), hf.2.1 2 (by decide) (by decide), ?_, ?_, ?_, ?_, ?_, ?_, ?_⟩
  · exact hf.1 0 (by decide)
  · exact hf.1 3 (by decide)
  · exact hf.1 5 (by decide)
  · exact hf.1 6 (by decide)
  · rw [h, ma_sF1]
  · exact hf.1 35 (by decide)
  · exact hf.1 36 (by decide)
theorem m_run_no {M : gS} (hw : wfS (ma M 25)) {n : Nat} (hn : n ≤ 6) (h2 : mg M 2 = nI n) {p1 p2 : Int32} (hno : ¬ (ma M 25 3 = 1 ∧ isRp n p1 ∧ isRp n p2)) {Q : Int32 → gS → Prop} (h : Q (-2) M) : wX12_run p1 p2 M Q := by
  unfold wX12_run
  by_cases g : ma M 25 3 = 1
  · exact m_goes_t g (bw_t (m_areRules_f hn h2 (fun z => hno ⟨g, z⟩) (bw_f h)))
  · exact m_goes_f g (bw_f h)
theorem end_S {s U : Nat → Int32} {M1 M2 M4 N1 N : gS} (hw : wfS s) (hwU : wfS U) (hk : kp_r U s) (hC : relC s M2) (hO : relO s M4) (h1 : relW (endS U) N1) (hq : relQ (endS U) N) : relS (endS U) N1 M2 N M4 :=
  ⟨h1, relC_keep hw hC (fun k h => by unfold isCr at h; rw [end_keep hwU (by omega) (by omega) (by omega), hk k (by omega)]), hq, relO_keep hw hO (fun k h => by rw [end_keep hwU (by omega) (by omega) (by omega), hk k (by omega)])⟩
theorem m_keeps_l {M : gS} (Q : gS → Prop) (h : Q (sF M 27 (fa_fill (ma M 25) (ma M 27) 44))) : ∀ n j, j + n = 44 → wX12_keeps_2 Q (n + 1) (nI j) (sF M 27 (fa_fill (ma M 25) (ma M 27) j)) := by
  intro n
  induction n with
  | zero =>
    intro j hj
    rw [wX12_keeps_2]
    have e : j = 44 := by omega
    subst e
    exact sw_t (show nI 44 ≤ nI 44 from nI_le (Nat.le_refl _) (by omega)) h
  | succ n ih =>
    intro j hj
    rw [wX12_keeps_2, nI_clamp (by omega)]
    refine sw_f (nI_ge (b := 44) (by omega) (by omega)) ⟨vp_in_nI (by omega) (by decide), fun x2 h2 => ⟨vp_in_nI (by omega) (by decide), fun M3 h3 x4 h4 => ?_⟩⟩
    have e : M3 = sF M 27 (fa_fill (ma M 25) (ma M 27) (j + 1)) := by
      rw [h3, h2]
      show sF (sF M 27 _) 27 (upd (ma (sF M 27 _) 27) j (ma (sF M 27 _) 25 j)) = _
      rw [sF_sF, ma_sF1, ma_sF, if_neg (by decide), fa_fill_succ]
    rw [e, h4, nI_1]
    exact ih (j + 1) (by omega)
theorem m_keeps {M : gS} (Q : gS → Prop) (h : Q (sF M 27 (fa_fill (ma M 25) (ma M 27) 44))) : wX12_keeps M Q := by
  refine ⟨45, ?_⟩
  have := m_keeps_l Q h 44 0 (by omega)
  rw [fa_fill_0, sF_self] at this
  exact this
theorem m_putsBack_l {M : gS} (Q : gS → Prop) (h : Q (sF M 25 (fa_fill (ma M 27) (ma M 25) 44))) : ∀ n j, j + n = 44 → wX12_putsBack_2 Q (n + 1) (nI j) (sF M 25 (fa_fill (ma M 27) (ma M 25) j)) := by
  intro n
  induction n with
  | zero =>
    intro j hj
    rw [wX12_putsBack_2]
    have e : j = 44 := by omega
    subst e
    exact sw_t (show nI 44 ≤ nI 44 from nI_le (Nat.le_refl _) (by omega)) h
  | succ n ih =>
    intro j hj
    rw [wX12_putsBack_2, nI_clamp (by omega)]
    refine sw_f (nI_ge (b := 44) (by omega) (by omega)) ⟨vp_in_nI (by omega) (by decide), fun x2 h2 => ⟨vp_in_nI (by omega) (by decide), fun M3 h3 x4 h4 => ?_⟩⟩
    have e : M3 = sF M 25 (fa_fill (ma M 27) (ma M 25) (j + 1)) := by
      rw [h3, h2]
      show sF (sF M 25 _) 25 (upd (ma (sF M 25 _) 25) j (ma (sF M 25 _) 27 j)) = _
      rw [sF_sF, ma_sF1, ma_sF, if_neg (by decide), fa_fill_succ]
    rw [e, h4, nI_1]
    exact ih (j + 1) (by omega)
theorem m_putsBack {M : gS} (Q : gS → Prop) (h : Q (sF M 25 (fa_fill (ma M 27) (ma M 25) 44))) : wX12_putsBack M Q := by
  refine ⟨45, ?_⟩
  have := m_putsBack_l Q h 44 0 (by omega)
  rw [fa_fill_0, sF_self] at this
  exact this
/-- the row is put back as it was -/
theorem back_row {s u kf : Nat → Int32} (h1 : ∀ j, 44 ≤ j → u j = s j) (h2 : ∀ j, j < 44 → kf j = s j) : fa_fill kf u 44 = s := by
  funext j
  unfold fa_fill
  by_cases h : j < 44
  · rw [if_pos h]; exact h2 j h
  · rw [if_neg h]; exact h1 j (by omega)
theorem eqM_back {M N : gS} {f : Nat → Int32} (hf : frm (sF M 27 f) N) : eqM M (sF N 25 (ma M 25)) := by
  refine ⟨hf.2.1 1 (by decide) (by decide), hf.2.1 2 (by decide) (by decide), ?_, ?_, ?_, ?_, ?_, ?_, ?_⟩
  · exact hf.1 0 (by decide)
  · exact hf.1 3 (by decide)
  · exact hf.1 5 (by decide)
  · exact hf.1 6 (by decide)
  · rw [ma_sF1]
  · exact hf.1 35 (by decide)
  · exact hf.1 36 (by decide)
def wdR (U s : Nat → Int32) (p3 : Int32) : Int32 := if p3 = 0 then nI (winN U) else if p3 = 1 then U 7 - s 7 else if p3 = 2 then U 9 - s 9 else U 5
theorem m_would_no {M : gS} (hw : wfS (ma M 25)) {n : Nat} (hn : n ≤ 6) (h2 : mg M 2 = nI n) {p1 p2 p3 : Int32} (hno : ¬ (ma M 25 3 = 1 ∧ isRp n p1 ∧ isRp n p2 ∧ 0 ≤ p3 ∧ p3 ≤ 3)) {Q : Int32 → gS → Prop} (h : Q (-2) M) : wX12_would p1 p2 p3 M Q := by
  unfold wX12_would
  by_cases g : ma M 25 3 = 1
  · refine m_goes_t g (bw_t ?_)
    by_cases r : isRp n p1 ∧ isRp n p2
    · exact m_areRules_t hn h2 r.1 r.2 (bw_t (m_in_f (lo := 0) (hi := 3) (by decide) (by decide) (fun z => hno ⟨g, r.1, r.2, z⟩) (bw_f h)))
    · exact m_areRules_f hn h2 r (bw_f h)
  · exact m_goes_f g (bw_f h)
theorem m_would {M : gS} {d1 d2 : (Nat → Int32) → Int32} (hok : okD (dd_r d1 d2)) {n : Nat} (hn : n ≤ 6) (h2 : mg M 2 = nI n) {p1 p2 p3 : Int32} (k1 : chM M p1 d1) (k2 : chM M p2 d2) (r1 : isRp n p1) (r2 : isRp n p2) (hp : 0 ≤ p3 ∧ p3 ≤ 3) (hw : wfS (ma M 25)) (ho : onS (ma M 25)) (hg : ma M 25 3 = 1) {Q : Int32 → gS → Prop} (h : ∀ N, eqM M N → Q (wdR (runN d1 d2 (ma M 25)) (ma M 25) p3) N) : wX12_would p1 p2 p3 M Q := by
  obtain ⟨a1, a2, a3⟩ := runU_ok hok 2000 (ma M 25) (mu_le hw) hw ho
  have hwU : wfS (runN d1 d2 (ma M 25)) := a1
  have hk : kp_r (runN d1 d2 (ma M 25)) (ma M 25) := a3
  unfold wX12_would
  refine m_goes_t hg (bw_t (m_areRules_t hn h2 r1 r2 (bw_t (m_in_t (lo := 0) (hi := 3) (by decide) (by decide) hp.1 hp.2 (bw_t (m_keeps _ ?_))))))
  refine m_runs hok (M := sF M 27 (fa_fill (ma M 25) (ma M 27) 44)) (chM_frm k1 rfl rfl rfl) (chM_frm k2 rfl rfl rfl) hw ho hg _ (fun N f e => ?_)
  have e25 : ma N 25 = endS (runN d1 d2 (ma M 25)) := e
  have e27 : ma N 27 = fa_fill (ma M 25) (ma M 27) 44 := by rw [f.1 27 (by decide), ma_sF1]
  have fin : ∀ z, z = wdR (runN d1 d2 (ma M 25)) (ma M 25) p3 → wX12_would_104 Q z N := by
    intro z hz
    unfold wX12_would_104
    refine m_putsBack _ ?_
    rw [hz, e25, e27, back_row (s := ma M 25) (fun j hj => by rw [end_keep hwU (by omega) (by omega) (by omega), hk j (by omega)]) (fun j hj => fa_fill_in hj)]
    exact h _ (eqM_back f)
  have k7 : ma N 27 7 = ma M 25 7 := by rw [e27]; exact fa_fill_in (by omega)
  have k9 : ma N 27 9 = ma M 25 9 := by rw [e27]; exact fa_fill_in (by omega)
  have u7 : ma N 25 7 = runN d1 d2 (ma M 25) 7 := by rw [e25, end_keep hwU (by omega) (by omega) (by omega)]
  have u9 : ma N 25 9 = runN d1 d2 (ma M 25) 9 := by rw [e25, end_keep hwU (by omega) (by omega) (by omega)]
  have u5 : ma N 25 5 = runN d1 d2 (ma M 25) 5 := by rw [e25, end_keep hwU (by omega) (by omega) (by omega)]
  unfold wdR at fin
  by_cases c0 : p3 = 0
  · exact sw_t c0 (fin _ (by rw [if_pos c0]; rfl))
  by_cases c1 : p3 = 1
  · exact sw_f c0 (sw_t c1 (fin _ (by rw [if_neg c0, if_pos c1, u7, k7])))
  by_cases c2 : p3 = 2
  · exact sw_f c0 (sw_f c1 (sw_t c2 (fin _ (by rw [if_neg c0, if_neg c1, if_pos c2, u9, k9]))))
  · exact sw_f c0 (sw_f c1 (sw_f c2 (fin _ (by rw [if_neg c0, if_neg c1, if_neg c2, u5]))))
theorem t_run_no {M M0 M1 M2 M3 M4 M5 M6 M7 M8 M9 : gS} (hi : inv M M0 M1 M2 M3 M4 M7) {n : Nat} (hn : n ≤ 6) (h2 : mg M 2 = nI n) {F : oF} (hF : ∀ k, k < n → ∃ a, F k = some a) {p1 p2 : Int32} (hno : ¬ (ma M 25 3 = 1 ∧ isRp n p1 ∧ isRp n p2)) : tieP M (fun Q => wX12_run p1 p2 M Q) (fun Q => wX11_runnn p1 p2 M0 M1 M2 M3 M4 M5 M6 M7 M8 M9 F (fun r N0 N1 N2 N3 N4 N5 N6 N7 N8 N9 F' => F' = F ∧ Q r N0 N1 N2 N3 N4 N5 N6 N7 N8 N9)) := by
  obtain ⟨⟨hw, hsp⟩, ⟨hW, hC, hq, hO⟩, hT, hB⟩ := id hi
  have h3 : mg M0 3 = nI n := hT.2.2.2.1.trans h2
  refine tieP_same (M5 := M5) (M6 := M6) (M8 := M8) (M9 := M9) hi (-2) (fun Q h => m_run_no hw hn h2 hno (h _ (eqM_refl _))) (fun Q h => ?_)
  show wX11_runnn p1 p2 M0 M1 M2 M3 M4 M5 M6 M7 M8 M9 F _
  unfold wX11_runnn
  by_cases g : ma M 25 3 = 1
  · refine sw_f (by rw [hq.1, g]; decide) ?_
    by_cases r1 : isRp n p1
    · exact c_isR_t hn h3 hF r1 (bw_t (c_isR_f hn h3 (fun z => hno ⟨g, r1, z⟩) (bw_f ⟨rfl, h⟩)))
    · exact c_isR_f hn h3 r1 (bw_f ⟨rfl, h⟩)
  · exact sw_t (by rw [hq.1]; exact goes_n hw g) ⟨rfl, h⟩
theorem t_would_no {M M0 M1 M2 M3 M4 M5 M6 M7 M8 M9 : gS} (hi : inv M M0 M1 M2 M3 M4 M7) {n : Nat} (hn : n ≤ 6) (h2 : mg M 2 = nI n) {F : oF} (hF : ∀ k, k < n → ∃ a, F k = some a) {p1 p2 p3 : Int32} (hno : ¬ (ma M 25 3 = 1 ∧ isRp n p1 ∧ isRp n p2 ∧ 0 ≤ p3 ∧ p3 ≤ 3)) : tieP M (fun Q => wX12_would p1 p2 p3 M Q) (fun Q => wX11_wouldnn p1 p2 p3 M0 M1 M2 M3 M4 M5 M6 M7 M8 M9 F (fun r N0 N1 N2 N3 N4 N5 N6 N7 N8 N9 F' => F' = F ∧ Q r N0 N1 N2 N3 N4 N5 N6 N7 N8 N9)) := by
  obtain ⟨⟨hw, hsp⟩, ⟨hW, hC, hq, hO⟩, hT, hB⟩ := id hi
  have h3 : mg M0 3 = nI n := hT.2.2.2.1.trans h2
  refine tieP_same (M5 := M5) (M6 := M6) (M8 := M8) (M9 := M9) hi (-2) (fun Q h => m_would_no hw hn h2 hno (h _ (eqM_refl _))) (fun Q h => ?_)
  show wX11_wouldnn p1 p2 p3 M0 M1 M2 M3 M4 M5 M6 M7 M8 M9 F _
  unfold wX11_wouldnn
  by_cases g : ma M 25 3 = 1
  · refine sw_f (by rw [hq.1, g]; decide) ?_
    by_cases r1 : isRp n p1
    · refine c_isR_t hn h3 hF r1 (bw_t ?_)
      by_cases r2 : isRp n p2
      · refine c_isR_t hn h3 hF r2 (bw_t ?_)
        by_cases c : p3 < 0
        · exact sw_t c ⟨rfl, h⟩
        · refine sw_f c (sw_f (fun z => hno ⟨g, r1, r2, nlt_le.1 c, z⟩) ⟨rfl, h⟩)
      · exact c_isR_f hn h3 r2 (bw_f ⟨rfl, h⟩)
    · exact c_isR_f hn h3 r1 (bw_f ⟨rfl, h⟩)
  · exact sw_t (by rw [hq.1]; exact goes_n hw g) ⟨rfl, h⟩
theorem t_runnn {M M0 M1 M2 M3 M4 M5 M6 M7 M8 M9 : gS} (hi : inv M M0 M1 M2 M3 M4 M7) (g : ma M 25 3 = 1) {n : Nat} (hn : n ≤ 6) (h2 : mg M 2 = nI n) {F : oF} (hF : ∀ k, k < n → ∃ a, F k = some a) : tieP M (fun Q => wX12_run (-1) (-1) M Q) (fun Q => wX11_runnn (-1) (-1) M0 M1 M2 M3 M4 M5 M6 M7 M8 M9 F (fun r N0 N1 N2 N3 N4 N5 N6 N7 N8 N9 F' => F' = F ∧ Q r N0 N1 N2 N3 N4 N5 N6 N7 N8 N9)) := by
  obtain ⟨⟨hw, hsp⟩, ⟨hW, hC, hq, hO⟩, hT, hB⟩ := id hi
  have h3 : mg M0 3 = nI n := hT.2.2.2.1.trans h2
  have ho := hsp g
  have hok : okD (dd_r cm_r cm_r) := ok_dd ok_cm ok_cm
  obtain ⟨a1, a2, a3⟩ := runU_ok hok 2000 (ma M 25) (mu_le hw) hw ho
  have hwU : wfS (runN cm_r cm_r (ma M 25)) := a1
  have hk : kp_r (runN cm_r cm_r (ma M 25)) (ma M 25) := a3
  have r1 : isRp n (-1) := Or.inl rfl
  have r2 : isRp n (-1) := Or.inl rfl
  refine tieP_row (M5 := M5) (M6 := M6) (M8 := M8) (M9 := M9) hi (nI (winN (runN cm_r cm_r (ma M 25)))) (endS (runN cm_r cm_r (ma M 25))) (end_good hwU) (fun Q h => ?_) (fun Q h => ?_)
  · show wX12_run (-1) (-1) M Q
    unfold wX12_run
    exact m_goes_t g (bw_t (m_areRules_t hn h2 r1 r2 (bw_t (m_runs hok (Or.inl ⟨rfl, fun _ => rfl⟩) (Or.inl ⟨rfl, fun _ => rfl⟩) hw ho g _ (fun N f e => h N (eqM_frm f e))))))
  · show wX11_runnn (-1) (-1) M0 M1 M2 M3 M4 M5 M6 M7 M8 M9 F _
    unfold wX11_runnn
    refine sw_f (by rw [hq.1, g]; decide) (c_isR_t hn h3 hF r1 (bw_t (c_isR_t hn h3 hF r2 (bw_t (c_ruleAt_m (c_ruleAt_m ⟨rfl, rfl, c_goBynn hw ho g hq hC _ (fun N hN => ?_)⟩))))))
    refine c_note_end hwU (by rw [hN.1.1]; exact end_3) hN.2.1 (relW_keep hW ⟨hk _ (by omega), hk _ (by omega), hk _ (by omega)⟩) _ (fun N1 hN1 => ?_)
    rw [hN.2.1]
    exact ⟨rfl, h _ _ _ _ (end_S (M1 := M1) hw hwU hk hC hO hN1 hN.1)⟩
theorem t_wouldnn {M M0 M1 M2 M3 M4 M5 M6 M7 M8 M9 : gS} (hi : inv M M0 M1 M2 M3 M4 M7) (g : ma M 25 3 = 1) {n : Nat} (hn : n ≤ 6) (h2 : mg M 2 = nI n) {F : oF} (hF : ∀ k, k < n → ∃ a, F k = some a) {p3 : Int32} (hp : 0 ≤ p3 ∧ p3 ≤ 3) : tieP M (fun Q => wX12_would (-1) (-1) p3 M Q) (fun Q => wX11_wouldnn (-1) (-1) p3 M0 M1 M2 M3 M4 M5 M6 M7 M8 M9 F (fun r N0 N1 N2 N3 N4 N5 N6 N7 N8 N9 F' => F' = F ∧ Q r N0 N1 N2 N3 N4 N5 N6 N7 N8 N9)) := by
  obtain ⟨⟨hw, hsp⟩, ⟨hW, hC, hq, hO⟩, hT, hB⟩ := id hi
  have h3 : mg M0 3 = nI n := hT.2.2.2.1.trans h2
  have ho := hsp g
  have hok : okD (dd_r cm_r cm_r) := ok_dd ok_cm ok_cm
  obtain ⟨a1, a2, a3⟩ := runU_ok hok 2000 (ma M 25) (mu_le hw) hw ho
  have hwU : wfS (runN cm_r cm_r (ma M 25)) := a1
  have r1 : isRp n (-1) := Or.inl rfl
  have r2 : isRp n (-1) := Or.inl rfl
  refine ⟨wdR (runN cm_r cm_r (ma M 25)) (ma M 25) p3, M, keepR_refl M, fun Q h => m_would hok hn h2 (Or.inl ⟨rfl, fun _ => rfl⟩) (Or.inl ⟨rfl, fun _ => rfl⟩) r1 r2 hp hw ho g h, fun Q h => ?_⟩
  show wX11_wouldnn (-1) (-1) p3 M0 M1 M2 M3 M4 M5 M6 M7 M8 M9 F _
  unfold wX11_wouldnn
  refine sw_f (by rw [hq.1, g]; decide) (c_isR_t hn h3 hF r1 (bw_t (c_isR_t hn h3 hF r2 (bw_t (sw_f (nlt_le.2 hp.1) (sw_t hp.2 (c_copyQ hw hq _ (fun X hX _ => c_ruleAt_m (c_ruleAt_m ⟨rfl, rfl, c_goBynn hw ho g hX hC _ (fun N hN => ?_)⟩)))))))))
  have u4 : mg N 4 = runN cm_r cm_r (ma M 25) 7 := hN.2.2.2
  have u2 : mg N 2 = runN cm_r cm_r (ma M 25) 5 := hN.2.2.1
  have u5 : mg N 5 = runN cm_r cm_r (ma M 25) 9 := by rw [hN.1.2.2.1, end_keep hwU (by omega) (by omega) (by omega)]
  have v4 : mg M3 4 = ma M 25 7 := (hq.2.1 g).2.2.2
  have v5 : mg M3 5 = ma M 25 9 := hq.2.2.1
  have hQ := h M0 M1 M2 M3 M4 M5 N M7 M8 M9 hi
  unfold wdR at hQ
  by_cases c0 : p3 = 0
  · rw [if_pos c0] at hQ
    exact sw_t c0 (by rw [hN.2.1]; exact ⟨rfl, hQ⟩)
  rw [if_neg c0] at hQ
  by_cases c1 : p3 = 1
  · rw [if_pos c1] at hQ
    exact sw_f c0 (sw_t c1 (by rw [u4, v4]; exact ⟨rfl, hQ⟩))
  rw [if_neg c1] at hQ
  by_cases c2 : p3 = 2
  · rw [if_pos c2] at hQ
    exact sw_f c0 (sw_f c1 (sw_t c2 (by rw [u5, v5]; exact ⟨rfl, hQ⟩)))
  rw [if_neg c2] at hQ
  exact sw_f c0 (sw_f c1 (sw_f c2 (by rw [u2]; exact ⟨rfl, hQ⟩)))
theorem t_runan {M M0 M1 M2 M3 M4 M5 M6 M7 M8 M9 : gS} (hi : inv M M0 M1 M2 M3 M4 M7) (g : ma M 25 3 = 1) {n : Nat} (hn : n ≤ 6) (h2 : mg M 2 = nI n) {F : oF} (hF : ∀ k, k < n → ∃ a, F k = some a) {h11 : Nat} {q1 : Nat} {R1 : gS} {d1 : (Nat → Int32) → Int32} (hk1 : q1 < n) (hF1 : F q1 = some h11) (c1 : chC R1 d1) (e1 : chM M (nI q1) d1) : tieP M (fun Q => wX12_run (nI q1) (-1) M Q) (fun Q => wX11_runan h11 (nI q1) (-1) M0 M1 M2 M3 M4 M5 M6 M7 M8 M9 F R1 (fun r N0 N1 N2 N3 N4 N5 N6 N7 N8 N9 F' S1 => F' = F ∧ frC R1 S1 ∧ Q r N0 N1 N2 N3 N4 N5 N6 N7 N8 N9)) := by
  obtain ⟨⟨hw, hsp⟩, ⟨hW, hC, hq, hO⟩, hT, hB⟩ := id hi
  have h3 : mg M0 3 = nI n := hT.2.2.2.1.trans h2
  have ho := hsp g
  have hok : okD (dd_r d1 cm_r) := ok_dd (chC_ok c1) ok_cm
  obtain ⟨a1, a2, a3⟩ := runU_ok hok 2000 (ma M 25) (mu_le hw) hw ho
  have hwU : wfS (runN d1 cm_r (ma M 25)) := a1
  have hk : kp_r (runN d1 cm_r (ma M 25)) (ma M 25) := a3
  have r1 : isRp n (nI q1) := Or.inr ⟨q1, hk1, rfl⟩
  have r2 : isRp n (-1) := Or.inl rfl
  refine tieP_row (M5 := M5) (M6 := M6) (M8 := M8) (M9 := M9) hi (nI (winN (runN d1 cm_r (ma M 25)))) (endS (runN d1 cm_r (ma M 25))) (end_good hwU) (fun Q h => ?_) (fun Q h => ?_)
  · show wX12_run (nI q1) (-1) M Q
    unfold wX12_run
    exact m_goes_t g (bw_t (m_areRules_t hn h2 r1 r2 (bw_t (m_runs hok (e1) (Or.inl ⟨rfl, fun _ => rfl⟩) hw ho g _ (fun N f e => h N (eqM_frm f e))))))
  · show wX11_runan h11 (nI q1) (-1) M0 M1 M2 M3 M4 M5 M6 M7 M8 M9 F R1 _
    unfold wX11_runan
    refine sw_f (by rw [hq.1, g]; decide) (c_isR_t hn h3 hF r1 (bw_t (c_isR_t hn h3 hF r2 (bw_t (c_ruleAt_k hn h3 hk1 hF1 (c_ruleAt_m ⟨rfl, rfl, c_goByan hw ho g hq hC c1 _ (fun N S1 hN f1 => ?_)⟩))))))
    refine c_note_end hwU (by rw [hN.1.1]; exact end_3) hN.2.1 (relW_keep hW ⟨hk _ (by omega), hk _ (by omega), hk _ (by omega)⟩) _ (fun N1 hN1 => ?_)
    rw [hN.2.1]
    exact ⟨rfl, f1, h _ _ _ _ (end_S (M1 := M1) hw hwU hk hC hO hN1 hN.1)⟩
theorem t_wouldan {M M0 M1 M2 M3 M4 M5 M6 M7 M8 M9 : gS} (hi : inv M M0 M1 M2 M3 M4 M7) (g : ma M 25 3 = 1) {n : Nat} (hn : n ≤ 6) (h2 : mg M 2 = nI n) {F : oF} (hF : ∀ k, k < n → ∃ a, F k = some a) {h11 : Nat} {q1 : Nat} {R1 : gS} {d1 : (Nat → Int32) → Int32} (hk1 : q1 < n) (hF1 : F q1 = some h11) (c1 : chC R1 d1) (e1 : chM M (nI q1) d1) {p3 : Int32} (hp : 0 ≤ p3 ∧ p3 ≤ 3) : tieP M (fun Q => wX12_would (nI q1) (-1) p3 M Q) (fun Q => wX11_wouldan h11 (nI q1) (-1) p3 M0 M1 M2 M3 M4 M5 M6 M7 M8 M9 F R1 (fun r N0 N1 N2 N3 N4 N5 N6 N7 N8 N9 F' S1 => F' = F ∧ frC R1 S1 ∧ Q r N0 N1 N2 N3 N4 N5 N6 N7 N8 N9)) := by
  obtain ⟨⟨hw, hsp⟩, ⟨hW, hC, hq, hO⟩, hT, hB⟩ := id hi
  have h3 : mg M0 3 = nI n := hT.2.2.2.1.trans h2
  have ho := hsp g
  have hok : okD (dd_r d1 cm_r) := ok_dd (chC_ok c1) ok_cm
  obtain ⟨a1, a2, a3⟩ := runU_ok hok 2000 (ma M 25) (mu_le hw) hw ho
  have hwU : wfS (runN d1 cm_r (ma M 25)) := a1
  have r1 : isRp n (nI q1) := Or.inr ⟨q1, hk1, rfl⟩
  have r2 : isRp n (-1) := Or.inl rfl
  refine ⟨wdR (runN d1 cm_r (ma M 25)) (ma M 25) p3, M, keepR_refl M, fun Q h => m_would hok hn h2 (e1) (Or.inl ⟨rfl, fun _ => rfl⟩) r1 r2 hp hw ho g h, fun Q h => ?_⟩
  show wX11_wouldan h11 (nI q1) (-1) p3 M0 M1 M2 M3 M4 M5 M6 M7 M8 M9 F R1 _
  unfold wX11_wouldan
  refine sw_f (by rw [hq.1, g]; decide) (c_isR_t hn h3 hF r1 (bw_t (c_isR_t hn h3 hF r2 (bw_t (sw_f (nlt_le.2 hp.1) (sw_t hp.2 (c_copyQ hw hq _ (fun X hX _ => c_ruleAt_k hn h3 hk1 hF1 (c_ruleAt_m ⟨rfl, rfl, c_goByan hw ho g hX hC c1 _ (fun N S1 hN f1 => ?_)⟩)))))))))
  have u4 : mg N 4 = runN d1 cm_r (ma M 25) 7 := hN.2.2.2
  have u2 : mg N 2 = runN d1 cm_r (ma M 25) 5 := hN.2.2.1
  have u5 : mg N 5 = runN d1 cm_r (ma M 25) 9 := by rw [hN.1.2.2.1, end_keep hwU (by omega) (by omega) (by omega)]
  have v4 : mg M3 4 = ma M 25 7 := (hq.2.1 g).2.2.2
  have v5 : mg M3 5 = ma M 25 9 := hq.2.2.1
  have hQ := h M0 M1 M2 M3 M4 M5 N M7 M8 M9 hi
  unfold wdR at hQ
  by_cases c0 : p3 = 0
  · rw [if_pos c0] at hQ
    exact sw_t c0 (by rw [hN.2.1]; exact ⟨rfl, f1, hQ⟩)
  rw [if_neg c0] at hQ
  by_cases c1 : p3 = 1
  · rw [if_pos c1] at hQ
    exact sw_f c0 (sw_t c1 (by rw [u4, v4]; exact ⟨rfl, f1, hQ⟩))
  rw [if_neg c1] at hQ
  by_cases c2 : p3 = 2
  · rw [if_pos c2] at hQ
    exact sw_f c0 (sw_f c1 (sw_t c2 (by rw [u5, v5]; exact ⟨rfl, f1, hQ⟩)))
  rw [if_neg c2] at hQ
  exact sw_f c0 (sw_f c1 (sw_f c2 (by rw [u2]; exact ⟨rfl, f1, hQ⟩)))
theorem t_runna {M M0 M1 M2 M3 M4 M5 M6 M7 M8 M9 : gS} (hi : inv M M0 M1 M2 M3 M4 M7) (g : ma M 25 3 = 1) {n : Nat} (hn : n ≤ 6) (h2 : mg M 2 = nI n) {F : oF} (hF : ∀ k, k < n → ∃ a, F k = some a) {h11 : Nat} {q1 : Nat} {R1 : gS} {d1 : (Nat → Int32) → Int32} (hk1 : q1 < n) (hF1 : F q1 = some h11) (c1 : chC R1 d1) (e1 : chM M (nI q1) d1) : tieP M (fun Q => wX12_run (-1) (nI q1) M Q) (fun Q => wX11_runna h11 (-1) (nI q1) M0 M1 M2 M3 M4 M5 M6 M7 M8 M9 F R1 (fun r N0 N1 N2 N3 N4 N5 N6 N7 N8 N9 F' S1 => F' = F ∧ frC R1 S1 ∧ Q r N0 N1 N2 N3 N4 N5 N6 N7 N8 N9)) := by
  obtain ⟨⟨hw, hsp⟩, ⟨hW, hC, hq, hO⟩, hT, hB⟩ := id hi
  have h3 : mg M0 3 = nI n := hT.2.2.2.1.trans h2
  have ho := hsp g
  have hok : okD (dd_r cm_r d1) := ok_dd ok_cm (chC_ok c1)
  obtain ⟨a1, a2, a3⟩ := runU_ok hok 2000 (ma M 25) (mu_le hw) hw ho
  have hwU : wfS (runN cm_r d1 (ma M 25)) := a1
  have hk : kp_r (runN cm_r d1 (ma M 25)) (ma M 25) := a3
  have r1 : isRp n (-1) := Or.inl rfl
  have r2 : isRp n (nI q1) := Or.inr ⟨q1, hk1, rfl⟩
  refine tieP_row (M5 := M5) (M6 := M6) (M8 := M8) (M9 := M9) hi (nI (winN (runN cm_r d1 (ma M 25)))) (endS (runN cm_r d1 (ma M 25))) (end_good hwU) (fun Q h => ?_) (fun Q h => ?_)
  · show wX12_run (-1) (nI q1) M Q
    unfold wX12_run
    exact m_goes_t g (bw_t (m_areRules_t hn h2 r1 r2 (bw_t (m_runs hok (Or.inl ⟨rfl, fun _ => rfl⟩) (e1) hw ho g _ (fun N f e => h N (eqM_frm f e))))))
  · show wX11_runna h11 (-1) (nI q1) M0 M1 M2 M3 M4 M5 M6 M7 M8 M9 F R1 _
    unfold wX11_runna
    refine sw_f (by rw [hq.1, g]; decide) (c_isR_t hn h3 hF r1 (bw_t (c_isR_t hn h3 hF r2 (bw_t (c_ruleAt_m (c_ruleAt_k hn h3 hk1 hF1 ⟨rfl, rfl, c_goByna hw ho g hq hC c1 _ (fun N S1 hN f1 => ?_)⟩))))))
    refine c_note_end hwU (by rw [hN.1.1]; exact end_3) hN.2.1 (relW_keep hW ⟨hk _ (by omega), hk _ (by omega), hk _ (by omega)⟩) _ (fun N1 hN1 => ?_)
    rw [hN.2.1]
    exact ⟨rfl, f1, h _ _ _ _ (end_S (M1 := M1) hw hwU hk hC hO hN1 hN.1)⟩
theorem t_wouldna {M M0 M1 M2 M3 M4 M5 M6 M7 M8 M9 : gS} (hi : inv M M0 M1 M2 M3 M4 M7) (g : ma M 25 3 = 1) {n : Nat} (hn : n ≤ 6) (h2 : mg M 2 = nI n) {F : oF} (hF : ∀ k, k < n → ∃ a, F k = some a) {h11 : Nat} {q1 : Nat} {R1 : gS} {d1 : (Nat → Int32) → Int32} (hk1 : q1 < n) (hF1 : F q1 = some h11) (c1 : chC R1 d1) (e1 : chM M (nI q1) d1) {p3 : Int32} (hp : 0 ≤ p3 ∧ p3 ≤ 3) : tieP M (fun Q => wX12_would (-1) (nI q1) p3 M Q) (fun Q => wX11_wouldna h11 (-1) (nI q1) p3 M0 M1 M2 M3 M4 M5 M6 M7 M8 M9 F R1 (fun r N0 N1 N2 N3 N4 N5 N6 N7 N8 N9 F' S1 => F' = F ∧ frC R1 S1 ∧ Q r N0 N1 N2 N3 N4 N5 N6 N7 N8 N9)) := by
  obtain ⟨⟨hw, hsp⟩, ⟨hW, hC, hq, hO⟩, hT, hB⟩ := id hi
  have h3 : mg M0 3 = nI n := hT.2.2.2.1.trans h2
  have ho := hsp g
  have hok : okD (dd_r cm_r d1) := ok_dd ok_cm (chC_ok c1)
  obtain ⟨a1, a2, a3⟩ := runU_ok hok 2000 (ma M 25) (mu_le hw) hw ho
  have hwU : wfS (runN cm_r d1 (ma M 25)) := a1
  have r1 : isRp n (-1) := Or.inl rfl
  have r2 : isRp n (nI q1) := Or.inr ⟨q1, hk1, rfl⟩
  refine ⟨wdR (runN cm_r d1 (ma M 25)) (ma M 25) p3, M, keepR_refl M, fun Q h => m_would hok hn h2 (Or.inl ⟨rfl, fun _ => rfl⟩) (e1) r1 r2 hp hw ho g h, fun Q h => ?_⟩
  show wX11_wouldna h11 (-1) (nI q1) p3 M0 M1 M2 M3 M4 M5 M6 M7 M8 M9 F R1 _
  unfold wX11_wouldna
  refine sw_f (by rw [hq.1, g]; decide) (c_isR_t hn h3 hF r1 (bw_t (c_isR_t hn h3 hF r2 (bw_t (sw_f (nlt_le.2 hp.1) (sw_t hp.2 (c_copyQ hw hq _ (fun X hX _ => c_ruleAt_m (c_ruleAt_k hn h3 hk1 hF1 ⟨rfl, rfl, c_goByna hw ho g hX hC c1 _ (fun N S1 hN f1 => ?_)⟩)))))))))
  have u4 : mg N 4 = runN cm_r d1 (ma M 25) 7 := hN.2.2.2
  have u2 : mg N 2 = runN cm_r d1 (ma M 25) 5 := hN.2.2.1
  have u5 : mg N 5 = runN cm_r d1 (ma M 25) 9 := by rw [hN.1.2.2.1, end_keep hwU (by omega) (by omega) (by omega)]
  have v4 : mg M3 4 = ma M 25 7 := (hq.2.1 g).2.2.2
  have v5 : mg M3 5 = ma M 25 9 := hq.2.2.1
  have hQ := h M0 M1 M2 M3 M4 M5 N M7 M8 M9 hi
  unfold wdR at hQ
  by_cases c0 : p3 = 0
  · rw [if_pos c0] at hQ
    exact sw_t c0 (by rw [hN.2.1]; exact ⟨rfl, f1, hQ⟩)
  rw [if_neg c0] at hQ
  by_cases c1 : p3 = 1
  · rw [if_pos c1] at hQ
    exact sw_f c0 (sw_t c1 (by rw [u4, v4]; exact ⟨rfl, f1, hQ⟩))
  rw [if_neg c1] at hQ
  by_cases c2 : p3 = 2
  · rw [if_pos c2] at hQ
    exact sw_f c0 (sw_f c1 (sw_t c2 (by rw [u5, v5]; exact ⟨rfl, f1, hQ⟩)))
  rw [if_neg c2] at hQ
  exact sw_f c0 (sw_f c1 (sw_f c2 (by rw [u2]; exact ⟨rfl, f1, hQ⟩)))
theorem t_runaa {M M0 M1 M2 M3 M4 M5 M6 M7 M8 M9 : gS} (hi : inv M M0 M1 M2 M3 M4 M7) (g : ma M 25 3 = 1) {n : Nat} (hn : n ≤ 6) (h2 : mg M 2 = nI n) {F : oF} (hF : ∀ k, k < n → ∃ a, F k = some a) {h11 : Nat} {q1 : Nat} {R1 : gS} {d1 : (Nat → Int32) → Int32} (hk1 : q1 < n) (hF1 : F q1 = some h11) (c1 : chC R1 d1) (e1 : chM M (nI q1) d1) : tieP M (fun Q => wX12_run (nI q1) (nI q1) M Q) (fun Q => wX11_runaa h11 (nI q1) (nI q1) M0 M1 M2 M3 M4 M5 M6 M7 M8 M9 F R1 (fun r N0 N1 N2 N3 N4 N5 N6 N7 N8 N9 F' S1 => F' = F ∧ frC R1 S1 ∧ Q r N0 N1 N2 N3 N4 N5 N6 N7 N8 N9)) := by
  obtain ⟨⟨hw, hsp⟩, ⟨hW, hC, hq, hO⟩, hT, hB⟩ := id hi
  have h3 : mg M0 3 = nI n := hT.2.2.2.1.trans h2
  have ho := hsp g
  have hok : okD (dd_r d1 d1) := ok_dd (chC_ok c1) (chC_ok c1)
  obtain ⟨a1, a2, a3⟩ := runU_ok hok 2000 (ma M 25) (mu_le hw) hw ho
  have hwU : wfS (runN d1 d1 (ma M 25)) := a1
  have hk : kp_r (runN d1 d1 (ma M 25)) (ma M 25) := a3
  have r1 : isRp n (nI q1) := Or.inr ⟨q1, hk1, rfl⟩
  have r2 : isRp n (nI q1) := Or.inr ⟨q1, hk1, rfl⟩
  refine tieP_row (M5 := M5) (M6 := M6) (M8 := M8) (M9 := M9) hi (nI (winN (runN d1 d1 (ma M 25)))) (endS (runN d1 d1 (ma M 25))) (end_good hwU) (fun Q h => ?_) (fun Q h => ?_)
  · show wX12_run (nI q1) (nI q1) M Q
    unfold wX12_run
    exact m_goes_t g (bw_t (m_areRules_t hn h2 r1 r2 (bw_t (m_runs hok (e1) (e1) hw ho g _ (fun N f e => h N (eqM_frm f e))))))
  · show wX11_runaa h11 (nI q1) (nI q1) M0 M1 M2 M3 M4 M5 M6 M7 M8 M9 F R1 _
    unfold wX11_runaa
    refine sw_f (by rw [hq.1, g]; decide) (c_isR_t hn h3 hF r1 (bw_t (c_isR_t hn h3 hF r2 (bw_t (c_ruleAt_k hn h3 hk1 hF1 (c_ruleAt_k hn h3 hk1 hF1 ⟨rfl, rfl, c_goByaa hw ho g hq hC c1 _ (fun N S1 hN f1 => ?_)⟩))))))
    refine c_note_end hwU (by rw [hN.1.1]; exact end_3) hN.2.1 (relW_keep hW ⟨hk _ (by omega), hk _ (by omega), hk _ (by omega)⟩) _ (fun N1 hN1 => ?_)
    rw [hN.2.1]
    exact ⟨rfl, f1, h _ _ _ _ (end_S (M1 := M1) hw hwU hk hC hO hN1 hN.1)⟩
theorem t_wouldaa {M M0 M1 M2 M3 M4 M5 M6 M7 M8 M9 : gS} (hi : inv M M0 M1 M2 M3 M4 M7) (g : ma M 25 3 = 1) {n : Nat} (hn : n ≤ 6) (h2 : mg M 2 = nI n) {F : oF} (hF : ∀ k, k < n → ∃ a, F k = some a) {h11 : Nat} {q1 : Nat} {R1 : gS} {d1 : (Nat → Int32) → Int32} (hk1 : q1 < n) (hF1 : F q1 = some h11) (c1 : chC R1 d1) (e1 : chM M (nI q1) d1) {p3 : Int32} (hp : 0 ≤ p3 ∧ p3 ≤ 3) : tieP M (fun Q => wX12_would (nI q1) (nI q1) p3 M Q) (fun Q => wX11_wouldaa h11 (nI q1) (nI q1) p3 M0 M1 M2 M3 M4 M5 M6 M7 M8 M9 F R1 (fun r N0 N1 N2 N3 N4 N5 N6 N7 N8 N9 F' S1 => F' = F ∧ frC R1 S1 ∧ Q r N0 N1 N2 N3 N4 N5 N6 N7 N8 N9)) := by
  obtain ⟨⟨hw, hsp⟩, ⟨hW, hC, hq, hO⟩, hT, hB⟩ := id hi
  have h3 : mg M0 3 = nI n := hT.2.2.2.1.trans h2
  have ho := hsp g
  have hok : okD (dd_r d1 d1) := ok_dd (chC_ok c1) (chC_ok c1)
  obtain ⟨a1, a2, a3⟩ := runU_ok hok 2000 (ma M 25) (mu_le hw) hw ho
  have hwU : wfS (runN d1 d1 (ma M 25)) := a1
  have r1 : isRp n (nI q1) := Or.inr ⟨q1, hk1, rfl⟩
  have r2 : isRp n (nI q1) := Or.inr ⟨q1, hk1, rfl⟩
  refine ⟨wdR (runN d1 d1 (ma M 25)) (ma M 25) p3, M, keepR_refl M, fun Q h => m_would hok hn h2 (e1) (e1) r1 r2 hp hw ho g h, fun Q h => ?_⟩
  show wX11_wouldaa h11 (nI q1) (nI q1) p3 M0 M1 M2 M3 M4 M5 M6 M7 M8 M9 F R1 _
  unfold wX11_wouldaa
  refine sw_f (by rw [hq.1, g]; decide) (c_isR_t hn h3 hF r1 (bw_t (c_isR_t hn h3 hF r2 (bw_t (sw_f (nlt_le.2 hp.1) (sw_t hp.2 (c_copyQ hw hq _ (fun X hX _ => c_ruleAt_k hn h3 hk1 hF1 (c_ruleAt_k hn h3 hk1 hF1 ⟨rfl, rfl, c_goByaa hw ho g hX hC c1 _ (fun N S1 hN f1 => ?_)⟩)))))))))
  have u4 : mg N 4 = runN d1 d1 (ma M 25) 7 := hN.2.2.2
  have u2 : mg N 2 = runN d1 d1 (ma M 25) 5 := hN.2.2.1
  have u5 : mg N 5 = runN d1 d1 (ma M 25) 9 := by rw [hN.1.2.2.1, end_keep hwU (by omega) (by omega) (by omega)]
  have v4 : mg M3 4 = ma M 25 7 := (hq.2.1 g).2.2.2
  have v5 : mg M3 5 = ma M 25 9 := hq.2.2.1
  have hQ := h M0 M1 M2 M3 M4 M5 N M7 M8 M9 hi
  unfold wdR at hQ
  by_cases c0 : p3 = 0
  · rw [if_pos c0] at hQ
    exact sw_t c0 (by rw [hN.2.1]; exact ⟨rfl, f1, hQ⟩)
  rw [if_neg c0] at hQ
  by_cases c1 : p3 = 1
  · rw [if_pos c1] at hQ
    exact sw_f c0 (sw_t c1 (by rw [u4, v4]; exact ⟨rfl, f1, hQ⟩))
  rw [if_neg c1] at hQ
  by_cases c2 : p3 = 2
  · rw [if_pos c2] at hQ
    exact sw_f c0 (sw_f c1 (sw_t c2 (by rw [u5, v5]; exact ⟨rfl, f1, hQ⟩)))
  rw [if_neg c2] at hQ
  exact sw_f c0 (sw_f c1 (sw_f c2 (by rw [u2]; exact ⟨rfl, f1, hQ⟩)))
theorem t_runab {M M0 M1 M2 M3 M4 M5 M6 M7 M8 M9 : gS} (hi : inv M M0 M1 M2 M3 M4 M7) (g : ma M 25 3 = 1) {n : Nat} (hn : n ≤ 6) (h2 : mg M 2 = nI n) {F : oF} (hF : ∀ k, k < n → ∃ a, F k = some a) {h11 h12 : Nat} {q1 q2 : Nat} {R1 R2 : gS} {d1 : (Nat → Int32) → Int32} {d2 : (Nat → Int32) → Int32} (hk1 : q1 < n) (hF1 : F q1 = some h11) (c1 : chC R1 d1) (e1 : chM M (nI q1) d1) (hk2 : q2 < n) (hF2 : F q2 = some h12) (c2 : chC R2 d2) (e2 : chM M (nI q2) d2) : tieP M (fun Q => wX12_run (nI q1) (nI q2) M Q) (fun Q => wX11_runab h11 h12 (nI q1) (nI q2) M0 M1 M2 M3 M4 M5 M6 M7 M8 M9 F R1 R2 (fun r N0 N1 N2 N3 N4 N5 N6 N7 N8 N9 F' S1 S2 => F' = F ∧ frC R1 S1 ∧ frC R2 S2 ∧ Q r N0 N1 N2 N3 N4 N5 N6 N7 N8 N9)) := by
  obtain ⟨⟨hw, hsp⟩, ⟨hW, hC, hq, hO⟩, hT, hB⟩ := id hi
  have h3 : mg M0 3 = nI n := hT.2.2.2.1.trans h2
  have ho := hsp g
  have hok : okD (dd_r d1 d2) := ok_dd (chC_ok c1) (chC_ok c2)
  obtain ⟨a1, a2, a3⟩ := runU_ok hok 2000 (ma M 25) (mu_le hw) hw ho
  have hwU : wfS (runN d1 d2 (ma M 25)) := a1
  have hk : kp_r (runN d1 d2 (ma M 25)) (ma M 25) := a3
  have r1 : isRp n (nI q1) := Or.inr ⟨q1, hk1, rfl⟩
  have r2 : isRp n (nI q2) := Or.inr ⟨q2, hk2, rfl⟩
  refine tieP_row (M5 := M5) (M6 := M6) (M8 := M8) (M9 := M9) hi (nI (winN (runN d1 d2 (ma M 25)))) (endS (runN d1 d2 (ma M 25))) (end_good hwU) (fun Q h => ?_) (fun Q h => ?_)
  · show wX12_run (nI q1) (nI q2) M Q
    unfold wX12_run
    exact m_goes_t g (bw_t (m_areRules_t hn h2 r1 r2 (bw_t (m_runs hok (e1) (e2) hw ho g _ (fun N f e => h N (eqM_frm f e))))))
  · show wX11_runab h11 h12 (nI q1) (nI q2) M0 M1 M2 M3 M4 M5 M6 M7 M8 M9 F R1 R2 _
    unfold wX11_runab
    refine sw_f (by rw [hq.1, g]; decide) (c_isR_t hn h3 hF r1 (bw_t (c_isR_t hn h3 hF r2 (bw_t (c_ruleAt_k hn h3 hk1 hF1 (c_ruleAt_k hn h3 hk2 hF2 ⟨rfl, rfl, c_goByab hw ho g hq hC c1 c2 _ (fun N S1 S2 hN f1 f2 => ?_)⟩))))))
    refine c_note_end hwU (by rw [hN.1.1]; exact end_3) hN.2.1 (relW_keep hW ⟨hk _ (by omega), hk _ (by omega), hk _ (by omega)⟩) _ (fun N1 hN1 => ?_)
    rw [hN.2.1]
    exact ⟨rfl, f1, f2, h _ _ _ _ (end_S (M1 := M1) hw hwU hk hC hO hN1 hN.1)⟩
theorem t_wouldab {M M0 M1 M2 M3 M4 M5 M6 M7 M8 M9 : gS} (hi : inv M M0 M1 M2 M3 M4 M7) (g : ma M 25 3 = 1) {n : Nat} (hn : n ≤ 6) (h2 : mg M 2 = nI n) {F : oF} (hF : ∀ k, k < n → ∃ a, F k = some a) {h11 h12 : Nat} {q1 q2 : Nat} {R1 R2 : gS} {d1 : (Nat → Int32) → Int32} {d2 : (Nat → Int32) → Int32} (hk1 : q1 < n) (hF1 : F q1 = some h11) (c1 : chC R1 d1) (e1 : chM M (nI q1) d1) (hk2 : q2 < n) (hF2 : F q2 = some h12) (c2 : chC R2 d2) (e2 : chM M (nI q2) d2) {p3 : Int32} (hp : 0 ≤ p3 ∧ p3 ≤ 3) : tieP M (fun Q => wX12_would (nI q1) (nI q2) p3 M Q) (fun Q => wX11_wouldab h11 h12 (nI q1) (nI q2) p3 M0 M1 M2 M3 M4 M5 M6 M7 M8 M9 F R1 R2 (fun r N0 N1 N2 N3 N4 N5 N6 N7 N8 N9 F' S1 S2 => F' = F ∧ frC R1 S1 ∧ frC R2 S2 ∧ Q r N0 N1 N2 N3 N4 N5 N6 N7 N8 N9)) := by
  obtain ⟨⟨hw, hsp⟩, ⟨hW, hC, hq, hO⟩, hT, hB⟩ := id hi
  have h3 : mg M0 3 = nI n := hT.2.2.2.1.trans h2
  have ho := hsp g
  have hok : okD (dd_r d1 d2) := ok_dd (chC_ok c1) (chC_ok c2)
  obtain ⟨a1, a2, a3⟩ := runU_ok hok 2000 (ma M 25) (mu_le hw) hw ho
  have hwU : wfS (runN d1 d2 (ma M 25)) := a1
  have r1 : isRp n (nI q1) := Or.inr ⟨q1, hk1, rfl⟩
  have r2 : isRp n (nI q2) := Or.inr ⟨q2, hk2, rfl⟩
  refine ⟨wdR (runN d1 d2 (ma M 25)) (ma M 25) p3, M, keepR_refl M, fun Q h => m_would hok hn h2 (e1) (e2) r1 r2 hp hw ho g h, fun Q h => ?_⟩
  show wX11_wouldab h11 h12 (nI q1) (nI q2) p3 M0 M1 M2 M3 M4 M5 M6 M7 M8 M9 F R1 R2 _
  unfold wX11_wouldab
  refine sw_f (by rw [hq.1, g]; decide) (c_isR_t hn h3 hF r1 (bw_t (c_isR_t hn h3 hF r2 (bw_t (sw_f (nlt_le.2 hp.1) (sw_t hp.2 (c_copyQ hw hq _ (fun X hX _ => c_ruleAt_k hn h3 hk1 hF1 (c_ruleAt_k hn h3 hk2 hF2 ⟨rfl, rfl, c_goByab hw ho g hX hC c1 c2 _ (fun N S1 S2 hN f1 f2 => ?_)⟩)))))))))
  have u4 : mg N 4 = runN d1 d2 (ma M 25) 7 := hN.2.2.2
  have u2 : mg N 2 = runN d1 d2 (ma M 25) 5 := hN.2.2.1
  have u5 : mg N 5 = runN d1 d2 (ma M 25) 9 := by rw [hN.1.2.2.1, end_keep hwU (by omega) (by omega) (by omega)]
  have v4 : mg M3 4 = ma M 25 7 := (hq.2.1 g).2.2.2
  have v5 : mg M3 5 = ma M 25 9 := hq.2.2.1
  have hQ := h M0 M1 M2 M3 M4 M5 N M7 M8 M9 hi
  unfold wdR at hQ
  by_cases c0 : p3 = 0
  · rw [if_pos c0] at hQ
    exact sw_t c0 (by rw [hN.2.1]; exact ⟨rfl, f1, f2, hQ⟩)
  rw [if_neg c0] at hQ
  by_cases c1 : p3 = 1
  · rw [if_pos c1] at hQ
    exact sw_f c0 (sw_t c1 (by rw [u4, v4]; exact ⟨rfl, f1, f2, hQ⟩))
  rw [if_neg c1] at hQ
  by_cases c2 : p3 = 2
  · rw [if_pos c2] at hQ
    exact sw_f c0 (sw_f c1 (sw_t c2 (by rw [u5, v5]; exact ⟨rfl, f1, f2, hQ⟩)))
  rw [if_neg c2] at hQ
  exact sw_f c0 (sw_f c1 (sw_f c2 (by rw [u2]; exact ⟨rfl, f1, f2, hQ⟩)))
