-- PURE: a quarrel run by rules
def dd_r (d1 d2 : (Nat → Int32) → Int32) (s : Nat → Int32) : Int32 := if aN s 6 = 0 then d1 s else d2 s
def stepS (c : Int32) (s : Nat → Int32) : Nat → Int32 := if c = 4 then throwS s else sayS s c.toNatClampNeg
/-- the row just before it is over -/
def runU (c : (Nat → Int32) → Int32) : Nat → (Nat → Int32) → (Nat → Int32)
  | 0, s => s
  | n + 1, s => if c s = -1 then stillS s else if canDoN (stepS (c s) s) = true then runU c n (stepS (c s) s) else stepS (c s) s
def mu_r (s : Nat → Int32) : Nat := aN s 5 + (aN s 4 + 1) * (aN s 12 + aN s 13)
def okD (c : (Nat → Int32) → Int32) : Prop := ∀ s, c s = -1 ∨ (c s = 4 ∧ canThrowN s = true) ∨ ∃ w, w < 4 ∧ c s = nI w ∧ canSayN s w = true
def cm_r : (Nat → Int32) → Int32 := fun _ => -1
theorem ok_cm : okD cm_r := fun _ => Or.inl rfl
theorem ok_dd {d1 d2 : (Nat → Int32) → Int32} (h1 : okD d1) (h2 : okD d2) : okD (dd_r d1 d2) := by
  intro s
  unfold dd_r
  by_cases z : aN s 6 = 0
  · rw [if_pos z]; exact h1 s
  · rw [if_neg z]; exact h2 s
theorem chC_ok {R : gS} {d : (Nat → Int32) → Int32} (h : chC R d) : okD d := by
  obtain ⟨M, k, n, b, τ, hR, hd⟩ := h
  intro s
  rw [hd s]
  exact d_ok hR
theorem mu_throw {s : Nat → Int32} (hw : wfS s) (hc : canThrowN s = true) : mu_r (throwS s) < mu_r s := by
  have b4 : aN s 4 ≤ 72 := hw.b 4 rfl
  have b5 : aN s 5 ≤ 200 := hw.b 5 rfl
  have b6 : aN s 6 ≤ 1 := hw.b 6 rfl
  have h6 : aN s 6 < 2 := by omega
  have bp := hw.b (12 + aN s 6) (isB_12 _ h6); rw [bnd_12 _ h6] at bp
  unfold canThrowN at hc
  simp only [Bool.and_eq_true, decide_eq_true_eq] at hc
  have ek : ∀ j, j ≠ 12 + aN s 6 → j ≠ 9 → j ≠ 5 → j ≠ 7 → aN (throwS s) j = aN s j := fun j h1 h2 h3 h4 => by unfold aN; rw [throw_keep hw h1 h2 h3 h4]
  have e5 : aN (throwS s) 5 = aN s 5 + aN s 4 := by
    unfold throwS
    rw [aN_upd, if_neg (by omega), aN_upd, if_pos rfl, hw.n 5 rfl, hw.n 4 rfl, nI_add, nI_clamp (by omega)]
  have ep : aN (throwS s) (12 + aN s 6) = aN s (12 + aN s 6) - 1 := by
    unfold throwS
    rw [aN_upd, if_neg (by omega), aN_upd, if_neg (by omega), aN_upd, if_neg (by omega), aN_upd, if_pos rfl, hw.n (12 + aN s 6) (isB_12 _ h6), show (1 : Int32) = nI 1 from rfl, pk_sub (by omega), nI_clamp (by omega)]
  unfold mu_r
  rw [e5, ek 4 (by omega) (by omega) (by omega) (by omega)]
  rcases (show aN s 6 = 0 ∨ aN s 6 = 1 by omega) with z | z
  · rw [z] at ep hc
    rw [ek 13 (by omega) (by omega) (by omega) (by omega)]
    obtain ⟨q, hq⟩ : ∃ q, aN s 12 = q + 1 := ⟨aN s 12 - 1, by have := hc.1; simp only [Nat.add_zero] at this; omega⟩
    have ep' : aN (throwS s) 12 = q := by rw [show (12 : Nat) = 12 + 0 from rfl, ep]; simp only [Nat.add_zero]; omega
    rw [ep', hq, show q + 1 + aN s 13 = (q + aN s 13) + 1 by omega, Nat.mul_succ]
    omega
  · rw [z] at ep hc
    rw [ek 12 (by omega) (by omega) (by omega) (by omega)]
    obtain ⟨q, hq⟩ : ∃ q, aN s 13 = q + 1 := ⟨aN s 13 - 1, by have := hc.1; simp only [Nat.reduceAdd] at this; omega⟩
    have ep' : aN (throwS s) 13 = q := by rw [show (13 : Nat) = 12 + 1 from rfl, ep]; simp only [Nat.reduceAdd]; omega
    rw [ep', hq, show aN s 12 + (q + 1) = (aN s 12 + q) + 1 by omega, Nat.mul_succ]
    omega
theorem mu_say {s : Nat → Int32} (hw : wfS s) {w : Nat} (h4 : w < 4) (hc : canSayN s w = true) : mu_r (sayS s w) < mu_r s := by
  have b5 : aN s 5 ≤ 200 := hw.b 5 rfl
  have b6 : aN s 6 ≤ 1 := hw.b 6 rfl
  unfold canSayN at hc
  simp only [Bool.and_eq_true, decide_eq_true_eq] at hc
  have h1 := hw.2.2.1 w hc.1
  have hcost : 1 ≤ costN s w := by unfold costN; omega
  have e5 : aN (sayS s w) 5 = aN s 5 - costN s w := by
    show (sayS s w 5).toNatClampNeg = _
    rw [say_5, nI_clamp (by omega)]
  have ek : ∀ j, j ≠ 5 → j ≠ 14 + aN s 6 → j ≠ 16 + aN s 6 → j ≠ 8 → j ≠ 6 → j ≠ 7 → aN (sayS s w) j = aN s j := fun j h1 h2 h3 h4 h5 h6 => by unfold aN; rw [say_keep h1 h2 h3 h4 h5 h6]
  unfold mu_r
  rw [e5, ek 4 (by omega) (by omega) (by omega) (by omega) (by omega) (by omega), ek 12 (by omega) (by omega) (by omega) (by omega) (by omega) (by omega), ek 13 (by omega) (by omega) (by omega) (by omega) (by omega) (by omega)]
  omega
theorem mu_le {s : Nat → Int32} (hw : wfS s) : mu_r s < 2000 := by
  have b4 : aN s 4 ≤ 72 := hw.b 4 rfl
  have b5 : aN s 5 ≤ 200 := hw.b 5 rfl
  have b12 : aN s 12 ≤ 7 := hw.b 12 rfl
  have b13 : aN s 13 ≤ 7 := hw.b 13 rfl
  unfold mu_r
  have : (aN s 4 + 1) * (aN s 12 + aN s 13) ≤ 73 * 14 := Nat.mul_le_mul (by omega) (by omega)
  omega
/-- what a run leaves as it is -/
def kp_r (u s : Nat → Int32) : Prop := ∀ k, (k ≤ 4 ∨ k = 10 ∨ k = 11 ∨ 18 ≤ k) → u k = s k
theorem kept_trans {a b c : Nat → Int32} (h : kp_r b a) (g : kp_r c b) : kp_r c a := fun k hk => (g k hk).trans (h k hk)
theorem step_ok {s : Nat → Int32} (hw : wfS s) (ho : onS s) {c : Int32} (hc : (c = 4 ∧ canThrowN s = true) ∨ ∃ w, w < 4 ∧ c = nI w ∧ canSayN s w = true) : wfS (stepS c s) ∧ onS (stepS c s) ∧ mu_r (stepS c s) < mu_r s ∧ kp_r (stepS c s) s := by
  have b6 : aN s 6 ≤ 1 := hw.b 6 rfl
  rcases hc with ⟨rfl, ht⟩ | ⟨w, h4, rfl, ht⟩
  · have e : stepS 4 s = throwS s := if_pos rfl
    rw [e]
    exact ⟨throw_wf hw ht, on_throw hw ho, mu_throw hw ht, fun k hk => throw_keep hw (by omega) (by omega) (by omega) (by omega)⟩
  · have e : stepS (nI w) s = sayS s w := by unfold stepS; rw [if_neg (nI_n4 h4), nI_clamp (by omega)]
    rw [e]
    have h1 : w < aN s 1 := by unfold canSayN at ht; simp only [Bool.and_eq_true, decide_eq_true_eq] at ht; exact ht.1
    exact ⟨say_wf hw h4, on_say hw ho h4 h1, mu_say hw h4 ht, fun k hk => say_keep (by omega) (by omega) (by omega) (by omega) (by omega) (by omega)⟩
theorem still_k {s : Nat → Int32} {j : Nat} (h : j ≠ 7) : stillS s j = s j := by unfold stillS; rw [upd_at, if_neg h]
theorem still_spk {s : Nat → Int32} (h : spk s) : spk (stillS s) := by
  have ak : ∀ j, j ≠ 7 → aN (stillS s) j = aN s j := fun j h => by unfold aN; rw [still_k h]
  unfold spk; rw [ak 8 (by omega), ak 6 (by omega)]; exact h
theorem runU_ok {c : (Nat → Int32) → Int32} (hc : okD c) : ∀ n s, mu_r s < n → wfS s → onS s → wfS (runU c n s) ∧ spk (runU c n s) ∧ kp_r (runU c n s) s := by
  intro n
  induction n with
  | zero => intro s h; omega
  | succ n ih =>
    intro s h hw ho
    rw [runU]
    by_cases z : c s = -1
    · rw [if_pos z]
      exact ⟨still_wf hw, still_spk ho.1, fun k hk => still_k (by omega)⟩
    · rw [if_neg z]
      have hs : (c s = 4 ∧ canThrowN s = true) ∨ ∃ w, w < 4 ∧ c s = nI w ∧ canSayN s w = true := (hc s).resolve_left z
      obtain ⟨w1, w2, w3, w4⟩ := step_ok hw ho hs
      by_cases y : canDoN (stepS (c s) s) = true
      · rw [if_pos y]
        obtain ⟨a1, a2, a3⟩ := ih _ (by omega) w1 w2
        exact ⟨a1, a2, kept_trans w4 a3⟩
      · rw [if_neg y]
        exact ⟨w1, w2.1, w4⟩
/-- the reference chooses so for a side -/
def chM (M : gS) (z : Int32) (d : (Nat → Int32) → Int32) : Prop := (z = -1 ∧ ∀ s, d s = -1) ∨ ∃ (k n : Nat) (b τ : Nat → Nat) (R : gS), k < 6 ∧ z = nI k ∧ relRd M k R n b τ ∧ ∀ s, d s = chR (ma R 1) (chN s (ma R 1) τ b n 0)
theorem chM_frm {M N : gS} {z : Int32} {d : (Nat → Int32) → Int32} (h : chM M z d) (h3 : ma N 3 = ma M 3) (h5 : ma N 5 = ma M 5) (h6 : ma N 6 = ma M 6) : chM N z d := by
  rcases h with h | ⟨k, n, b, τ, R, hk, hz, hR, hd⟩
  · exact Or.inl h
  · exact Or.inr ⟨k, n, b, τ, R, hk, hz, relRd_keep hR h3 h5 h6 ⟨rfl, rfl⟩, hd⟩
theorem m_still_end {M : gS} (hw : wfS (ma M 25)) (Q : Int32 → gS → Prop) (h : Q (nI (winN (stillS (ma M 25)))) (endM (sF M 25 (stillS (ma M 25))))) : wX12_runs_41 Q M := by
  unfold wX12_runs_41
  intro x1 h1 M2 h2
  have e : M2 = sF M 25 (stillS (ma M 25)) := by rw [h2, h1, sa_25]; rfl
  rw [e]
  refine m_ends _ (by rw [ma_sF1]; exact still_wf hw) _ ?_
  rw [ma_sF1]
  exact h
theorem m_runs23 {M : gS} (hw : wfS (ma M 25)) {z : Int32} {d : (Nat → Int32) → Int32} (hc : chM M z d) {B0 : Int32 → Int32 → gS → Prop} {Q : Int32 → gS → Prop} {y1 y2 : Int32} (hs : d (ma M 25) = -1 → ∀ N, frm M N → ma N = ma M → Q (nI (winN (stillS (ma M 25)))) (endM (sF N 25 (stillS (ma M 25))))) (hn : ¬ d (ma M 25) = -1 → ∀ N, frm M N → ma N = ma M → B0 y1 y2 (lookM (sF N 25 (stepS (d (ma M 25)) (ma M 25))))) : wX12_runs_23 B0 Q y1 y2 z M := by
  unfold wX12_runs_23
  rcases hc with ⟨rfl, hd⟩ | ⟨k, n, b, τ, R, hk, rfl, hR, hd⟩
  · unfold wX12_clauseFor
    exact sw_f (by decide) (sw_t (by decide) (m_still_end hw Q (hs (hd _) M (frm_refl M) rfl)))
  · unfold wX12_clauseFor
    refine sw_t (nI_pos' (by omega)) (m_words hw _ (fun N1 f1 m1 w1 => ⟨n + 1, ?_⟩))
    refine m_clause_l hw hk hR _ n 0 (by omega) N1 f1 m1 w1 (fun N f m => ?_)
    have hwN : wfS (ma N 25) := by rw [m]; exact hw
    have hdS := hd (ma M 25)
    cases ho : chN (ma M 25) (ma R 1) τ b n 0 with
    | none =>
      rw [ho] at hdS
      refine sw_t (show (-1 : Int32) < 0 by decide) (m_still_end hwN Q ?_)
      rw [m]
      exact hs hdS N f m
    | some c =>
      rw [ho] at hdS
      obtain ⟨_, a2, a3⟩ := chN_some _ _ ho
      obtain ⟨hn12, _, _, _, _, _, hcl⟩ := hR
      obtain ⟨g1, g2, g3, g4, g5, g6⟩ := hcl c (by omega)
      have hdS' : d (ma M 25) = ma R 1 c := hdS
      have ecl : clR k (some c) = nI (48 * k + 4 * c) := rfl
      rw [ecl, m, nI_clamp (show 48 * k + 4 * c < 2 ^ 31 by omega), show nI (48 * k + 4 * c) + 1 = nI (48 * k + 4 * c + 1) from nI_1 _, nI_clamp (show 48 * k + 4 * c + 1 < 2 ^ 31 by omega)]
      refine sw_f (nI_pos (by omega)) ⟨vp_in_nI (by omega) (by decide), ?_⟩
      rcases g5 with ⟨e0, w, h4, e1, er⟩ | ⟨e0, er⟩ | ⟨e0, er⟩
      · rw [e0, e1]
        refine sw_f (by decide) ⟨vp_in_nI (by omega) (by decide), sw_t rfl ⟨vp_in_nI (by omega) (by decide), ?_⟩⟩
        rw [er, canD_w _ h4] at a3
        refine m_says N hwN w h4 (by rw [m]; exact a3) _ ?_
        have := hn (by rw [hdS', er]; exact nI_nm1 (by omega)) N f m
        rw [hdS', er] at this
        unfold stepS at this
        rw [if_neg (nI_n4 h4), nI_clamp (by omega)] at this
        rw [m]
        exact this
      · rw [e0]
        refine sw_f (by decide) ⟨vp_in_nI (by omega) (by decide), sw_f (by decide) ?_⟩
        rw [er, canD_4] at a3
        refine m_throwsOne N hwN (by rw [m]; exact a3) _ ?_
        have := hn (by rw [hdS', er]; decide) N f m
        rw [hdS', er] at this
        unfold stepS at this
        rw [if_pos rfl] at this
        rw [m]
        exact this
      · rw [e0]
        refine sw_t rfl (m_still_end hwN Q ?_)
        rw [m]
        exact hs (by rw [hdS', er]) N f m
theorem m_runs_l {d1 d2 : (Nat → Int32) → Int32} (hok : okD (dd_r d1 d2)) {z1 z2 : Int32} {M : gS} (h1 : chM M z1 d1) (h2 : chM M z2 d2) (Q : Int32 → gS → Prop) : ∀ n N, frm M N → wfS (ma N 25) → onS (ma N 25) → ma N 25 3 = 1 → mu_r (ma N 25) < n → (∀ N', frm M N' → ma N' 25 = endS (runU (dd_r d1 d2) n (ma N 25)) → Q (nI (winN (runU (dd_r d1 d2) n (ma N 25)))) N') → wX12_runs_0 Q (n + 1) z1 z2 N := by
  intro n
  induction n with
  | zero => intro N _ _ _ _ h; omega
  | succ n ih =>
    intro N hf hw ho hg hmu h
    rw [wX12_runs_0]
    refine m_goes_t hg (bw_t ?_)
    have stl : dd_r d1 d2 (ma N 25) = -1 → ∀ N1, frm N N1 → ma N1 = ma N → Q (nI (winN (stillS (ma N 25)))) (endM (sF N1 25 (stillS (ma N 25)))) := by
      intro e N1 f1 m1
      have := h (endM (sF N1 25 (stillS (ma N 25)))) (frm_trans hf (frm_trans f1 (frm_trans (frm_sF _ _) (frm_end _))))
      rw [runU, if_pos e] at this
      refine this ?_
      show endS (ma (sF N1 25 (stillS (ma N 25))) 25) = _
      rw [ma_sF1]
    have stp : ¬ dd_r d1 d2 (ma N 25) = -1 → ∀ N1, frm N N1 → ma N1 = ma N → wX12_runs_0 Q (n + 1) z1 z2 (lookM (sF N1 25 (stepS (dd_r d1 d2 (ma N 25)) (ma N 25)))) := by
      intro e N1 f1 m1
      obtain ⟨w1, w2, w3, w4⟩ := step_ok hw ho ((hok (ma N 25)).resolve_left e)
      have f2 : frm M (sF N1 25 (stepS (dd_r d1 d2 (ma N 25)) (ma N 25))) := frm_trans hf (frm_trans f1 (frm_sF _ _))
      unfold lookM
      rw [ma_sF1]
      by_cases y : canDoN (stepS (dd_r d1 d2 (ma N 25)) (ma N 25)) = true
      · rw [if_pos y]
        refine ih _ f2 (by rw [ma_sF1]; exact w1) (by rw [ma_sF1]; exact w2) (by rw [ma_sF1, w4 3 (by omega)]; exact hg) (by rw [ma_sF1]; omega) (fun N' f' e' => ?_)
        rw [ma_sF1] at e' ⊢
        have := h N' f'
        rw [runU, if_neg e, if_pos y] at this
        exact this e'
      · rw [if_neg y]
        have := h (endM (sF N1 25 (stepS (dd_r d1 d2 (ma N 25)) (ma N 25)))) (frm_trans f2 (frm_end _))
        rw [runU, if_neg e, if_neg y] at this
        have e25 : ma (endM (sF N1 25 (stepS (dd_r d1 d2 (ma N 25)) (ma N 25)))) 25 = endS (stepS (dd_r d1 d2 (ma N 25)) (ma N 25)) := by
          show endS (ma (sF N1 25 (stepS (dd_r d1 d2 (ma N 25)) (ma N 25))) 25) = _
          rw [ma_sF1]
        have e26 : mg (endM (sF N1 25 (stepS (dd_r d1 d2 (ma N 25)) (ma N 25)))) 26 = nI (winN (stepS (dd_r d1 d2 (ma N 25)) (ma N 25))) := by
          show nI (winN (ma (sF N1 25 (stepS (dd_r d1 d2 (ma N 25)) (ma N 25))) 25)) = _
          rw [ma_sF1]
        rw [wX12_runs_0]
        refine m_goes_f (by rw [e25, end_3]; decide) (bw_f ?_)
        rw [e26]
        exact this e25
    have e6 := hw.n 6 rfl
    have b6 : aN (ma N 25) 6 ≤ 1 := hw.b 6 rfl
    refine ⟨fun z => ?_, fun z => ?_⟩
    · have z0 : aN (ma N 25) 6 = 0 := by
        rw [e6, show (0 : Int32) = nI 0 from rfl, nI_eq (by omega) (by omega)] at z
        exact z
      have ed : dd_r d1 d2 (ma N 25) = d1 (ma N 25) := if_pos z0
      refine m_runs23 hw (chM_frm h1 (hf.1 3 (by decide)) (hf.1 5 (by decide)) (hf.1 6 (by decide))) (fun c => stl (ed.trans c)) (fun c N1 f1 m1 => ?_)
      have := stp (by rw [ed]; exact c) N1 f1 m1
      rw [ed] at this
      exact this
    · have z0 : ¬ aN (ma N 25) 6 = 0 := fun y => z (by rw [e6, y]; rfl)
      have ed : dd_r d1 d2 (ma N 25) = d2 (ma N 25) := if_neg z0
      refine m_runs23 hw (chM_frm h2 (hf.1 3 (by decide)) (hf.1 5 (by decide)) (hf.1 6 (by decide))) (fun c => stl (ed.trans c)) (fun c N1 f1 m1 => ?_)
      have := stp (by rw [ed]; exact c) N1 f1 m1
      rw [ed] at this
      exact this
/-- who has won, from a row that goes on, and where it ended -/
def runN (d1 d2 : (Nat → Int32) → Int32) (s : Nat → Int32) : Nat → Int32 := runU (dd_r d1 d2) 2000 s
theorem m_runs {d1 d2 : (Nat → Int32) → Int32} (hok : okD (dd_r d1 d2)) {z1 z2 : Int32} {M : gS} (h1 : chM M z1 d1) (h2 : chM M z2 d2) (hw : wfS (ma M 25)) (ho : onS (ma M 25)) (hg : ma M 25 3 = 1) (Q : Int32 → gS → Prop) (h : ∀ N', frm M N' → ma N' 25 = endS (runN d1 d2 (ma M 25)) → Q (nI (winN (runN d1 d2 (ma M 25)))) N') : wX12_runs z1 z2 M Q :=
  ⟨2001, m_runs_l hok h1 h2 Q 2000 M (frm_refl M) hw ho hg (mu_le hw) h⟩
