-- PURE: the class's runs by rules, in the forms of who has a rule (printed by program)
def postE (u : Nat → Int32) (N : gS) : Prop := relQ (endS u) N ∧ mg N 6 = nI (winN u) ∧ mg N 2 = u 5 ∧ mg N 4 = u 7
theorem postQ_E {u : Nat → Int32} {N : gS} (h : postQ u N) (hc : canDoN u = false) : postE u N := by
  obtain ⟨h1, h2, h3, h4⟩ := h
  have e : lookS u = endS u := by unfold lookS; rw [if_neg (by rw [hc]; decide)]
  rw [e] at h1
  exact ⟨h1, h2 hc, h3, h4⟩
theorem q_still {s : Nat → Int32} (hw : wfS s) (hs : spk s) {Mq : gS} (hq : relQ s Mq) (hg : s 3 = 1) (Q : gS → Prop) (h : ∀ N, postE (stillS s) N → Q N) : wX6_beStill Mq Q := by
  have b6 : aN s 6 ≤ 1 := hw.b 6 rfl
  have hwu := still_wf hw
  have hsu := still_spk hs
  obtain ⟨q0, q1, q2, q3, q4, q5⟩ := hq
  obtain ⟨g4, g5, g6, g7⟩ := q1 hg
  unfold wX6_beStill
  intro x1 h1 N2 h2
  have rq : relQ (stillS s) N2 := by
    subst h2 h1
    refine ⟨?_, fun _ => ⟨?_, ?_, ?_, ?_⟩, ?_, fun j hj => ?_, fun _ j hj => ?_, fun j hj => ?_⟩
    · rw [still_k (by omega)]; exact q0
    · rw [still_k (by omega)]; exact g4
    · rw [still_k (by omega)]; exact g5
    · rw [still_k (by omega)]; exact g6
    · show mg Mq 4 + 1 = upd s 7 (s 7 + 1) 7
      rw [g7, upd_at, if_pos rfl]
    · rw [still_k (by omega)]; exact q2
    · rw [still_k (by omega)]; exact q3 j hj
    · rw [still_k (by omega)]; exact q4 (Or.inl hg) j hj
    · rw [still_k (by omega)]; exact q5 j hj
  have rg := rq.2.1 (by rw [still_k (by omega)]; exact hg)
  refine q_finish N2 _ (h _ ⟨relQ_fin hwu rq, ?_, ?_, ?_⟩)
  · have a6 : aN (stillS s) 6 = aN s 6 := by unfold aN; rw [still_k (by omega)]
    rw [spk_win hwu hsu, a6]
    show 1 - mg N2 3 = _
    rw [rg.2.2.1, still_k (by omega), hw.n 6 rfl, show (1 : Int32) = nI 1 from rfl, pk_sub b6]
  · exact rg.2.1
  · exact rg.2.2.2
theorem c_gonn (Mc : gS) (Q : gS → gS → Prop) : ∀ n i s Mq, mu_r s < n → i + n ≤ 5000 → wfS s → onS s → s 3 = 1 → relQ s Mq → relC s Mc → (∀ N, postE (runU (dd_r cm_r cm_r) n s) N → Q N Mc) → wX6_goByRulesnn_3 Q (n + 1) (nI i) Mq Mc := by
  intro n
  induction n with
  | zero => intro i s Mq h; omega
  | succ n ih =>
    intro i s Mq hmu hi hw ho hg hq hc h
    have hok : okD (dd_r cm_r cm_r) := ok_dd ok_cm ok_cm
    have over : ∀ N u, postE u N → runU (dd_r cm_r cm_r) (n + 1) s = u → wX6_goByRulesnn_3 Q (n + 1) (nI (i + 1)) N Mc := by
      intro N u hN hu
      rw [wX6_goByRulesnn_3]
      refine sw_f (nI_ge (b := 10000) (by omega) (by omega)) (sw_t (by rw [hN.1.1]; exact end_3) ?_)
      refine h N ?_
      rw [hu]
      exact hN
    have nxt : ∀ N, ¬ (dd_r cm_r cm_r) s = -1 → postQ (stepS ((dd_r cm_r cm_r) s) s) N → wX6_goByRulesnn_3 Q (n + 1) (nI (i + 1)) N Mc := by
      intro N e hN
      obtain ⟨w1, w2, w3, w4⟩ := step_ok hw ho ((hok s).resolve_left e)
      by_cases y : canDoN (stepS ((dd_r cm_r cm_r) s) s) = true
      · have hN1 := hN.1
        have el : lookS (stepS ((dd_r cm_r cm_r) s) s) = stepS ((dd_r cm_r cm_r) s) s := by unfold lookS; rw [if_pos y]
        rw [el] at hN1
        refine ih (i + 1) _ N (by omega) (by omega) w1 w2 (by rw [w4 3 (by omega)]; exact hg) hN1 (relC_keep hw hc (fun k hk => w4 k (by unfold isCr at hk; omega))) (fun N' hN' => ?_)
        refine h N' ?_
        rw [runU, if_neg e, if_pos y]
        exact hN'
      · exact over N (stepS ((dd_r cm_r cm_r) s) s) (postQ_E hN (ts_nt y)) (by rw [runU, if_neg e, if_neg y])
    have body : ∀ z, z = (dd_r cm_r cm_r) s → wX6_goByRulesnn_48 (fun (y4 : Int32) (M0 : gS) (M1 : gS) => wX6_goByRulesnn_3 Q (n + 1) y4 M0 M1) Q (nI i) z Mq Mc := by
      intro z hz
      unfold wX6_goByRulesnn_48 wX6_goByRulesnn_84
      rcases hok s with e | ⟨e, ht⟩ | ⟨w, h4, e, ht⟩
      · rw [hz, e]
        refine sw_t rfl (q_still hw ho.1 hq hg _ (fun N hN x hx => ?_))
        rw [hx, nI_1]
        exact over N (stillS s) hN (by rw [runU, if_pos e])
      · have es : stepS ((dd_r cm_r cm_r) s) s = throwS s := by rw [e]; exact if_pos rfl
        rw [hz, e]
        refine sw_f (by decide) (sw_t rfl (q_throwPenny s hw ho.1 Mq Mc hq hc hg ht _ (fun N hN x hx => ?_)))
        rw [hx, nI_1]
        exact nxt N (by rw [e]; decide) (by rw [es]; exact hN)
      · have es : stepS ((dd_r cm_r cm_r) s) s = sayS s w := by rw [e]; unfold stepS; rw [if_neg (nI_n4 h4), nI_clamp (by omega)]
        rw [hz, e]
        refine sw_f (nI_nm1 (by omega)) (sw_f (nI_n4 h4) (q_say s hw Mq Mc hq hc hg w h4 ht _ (fun N hN x hx => ?_)))
        rw [hx, nI_1]
        exact nxt N (by rw [e]; exact nI_nm1 (by omega)) (by rw [es]; exact hN)
    have e3 : mg Mq 3 = nI (aN s 6) := by rw [(hq.2.1 hg).2.2.1, hw.n 6 rfl]
    have b6 : aN s 6 ≤ 1 := hw.b 6 rfl
    rw [wX6_goByRulesnn_3]
    refine sw_f (nI_ge (b := 10000) (by omega) (by omega)) (sw_f (by rw [hq.1, hg]; decide) ⟨fun z => ?_, fun z => ?_⟩)
    · have z0 : aN s 6 = 0 := by
        rw [e3, show (0 : Int32) = nI 0 from rfl, nI_eq (by omega) (by omega)] at z
        exact z
      have ed : (dd_r cm_r cm_r) s = cm_r s := if_pos z0
      exact body _ (by rw [ed]; rfl)
    · have z0 : ¬ aN s 6 = 0 := fun y => z (by rw [e3, y]; rfl)
      have ed : (dd_r cm_r cm_r) s = cm_r s := if_neg z0
      exact body _ (by rw [ed]; rfl)
theorem c_goBynn {s : Nat → Int32} (hw : wfS s) (ho : onS s) (hg : s 3 = 1) {Mq Mc : gS} (hq : relQ s Mq) (hc : relC s Mc) (Q : gS → gS → Prop) (h : ∀ N, postE (runN cm_r cm_r s) N → Q N Mc) : wX6_goByRulesnn Mq Mc Q :=
  ⟨2001, c_gonn Mc Q 2000 0 s Mq (mu_le hw) (by omega) hw ho hg hq hc h⟩
theorem c_goan {d1 : (Nat → Int32) → Int32} (Mc : gS) (Q : gS → gS → gS → Prop) : ∀ n i s Mq R1, mu_r s < n → i + n ≤ 5000 → wfS s → onS s → s 3 = 1 → relQ s Mq → relC s Mc → chC R1 d1 → (∀ N S1, postE (runU (dd_r d1 cm_r) n s) N → frC R1 S1 → Q N Mc S1) → wX6_goByRulesan_3 Q (n + 1) (nI i) Mq Mc R1 := by
  intro n
  induction n with
  | zero => intro i s Mq R1 h; omega
  | succ n ih =>
    intro i s Mq R1 hmu hi hw ho hg hq hc k1 h
    have hok : okD (dd_r d1 cm_r) := ok_dd (chC_ok k1) ok_cm
    have over : ∀ N S1 u, frC R1 S1 → postE u N → runU (dd_r d1 cm_r) (n + 1) s = u → wX6_goByRulesan_3 Q (n + 1) (nI (i + 1)) N Mc S1 := by
      intro N S1 u f1 hN hu
      rw [wX6_goByRulesan_3]
      refine sw_f (nI_ge (b := 10000) (by omega) (by omega)) (sw_t (by rw [hN.1.1]; exact end_3) ?_)
      refine h N S1 ?_ f1
      rw [hu]
      exact hN
    have nxt : ∀ N S1, frC R1 S1 → ¬ (dd_r d1 cm_r) s = -1 → postQ (stepS ((dd_r d1 cm_r) s) s) N → wX6_goByRulesan_3 Q (n + 1) (nI (i + 1)) N Mc S1 := by
      intro N S1 f1 e hN
      obtain ⟨w1, w2, w3, w4⟩ := step_ok hw ho ((hok s).resolve_left e)
      by_cases y : canDoN (stepS ((dd_r d1 cm_r) s) s) = true
      · have hN1 := hN.1
        have el : lookS (stepS ((dd_r d1 cm_r) s) s) = stepS ((dd_r d1 cm_r) s) s := by unfold lookS; rw [if_pos y]
        rw [el] at hN1
        refine ih (i + 1) _ N S1 (by omega) (by omega) w1 w2 (by rw [w4 3 (by omega)]; exact hg) hN1 (relC_keep hw hc (fun k hk => w4 k (by unfold isCr at hk; omega))) (chC_fr k1 f1) (fun N' T1 hN' g1 => ?_)
        refine h N' T1 ?_ (frC_trans f1 g1)
        rw [runU, if_neg e, if_pos y]
        exact hN'
      · exact over N S1 (stepS ((dd_r d1 cm_r) s) s) f1 (postQ_E hN (ts_nt y)) (by rw [runU, if_neg e, if_neg y])
    have body : ∀ S1, frC R1 S1 → ∀ z, z = (dd_r d1 cm_r) s → wX6_goByRulesan_48 (fun (y4 : Int32) (M0 : gS) (M1 : gS) (M2 : gS) => wX6_goByRulesan_3 Q (n + 1) y4 M0 M1 M2) Q (nI i) z Mq Mc S1 := by
      intro S1 f1 z hz
      unfold wX6_goByRulesan_48 wX6_goByRulesan_84
      rcases hok s with e | ⟨e, ht⟩ | ⟨w, h4, e, ht⟩
      · rw [hz, e]
        refine sw_t rfl (q_still hw ho.1 hq hg _ (fun N hN x hx => ?_))
        rw [hx, nI_1]
        exact over N S1 (stillS s) f1 hN (by rw [runU, if_pos e])
      · have es : stepS ((dd_r d1 cm_r) s) s = throwS s := by rw [e]; exact if_pos rfl
        rw [hz, e]
        refine sw_f (by decide) (sw_t rfl (q_throwPenny s hw ho.1 Mq Mc hq hc hg ht _ (fun N hN x hx => ?_)))
        rw [hx, nI_1]
        exact nxt N S1 f1 (by rw [e]; decide) (by rw [es]; exact hN)
      · have es : stepS ((dd_r d1 cm_r) s) s = sayS s w := by rw [e]; unfold stepS; rw [if_neg (nI_n4 h4), nI_clamp (by omega)]
        rw [hz, e]
        refine sw_f (nI_nm1 (by omega)) (sw_f (nI_n4 h4) (q_say s hw Mq Mc hq hc hg w h4 ht _ (fun N hN x hx => ?_)))
        rw [hx, nI_1]
        exact nxt N S1 f1 (by rw [e]; exact nI_nm1 (by omega)) (by rw [es]; exact hN)
    have e3 : mg Mq 3 = nI (aN s 6) := by rw [(hq.2.1 hg).2.2.1, hw.n 6 rfl]
    have b6 : aN s 6 ≤ 1 := hw.b 6 rfl
    rw [wX6_goByRulesan_3]
    refine sw_f (nI_ge (b := 10000) (by omega) (by omega)) (sw_f (by rw [hq.1, hg]; decide) ⟨fun z => ?_, fun z => ?_⟩)
    · have z0 : aN s 6 = 0 := by
        rw [e3, show (0 : Int32) = nI 0 from rfl, nI_eq (by omega) (by omega)] at z
        exact z
      have ed : (dd_r d1 cm_r) s = d1 s := if_pos z0
      exact c_choose hw hq hc hg k1 _ (fun N' f => body N' f _ ed.symm)
    · have z0 : ¬ aN s 6 = 0 := fun y => z (by rw [e3, y]; rfl)
      have ed : (dd_r d1 cm_r) s = cm_r s := if_neg z0
      exact body R1 ⟨rfl, rfl⟩ _ (by rw [ed]; rfl)
theorem c_goByan {d1 : (Nat → Int32) → Int32} {s : Nat → Int32} (hw : wfS s) (ho : onS s) (hg : s 3 = 1) {Mq Mc R1 : gS} (hq : relQ s Mq) (hc : relC s Mc) (k1 : chC R1 d1) (Q : gS → gS → gS → Prop) (h : ∀ N S1, postE (runN d1 cm_r s) N → frC R1 S1 → Q N Mc S1) : wX6_goByRulesan Mq Mc R1 Q :=
  ⟨2001, c_goan Mc Q 2000 0 s Mq R1 (mu_le hw) (by omega) hw ho hg hq hc k1 h⟩
theorem c_gona {d1 : (Nat → Int32) → Int32} (Mc : gS) (Q : gS → gS → gS → Prop) : ∀ n i s Mq R1, mu_r s < n → i + n ≤ 5000 → wfS s → onS s → s 3 = 1 → relQ s Mq → relC s Mc → chC R1 d1 → (∀ N S1, postE (runU (dd_r cm_r d1) n s) N → frC R1 S1 → Q N Mc S1) → wX6_goByRulesna_3 Q (n + 1) (nI i) Mq Mc R1 := by
  intro n
  induction n with
  | zero => intro i s Mq R1 h; omega
  | succ n ih =>
    intro i s Mq R1 hmu hi hw ho hg hq hc k1 h
    have hok : okD (dd_r cm_r d1) := ok_dd ok_cm (chC_ok k1)
    have over : ∀ N S1 u, frC R1 S1 → postE u N → runU (dd_r cm_r d1) (n + 1) s = u → wX6_goByRulesna_3 Q (n + 1) (nI (i + 1)) N Mc S1 := by
      intro N S1 u f1 hN hu
      rw [wX6_goByRulesna_3]
      refine sw_f (nI_ge (b := 10000) (by omega) (by omega)) (sw_t (by rw [hN.1.1]; exact end_3) ?_)
      refine h N S1 ?_ f1
      rw [hu]
      exact hN
    have nxt : ∀ N S1, frC R1 S1 → ¬ (dd_r cm_r d1) s = -1 → postQ (stepS ((dd_r cm_r d1) s) s) N → wX6_goByRulesna_3 Q (n + 1) (nI (i + 1)) N Mc S1 := by
      intro N S1 f1 e hN
      obtain ⟨w1, w2, w3, w4⟩ := step_ok hw ho ((hok s).resolve_left e)
      by_cases y : canDoN (stepS ((dd_r cm_r d1) s) s) = true
      · have hN1 := hN.1
        have el : lookS (stepS ((dd_r cm_r d1) s) s) = stepS ((dd_r cm_r d1) s) s := by unfold lookS; rw [if_pos y]
        rw [el] at hN1
        refine ih (i + 1) _ N S1 (by omega) (by omega) w1 w2 (by rw [w4 3 (by omega)]; exact hg) hN1 (relC_keep hw hc (fun k hk => w4 k (by unfold isCr at hk; omega))) (chC_fr k1 f1) (fun N' T1 hN' g1 => ?_)
        refine h N' T1 ?_ (frC_trans f1 g1)
        rw [runU, if_neg e, if_pos y]
        exact hN'
      · exact over N S1 (stepS ((dd_r cm_r d1) s) s) f1 (postQ_E hN (ts_nt y)) (by rw [runU, if_neg e, if_neg y])
    have body : ∀ S1, frC R1 S1 → ∀ z, z = (dd_r cm_r d1) s → wX6_goByRulesna_48 (fun (y4 : Int32) (M0 : gS) (M1 : gS) (M2 : gS) => wX6_goByRulesna_3 Q (n + 1) y4 M0 M1 M2) Q (nI i) z Mq Mc S1 := by
      intro S1 f1 z hz
      unfold wX6_goByRulesna_48 wX6_goByRulesna_84
      rcases hok s with e | ⟨e, ht⟩ | ⟨w, h4, e, ht⟩
      · rw [hz, e]
        refine sw_t rfl (q_still hw ho.1 hq hg _ (fun N hN x hx => ?_))
        rw [hx, nI_1]
        exact over N S1 (stillS s) f1 hN (by rw [runU, if_pos e])
      · have es : stepS ((dd_r cm_r d1) s) s = throwS s := by rw [e]; exact if_pos rfl
        rw [hz, e]
        refine sw_f (by decide) (sw_t rfl (q_throwPenny s hw ho.1 Mq Mc hq hc hg ht _ (fun N hN x hx => ?_)))
        rw [hx, nI_1]
        exact nxt N S1 f1 (by rw [e]; decide) (by rw [es]; exact hN)
      · have es : stepS ((dd_r cm_r d1) s) s = sayS s w := by rw [e]; unfold stepS; rw [if_neg (nI_n4 h4), nI_clamp (by omega)]
        rw [hz, e]
        refine sw_f (nI_nm1 (by omega)) (sw_f (nI_n4 h4) (q_say s hw Mq Mc hq hc hg w h4 ht _ (fun N hN x hx => ?_)))
        rw [hx, nI_1]
        exact nxt N S1 f1 (by rw [e]; exact nI_nm1 (by omega)) (by rw [es]; exact hN)
    have e3 : mg Mq 3 = nI (aN s 6) := by rw [(hq.2.1 hg).2.2.1, hw.n 6 rfl]
    have b6 : aN s 6 ≤ 1 := hw.b 6 rfl
    rw [wX6_goByRulesna_3]
    refine sw_f (nI_ge (b := 10000) (by omega) (by omega)) (sw_f (by rw [hq.1, hg]; decide) ⟨fun z => ?_, fun z => ?_⟩)
    · have z0 : aN s 6 = 0 := by
        rw [e3, show (0 : Int32) = nI 0 from rfl, nI_eq (by omega) (by omega)] at z
        exact z
      have ed : (dd_r cm_r d1) s = cm_r s := if_pos z0
      exact body R1 ⟨rfl, rfl⟩ _ (by rw [ed]; rfl)
    · have z0 : ¬ aN s 6 = 0 := fun y => z (by rw [e3, y]; rfl)
      have ed : (dd_r cm_r d1) s = d1 s := if_neg z0
      exact c_choose hw hq hc hg k1 _ (fun N' f => body N' f _ ed.symm)
theorem c_goByna {d1 : (Nat → Int32) → Int32} {s : Nat → Int32} (hw : wfS s) (ho : onS s) (hg : s 3 = 1) {Mq Mc R1 : gS} (hq : relQ s Mq) (hc : relC s Mc) (k1 : chC R1 d1) (Q : gS → gS → gS → Prop) (h : ∀ N S1, postE (runN cm_r d1 s) N → frC R1 S1 → Q N Mc S1) : wX6_goByRulesna Mq Mc R1 Q :=
  ⟨2001, c_gona Mc Q 2000 0 s Mq R1 (mu_le hw) (by omega) hw ho hg hq hc k1 h⟩
theorem c_goaa {d1 : (Nat → Int32) → Int32} (Mc : gS) (Q : gS → gS → gS → Prop) : ∀ n i s Mq R1, mu_r s < n → i + n ≤ 5000 → wfS s → onS s → s 3 = 1 → relQ s Mq → relC s Mc → chC R1 d1 → (∀ N S1, postE (runU (dd_r d1 d1) n s) N → frC R1 S1 → Q N Mc S1) → wX6_goByRulesaa_3 Q (n + 1) (nI i) Mq Mc R1 := by
  intro n
  induction n with
  | zero => intro i s Mq R1 h; omega
  | succ n ih =>
    intro i s Mq R1 hmu hi hw ho hg hq hc k1 h
    have hok : okD (dd_r d1 d1) := ok_dd (chC_ok k1) (chC_ok k1)
    have over : ∀ N S1 u, frC R1 S1 → postE u N → runU (dd_r d1 d1) (n + 1) s = u → wX6_goByRulesaa_3 Q (n + 1) (nI (i + 1)) N Mc S1 := by
      intro N S1 u f1 hN hu
      rw [wX6_goByRulesaa_3]
      refine sw_f (nI_ge (b := 10000) (by omega) (by omega)) (sw_t (by rw [hN.1.1]; exact end_3) ?_)
      refine h N S1 ?_ f1
      rw [hu]
      exact hN
    have nxt : ∀ N S1, frC R1 S1 → ¬ (dd_r d1 d1) s = -1 → postQ (stepS ((dd_r d1 d1) s) s) N → wX6_goByRulesaa_3 Q (n + 1) (nI (i + 1)) N Mc S1 := by
      intro N S1 f1 e hN
      obtain ⟨w1, w2, w3, w4⟩ := step_ok hw ho ((hok s).resolve_left e)
      by_cases y : canDoN (stepS ((dd_r d1 d1) s) s) = true
      · have hN1 := hN.1
        have el : lookS (stepS ((dd_r d1 d1) s) s) = stepS ((dd_r d1 d1) s) s := by unfold lookS; rw [if_pos y]
        rw [el] at hN1
        refine ih (i + 1) _ N S1 (by omega) (by omega) w1 w2 (by rw [w4 3 (by omega)]; exact hg) hN1 (relC_keep hw hc (fun k hk => w4 k (by unfold isCr at hk; omega))) (chC_fr k1 f1) (fun N' T1 hN' g1 => ?_)
        refine h N' T1 ?_ (frC_trans f1 g1)
        rw [runU, if_neg e, if_pos y]
        exact hN'
      · exact over N S1 (stepS ((dd_r d1 d1) s) s) f1 (postQ_E hN (ts_nt y)) (by rw [runU, if_neg e, if_neg y])
    have body : ∀ S1, frC R1 S1 → ∀ z, z = (dd_r d1 d1) s → wX6_goByRulesaa_48 (fun (y4 : Int32) (M0 : gS) (M1 : gS) (M2 : gS) => wX6_goByRulesaa_3 Q (n + 1) y4 M0 M1 M2) Q (nI i) z Mq Mc S1 := by
      intro S1 f1 z hz
      unfold wX6_goByRulesaa_48 wX6_goByRulesaa_84
      rcases hok s with e | ⟨e, ht⟩ | ⟨w, h4, e, ht⟩
      · rw [hz, e]
        refine sw_t rfl (q_still hw ho.1 hq hg _ (fun N hN x hx => ?_))
        rw [hx, nI_1]
        exact over N S1 (stillS s) f1 hN (by rw [runU, if_pos e])
      · have es : stepS ((dd_r d1 d1) s) s = throwS s := by rw [e]; exact if_pos rfl
        rw [hz, e]
        refine sw_f (by decide) (sw_t rfl (q_throwPenny s hw ho.1 Mq Mc hq hc hg ht _ (fun N hN x hx => ?_)))
        rw [hx, nI_1]
        exact nxt N S1 f1 (by rw [e]; decide) (by rw [es]; exact hN)
      · have es : stepS ((dd_r d1 d1) s) s = sayS s w := by rw [e]; unfold stepS; rw [if_neg (nI_n4 h4), nI_clamp (by omega)]
        rw [hz, e]
        refine sw_f (nI_nm1 (by omega)) (sw_f (nI_n4 h4) (q_say s hw Mq Mc hq hc hg w h4 ht _ (fun N hN x hx => ?_)))
        rw [hx, nI_1]
        exact nxt N S1 f1 (by rw [e]; exact nI_nm1 (by omega)) (by rw [es]; exact hN)
    have e3 : mg Mq 3 = nI (aN s 6) := by rw [(hq.2.1 hg).2.2.1, hw.n 6 rfl]
    have b6 : aN s 6 ≤ 1 := hw.b 6 rfl
    rw [wX6_goByRulesaa_3]
    refine sw_f (nI_ge (b := 10000) (by omega) (by omega)) (sw_f (by rw [hq.1, hg]; decide) ⟨fun z => ?_, fun z => ?_⟩)
    · have z0 : aN s 6 = 0 := by
        rw [e3, show (0 : Int32) = nI 0 from rfl, nI_eq (by omega) (by omega)] at z
        exact z
      have ed : (dd_r d1 d1) s = d1 s := if_pos z0
      exact c_choose hw hq hc hg k1 _ (fun N' f => body N' f _ ed.symm)
    · have z0 : ¬ aN s 6 = 0 := fun y => z (by rw [e3, y]; rfl)
      have ed : (dd_r d1 d1) s = d1 s := if_neg z0
      exact c_choose hw hq hc hg k1 _ (fun N' f => body N' f _ ed.symm)
theorem c_goByaa {d1 : (Nat → Int32) → Int32} {s : Nat → Int32} (hw : wfS s) (ho : onS s) (hg : s 3 = 1) {Mq Mc R1 : gS} (hq : relQ s Mq) (hc : relC s Mc) (k1 : chC R1 d1) (Q : gS → gS → gS → Prop) (h : ∀ N S1, postE (runN d1 d1 s) N → frC R1 S1 → Q N Mc S1) : wX6_goByRulesaa Mq Mc R1 Q :=
  ⟨2001, c_goaa Mc Q 2000 0 s Mq R1 (mu_le hw) (by omega) hw ho hg hq hc k1 h⟩
theorem c_goab {d1 : (Nat → Int32) → Int32} {d2 : (Nat → Int32) → Int32} (Mc : gS) (Q : gS → gS → gS → gS → Prop) : ∀ n i s Mq R1 R2, mu_r s < n → i + n ≤ 5000 → wfS s → onS s → s 3 = 1 → relQ s Mq → relC s Mc → chC R1 d1 → chC R2 d2 → (∀ N S1 S2, postE (runU (dd_r d1 d2) n s) N → frC R1 S1 → frC R2 S2 → Q N Mc S1 S2) → wX6_goByRulesab_3 Q (n + 1) (nI i) Mq Mc R1 R2 := by
  intro n
  induction n with
  | zero => intro i s Mq R1 R2 h; omega
  | succ n ih =>
    intro i s Mq R1 R2 hmu hi hw ho hg hq hc k1 k2 h
    have hok : okD (dd_r d1 d2) := ok_dd (chC_ok k1) (chC_ok k2)
    have over : ∀ N S1 S2 u, frC R1 S1 → frC R2 S2 → postE u N → runU (dd_r d1 d2) (n + 1) s = u → wX6_goByRulesab_3 Q (n + 1) (nI (i + 1)) N Mc S1 S2 := by
      intro N S1 S2 u f1 f2 hN hu
      rw [wX6_goByRulesab_3]
      refine sw_f (nI_ge (b := 10000) (by omega) (by omega)) (sw_t (by rw [hN.1.1]; exact end_3) ?_)
      refine h N S1 S2 ?_ f1 f2
      rw [hu]
      exact hN
    have nxt : ∀ N S1 S2, frC R1 S1 → frC R2 S2 → ¬ (dd_r d1 d2) s = -1 → postQ (stepS ((dd_r d1 d2) s) s) N → wX6_goByRulesab_3 Q (n + 1) (nI (i + 1)) N Mc S1 S2 := by
      intro N S1 S2 f1 f2 e hN
      obtain ⟨w1, w2, w3, w4⟩ := step_ok hw ho ((hok s).resolve_left e)
      by_cases y : canDoN (stepS ((dd_r d1 d2) s) s) = true
      · have hN1 := hN.1
        have el : lookS (stepS ((dd_r d1 d2) s) s) = stepS ((dd_r d1 d2) s) s := by unfold lookS; rw [if_pos y]
        rw [el] at hN1
        refine ih (i + 1) _ N S1 S2 (by omega) (by omega) w1 w2 (by rw [w4 3 (by omega)]; exact hg) hN1 (relC_keep hw hc (fun k hk => w4 k (by unfold isCr at hk; omega))) (chC_fr k1 f1) (chC_fr k2 f2) (fun N' T1 T2 hN' g1 g2 => ?_)
        refine h N' T1 T2 ?_ (frC_trans f1 g1) (frC_trans f2 g2)
        rw [runU, if_neg e, if_pos y]
        exact hN'
      · exact over N S1 S2 (stepS ((dd_r d1 d2) s) s) f1 f2 (postQ_E hN (ts_nt y)) (by rw [runU, if_neg e, if_neg y])
    have body : ∀ S1 S2, frC R1 S1 → frC R2 S2 → ∀ z, z = (dd_r d1 d2) s → wX6_goByRulesab_48 (fun (y4 : Int32) (M0 : gS) (M1 : gS) (M2 : gS) (M3 : gS) => wX6_goByRulesab_3 Q (n + 1) y4 M0 M1 M2 M3) Q (nI i) z Mq Mc S1 S2 := by
      intro S1 S2 f1 f2 z hz
      unfold wX6_goByRulesab_48 wX6_goByRulesab_84
      rcases hok s with e | ⟨e, ht⟩ | ⟨w, h4, e, ht⟩
      · rw [hz, e]
        refine sw_t rfl (q_still hw ho.1 hq hg _ (fun N hN x hx => ?_))
        rw [hx, nI_1]
        exact over N S1 S2 (stillS s) f1 f2 hN (by rw [runU, if_pos e])
      · have es : stepS ((dd_r d1 d2) s) s = throwS s := by rw [e]; exact if_pos rfl
        rw [hz, e]
        refine sw_f (by decide) (sw_t rfl (q_throwPenny s hw ho.1 Mq Mc hq hc hg ht _ (fun N hN x hx => ?_)))
        rw [hx, nI_1]
        exact nxt N S1 S2 f1 f2 (by rw [e]; decide) (by rw [es]; exact hN)
      · have es : stepS ((dd_r d1 d2) s) s = sayS s w := by rw [e]; unfold stepS; rw [if_neg (nI_n4 h4), nI_clamp (by omega)]
        rw [hz, e]
        refine sw_f (nI_nm1 (by omega)) (sw_f (nI_n4 h4) (q_say s hw Mq Mc hq hc hg w h4 ht _ (fun N hN x hx => ?_)))
        rw [hx, nI_1]
        exact nxt N S1 S2 f1 f2 (by rw [e]; exact nI_nm1 (by omega)) (by rw [es]; exact hN)
    have e3 : mg Mq 3 = nI (aN s 6) := by rw [(hq.2.1 hg).2.2.1, hw.n 6 rfl]
    have b6 : aN s 6 ≤ 1 := hw.b 6 rfl
    rw [wX6_goByRulesab_3]
    refine sw_f (nI_ge (b := 10000) (by omega) (by omega)) (sw_f (by rw [hq.1, hg]; decide) ⟨fun z => ?_, fun z => ?_⟩)
    · have z0 : aN s 6 = 0 := by
        rw [e3, show (0 : Int32) = nI 0 from rfl, nI_eq (by omega) (by omega)] at z
        exact z
      have ed : (dd_r d1 d2) s = d1 s := if_pos z0
      exact c_choose hw hq hc hg k1 _ (fun N' f => body N' R2 f ⟨rfl, rfl⟩ _ ed.symm)
    · have z0 : ¬ aN s 6 = 0 := fun y => z (by rw [e3, y]; rfl)
      have ed : (dd_r d1 d2) s = d2 s := if_neg z0
      exact c_choose hw hq hc hg k2 _ (fun N' f => body R1 N' ⟨rfl, rfl⟩ f _ ed.symm)
theorem c_goByab {d1 : (Nat → Int32) → Int32} {d2 : (Nat → Int32) → Int32} {s : Nat → Int32} (hw : wfS s) (ho : onS s) (hg : s 3 = 1) {Mq Mc R1 R2 : gS} (hq : relQ s Mq) (hc : relC s Mc) (k1 : chC R1 d1) (k2 : chC R2 d2) (Q : gS → gS → gS → gS → Prop) (h : ∀ N S1 S2, postE (runN d1 d2 s) N → frC R1 S1 → frC R2 S2 → Q N Mc S1 S2) : wX6_goByRulesab Mq Mc R1 R2 Q :=
  ⟨2001, c_goab Mc Q 2000 0 s Mq R1 R2 (mu_le hw) (by omega) hw ho hg hq hc k1 k2 h⟩
