-- PURE: PlayCounter counts so
theorem sumR_s (f : Nat → Nat) (n i : Nat) : sumR f (n + 1) i = f i + sumR f n (i + 1) := rfl
theorem bI_not (mv : Bool) {A : Int32 → Prop} (h : A (bI (!mv))) : (bI mv = 0 → A 1) ∧ (¬ bI mv = 0 → A 0) := by
  cases mv with
  | false => exact sw_t rfl h
  | true => exact sw_f (by decide) h
theorem c_tf82 {s : Nat → Int32} (hw : wfS s) {v : Nat} (hv : v ≤ 100) {Mc : gS} (hC : relC s Mc) {k left a b m t hat : Nat} {mv : Bool} (hk8 : k + 1 ≤ 8) (hpv : pyV left a b m t) (h8 : hat ≤ 8) {j : Nat} (hj : j < 2048) (T : Int32 → Int32 → Int32 → Int32 → Int32 → Int32 → gS → gS → (Int32 → gS → gS → Prop) → Prop) (hT : ∀ left' a' b' m' t' hat' mv' N' (Q' : Int32 → gS → gS → Prop), pyV left' a' b' m' t' → hat' ≤ 8 → memI s v N' → mg N' 3 = nI v → (∀ N2, memI s v N2 → mg N2 3 = nI v → Q' (nI (pyB s v (pyG s v k) left' a' b' m' t' hat' mv')) N2 Mc) → T (nI k) (nI left') (nI (8 * a' + b')) (nI (8 * m' + t')) (nI hat') (bI mv') N' Mc Q') (Q : Int32 → gS → gS → Prop) (h : ∀ N', memI s v N' → mg N' 3 = nI v → Q (nI (pyG s v (k + 1) left a b m t hat mv)) N' Mc) : ∀ n i, i + n = aN s 1 → ∀ acc N, memI s v N → mg N 3 = nI v → acc + sumR (pyW s v (pyG s v k) left a b m t hat mv) n i = pfE hat mv + sumR (pyW s v (pyG s v k) left a b m t hat mv) (aN s 1) 0 → wX5_totalFrom_82 T Q (n + 1) (nI (k + 1)) (nI left) (nI (8 * a + b)) (nI (8 * m + t)) (nI hat) (bI mv) (nI (keyN (k + 1) left a b m t hat mv)) (nI j) (nI acc) (nI i) N Mc := by
  have b1 : aN s 1 ≤ 4 := hw.b 1 rfl
  have b2 : aN s 2 ≤ 9 := hw.b 2 rfl
  obtain ⟨v1, v2, v3, v4, v5⟩ := id hpv
  have ed : nI (8 * a + b) / (8 : Int32) = nI a := by
    show nI (8 * a + b) / nI 8 = _
    rw [pk_div (by omega) (by omega) (by omega)]
    congr 1
    omega
  have er : nI (8 * a + b) - nI a * (8 : Int32) = nI b := by
    show nI (8 * a + b) - nI a * nI 8 = _
    rw [pk_mul, pk_sub (by omega)]
    congr 1
    omega
  have pd : nI (8 * m + t) / (8 : Int32) = nI m := by
    show nI (8 * m + t) / nI 8 = _
    rw [pk_div (by omega) (by omega) (by omega)]
    congr 1
    omega
  have pr : nI (8 * m + t) - nI m * (8 : Int32) = nI t := by
    show nI (8 * m + t) - nI m * nI 8 = _
    rw [pk_mul, pk_sub (by omega)]
    congr 1
    omega
  have p1 : nI (k + 1) - 1 = nI k := nI_pred k
  have put : ∀ acc N, memI s v N → mg N 3 = nI v → acc = pyG s v (k + 1) left a b m t hat mv → wX5_totalFrom_243 T Q (nI (keyN (k + 1) left a b m t hat mv)) (nI j) (nI acc) N Mc := by
    intro acc N hI h3 ha
    unfold wX5_totalFrom_243
    rw [nI_clamp (by omega)]
    refine ⟨vp_in_nI hj (by decide), fun N1 h1 => ⟨vp_in_nI hj (by decide), fun N2 h2 => ?_⟩⟩
    rw [ha] at h2 ⊢
    refine h N2 ?_ ?_
    · rw [h2, h1]; exact memI_put hI (by omega) hk8 hpv h8
    · rw [h2, h1]; exact h3
  intro n
  induction n with
  | zero =>
    intro i hi acc N hI h3 hacc
    have hacc' : acc = pfE hat mv + sumR (pyW s v (pyG s v k) left a b m t hat mv) (aN s 1) 0 := hacc
    rw [wX5_totalFrom_82, hC.2.1, hw.n 1 rfl]
    refine sw_t (nI_le (by omega) (by omega)) ?_
    by_cases c : 0 < hat
    · refine sw_f (nI_nle c (by omega)) (c_mayT (by omega) (by omega) v4 v5 h3 _ ?_)
      cases cm : mayT v left m with
      | false =>
        refine bw_f (put acc N hI h3 ?_)
        show acc = pfE hat mv + sumR (pyW s v (pyG s v k) left a b m t hat mv) (aN s 1) 0 + pyT s v (pyG s v k) left a b m t hat mv
        unfold pyT
        rw [if_neg (by rw [cm]; simp)]
        omega
      | true =>
        have cm' := cm
        unfold mayT at cm'
        simp only [Bool.and_eq_true, decide_eq_true_eq] at cm'
        have e1 : nI left + mg N 3 = nI (left + v) := by rw [h3, nI_add]
        have e2 : nI (8 * m + t) - (8 : Int32) = nI (8 * (m - 1) + t) := by
          show nI (8 * m + t) - nI 8 = _
          rw [pk_sub (by omega)]
          congr 1
          omega
        have e3 : nI hat - (1 : Int32) = nI (hat - 1) := by
          show nI hat - nI 1 = _
          rw [pk_sub (by omega)]
        refine bw_t ?_
        rw [p1, e1, e2, e3]
        refine hT _ _ _ _ _ _ _ N _ ⟨by omega, v2, v3, by omega, v5⟩ (by omega) hI h3 (fun N2 hI2 h32 x10 hx10 => ?_)
        rw [hx10, nI_add]
        refine put _ N2 hI2 h32 ?_
        show _ = pfE hat mv + sumR (pyW s v (pyG s v k) left a b m t hat mv) (aN s 1) 0 + pyT s v (pyG s v k) left a b m t hat mv
        unfold pyT
        rw [if_pos ⟨c, cm⟩, hacc']
    · refine sw_t (show nI hat ≤ nI 0 from nI_le (by omega) (by omega)) (put acc N hI h3 ?_)
      show acc = pfE hat mv + sumR (pyW s v (pyG s v k) left a b m t hat mv) (aN s 1) 0 + pyT s v (pyG s v k) left a b m t hat mv
      unfold pyT
      rw [if_neg (fun z => c z.1)]
      omega
  | succ n ih =>
    intro i hi acc N hI h3 hacc
    rw [sumR_s] at hacc
    have cb := costK_b hw (w := i) (k := a) (by omega)
    rw [wX5_totalFrom_82, hC.2.1, hw.n 1 rfl, ed]
    refine sw_f (nI_ge (by omega) (by omega)) (c_cost hw hC (by omega) (by omega) _ (fun x13 h13 => ?_))
    have nxt : ∀ acc' N', memI s v N' → mg N' 3 = nI v → acc' = acc + pyW s v (pyG s v k) left a b m t hat mv i → wX5_totalFrom_192 T (fun (y1 : Int32) (y2 : Int32) (y3 : Int32) (y4 : Int32) (y5 : Int32) (y6 : Int32) (y7 : Int32) (y8 : Int32) (y9 : Int32) (y10 : Int32) (M0 : gS) (M1 : gS) => wX5_totalFrom_82 T Q (n + 1) y1 y2 y3 y4 y5 y6 y7 y8 y9 y10 M0 M1) Q (nI (k + 1)) (nI left) (nI (8 * a + b)) (nI (8 * m + t)) (nI hat) (bI mv) (nI (keyN (k + 1) left a b m t hat mv)) (nI j) (nI acc') (nI i) N' Mc := by
      intro acc' N' hI' h3' ha
      unfold wX5_totalFrom_192
      intro x1 hx1
      rw [hx1, nI_1]
      exact ih (i + 1) (by omega) acc' N' hI' h3' (by omega)
    by_cases c : costK s i a ≤ left
    · have e13 : x13 = nI (left - costK s i a) := by rw [h13, pk_sub c]
      have eW : pyW s v (pyG s v k) left a b m t hat mv i = pyB s v (pyG s v k) (left - costK s i a) (tnk s b) (tnk s (i + 1)) t m hat (!mv) := by unfold pyW; rw [if_pos c]
      rw [e13]
      refine sw_f (nI_pos (by omega)) ?_
      have go : ∀ z, z = nI (8 * tnk s b + tnk s (i + 1)) → wX5_totalFrom_144 T (fun (y1 : Int32) (y2 : Int32) (y3 : Int32) (y4 : Int32) (y5 : Int32) (y6 : Int32) (y7 : Int32) (y8 : Int32) (y9 : Int32) (y10 : Int32) (M0 : gS) (M1 : gS) => wX5_totalFrom_82 T Q (n + 1) y1 y2 y3 y4 y5 y6 y7 y8 y9 y10 M0 M1) Q (nI (k + 1)) (nI left) (nI (8 * a + b)) (nI (8 * m + t)) (nI hat) (bI mv) (nI (keyN (k + 1) left a b m t hat mv)) (nI j) (nI acc) (nI i) (nI (left - costK s i a)) z N Mc := by
        intro z hz
        have tb : tnk s b ≤ 4 := by unfold tnk; split <;> omega
        have tw : tnk s (i + 1) ≤ 4 := by unfold tnk; split <;> omega
        unfold wX5_totalFrom_144 wX5_totalFrom_186
        rw [pd, pr, p1]
        intro x1 hx1
        have ex1 : x1 = nI (8 * t + m) := by
          rw [hx1]
          show nI 8 * nI t + nI m = _
          rw [pk_mul, nI_add]
        rw [ex1, hz]
        refine bI_not mv (A := fun q => T (nI k) (nI (left - costK s i a)) (nI (8 * tnk s b + tnk s (i + 1))) (nI (8 * t + m)) (nI hat) q N Mc (fun (r1 : Int32) (N2 : gS) (N3 : gS) => (∀ x4 : Int32, x4 = (nI acc + r1) → (wX5_totalFrom_192 T (fun (y1 : Int32) (y2 : Int32) (y3 : Int32) (y4 : Int32) (y5 : Int32) (y6 : Int32) (y7 : Int32) (y8 : Int32) (y9 : Int32) (y10 : Int32) (M0 : gS) (M1 : gS) => wX5_totalFrom_82 T Q (n + 1) y1 y2 y3 y4 y5 y6 y7 y8 y9 y10 M0 M1) Q (nI (k + 1)) (nI left) (nI (8 * a + b)) (nI (8 * m + t)) (nI hat) (bI mv) (nI (keyN (k + 1) left a b m t hat mv)) (nI j) x4 (nI i) N2 N3)))) ?_
        refine hT _ _ _ _ _ _ _ N _ ⟨by omega, tb, tw, v5, v4⟩ h8 hI h3 (fun N2 hI2 h32 x4 hx4 => ?_)
        rw [hx4, nI_add]
        exact nxt _ N2 hI2 h32 (by rw [eW])
      rw [hC.2.2.1, hw.n 2 rfl]
      by_cases c2 : aN s 2 = 0
      · refine sw_t (by rw [c2]; rfl) (go _ ?_)
        unfold tnk
        rw [if_pos c2, if_pos c2]
        rfl
      · refine sw_f (nI_ne0 (by omega) (by omega)) (go _ ?_)
        unfold tnk
        rw [if_neg c2, if_neg c2, er]
        show nI 8 * nI b + nI i + 1 = _
        rw [pk_mul, nI_add, nI_1]
        rfl
    · have e13 : x13 < 0 := by
        rw [h13, Int32.lt_iff_toInt_lt, pk_sub_toInt (by omega) (by omega), show (0 : Int32).toInt = 0 by decide]
        omega
      refine sw_t e13 (nxt acc N hI h3 ?_)
      unfold pyW
      rw [if_neg c]
      rfl
theorem c_wT {s : Nat → Int32} (hw : wfS s) {v : Nat} (hv : v ≤ 100) {Mc : gS} (hC : relC s Mc) : ∀ d k left a b m t hat mv N (Q : Int32 → gS → gS → Prop), k < d → k ≤ 8 → pyV left a b m t → hat ≤ 14 → memI s v N → mg N 3 = nI v → (∀ N', memI s v N' → mg N' 3 = nI v → Q (nI (pyG s v k left a b m t hat mv)) N' Mc) → wT d (nI k) (nI left) (nI (8 * a + b)) (nI (8 * m + t)) (nI hat) (bI mv) N Mc Q := by
  intro d
  induction d with
  | zero => intro k left a b m t hat mv N Q h; omega
  | succ d ih =>
    intro k left a b m t hat mv N Q hkd hk8 hpv hh hI h3 h
    rw [wT]
    unfold wX5_totalFrom
    cases k with
    | zero => exact sw_t (by decide) (h N hI h3)
    | succ k =>
      refine sw_f (nI_nle (by omega) (by omega)) (sw_f (show ¬ nI 8 < nI (k + 1) from nI_nlt (by omega) (by omega)) ?_)
      by_cases ch : hat ≤ k + 1
      · refine sw_t (nI_le ch (by omega)) (c_keyOf hk8 hpv (by omega) _ (fun x5 h5 => ?_))
        obtain ⟨j, hj, ej⟩ := c_slot (nI (keyN (k + 1) left a b m t hat mv) * (-1640531535 : Int32))
        rw [h5, ej, nI_clamp (show j < 2 ^ 31 by omega)]
        have kb := keyN_b (mv := mv) (show 1 ≤ k + 1 by omega) hk8 hpv (show hat ≤ 8 by omega)
        refine ⟨vp_in_nI hj (by decide), ?_⟩
        by_cases ck : ma N 0 j = nI (keyN (k + 1) left a b m t hat mv)
        · refine sw_t ck ⟨vp_in_nI hj (by decide), ?_⟩
          rcases hI j hj with z | ⟨k', l', a', b', m', t', h', x', g1, g2, g3, g4, g5, g6⟩
          · rw [z] at ck
            exact absurd ck.symm (nI_ne0 kb.1 kb.2)
          · rw [g5] at ck
            have kb' := keyN_b (mv := x') g1 g2 g3 g4
            rw [nI_eq kb'.2 kb.2] at ck
            obtain ⟨q1, q2, q3, q4, q5, q6, q7, q8⟩ := keyN_inj ck g3 hpv g4 (by omega)
            rw [g6, q1, q2, q3, q4, q5, q6, q7, q8]
            exact h N hI h3
        · refine sw_f ck ?_
          have key : ∀ z, z = nI (pfE hat mv) → wX5_totalFrom_77 (fun q1 q2 q3 q4 q5 q6 N0 N1 Q' => wX5_behind (fun r1 r2 r3 r4 r5 r6 K0 K1 Q2 => wT d r1 r2 r3 r4 r5 r6 K0 K1 Q2) q1 q2 q3 q4 q5 q6 N0 N1 Q') Q (nI (k + 1)) (nI left) (nI (8 * a + b)) (nI (8 * m + t)) (nI hat) (bI mv) (nI (keyN (k + 1) left a b m t hat mv)) (nI j) z N Mc := by
            intro z hz
            rw [hz]
            refine ⟨aN s 1 + 1, c_tf82 hw hv hC hk8 hpv (by omega) hj _ (fun l' a' b' m' t' h' x' N' Q' g1 g2 g3 g4 g5 => ?_) Q h (aN s 1) 0 (by omega) (pfE hat mv) N hI h3 rfl⟩
            exact c_behind hw hv hC _ g1 (by omega) g3 g4 Q' (fun g6 => ih k l' a' b' m' t' h' x' N' _ (by omega) (by omega) g1 (by omega) g3 g4 g6) g5
          unfold pfE at key
          by_cases c0 : hat = 0
          · refine sw_t (by rw [c0]; rfl) ?_
            cases mv with
            | false => exact sw_t rfl (key _ (by rw [if_pos ⟨c0, rfl⟩]; rfl))
            | true => exact sw_f (by decide) (key _ (by rw [if_neg (by simp)]; rfl))
          · exact sw_f (nI_ne0 (by omega) (by omega)) (key _ (by rw [if_neg (fun z => c0 z.1)]; rfl))
      · refine sw_f (nI_ge (by omega) (by omega)) ?_
        have := h N hI h3
        rw [pyG_0 s v _ _ _ _ _ _ _ _ (by omega)] at this
        exact this
theorem c_total {s : Nat → Int32} (hw : wfS s) (ho : onS s) (hg : s 3 = 1) {M8 Mc Mq : gS} (hC : relC s Mc) (hq : relQ s Mq) {n hat sd : Nat} (hn : n ≤ 8) (hh : hat ≤ 14) (hsd : sd ≤ 1) (Q : Int32 → gS → gS → gS → Prop) (h : ∀ N8, Q (nI (pyG s (aN s 4) n (aN s 5) (kj s (aN s 6)) (kj s (1 - aN s 6)) (aN s (12 + aN s 6)) (aN s (12 + (1 - aN s 6))) hat (decide (sd = aN s 6)))) N8 Mc Mq) : wX5_total (nI n) (nI hat) (nI sd) M8 Mc Mq Q := by
  have b1 : aN s 1 ≤ 4 := hw.b 1 rfl
  have b4 : aN s 4 ≤ 72 := hw.b 4 rfl
  have b5 : aN s 5 ≤ 200 := hw.b 5 rfl
  have b6 : aN s 6 ≤ 1 := hw.b 6 rfl
  have k1 := kj_le ho (j := aN s 6) (by omega)
  have k2 := kj_le ho (j := 1 - aN s 6) (by omega)
  have q1 := purse_le hw (j := aN s 6) (by omega)
  have q2 := purse_le hw (j := 1 - aN s 6) (by omega)
  have hq1 := hq.2.1 hg
  unfold wX5_total
  intro x1 h1 N2 h2 N3 h3
  refine c_my hw hq hg (c_their hw hq hg (fun x8 h8 => c_lasts hw hq hg ?_))
  have e8 : x8 = nI (8 * aN s (12 + aN s 6) + aN s (12 + (1 - aN s 6))) := by
    rw [h8]
    show nI 8 * _ + _ = _
    rw [pk_mul, nI_add]
  have hI : memI s (aN s 4) N3 := by
    intro j hj
    refine Or.inl ?_
    have e : ma N3 0 = fl (ma N2 0) 2048 0 := by rw [h3, ma_sF1]
    rw [e]
    unfold fl
    simp [hj]
  have hv3 : mg N3 3 = nI (aN s 4) := by
    rw [h3, mg_sF, h2, mg_sg, if_pos rfl, h1, hq1.1, hw.n 4 rfl]
  have fin : ∀ mv, mv = decide (sd = aN s 6) → wX5_total_63 Q (nI n) (mg Mq 2) (nI (8 * kj s (aN s 6) + kj s (1 - aN s 6))) x8 (nI hat) (bI mv) N3 Mc Mq := by
    intro mv hmv
    unfold wX5_total_63 wX5_tf
    rw [e8, hq1.2.1, hw.n 5 rfl]
    refine c_wT hw (by omega) hC 9 n _ _ _ _ _ _ _ N3 _ (by omega) hn ⟨b5, by omega, by omega, q1, q2⟩ hh hI hv3 (fun N' _ _ => ?_)
    rw [hmv]
    exact h N'
  rw [hq1.2.2.1, hw.n 6 rfl]
  by_cases c : sd = aN s 6
  · exact sw_t (by rw [c]) (fin true (decide_eq_true c).symm)
  · exact sw_f (fun z => c ((nI_eq (by omega) (by omega)).1 z)) (fin false (decide_eq_false c).symm)
