-- PURE: both count the same plays
theorem sumR_cg {f g : Nat → Nat} : ∀ n q, (∀ i, q ≤ i → i < q + n → f i = g i) → sumR f n q = sumR g n q := by
  intro n
  induction n with
  | zero => intro q _; rfl
  | succ n ih => intro q h; rw [sumR_s, sumR_s, h q (by omega) (by omega), ih (q + 1) (fun i a b => h i (by omega) (by omega))]
theorem sumR_split {f : Nat → Nat} : ∀ n c q, sumR f (n + c) q = sumR f n q + sumR f c (q + n) := by
  intro n
  induction n with
  | zero => intro c q; rw [Nat.zero_add, Nat.add_zero]; exact (Nat.zero_add _).symm
  | succ n ih =>
    intro c q
    rw [show n + 1 + c = (n + c) + 1 by omega, sumR_s, sumR_s, ih c (q + 1), show q + 1 + n = q + (n + 1) by omega]
    omega
/-- the kinds that the class keeps, where they matter -/
def kdR (s r : Nat → Int32) (a b : Nat) : Prop := aN s 2 = 0 ∨ (a = kj r (aN r 6) ∧ b = kj r (1 - aN r 6))
theorem kd_cost {s r : Nat → Int32} (hw : wfS r) (hk : kp_r r s) {a b : Nat} (h : kdR s r a b) {w : Nat} (h4 : w < 4) : costK s w a = costN r w := by
  have b6 : aN r 6 ≤ 1 := hw.b 6 rfl
  have e1 : aN r (28 + w) = aN s (28 + w) := by unfold aN; rw [hk (28 + w) (by omega)]
  have e2 : aN r 2 = aN s 2 := by unfold aN; rw [hk 2 (by omega)]
  have hl := hw.2.1 (aN r 6) (by omega)
  unfold costK costN
  rw [e1, e2]
  rcases h with z | ⟨z, _⟩
  · rw [z]
    simp
  · congr 1
    rw [z]
    unfold kj
    by_cases c : aN r (14 + aN r 6) = 9
    · rw [if_pos c, if_neg (by omega), if_neg (by omega)]
    · rw [if_neg c]
      by_cases e : aN r (14 + aN r 6) = w
      · rw [if_pos (by omega), if_pos e]
      · rw [if_neg (by omega), if_neg e]
theorem kd_do {s r : Nat → Int32} (hw : wfS r) (hk : kp_r r s) {a b : Nat} (h : kdR s r a b) : canDoN r = (mayT (aN s 4) (aN r 5) (aN r (12 + aN r 6)) || anyK s a (aN r 5)) := by
  have b1 : aN r 1 ≤ 4 := hw.b 1 rfl
  have e1 : aN r 1 = aN s 1 := by unfold aN; rw [hk 1 (by omega)]
  have e4 : aN r 4 = aN s 4 := by unfold aN; rw [hk 4 (by omega)]
  have ea : (List.range (aN r 1)).any (canSayN r) = anyK s a (aN r 5) := by
    unfold anyK
    rw [← e1]
    refine any_cg (fun w hwm => ?_)
    rw [List.mem_range] at hwm
    unfold canSayN
    rw [decide_eq_true hwm, Bool.true_and, kd_cost hw hk h (by omega)]
  unfold canDoN
  rw [ea, Bool.or_comm]
  congr 1
  unfold canThrowN mayT
  rw [e4]
/-- the value where the hat can still be reached -/
def hz (j h x : Nat) : Nat := if j ≤ h then x else 0
theorem hz_sum (j h : Nat) (g : Nat → Nat) : ∀ n q, sumR (fun w => hz j h (g w)) n q = hz j h (sumR g n q) := by
  intro n
  induction n with
  | zero => intro q; unfold hz; split <;> rfl
  | succ n ih =>
    intro q
    rw [sumR_s, sumR_s, ih]
    unfold hz
    split <;> rfl
theorem kd_E {y4 : Int32} {r : Nat → Int32} (hw : wfS r) (hs : spk r) {j h sd : Nat} (hj : r 9 - y4 = nI j) (hj2 : j ≤ 100) (hh : h ≤ 100) (hsd : sd ≤ 1) : plE (nI h) (nI sd) y4 r = hz j h (pfE (h - j) (decide (sd = aN r 6))) := by
  have b6 : aN r 6 ≤ 1 := hw.b 6 rfl
  unfold plE hz pfE
  rw [spk_win hw hs, hj]
  by_cases c1 : sd = aN r 6
  · rw [if_neg (fun z => by have := (nI_eq (by omega) (by omega)).1 z.1; omega), decide_eq_true c1]
    by_cases c3 : j ≤ h
    · rw [if_pos c3, if_neg (by simp)]
    · rw [if_neg c3]
  · rw [decide_eq_false c1]
    by_cases c2 : j = h
    · rw [if_pos ⟨by congr 1; omega, by rw [c2]⟩, if_pos (by omega), if_pos ⟨by omega, rfl⟩]
    · rw [if_neg (fun z => c2 ((nI_eq (by omega) (by omega)).1 z.2))]
      by_cases c3 : j ≤ h
      · rw [if_pos c3, if_neg (fun z => by have := z.1; omega)]
      · rw [if_neg c3]
theorem kd_B {s u : Nat → Int32} {y4 : Int32} {k h sd : Nat} (ih : ∀ (r : Nat → Int32) (a b j : Nat), wfS r → onS r → kp_r r s → kdR s r a b → r 9 - y4 = nI j → j + k ≤ 60 → plR (plE (nI h) (nI sd) y4) k r = hz j h (pyG s (aN s 4) k (aN r 5) a b (aN r (12 + aN r 6)) (aN r (12 + (1 - aN r 6))) (h - j) (decide (sd = aN r 6)))) (hw : wfS u) (ho : onS u) (hk : kp_r u s) {a b j : Nat} (hd : kdR s u a b) (hj : u 9 - y4 = nI j) (hj2 : j + k ≤ 60) (hh : h ≤ 14) (hsd : sd ≤ 1) : (if canDoN u = true then plR (plE (nI h) (nI sd) y4) k u else plE (nI h) (nI sd) y4 u) = hz j h (pyB s (aN s 4) (pyG s (aN s 4) k) (aN u 5) a b (aN u (12 + aN u 6)) (aN u (12 + (1 - aN u 6))) (h - j) (decide (sd = aN u 6))) := by
  unfold pyB
  rw [← kd_do hw hk hd]
  by_cases c : canDoN u = true
  · rw [if_pos c, if_pos c]
    exact ih u a b j hw ho hk hd hj hj2
  · rw [if_neg c, if_neg c]
    exact kd_E hw ho.1 hj (by omega) (by omega) hsd
theorem ovr_if {r : Nat → Int32} {q : Nat} (hq : q < 5) {A B : Nat} : (if ovr r q = true then A else B) = (if canDoN (opU r q) = true then B else A) := by
  have e : ovr r q = !canDoN (opU r q) := by unfold ovr; rw [decide_eq_false (by omega), Bool.false_or]
  rw [e]
  cases canDoN (opU r q) <;> rfl
theorem kd_say {s r : Nat → Int32} (hw : wfS r) (hk : kp_r r s) {a b w : Nat} (h4 : w < 4) (hd : kdR s r a b) (hc : canSayN r w = true) : aN (sayS r w) 5 = aN r 5 - costK s w a ∧ aN (sayS r w) 6 = 1 - aN r 6 ∧ aN (sayS r w) (12 + (1 - aN r 6)) = aN r (12 + (1 - aN r 6)) ∧ aN (sayS r w) (12 + (1 - (1 - aN r 6))) = aN r (12 + aN r 6) ∧ kdR s (sayS r w) (tnk s b) (tnk s (w + 1)) ∧ sayS r w 9 = r 9 := by
  have b5 : aN r 5 ≤ 200 := hw.b 5 rfl
  have b6 : aN r 6 ≤ 1 := hw.b 6 rfl
  have e6 : aN (sayS r w) 6 = 1 - aN r 6 := by
    show (sayS r w 6).toNatClampNeg = _
    rw [say_6, nI_clamp (by omega)]
  have ek : ∀ j, j ≠ 5 → j ≠ 14 + aN r 6 → j ≠ 16 + aN r 6 → j ≠ 8 → j ≠ 6 → j ≠ 7 → aN (sayS r w) j = aN r j := fun j h1 h2 h3 h4 h5 h6 => by unfold aN; rw [say_keep h1 h2 h3 h4 h5 h6]
  have el : aN (sayS r w) (14 + aN r 6) = w := by
    unfold sayS
    rw [aN_upd, if_neg (by omega), aN_upd, if_neg (by omega), aN_upd, if_neg (by omega), aN_upd, if_neg (by omega), aN_upd, if_pos rfl, nI_clamp (by omega)]
  have e11 : 1 - (1 - aN r 6) = aN r 6 := by omega
  refine ⟨?_, e6, ek _ (by omega) (by omega) (by omega) (by omega) (by omega) (by omega), ?_, ?_, say_keep (by omega) (by omega) (by omega) (by omega) (by omega) (by omega)⟩
  · show (sayS r w 5).toNatClampNeg = _
    rw [say_5, nI_clamp (by omega), kd_cost hw hk hd h4]
  · rw [e11]
    exact ek _ (by omega) (by omega) (by omega) (by omega) (by omega) (by omega)
  · by_cases c : aN s 2 = 0
    · exact Or.inl c
    · refine Or.inr ?_
      rcases hd with z | ⟨_, z⟩
      · exact absurd z c
      · unfold tnk
        rw [if_neg c, if_neg c, e6, e11]
        refine ⟨?_, ?_⟩
        · rw [z]
          unfold kj
          rw [ek _ (by omega) (by omega) (by omega) (by omega) (by omega) (by omega)]
        · unfold kj
          rw [el, if_neg (by omega)]
theorem plays_br {s : Nat → Int32} {y4 : Int32} {h sd : Nat} (hh : h ≤ 14) (hsd : sd ≤ 1) : ∀ k (r : Nat → Int32) (a b j : Nat), wfS r → onS r → kp_r r s → kdR s r a b → r 9 - y4 = nI j → j + k ≤ 60 → plR (plE (nI h) (nI sd) y4) k r = hz j h (pyG s (aN s 4) k (aN r 5) a b (aN r (12 + aN r 6)) (aN r (12 + (1 - aN r 6))) (h - j) (decide (sd = aN r 6))) := by
  intro k
  induction k with
  | zero =>
    intro r a b j hw ho hk hd hj hj2
    show 0 = hz j h 0
    unfold hz
    split <;> rfl
  | succ k ih =>
    intro r a b j hw ho hk hd hj hj2
    have b1 : aN r 1 ≤ 4 := hw.b 1 rfl
    have b4 : aN r 4 ≤ 72 := hw.b 4 rfl
    have b5 : aN r 5 ≤ 200 := hw.b 5 rfl
    have b6 : aN r 6 ≤ 1 := hw.b 6 rfl
    have e1 : aN r 1 = aN s 1 := by unfold aN; rw [hk 1 (by omega)]
    have e4 : aN r 4 = aN s 4 := by unfold aN; rw [hk 4 (by omega)]
    have e11 : 1 - (1 - aN r 6) = aN r 6 := by omega
    have T1 : sumR (plO (plE (nI h) (nI sd) y4) (plR (plE (nI h) (nI sd) y4) k) r) 6 0 = sumR (plO (plE (nI h) (nI sd) y4) (plR (plE (nI h) (nI sd) y4) k) r) (aN s 1) 0 + (plO (plE (nI h) (nI sd) y4) (plR (plE (nI h) (nI sd) y4) k) r 4 + plO (plE (nI h) (nI sd) y4) (plR (plE (nI h) (nI sd) y4) k) r 5) := by
      have q1 := sumR_split (f := plO (plE (nI h) (nI sd) y4) (plR (plE (nI h) (nI sd) y4) k) r) (aN s 1) (6 - aN s 1) 0
      have q2 := sumR_skip (f := plO (plE (nI h) (nI sd) y4) (plR (plE (nI h) (nI sd) y4) k) r) (4 - aN s 1) 2 (aN s 1) (fun i i1 i2 => by
        unfold plO
        rw [if_neg]
        unfold avl
        rw [if_pos (by omega)]
        unfold canSayN
        rw [decide_eq_false (show ¬ i < aN r 1 by omega)]
        simp)
      rw [show aN s 1 + (6 - aN s 1) = 6 by omega, Nat.zero_add, show 6 - aN s 1 = 4 - aN s 1 + 2 by omega, q2, show aN s 1 + (4 - aN s 1) = 4 by omega] at q1
      rw [q1]
      rfl
    have V5 : plO (plE (nI h) (nI sd) y4) (plR (plE (nI h) (nI sd) y4) k) r 5 = hz j h (pfE (h - j) (decide (sd = aN r 6))) := by
      have h5 : avl r 5 = true := by unfold avl; rw [if_neg (by omega), if_neg (by omega)]
      have o5 : ovr r 5 = true := rfl
      have u5 : opU r 5 = r := by unfold opU; rw [if_neg (by omega), if_neg (by omega)]
      unfold plO
      rw [if_pos h5, if_pos o5, u5]
      exact kd_E hw ho.1 hj (by omega) (by omega) hsd
    have V4 : plO (plE (nI h) (nI sd) y4) (plR (plE (nI h) (nI sd) y4) k) r 4 = hz j h (pyT s (aN s 4) (pyG s (aN s 4) k) (aN r 5) a b (aN r (12 + aN r 6)) (aN r (12 + (1 - aN r 6))) (h - j) (decide (sd = aN r 6))) := by
      have a4 : avl r 4 = canThrowN r := by unfold avl; rw [if_neg (by omega), if_pos rfl]
      have u4 : opU r 4 = throwS r := by unfold opU; rw [if_neg (by omega), if_pos rfl]
      have hm : canThrowN r = mayT (aN s 4) (aN r 5) (aN r (12 + aN r 6)) := by unfold canThrowN mayT; rw [e4]
      unfold plO pyT
      rw [a4, ovr_if (by omega), u4]
      by_cases c : canThrowN r = true
      · rw [if_pos c]
        have c' := c
        unfold canThrowN at c'
        simp only [Bool.and_eq_true, decide_eq_true_eq] at c'
        have h6 : aN r 6 < 2 := by omega
        have bp := hw.b (12 + aN r 6) (isB_12 _ h6); rw [bnd_12 _ h6] at bp
        have ek : ∀ j, j ≠ 12 + aN r 6 → j ≠ 9 → j ≠ 5 → j ≠ 7 → aN (throwS r) j = aN r j := fun j h1 h2 h3 h4 => by unfold aN; rw [throw_keep hw h1 h2 h3 h4]
        have t5 : aN (throwS r) 5 = aN r 5 + aN s 4 := by
          unfold throwS
          rw [aN_upd, if_neg (by omega), aN_upd, if_pos rfl, hw.n 5 rfl, hw.n 4 rfl, nI_add, nI_clamp (by omega), e4]
        have tp : aN (throwS r) (12 + aN r 6) = aN r (12 + aN r 6) - 1 := by
          unfold throwS
          rw [aN_upd, if_neg (by omega), aN_upd, if_neg (by omega), aN_upd, if_neg (by omega), aN_upd, if_pos rfl, hw.n (12 + aN r 6) (isB_12 _ h6), show (1 : Int32) = nI 1 from rfl, pk_sub (by omega), nI_clamp (by omega)]
        have t6 : aN (throwS r) 6 = aN r 6 := ek 6 (by omega) (by omega) (by omega) (by omega)
        have to : aN (throwS r) (12 + (1 - aN r 6)) = aN r (12 + (1 - aN r 6)) := ek _ (by omega) (by omega) (by omega) (by omega)
        have t9 : throwS r 9 - y4 = nI (j + 1) := by
          have : throwS r 9 = r 9 + 1 := by unfold throwS; rw [upd_at, if_neg (by omega), upd_at, if_neg (by omega), upd_at, if_pos rfl]
          rw [this, ← nI_1, ← hj, Int32.sub_eq_add_neg, Int32.sub_eq_add_neg, Int32.add_assoc, Int32.add_assoc, Int32.add_comm 1]
        have tk : kp_r (throwS r) s := fun k hk' => by rw [throw_keep hw (by omega) (by omega) (by omega) (by omega)]; exact hk k hk'
        have td : kdR s (throwS r) a b := by
          rcases hd with z | ⟨z1, z2⟩
          · exact Or.inl z
          · refine Or.inr ?_
            rw [t6, z1, z2]
            unfold kj
            rw [ek _ (by omega) (by omega) (by omega) (by omega), ek _ (by omega) (by omega) (by omega) (by omega)]
            exact ⟨rfl, rfl⟩
        rw [kd_B ih (throw_wf hw c) (on_throw hw ho) tk td t9 (by omega) hh hsd, t6, t5, tp, to]
        unfold hz
        by_cases c3 : j + 1 ≤ h
        · rw [if_pos c3, if_pos (show j ≤ h by omega), if_pos ⟨by omega, by rw [← hm]; exact c⟩, show h - j - 1 = h - (j + 1) by omega]
        · rw [if_neg c3]
          by_cases c5 : j ≤ h
          · rw [if_pos c5, if_neg (fun z => by have := z.1; omega)]
          · rw [if_neg c5]
      · rw [if_neg c, if_neg (fun z => c (by rw [hm]; exact z.2))]
        unfold hz
        split <;> rfl
    have VW : ∀ w, 0 ≤ w → w < 0 + aN s 1 → plO (plE (nI h) (nI sd) y4) (plR (plE (nI h) (nI sd) y4) k) r w = hz j h (pyW s (aN s 4) (pyG s (aN s 4) k) (aN r 5) a b (aN r (12 + aN r 6)) (aN r (12 + (1 - aN r 6))) (h - j) (decide (sd = aN r 6)) w) := by
      intro w _ hw1
      have h4 : w < 4 := by omega
      have aw : avl r w = canSayN r w := by unfold avl; rw [if_pos h4]
      have uw : opU r w = sayS r w := by unfold opU; rw [if_pos h4]
      have ec := kd_cost hw hk hd h4
      have ecs : canSayN r w = decide (costK s w a ≤ aN r 5) := by unfold canSayN; rw [decide_eq_true (show w < aN r 1 by omega), Bool.true_and, ec]
      unfold plO pyW
      rw [aw, ovr_if (by omega), uw]
      by_cases c : canSayN r w = true
      · rw [if_pos c]
        have c2 : costK s w a ≤ aN r 5 := by rw [ecs] at c; exact of_decide_eq_true c
        rw [if_pos c2]
        obtain ⟨s1, s2, s3, s4, s5, s6⟩ := kd_say hw hk h4 hd c
        have tk : kp_r (sayS r w) s := fun k hk' => by rw [say_keep (by omega) (by omega) (by omega) (by omega) (by omega) (by omega)]; exact hk k hk'
        rw [kd_B ih (say_wf hw h4) (on_say hw ho h4 (by omega)) tk s5 (by rw [s6]; exact hj) (by omega) hh hsd, s2, s1, s3, s4]
        have en : decide (sd = 1 - aN r 6) = !decide (sd = aN r 6) := by
          by_cases z : sd = aN r 6
          · rw [decide_eq_true z, decide_eq_false (by omega)]; rfl
          · rw [decide_eq_false z, decide_eq_true (by omega)]; rfl
        rw [en]
      · rw [if_neg c]
        have c2 : ¬ costK s w a ≤ aN r 5 := by rw [ecs] at c; exact fun z => c (decide_eq_true z)
        rw [if_neg c2]
        unfold hz
        split <;> rfl
    show sumR (plO (plE (nI h) (nI sd) y4) (plR (plE (nI h) (nI sd) y4) k) r) 6 0 = hz j h (pfE (h - j) (decide (sd = aN r 6)) + sumR (pyW s (aN s 4) (pyG s (aN s 4) k) (aN r 5) a b (aN r (12 + aN r 6)) (aN r (12 + (1 - aN r 6))) (h - j) (decide (sd = aN r 6))) (aN s 1) 0 + pyT s (aN s 4) (pyG s (aN s 4) k) (aN r 5) a b (aN r (12 + aN r 6)) (aN r (12 + (1 - aN r 6))) (h - j) (decide (sd = aN r 6)))
    rw [T1, V4, V5, sumR_cg (aN s 1) 0 VW, hz_sum]
    unfold hz
    split <;> omega
theorem t_plays {M M0 M1 M2 M3 M4 M5 M6 M7 M8 M9 : gS} (hi : inv M M0 M1 M2 M3 M4 M7) (p1 p2 p3 : Int32) : tieP M (fun Q => wX12_plays p1 p2 p3 M Q) (fun Q => wX11_plays p1 p2 p3 M0 M1 M2 M3 M4 M5 M6 M7 M8 M9 Q) := by
  obtain ⟨⟨hw, hsp⟩, ⟨hW, hC, hq, hO⟩, hT, hB⟩ := id hi
  by_cases c : ma M 25 3 = 1 ∧ (0 ≤ p1 ∧ p1 ≤ 8) ∧ (0 ≤ p2 ∧ p2 ≤ 14) ∧ (p3 = 0 ∨ p3 = 1)
  · obtain ⟨g, c1, c2, c3⟩ := c
    have ho := hsp g
    obtain ⟨n, hn, rfl⟩ := rng_n (b := 8) (by decide) c1.1 c1.2
    obtain ⟨h, hh, rfl⟩ := rng_n (b := 14) (by decide) c2.1 c2.2
    obtain ⟨sd, hsd, rfl⟩ := side_nat c3
    have br := plays_br (s := ma M 25) (y4 := ma M 25 9) hh hsd n (ma M 25) (kj (ma M 25) (aN (ma M 25) 6)) (kj (ma M 25) (1 - aN (ma M 25) 6)) 0 hw ho (fun _ _ => rfl) (Or.inr ⟨rfl, rfl⟩) (by rw [Int32.sub_self]; rfl) (by omega)
    refine ⟨nI (plR (plE (nI h) (nI sd) (ma M 25 9)) n (ma M 25)), M, keepR_refl M, fun Q hQ => m_plays hw ho g hn c2 c3 Q hQ, fun Q hQ => ?_⟩
    show wX11_plays (nI n) (nI h) (nI sd) M0 M1 M2 M3 M4 M5 M6 M7 M8 M9 Q
    unfold wX11_plays
    refine sw_f (nlt_le.2 c1.1) (sw_f (nlt_le.2 c1.2) (sw_f (nlt_le.2 c2.1) (sw_f (nlt_le.2 c2.2) (c_side_t c3 (bw_t (sw_f (by rw [hq.1, g]; decide) (c_total hw ho g hC hq hn hh hsd _ (fun N8 => ?_))))))))
    rw [br] at hQ
    exact hQ M0 M1 M2 M3 M4 M5 M6 M7 N8 M9 hi
  · refine tieP_same (M5 := M5) (M6 := M6) (M8 := M8) (M9 := M9) hi (-2) (fun Q h => ?_) (fun Q h => ?_)
    · have h' := h _ (eqM_refl _)
      show wX12_plays p1 p2 p3 M Q
      unfold wX12_plays
      by_cases g : ma M 25 3 = 1
      · refine m_goes_t g (bw_t ?_)
        by_cases c1 : 0 ≤ p1 ∧ p1 ≤ 8
        · refine m_in_t (lo := 0) (hi := 8) (by decide) (by decide) c1.1 c1.2 (bw_t ?_)
          by_cases c2 : 0 ≤ p2 ∧ p2 ≤ 14
          · exact m_in_t (lo := 0) (hi := 14) (by decide) (by decide) c2.1 c2.2 (bw_t (m_side_f (fun z => c ⟨g, c1, c2, z⟩) (bw_f h')))
          · exact m_in_f (lo := 0) (hi := 14) (by decide) (by decide) c2 (bw_f h')
        · exact m_in_f (lo := 0) (hi := 8) (by decide) (by decide) c1 (bw_f h')
      · exact m_goes_f g (bw_f h')
    · show wX11_plays p1 p2 p3 M0 M1 M2 M3 M4 M5 M6 M7 M8 M9 Q
      unfold wX11_plays
      by_cases a1 : p1 < 0
      · exact sw_t a1 h
      refine sw_f a1 ?_
      by_cases a2 : 8 < p1
      · exact sw_t a2 h
      refine sw_f a2 ?_
      by_cases a3 : p2 < 0
      · exact sw_t a3 h
      refine sw_f a3 ?_
      by_cases a4 : 14 < p2
      · exact sw_t a4 h
      refine sw_f a4 ?_
      by_cases a5 : p3 = 0 ∨ p3 = 1
      · refine c_side_t a5 (bw_t (sw_t ?_ h))
        rw [hq.1]
        exact goes_n hw (fun g => c ⟨g, ⟨nlt_le.1 a1, nlt_le.1 a2⟩, ⟨nlt_le.1 a3, nlt_le.1 a4⟩, a5⟩)
      · exact c_side_f a5 (bw_f h)
