theorem sF_comm (M : gS) {i j : Nat} (h : i ≠ j) (f g : Nat → Int32) : sF (sF M i f) j g = sF (sF M j g) i f := by
  obtain ⟨a, b, c, d⟩ := M
  unfold sF va_up
  simp only
  congr 3
  funext k
  by_cases e : k = i
  · subst e; simp [h]
  · by_cases e2 : k = j
    · subst e2; simp [Ne.symm h]
    · simp [e, e2]
/-- what stands behind N numbers that were looked at: the least sum y4, its row br; q the sorted row, T its sum, nq its number -/
def ordI (n : Nat) (g : Nat → Nat) (T nq N : Nat) (y4 : Int32) (br : Nat → Int32) : Prop := (nq < N → y4 = nI T ∧ ∀ k, k < n → br k = nI (g k)) ∧ (N ≤ nq → y4 = -1 ∨ ∃ c, c < 2 ^ 31 ∧ y4 = nI c ∧ T < c)
theorem m_ord160 {n : Nat} (hn : n ≤ 6) {M : gS} {f : Nat → Nat} {pl : Nat → Int32} (hp : ∀ k, k < n → pl k = nI (f k)) (B49 : Int32 → Int32 → Int32 → Int32 → Int32 → gS → Prop) (Q : Int32 → gS → Prop) (y1 y3 y4 : Int32) (N : Nat) (hB : ∀ br, (∀ k, k < n → br k = nI (f k)) → B49 y1 (nI n) y3 y4 (nI (N + 1)) (sF (sF M 31 pl) 32 br)) : ∀ c k, k + c = n → ∀ br, (∀ i, i < k → br i = nI (f i)) → wX12_order_160 B49 Q (c + 1) y1 (nI n) y3 y4 (nI N) (nI k) (sF (sF M 31 pl) 32 br) := by
  intro c
  induction c with
  | zero =>
    intro k hk br hb
    rw [wX12_order_160]
    refine sw_t (nI_le (by omega) (by omega)) ?_
    unfold wX12_order_186
    intro x hx
    rw [hx, nI_1]
    exact hB br (fun i hi => hb i (by omega))
  | succ c ih =>
    intro k hk br hb
    rw [wX12_order_160, nI_clamp (by omega)]
    refine sw_f (nI_ge (by omega) (by omega)) ⟨vp_in_nI (by omega) (by decide), fun x2 h2 => ⟨vp_in_nI (by omega) (by decide), fun M3 h3 x4 h4 => ?_⟩⟩
    have e2 : x2 = nI (f k) := by
      rw [h2]
      show ma (sF M 31 pl) 31 k = _
      rw [ma_sF1]; exact hp k (by omega)
    have e3 : M3 = sF (sF M 31 pl) 32 (upd br k x2) := by
      rw [h3]
      show sF (sF (sF M 31 pl) 32 br) 32 (upd (ma (sF (sF M 31 pl) 32 br) 32) k x2) = _
      rw [ma_sF1, sF_sF]
    rw [e3, h4, nI_1]
    refine ih (k + 1) (by omega) _ (fun i hi => ?_)
    rw [upd_at]
    by_cases z : i = k
    · rw [if_pos z, e2, z]
    · rw [if_neg z]; exact hb i (by omega)
theorem m_ord77 {M : gS} (hw : wfS (ma M 25)) {n : Nat} (hn : n ≤ 6) {f : Nat → Nat} (hf : ∀ k, k < n → f k < 6) {pl br : Nat → Int32} (hp : ∀ k, k < n → pl k = nI (f k)) (B49 : Int32 → Int32 → Int32 → Int32 → Int32 → gS → Prop) (Q : Int32 → gS → Prop) (y1 y3 y4 : Int32) (N S : Nat) (hS : S < 2 ^ 31) (hB1 : y4 < 0 ∨ nI S < y4 → ∀ br', (∀ k, k < n → br' k = nI (f k)) → B49 y1 (nI n) y3 (nI S) (nI (N + 1)) (sF (sF M 31 pl) 32 br')) (hB2 : ¬ y4 < 0 → ¬ nI S < y4 → B49 y1 (nI n) y3 y4 (nI (N + 1)) (sF (sF M 31 pl) 32 br)) : ∀ c k, k + c = n → ∀ acc sm, sm + cstL (wO (ma M 25)) (bO (ma M 25)) acc ((List.range' k c).map f) = S → wX12_order_77 B49 Q (c + 1) y1 (nI n) y3 y4 (nI N) (nI acc) (nI sm) (nI k) (sF (sF M 31 pl) 32 br) := by
  intro c
  induction c with
  | zero =>
    intro k hk acc sm hs
    simp only [List.range'_zero, List.map_nil, cstL, Nat.add_zero] at hs
    rw [wX12_order_77, hs]
    refine sw_t (nI_le (by omega) (by omega)) ?_
    have go : (y4 < 0 ∨ nI S < y4) → wX12_order_153 B49 Q y1 (nI n) y3 (nI N) (nI S) (sF (sF M 31 pl) 32 br) := by
      intro hc
      exact ⟨n + 1, m_ord160 hn hp B49 Q y1 y3 (nI S) N (hB1 hc) n 0 (by omega) br (fun i hi => by omega)⟩
    by_cases d : y4 < 0
    · exact sw_t d (go (Or.inl d))
    · refine sw_f d ?_
      by_cases e : nI S < y4
      · exact sw_t e (go (Or.inr e))
      · refine sw_f e ?_
        unfold wX12_order_186
        intro x hx
        rw [hx, nI_1]
        exact hB2 d e
  | succ c ih =>
    intro k hk acc sm hs
    have fk := hf k (by omega)
    obtain ⟨d1, d2, d3, d4⟩ := bwO hw (i := f k) fk
    have r31 : ma (sF (sF M 31 pl) 32 br) 31 k = nI (f k) := by
      show ma (sF M 31 pl) 31 k = _
      rw [ma_sF1]; exact hp k (by omega)
    have i32 : (32 : Int32) + 2 * nI (f k) = nI (32 + 2 * f k) := by
      rw [show (2 : Int32) = nI 2 from rfl, pk_mul]; exact nI_add 32 _
    have i33 : nI (32 + 2 * f k) + 1 = nI (33 + 2 * f k) := by rw [nI_1]; congr 1; omega
    rw [wX12_order_77, nI_clamp (by omega), r31, i32, i33, nI_clamp (by omega), nI_clamp (by omega)]
    refine sw_f (nI_ge (by omega) (by omega)) ⟨vp_in_nI (by omega) (by decide), vp_in_nI (by omega) (by decide), fun x4 h4 => ⟨vp_in_nI (by omega) (by decide), vp_in_nI (by omega) (by decide), fun x5 h5 x6 h6 => ?_⟩⟩
    have e4 : x4 = nI (acc + bO (ma M 25) (f k)) := by
      rw [h4]
      show nI acc + ma M 25 (32 + 2 * f k) = _
      rw [d3, nI_add]
    have e5 : x5 = nI (sm + (acc + bO (ma M 25) (f k)) * wO (ma M 25) (f k)) := by
      rw [h5, e4]
      show nI sm + nI (acc + bO (ma M 25) (f k)) * ma M 25 (33 + 2 * f k) = _
      rw [d4, pk_mul, nI_add]
    rw [e4, e5, h6, nI_1]
    refine ih (k + 1) (by omega) _ _ ?_
    rw [List.range'_succ, List.map_cons] at hs
    simp only [cstL] at hs
    rw [Nat.mul_comm (wO (ma M 25) (f k))] at hs
    omega
theorem pow_6 : ∀ n, n ≤ 6 → n ^ n ≤ 46656 ∧ 1 ≤ n ^ n := by decide
theorem m_ord49 {M : gS} (hw : wfS (ma M 25)) {n : Nat} (hn : n = aN (ma M 25) 10) {g : Nat → Nat} (hg : srt (wO (ma M 25)) (bO (ma M 25)) g n) (y1 : Int32) (Q : Int32 → gS → Prop) (hQ : ∀ pl br, (∀ k, k < n → br k = nI (g k)) → ((y1 = 0 → Q (nI (cstL (wO (ma M 25)) (bO (ma M 25)) 0 ((List.range n).map g))) (sF (sF M 31 pl) 32 br)) ∧ (¬ y1 = 0 → ((nI n < y1 → Q (-2) (sF (sF M 31 pl) 32 br)) ∧ (¬ nI n < y1 → (vp_in (y1 - 1) 6 ∧ Q (br (Int32.toNatClampNeg (y1 - 1))) (sF (sF M 31 pl) 32 br))))))) : ∀ c N, N + c = n ^ n → ∀ pl br y4, ordI n g (cstL (wO (ma M 25)) (bO (ma M 25)) 0 ((List.range n).map g)) (numL n 0 ((List.range n).map g)) N y4 br → wX12_order_49 Q (c + 1) y1 (nI n) (nI (n ^ n)) y4 (nI N) (sF (sF M 31 pl) 32 br) := by
  have b10 : aN (ma M 25) 10 ≤ 6 := hw.b 10 rfl
  have hn6 : n ≤ 6 := by omega
  have hp6 := pow_6 n hn6
  have gm : ∀ x, x ∈ (List.range n).map g → x < n := by
    intro x hx
    obtain ⟨i, i1, i2⟩ := List.mem_map.1 hx
    rw [List.mem_range] at i1
    have := hg.2.1 i i1
    omega
  have bnds : ∀ f : Nat → Nat, (∀ k, k < n → f k < n) → cstL (wO (ma M 25)) (bO (ma M 25)) 0 ((List.range n).map f) < 4000000 := by
    intro f hf
    have h1 := cst_le (w := wO (ma M 25)) (b := bO (ma M 25)) ((List.range n).map f) 0 (fun x hx => by
      obtain ⟨i, i1, i2⟩ := List.mem_map.1 hx
      rw [List.mem_range] at i1
      have := hf i i1
      obtain ⟨d1, d2, _, _⟩ := bwO hw (i := x) (by omega)
      exact ⟨d2, d1⟩)
    rw [List.length_map, List.length_range] at h1
    have h2 : n * (99 * (0 + 999 * n)) ≤ 6 * (99 * (0 + 999 * 6)) := Nat.mul_le_mul hn6 (by omega)
    omega
  have hT := bnds g hg.2.1
  have hnq : numL n 0 ((List.range n).map g) < n ^ n := by
    rcases numL_lt n ((List.range n).map g) gm with z | z
    · rw [List.length_map, List.length_range] at z; exact z
    · rw [z]
      show 0 < n ^ n
      omega
  intro c
  induction c with
  | zero =>
    intro N hN pl br y4 hI
    obtain ⟨r1, r2⟩ := hI.1 (by omega)
    rw [wX12_order_49, r1]
    refine sw_t (nI_le (by omega) (by omega)) ?_
    have := hQ pl br r2
    rw [ma_sF1]
    exact this
  | succ c ih =>
    intro N hN pl br y4 hI
    rw [wX12_order_49]
    refine sw_f (nI_ge (by omega) (by omega)) (m_isRow hn6 (by omega) _ (fun b pl2 hb hp2 => ?_))
    have est : sF (sF (sF M 31 pl) 32 br) 31 pl2 = sF (sF M 31 pl2) 32 br := by
      rw [sF_comm M (show 31 ≠ 32 by decide) pl br, sF_sF, sF_comm M (show 32 ≠ 31 by decide) br pl2]
    rw [est]
    have hdg : ∀ k, k < n → dg n N k < n := fun k hk => Nat.mod_lt _ (by omega)
    have hnum : numL n 0 ((List.range n).map (dg n N)) = N := by
      rw [num_dg (show N < n ^ n by omega) n (Nat.le_refl n), Nat.sub_self, Nat.pow_zero, Nat.div_one]
    have dgm : ∀ x, x ∈ (List.range n).map (dg n N) → x < n := by
      intro x hx
      obtain ⟨i, i1, i2⟩ := List.mem_map.1 hx
      rw [List.mem_range] at i1
      have := hdg i i1
      omega
    have atq : N = numL n 0 ((List.range n).map g) → ∀ k, k < n → dg n N k = g k := by
      intro z k hk
      have := numL_inj n _ _ (by rw [List.length_map, List.length_map]) dgm gm (by rw [hnum]; exact z)
      have h2 := congrArg (fun l => l[k]?) this
      simp only [List.getElem?_map, List.getElem?_range hk, Option.map_some] at h2
      exact Option.some.inj h2
    cases b with
    | false =>
      refine bw_f ?_
      unfold wX12_order_186
      intro x hx
      rw [hx, nI_1]
      refine ih (N + 1) (by omega) pl2 br y4 ⟨fun z => hI.1 ?_, fun z => hI.2 (by omega)⟩
      rcases Nat.lt_or_ge (numL n 0 ((List.range n).map g)) N with q | q
      · exact q
      · exfalso
        have := atq (by omega)
        have hall : ∀ i, i < n → ∃ k, k < n ∧ dg n N k = i := by
          intro i hi
          obtain ⟨k, k1, k2⟩ := hg.2.2 i hi
          exact ⟨k, k1, by rw [this k k1]; exact k2⟩
        exact absurd (hb.2 hall) (by decide)
    | true =>
      have hcov := hb.1 rfl
      have hmin := cst_min (wO (ma M 25)) (bO (ma M 25)) ((List.range n).map g) ((List.range n).map (dg n N)) 0 (srt_pw hg) (by rw [List.length_map, List.length_map]) (row_nodup hcov) (fun x hx => by
        obtain ⟨i, i1, i2⟩ := hg.2.2 x (dgm x hx)
        exact List.mem_map.2 ⟨i, List.mem_range.2 i1, i2⟩) (fun x hx => by
        obtain ⟨i, i1, i2⟩ := hcov x (gm x hx)
        exact List.mem_map.2 ⟨i, List.mem_range.2 i1, i2⟩)
      have hlex : cstL (wO (ma M 25)) (bO (ma M 25)) 0 ((List.range n).map g) = cstL (wO (ma M 25)) (bO (ma M 25)) 0 ((List.range n).map (dg n N)) → numL n 0 ((List.range n).map g) ≤ N := by
        intro z
        have := lex_num n _ _ (by rw [List.length_map, List.length_map]) gm dgm (hmin.2 z)
        rw [hnum] at this
        exact this
      have hS := bnds (dg n N) hdg
      refine bw_t ⟨n + 1, ?_⟩
      have hl : List.range n = List.range' 0 n := List.range_eq_range'
      refine m_ord77 hw hn6 (f := dg n N) (fun k hk => by have := hdg k hk; omega) hp2 _ Q y1 (nI (n ^ n)) y4 N (cstL (wO (ma M 25)) (bO (ma M 25)) 0 ((List.range n).map (dg n N))) (by omega) (fun hc br' hbr => ?_) (fun hc1 hc2 => ?_) n 0 (by omega) 0 0 (by rw [← hl]; omega)
      · refine ih (N + 1) (by omega) pl2 br' _ ⟨fun z => ?_, fun z => Or.inr ⟨_, by omega, rfl, ?_⟩⟩
        · rcases Nat.lt_or_ge (numL n 0 ((List.range n).map g)) N with q | q
          · exfalso
            obtain ⟨r1, r2⟩ := hI.1 q
            rw [r1] at hc
            rcases hc with y | y
            · exact absurd y (nI_pos (by omega))
            · rw [nI_ltI (by omega) (by omega)] at y
              omega
          · have e := atq (by omega)
            have el : (List.range n).map (dg n N) = (List.range n).map g := List.map_congr_left (fun k hk => e k (List.mem_range.1 hk))
            exact ⟨by rw [el], fun k hk => by rw [hbr k hk, e k hk]⟩
        · rcases Nat.lt_or_ge (cstL (wO (ma M 25)) (bO (ma M 25)) 0 ((List.range n).map g)) (cstL (wO (ma M 25)) (bO (ma M 25)) 0 ((List.range n).map (dg n N))) with q | q
          · exact q
          · have := hlex (by omega)
            omega
      · refine ih (N + 1) (by omega) pl2 br y4 ⟨fun z => ?_, fun z => hI.2 (by omega)⟩
        rcases Nat.lt_or_ge (numL n 0 ((List.range n).map g)) N with q | q
        · exact hI.1 q
        · exfalso
          have e := atq (by omega)
          have el : (List.range n).map (dg n N) = (List.range n).map g := List.map_congr_left (fun k hk => e k (List.mem_range.1 hk))
          rw [el] at hc2
          rcases hI.2 (by omega) with y | ⟨cc, y1', y2, y3⟩
          · exact hc1 (by rw [y]; decide)
          · exact hc2 (by rw [y2, nI_ltI (by omega) y1']; exact y3)
theorem m_ord27 {n : Nat} (hn : n ≤ 6) (M : gS) (y1 : Int32) (Q : Int32 → gS → Prop) (h : ∃ k49, wX12_order_49 Q k49 y1 (nI n) (nI (n ^ n)) (-1) 0 M) : ∀ c k, k + c = n → wX12_order_27 Q (c + 1) y1 (nI n) (nI (n ^ k)) (nI k) M := by
  intro c
  induction c with
  | zero =>
    intro k hk
    rw [wX12_order_27]
    refine sw_t (nI_le (by omega) (by omega)) ?_
    rw [show k = n by omega]
    exact h
  | succ c ih =>
    intro k hk
    rw [wX12_order_27]
    refine sw_f (nI_ge (by omega) (by omega)) (fun x2 h2 x3 h3 => ?_)
    rw [h2, h3, nI_1, pk_mul, ← Nat.pow_succ]
    exact ih (k + 1) (by omega)
theorem t_order {M M0 M1 M2 M3 M4 M5 M6 M7 M8 M9 : gS} (hi : inv M M0 M1 M2 M3 M4 M7) (p1 : Int32) : tieP M (fun Q => wX12_order p1 M Q) (fun Q => wX11_order p1 M0 M1 M2 M3 M4 M5 M6 M7 M8 M9 Q) := by
  obtain ⟨⟨hw, hsp⟩, ⟨hW, hC, hq, hO⟩, hT, hB⟩ := id hi
  have b10 : aN (ma M 25) 10 ≤ 6 := hw.b 10 rfl
  have e10 := hw.n 10 rfl
  by_cases c : 0 ≤ p1 ∧ p1 ≤ 6
  rotate_left
  · refine tieP_same (M5 := M5) (M6 := M6) (M8 := M8) (M9 := M9) hi (-1) (fun Q h => m_in_f (lo := 0) (hi := 6) (by decide) (by decide) c (bw_f (h _ (eqM_refl _)))) (fun Q h => ?_)
    by_cases d : p1 < 0
    · exact sw_t d h
    · exact sw_f d (sw_f (fun z => c ⟨nlt_le.1 d, z⟩) h)
  obtain ⟨what, hwt, rfl⟩ := rng_n (b := 6) (by omega) c.1 c.2
  -- one arranged row, by the class's own way
  have hex : ∃ g, srt (wO (ma M 25)) (bO (ma M 25)) g (aN (ma M 25) 10) := by
    have : wX4_arrange M4 (fun _ => ∃ g, srt (wO (ma M 25)) (bO (ma M 25)) g (aN (ma M 25) 10)) → ∃ g, srt (wO (ma M 25)) (bO (ma M 25)) g (aN (ma M 25) 10) := by
      intro _
      have ins : ∀ n, n ≤ aN (ma M 25) 10 → ∃ g, srt (wO (ma M 25)) (bO (ma M 25)) g n := by
        intro n
        induction n with
        | zero => intro _; exact ⟨fun _ => 0, fun i j h1 h2 => by omega, fun i h => by omega, fun y h => by omega⟩
        | succ n ih =>
          intro hn
          obtain ⟨g, hg⟩ := ih (by omega)
          have hb : ∀ i, i ≤ n → 0 < bO (ma M 25) i := fun i hi => hw.2.2.2.2 i (by omega)
          have fp : ∀ p, p ≤ n → (∀ j, p ≤ j → j < n → wO (ma M 25) (g j) * bO (ma M 25) n < wO (ma M 25) n * bO (ma M 25) (g j)) → ∃ g', srt (wO (ma M 25)) (bO (ma M 25)) g' (n + 1) := by
            intro p
            induction p with
            | zero => intro hp h1; exact ⟨_, srt_ins hb hg hp h1 (Or.inl rfl)⟩
            | succ p ihp =>
              intro hp h1
              by_cases z : wO (ma M 25) n * bO (ma M 25) (g p) ≤ wO (ma M 25) (g p) * bO (ma M 25) n
              · exact ⟨_, srt_ins hb hg hp h1 (Or.inr (by rw [Nat.add_sub_cancel]; exact z))⟩
              · refine ihp (by omega) (fun j j1 j2 => ?_)
                by_cases y : j = p
                · rw [y]; omega
                · exact h1 j (by omega) j2
          exact fp n (Nat.le_refl n) (fun j h1 h2 => by omega)
      exact ins _ (Nat.le_refl _)
    exact this (c_arrange hw hO _ (fun N g _ hg _ => ⟨g, hg⟩))
  obtain ⟨g, hg⟩ := hex
  have uniq : ∀ g', srt (wO (ma M 25)) (bO (ma M 25)) g' (aN (ma M 25) 10) → ∀ k, k < aN (ma M 25) 10 → g' k = g k := by
    intro g' hg' k hk
    have gm : ∀ h : Nat → Nat, srt (wO (ma M 25)) (bO (ma M 25)) h (aN (ma M 25) 10) → ∀ x, x ∈ (List.range (aN (ma M 25) 10)).map h → x < aN (ma M 25) 10 := by
      intro h hh x hx
      obtain ⟨i, i1, i2⟩ := List.mem_map.1 hx
      rw [List.mem_range] at i1
      have := hh.2.1 i i1
      omega
    have mn : ∀ h h' : Nat → Nat, srt (wO (ma M 25)) (bO (ma M 25)) h (aN (ma M 25) 10) → srt (wO (ma M 25)) (bO (ma M 25)) h' (aN (ma M 25) 10) → cstL (wO (ma M 25)) (bO (ma M 25)) 0 ((List.range (aN (ma M 25) 10)).map h) ≤ cstL (wO (ma M 25)) (bO (ma M 25)) 0 ((List.range (aN (ma M 25) 10)).map h') ∧ (cstL (wO (ma M 25)) (bO (ma M 25)) 0 ((List.range (aN (ma M 25) 10)).map h) = cstL (wO (ma M 25)) (bO (ma M 25)) 0 ((List.range (aN (ma M 25) 10)).map h') → numL (aN (ma M 25) 10) 0 ((List.range (aN (ma M 25) 10)).map h) ≤ numL (aN (ma M 25) 10) 0 ((List.range (aN (ma M 25) 10)).map h')) := by
      intro h h' hh hh'
      have := cst_min (wO (ma M 25)) (bO (ma M 25)) ((List.range (aN (ma M 25) 10)).map h) ((List.range (aN (ma M 25) 10)).map h') 0 (srt_pw hh) (by rw [List.length_map, List.length_map]) (row_nodup hh'.2.2) (fun x hx => by
        obtain ⟨i, i1, i2⟩ := hh.2.2 x (gm h' hh' x hx)
        exact List.mem_map.2 ⟨i, List.mem_range.2 i1, i2⟩) (fun x hx => by
        obtain ⟨i, i1, i2⟩ := hh'.2.2 x (gm h hh x hx)
        exact List.mem_map.2 ⟨i, List.mem_range.2 i1, i2⟩)
      exact ⟨this.1, fun z => lex_num _ _ _ (by rw [List.length_map, List.length_map]) (gm h hh) (gm h' hh') (this.2 z)⟩
    have m1 := mn g' g hg' hg
    have m2 := mn g g' hg hg'
    have e := numL_inj _ _ _ (by rw [List.length_map, List.length_map]) (gm g' hg') (gm g hg) (Nat.le_antisymm (m1.2 (by omega)) (m2.2 (by omega)))
    have h2 := congrArg (fun l => l[k]?) e
    simp only [List.getElem?_map, List.getElem?_range hk, Option.map_some] at h2
    exact Option.some.inj h2
  let r : Int32 := if what = 0 then nI (cstL (wO (ma M 25)) (bO (ma M 25)) 0 ((List.range (aN (ma M 25) 10)).map g)) else if aN (ma M 25) 10 < what then -2 else nI (g (what - 1))
  refine ⟨r, M, keepR_refl M, fun Q h => ?_, fun Q h => ?_⟩
  · refine m_in_t (lo := 0) (hi := 6) (by decide) (by decide) c.1 c.2 (bw_t (fun x5 h5 => ⟨aN (ma M 25) 10 + 1, ?_⟩))
    rw [h5, e10]
    have main := m_ord49 hw rfl hg (nI what) Q (fun pl br hbr => ?_) (aN (ma M 25) 10 ^ aN (ma M 25) 10) 0 (by omega) (ma M 31) (ma M 32) (-1) ⟨fun z => by omega, fun _ => Or.inl rfl⟩
    · have es : sF (sF M 31 (ma M 31)) 32 (ma M 32) = M := by rw [sF_self, sF_self]
      rw [es] at main
      have := m_ord27 b10 M (nI what) Q ⟨_, main⟩ (aN (ma M 25) 10) 0 (by omega)
      rw [Nat.pow_zero] at this
      exact this
    · have hh : Q r (sF (sF M 31 pl) 32 br) := h _ ⟨rfl, rfl, rfl, rfl, rfl, rfl, rfl, rfl, rfl⟩
      by_cases z : what = 0
      · refine sw_t (by rw [z]; rfl) ?_
        have er : r = nI (cstL (wO (ma M 25)) (bO (ma M 25)) 0 ((List.range (aN (ma M 25) 10)).map g)) := if_pos z
        rw [er] at hh; exact hh
      · refine sw_f (nI_ne0 (by omega) (by omega)) ?_
        have er : r = if aN (ma M 25) 10 < what then -2 else nI (g (what - 1)) := if_neg z
        rw [er] at hh
        by_cases y : aN (ma M 25) 10 < what
        · rw [if_pos y] at hh
          exact sw_t (nI_lt y (by omega)) hh
        · rw [if_neg y] at hh
          refine sw_f (nI_nlt (by omega) (by omega)) ?_
          rw [show (1 : Int32) = nI 1 from rfl, pk_sub (by omega), nI_clamp (by omega), hbr _ (by omega)]
          exact ⟨vp_in_nI (by omega) (by decide), hh⟩
  · refine sw_f (nlt_le.2 c.1) (sw_t c.2 (c_arrange hw hO _ (fun N g' hO' hg' hN => ?_)))
    have hh := h M0 M1 M2 M3 N M5 M6 M7 M8 M9 ⟨⟨hw, hsp⟩, ⟨hW, hC, hq, hO'⟩, hT, hB⟩
    by_cases z : what = 0
    · refine sw_t (by rw [z]; rfl) ⟨aN (ma M 25) 10 + 1, ?_⟩
      have er : r = nI (cstL (wO (ma M 25)) (bO (ma M 25)) 0 ((List.range (aN (ma M 25) 10)).map g)) := if_pos z
      rw [er] at hh
      have el : (List.range (aN (ma M 25) 10)).map g' = (List.range (aN (ma M 25) 10)).map g := List.map_congr_left (fun k hk => uniq g' hg' k (List.mem_range.1 hk))
      refine c_least_l hw hO' hg'.2.1 hN (cstL (wO (ma M 25)) (bO (ma M 25)) 0 ((List.range (aN (ma M 25) 10)).map g)) _ hh (aN (ma M 25) 10) 0 (by omega) 0 0 ?_
      rw [← List.range_eq_range', el]
      omega
    · refine sw_f (nI_ne0 (by omega) (by omega)) ?_
      have er : r = if aN (ma M 25) 10 < what then -2 else nI (g (what - 1)) := if_neg z
      rw [er] at hh
      rw [hO'.1, e10]
      by_cases y : aN (ma M 25) 10 < what
      · rw [if_pos y] at hh
        exact sw_t (nI_lt y (by omega)) hh
      · rw [if_neg y] at hh
        refine sw_f (nI_nlt (by omega) (by omega)) ?_
        rw [show (1 : Int32) = nI 1 from rfl, pk_sub (by omega), nI_clamp (by omega), hN _ (by omega), uniq g' hg' _ (by omega)]
        exact ⟨vp_in_nI (by omega) (by decide), hh⟩
