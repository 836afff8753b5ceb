theorem bef_trans {w b : Nat → Nat} {x y z : Nat} (hx : 0 < b x) (hy : 0 < b y) (hz : 0 < b z) (h1 : bef w b x y) (h2 : bef w b y z) : bef w b x z := by
  have e1 : w z * b x * b y = w z * b y * b x := Nat.mul_right_comm _ _ _
  have e2 : w y * b z * b x = w y * b x * b z := Nat.mul_right_comm _ _ _
  have e3 : w x * b y * b z = w x * b z * b y := Nat.mul_right_comm _ _ _
  unfold bef at *
  rcases h1 with a | ⟨a, a'⟩ <;> rcases h2 with c | ⟨c, c'⟩
  · left
    apply Nat.lt_of_mul_lt_mul_right (a := b y)
    have p1 : w z * b y * b x ≤ w y * b z * b x := Nat.mul_le_mul_right _ (Nat.le_of_lt c)
    have p2 : w y * b x * b z < w x * b y * b z := Nat.mul_lt_mul_of_pos_right a hz
    omega
  · left
    apply Nat.lt_of_mul_lt_mul_right (a := b y)
    have p1 : w z * b y * b x = w y * b z * b x := by rw [c]
    have p2 : w y * b x * b z < w x * b y * b z := Nat.mul_lt_mul_of_pos_right a hz
    omega
  · left
    apply Nat.lt_of_mul_lt_mul_right (a := b y)
    have p1 : w z * b y * b x < w y * b z * b x := Nat.mul_lt_mul_of_pos_right c hx
    have p2 : w y * b x * b z = w x * b y * b z := by rw [a]
    omega
  · right
    refine ⟨Nat.eq_of_mul_eq_mul_right hy ?_, by omega⟩
    have p1 : w z * b y * b x = w y * b z * b x := by rw [c]
    have p2 : w y * b x * b z = w x * b y * b z := by rw [a]
    omega
/-- the first n, arranged -/
def srt (w b : Nat → Nat) (g : Nat → Nat) (n : Nat) : Prop := (∀ i j, i < j → j < n → bef w b (g i) (g j)) ∧ (∀ i, i < n → g i < n) ∧ (∀ y, y < n → ∃ i, i < n ∧ g i = y)
def insG (g : Nat → Nat) (p x : Nat) : Nat → Nat := fun i => if i < p then g i else if i = p then x else g (i - 1)
theorem srt_ins {w b : Nat → Nat} {g : Nat → Nat} {n p : Nat} (hb : ∀ i, i ≤ n → 0 < b i) (h : srt w b g n) (hp : p ≤ n) (h1 : ∀ j, p ≤ j → j < n → w (g j) * b n < w n * b (g j)) (h2 : p = 0 ∨ w n * b (g (p - 1)) ≤ w (g (p - 1)) * b n) : srt w b (insG g p n) (n + 1) := by
  obtain ⟨s1, s2, s3⟩ := h
  have lo : ∀ i, i < p → bef w b (g i) n := by
    intro i hi
    have hl : bef w b (g (p - 1)) n := by
      have := s2 (p - 1) (by omega)
      unfold bef
      omega
    by_cases c : i = p - 1
    · rw [c]; exact hl
    · have q1 := s2 i (by omega)
      have q2 := s2 (p - 1) (by omega)
      exact bef_trans (hb _ (by omega)) (hb _ (by omega)) (hb _ (Nat.le_refl _)) (s1 i (p - 1) (by omega) (by omega)) hl
  refine ⟨fun i j hij hj => ?_, fun i hi => ?_, fun y hy => ?_⟩
  · unfold insG
    by_cases c1 : j < p
    · rw [if_pos c1, if_pos (by omega)]
      exact s1 i j hij (by omega)
    · rw [if_neg c1]
      by_cases c2 : j = p
      · rw [if_pos c2, if_pos (by omega)]
        exact lo i (by omega)
      · rw [if_neg c2]
        by_cases c3 : i < p
        · rw [if_pos c3]
          exact s1 i (j - 1) (by omega) (by omega)
        · rw [if_neg c3]
          by_cases c4 : i = p
          · rw [if_pos c4]
            exact Or.inl (h1 (j - 1) (by omega) (by omega))
          · rw [if_neg c4]
            exact s1 (i - 1) (j - 1) (by omega) (by omega)
  · unfold insG
    by_cases c1 : i < p
    · rw [if_pos c1]
      have := s2 i (by omega)
      omega
    · rw [if_neg c1]
      by_cases c2 : i = p
      · rw [if_pos c2]; omega
      · rw [if_neg c2]
        have := s2 (i - 1) (by omega)
        omega
  · by_cases c : y = n
    · exact ⟨p, by omega, by unfold insG; rw [if_neg (by omega), if_pos rfl, c]⟩
    · obtain ⟨i, i1, i2⟩ := s3 y (by omega)
      by_cases c1 : i < p
      · exact ⟨i, by omega, by unfold insG; rw [if_pos c1]; exact i2⟩
      · exact ⟨i + 1, by omega, by unfold insG; rw [if_neg (by omega), if_neg (by omega), Nat.add_sub_cancel]; exact i2⟩
/-- beats and worth of those that wait -/
def bO (s : Nat → Int32) (i : Nat) : Nat := aN s (32 + 2 * i)
def wO (s : Nat → Int32) (i : Nat) : Nat := aN s (33 + 2 * i)
theorem bwO {s : Nat → Int32} (hw : wfS s) {i : Nat} (hi : i < 6) : bO s i ≤ 999 ∧ wO s i ≤ 99 ∧ s (32 + 2 * i) = nI (bO s i) ∧ s (33 + 2 * i) = nI (wO s i) := by
  have hB : ∀ t, t < 6 → isB (32 + 2 * t) = true ∧ bnd (32 + 2 * t) = 999 ∧ isB (33 + 2 * t) = true ∧ bnd (33 + 2 * t) = 99 := by decide
  obtain ⟨a1, a2, a3, a4⟩ := hB i hi
  have c1 := hw.b _ a1; have c2 := hw.b _ a3
  rw [a2] at c1; rw [a4] at c2
  exact ⟨c1, c2, hw.n _ a1, hw.n _ a3⟩
theorem c_arr18 {s : Nat → Int32} (hw : wfS s) {n : Nat} (hn : n < aN s 10) {g : Nat → Nat} (hg : srt (wO s) (bO s) g n) (B2 : Int32 → gS → Prop) (Q : gS → Prop) (hB : ∀ N, relO s N → (∃ g', srt (wO s) (bO s) g' (n + 1) ∧ ∀ i, i < n + 1 → ma N 3 i = nI (g' i)) → B2 (nI (n + 1)) N) : ∀ p, p ≤ n → ∀ N, relO s N → (∀ i, i < p → ma N 3 i = nI (g i)) → (∀ i, p < i → i ≤ n → ma N 3 i = nI (g (i - 1))) → (∀ j, p ≤ j → j < n → wO s (g j) * bO s n < wO s n * bO s (g j)) → wX4_arrange_18 B2 Q (p + 1) (nI n) (nI p) N := by
  have b10 : aN s 10 ≤ 6 := hw.b 10 rfl
  have stop : ∀ p, p ≤ n → ∀ N, relO s N → (∀ i, i < p → ma N 3 i = nI (g i)) → (∀ i, p < i → i ≤ n → ma N 3 i = nI (g (i - 1))) → (∀ j, p ≤ j → j < n → wO s (g j) * bO s n < wO s n * bO s (g j)) → (p = 0 ∨ wO s n * bO s (g (p - 1)) ≤ wO s (g (p - 1)) * bO s n) → wX4_arrange_58 B2 Q (nI n) (nI p) N := by
    intro p hp N hO a1 a2 a3 a4
    unfold wX4_arrange_58
    rw [nI_clamp (by omega)]
    refine ⟨vp_in_nI (by omega) (by decide), fun N1 h1 x hx => ?_⟩
    rw [hx, nI_1]
    refine hB N1 (by rw [h1]; exact hO) ⟨insG g p n, srt_ins (fun i hi => ?_) hg hp a3 a4, fun i hi => ?_⟩
    · exact hw.2.2.2.2 i (by omega)
    · have e : ma N1 3 i = upd (ma N 3) p (nI n) i := by rw [h1]; rfl
      rw [e, upd_at]
      unfold insG
      by_cases c : i = p
      · rw [if_pos c, if_neg (by omega), if_pos c]
      · rw [if_neg c]
        by_cases c2 : i < p
        · rw [if_pos c2]; exact a1 i c2
        · rw [if_neg c2, if_neg c]; exact a2 i (by omega) (by omega)
  intro p
  induction p with
  | zero =>
    intro hp N hO a1 a2 a3
    rw [wX4_arrange_18]
    exact sw_t (by decide) (stop 0 hp N hO a1 a2 a3 (Or.inl rfl))
  | succ p ih =>
    intro hp N hO a1 a2 a3
    have gp := hg.2.1 p (by omega)
    obtain ⟨c1, c2, c3, c4⟩ := bwO hw (i := n) (by omega)
    obtain ⟨d1, d2, d3, d4⟩ := bwO hw (i := g p) (by omega)
    have m1 : wO s n * bO s (g p) ≤ 98901 := Nat.le_trans (Nat.mul_le_mul c2 d1) (by decide)
    have m2 : wO s (g p) * bO s n ≤ 98901 := Nat.le_trans (Nat.mul_le_mul d2 c1) (by decide)
    rw [wX4_arrange_18]
    refine sw_f (nI_nle (by omega) (by omega)) ?_
    rw [nI_pred, nI_clamp (by omega), a1 p (by omega)]
    refine ⟨vp_in_nI (by omega) (by decide), ?_⟩
    unfold wX4_isDearer
    rw [nI_clamp (show n < 2 ^ 31 by omega), nI_clamp (show g p < 2 ^ 31 by omega), (hO.2 n hn).1, (hO.2 n hn).2, (hO.2 (g p) (by omega)).1, (hO.2 (g p) (by omega)).2, c3, c4, d3, d4, pk_mul, pk_mul, nI_leI (by omega) (by omega)]
    refine ⟨vp_in_nI (by omega) (by decide), vp_in_nI (by omega) (by decide), vp_in_nI (by omega) (by decide), vp_in_nI (by omega) (by decide), ?_⟩
    by_cases z : wO s n * bO s (g p) ≤ wO s (g p) * bO s n
    · exact sw_t z (bw_f (stop (p + 1) hp N hO a1 a2 a3 (Or.inr (by rw [Nat.add_sub_cancel]; exact z))))
    · refine sw_f z (bw_t ⟨vp_in_nI (by omega) (by decide), fun x6 h6 => ⟨vp_in_nI (by omega) (by decide), fun N7 h7 x8 h8 => ?_⟩⟩)
      rw [nI_clamp (by omega)] at h7
      have e8 : x8 = nI p := by rw [h8, ← nI_pred p, Int32.sub_eq_add_neg]
      have h6' : x6 = nI (g p) := by rw [h6]; exact a1 p (by omega)
      rw [e8]
      refine ih (by omega) N7 (by rw [h7]; exact hO) (fun i hi => ?_) (fun i hi1 hi2 => ?_) (fun j hj1 hj2 => ?_)
      · have e : ma N7 3 i = upd (ma N 3) (p + 1) x6 i := by rw [h7]; rfl
        rw [e, upd_at, if_neg (by omega)]; exact a1 i (by omega)
      · have e : ma N7 3 i = upd (ma N 3) (p + 1) x6 i := by rw [h7]; rfl
        rw [e, upd_at]
        by_cases y : i = p + 1
        · rw [if_pos y, h6', y, Nat.add_sub_cancel]
        · rw [if_neg y]; exact a2 i (by omega) hi2
      · by_cases y : j = p
        · rw [y]; omega
        · exact a3 j (by omega) hj2
theorem c_arr2 {s : Nat → Int32} (hw : wfS s) (Q : gS → Prop) (hQ : ∀ N g, relO s N → srt (wO s) (bO s) g (aN s 10) → (∀ i, i < aN s 10 → ma N 3 i = nI (g i)) → Q N) : ∀ c n, n + c = aN s 10 → ∀ N g, relO s N → srt (wO s) (bO s) g n → (∀ i, i < n → ma N 3 i = nI (g i)) → wX4_arrange_2 Q (c + 1) (nI n) N := by
  have b10 : aN s 10 ≤ 6 := hw.b 10 rfl
  have e10 := hw.n 10 rfl
  intro c
  induction c with
  | zero =>
    intro n hn N g hO hg hN
    rw [wX4_arrange_2, hO.1, e10]
    refine sw_t (nI_le (by omega) (by omega)) (hQ N g hO ?_ ?_)
    · rw [show aN s 10 = n by omega]; exact hg
    · rw [show aN s 10 = n by omega]; exact hN
  | succ c ih =>
    intro n hn N g hO hg hN
    rw [wX4_arrange_2, hO.1, e10]
    refine sw_f (nI_ge (by omega) (by omega)) (sw_f (nI_ge (b := 6) (by omega) (by omega)) ⟨n + 1, ?_⟩)
    exact c_arr18 hw (by omega) hg _ Q (fun N' hO' hg' => by
      obtain ⟨g', h1, h2⟩ := hg'
      exact ih (n + 1) (by omega) N' g' hO' h1 h2) n (Nat.le_refl n) N hO hN (fun i h1 h2 => by omega) (fun j h1 h2 => by omega)
theorem c_arrange {s : Nat → Int32} (hw : wfS s) {N : gS} (hO : relO s N) (Q : gS → Prop) (hQ : ∀ N g, relO s N → srt (wO s) (bO s) g (aN s 10) → (∀ i, i < aN s 10 → ma N 3 i = nI (g i)) → Q N) : wX4_arrange N Q :=
  ⟨aN s 10 + 1, c_arr2 hw Q hQ (aN s 10) 0 (by omega) N (fun _ => 0) hO ⟨fun i j h1 h2 => by omega, fun i h => by omega, fun y h => by omega⟩ (fun i h => by omega)⟩
theorem cst_le {w b : Nat → Nat} : ∀ (l : List Nat) (acc : Nat), (∀ x, x ∈ l → w x ≤ 99 ∧ b x ≤ 999) → cstL w b acc l ≤ l.length * (99 * (acc + 999 * l.length)) := by
  intro l
  induction l with
  | nil => intro acc _; simp [cstL]
  | cons x l ih =>
    intro acc h
    have hx := h x (List.mem_cons_self ..)
    have := ih (acc + b x) (fun y hy => h y (List.mem_cons_of_mem _ hy))
    simp only [cstL, List.length_cons]
    have m1 : w x * (acc + b x) ≤ 99 * (acc + 999 * (l.length + 1)) := Nat.mul_le_mul hx.1 (by omega)
    have m2 : l.length * (99 * (acc + b x + 999 * l.length)) ≤ l.length * (99 * (acc + 999 * (l.length + 1))) := Nat.mul_le_mul_left _ (by omega)
    rw [Nat.succ_mul]
    omega
theorem c_least_l {s : Nat → Int32} (hw : wfS s) {N : gS} (hO : relO s N) {g : Nat → Nat} (hg : ∀ i, i < aN s 10 → g i < aN s 10) (hN : ∀ i, i < aN s 10 → ma N 3 i = nI (g i)) (T : Nat) (Q : Int32 → gS → Prop) (hQ : Q (nI T) N) : ∀ c k, k + c = aN s 10 → ∀ acc sm, sm + cstL (wO s) (bO s) acc ((List.range' k c).map g) = T → wX4_leastSum_6 Q (c + 1) (nI acc) (nI sm) (nI k) N := by
  have b10 : aN s 10 ≤ 6 := hw.b 10 rfl
  have e10 := hw.n 10 rfl
  intro c
  induction c with
  | zero =>
    intro k hk acc sm hs
    rw [wX4_leastSum_6, hO.1, e10]
    refine sw_t (nI_le (by omega) (by omega)) ?_
    simp only [List.range'_zero, List.map_nil, cstL, Nat.add_zero] at hs
    rw [hs]; exact hQ
  | succ c ih =>
    intro k hk acc sm hs
    have gk := hg k (by omega)
    obtain ⟨d1, d2, d3, d4⟩ := bwO hw (i := g k) (by omega)
    rw [wX4_leastSum_6, hO.1, e10]
    refine sw_f (nI_ge (by omega) (by omega)) (sw_f (nI_ge (b := 6) (by omega) (by omega)) ?_)
    rw [nI_clamp (by omega), hN k (by omega), nI_clamp (show g k < 2 ^ 31 by omega), (hO.2 (g k) gk).1, (hO.2 (g k) gk).2, d3, d4, nI_add]
    refine ⟨vp_in_nI (by omega) (by decide), vp_in_nI (by omega) (by decide), fun x3 h3 => ⟨vp_in_nI (by omega) (by decide), vp_in_nI (by omega) (by decide), fun x4 h4 x5 h5 => ?_⟩⟩
    rw [h4, h3, h5, nI_1, pk_mul, nI_add]
    refine ih (k + 1) (by omega) _ _ ?_
    rw [List.range'_succ, List.map_cons] at hs
    simp only [cstL] at hs
    omega
