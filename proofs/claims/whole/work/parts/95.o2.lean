theorem fb_holes : ∀ (m n : Nat) (f : Nat → Nat), (∀ i, i < n → f i < m) → (∀ i j, i < j → j < n → f i ≠ f j) → n ≤ m := by
  intro m
  induction m with
  | zero =>
    intro n f h1 _
    rcases Nat.eq_zero_or_pos n with h | h
    · omega
    · exact absurd (h1 0 h) (Nat.not_lt_zero _)
  | succ m ih =>
    intro n f h1 h2
    by_cases hx : ∃ i, i < n ∧ f i = m
    · obtain ⟨a, ha, hfa⟩ := hx
      have hg := ih (n - 1) (fun i => if i < a then f i else f (i + 1)) (by
        intro i hi
        by_cases q : i < a
        · simp only [if_pos q]
          have b1 := h1 i (by omega)
          have b2 := h2 i a q ha
          omega
        · simp only [if_neg q]
          have b1 := h1 (i + 1) (by omega)
          have b2 := h2 a (i + 1) (by omega) (by omega)
          omega) (by
        intro i j hij hj
        by_cases q : i < a
        · by_cases r : j < a
          · simp only [if_pos q, if_pos r]
            exact h2 i j hij (by omega)
          · simp only [if_pos q, if_neg r]
            exact h2 i (j + 1) (by omega) (by omega)
        · have r : ¬ j < a := by omega
          simp only [if_neg q, if_neg r]
          exact h2 (i + 1) (j + 1) (by omega) (by omega))
      omega
    · have hg := ih n f (fun i hi => by
        have b1 := h1 i hi
        have b2 : f i ≠ m := fun e => hx ⟨i, hi, e⟩
        omega) h2
      omega
/-- two of them in one place -/
theorem fb_twice {m n : Nat} {f : Nat → Nat} (h : ∀ i, i < n → f i < m) (hm : m < n) : ∃ i j, i < j ∧ j < n ∧ f i = f j := by
  refine Classical.byContradiction fun hx => ?_
  have := fb_holes m n f h (fun i j hij hj e => hx ⟨i, j, hij, hj, e⟩)
  omega
/-- as many as places, none twice: each place is taken -/
theorem fb_onto {n : Nat} {f : Nat → Nat} (h : ∀ i, i < n → f i < n) (h2 : ∀ i j, i < j → j < n → f i ≠ f j) {y : Nat} (hy : y < n) : ∃ i, i < n ∧ f i = y := by
  refine Classical.byContradiction fun hx => ?_
  have hne : ∀ i, i < n → f i ≠ y := fun i hi e => hx ⟨i, hi, e⟩
  have := fb_holes (n - 1) n (fun i => if f i < y then f i else f i - 1) (by
    intro i hi
    have b1 := h i hi
    have b2 := hne i hi
    by_cases q : f i < y
    · simp only [if_pos q]; omega
    · simp only [if_neg q]; omega) (by
    intro i j hij hj
    have b1 := hne i (by omega)
    have b2 := hne j hj
    have b3 := h2 i j hij hj
    by_cases q : f i < y
    · by_cases r : f j < y
      · simp only [if_pos q, if_pos r]; exact b3
      · simp only [if_pos q, if_neg r]; omega
    · by_cases r : f j < y
      · simp only [if_neg q, if_pos r]; omega
      · simp only [if_neg q, if_neg r]; omega)
  omega
-- PURE: the reference's order
def dg (n N k : Nat) : Nat := N / n ^ (n - 1 - k) % n
theorem onto_inj {n : Nat} {f : Nat → Nat} (h2 : ∀ y, y < n → ∃ i, i < n ∧ f i = y) : ∀ i j, i < j → j < n → f i ≠ f j := by
  intro i j hij hj he
  have hc : ∀ y, ∃ i, y < n → i < n ∧ f i = y := by
    intro y
    by_cases c : y < n
    · obtain ⟨i, a, b⟩ := h2 y c
      exact ⟨i, fun _ => ⟨a, b⟩⟩
    · exact ⟨0, fun z => absurd z c⟩
  obtain ⟨p, hp⟩ := Classical.axiomOfChoice hc
  have hp1 : ∀ y, y < n → p y < n := fun y hy => (hp y hy).1
  have hp2 : ∀ a b, a < b → b < n → p a ≠ p b := by
    intro a b hab hb z
    have e1 := (hp a (by omega)).2
    have e2 := (hp b hb).2
    rw [z] at e1
    omega
  obtain ⟨a, a1, a2⟩ := fb_onto hp1 hp2 (show i < n by omega)
  obtain ⟨b, b1, b2⟩ := fb_onto hp1 hp2 hj
  have e1 := (hp a a1).2
  have e2 := (hp b b1).2
  rw [a2] at e1
  rw [b2] at e2
  have : a = b := by omega
  subst this
  omega
theorem row_nodup {n : Nat} {f : Nat → Nat} (h2 : ∀ y, y < n → ∃ i, i < n ∧ f i = y) : ((List.range n).map f).Nodup := by
  have hi := onto_inj h2
  unfold List.Nodup
  rw [List.pairwise_map]
  have : ∀ m, m ≤ n → (List.range m).Pairwise (fun a b => f a ≠ f b) := by
    intro m
    induction m with
    | zero => intro _; exact List.Pairwise.nil
    | succ m ih =>
      intro hm
      rw [List.range_succ, List.pairwise_append]
      refine ⟨ih (by omega), List.pairwise_singleton _ _, fun a ha b hb => ?_⟩
      rw [List.mem_range] at ha
      rw [List.mem_singleton] at hb
      subst hb
      exact hi a b ha (by omega)
  exact this n (Nat.le_refl n)
theorem srt_pw {w b : Nat → Nat} {g : Nat → Nat} {n : Nat} (h : srt w b g n) : ((List.range n).map g).Pairwise (bef w b) := by
  rw [List.pairwise_map]
  have : ∀ m, m ≤ n → (List.range m).Pairwise (fun x y => bef w b (g x) (g y)) := by
    intro m
    induction m with
    | zero => intro _; exact List.Pairwise.nil
    | succ m ih =>
      intro hm
      rw [List.range_succ, List.pairwise_append]
      refine ⟨ih (by omega), List.pairwise_singleton _ _, fun x hx y hy => ?_⟩
      rw [List.mem_range] at hx
      rw [List.mem_singleton] at hy
      subst hy
      exact h.1 x y hx (by omega)
  exact this n (Nat.le_refl n)
theorem numL_app (n : Nat) : ∀ (l : List Nat) (acc x : Nat), numL n acc (l ++ [x]) = numL n acc l * n + x := by
  intro l
  induction l with
  | nil => intro acc x; rfl
  | cons y l ih => intro acc x; exact ih (acc * n + y) x
theorem num_dg {n N : Nat} (h : N < n ^ n) : ∀ j, j ≤ n → numL n 0 ((List.range j).map (dg n N)) = N / n ^ (n - j) := by
  intro j
  induction j with
  | zero => intro _; rw [Nat.sub_zero, Nat.div_eq_of_lt h]; rfl
  | succ j ih =>
    intro hj
    rw [List.range_succ, List.map_append, List.map_cons, List.map_nil, numL_app, ih (by omega)]
    unfold dg
    rw [show n - 1 - j = n - (j + 1) by omega]
    have e : n ^ (n - j) = n ^ (n - (j + 1)) * n := by
      rw [← Nat.pow_succ]; congr 1; omega
    rw [e, ← Nat.div_div_eq_div_mul, Nat.mul_comm]
    exact Nat.div_add_mod _ _
theorem numL_inj (n : Nat) : ∀ (q l : List Nat), q.length = l.length → (∀ x, x ∈ q → x < n) → (∀ x, x ∈ l → x < n) → numL n 0 q = numL n 0 l → q = l := by
  intro q
  induction q with
  | nil =>
    intro l hl _ _ _
    exact (List.length_eq_zero_iff.1 hl.symm).symm
  | cons x q ih =>
    intro l hl h1 h2 h
    cases l with
    | nil => simp at hl
    | cons y l =>
      simp only [List.length_cons] at hl
      have hl' : q.length = l.length := by omega
      simp only [numL] at h
      rw [numL_add, numL_add (acc := 0 * n + y), hl'] at h
      simp only [Nat.zero_mul, Nat.zero_add] at h
      have hb : ∀ r : List Nat, r.length = l.length → (∀ x, x ∈ r → x < n) → numL n 0 r < n ^ l.length := by
        intro r hr hx
        rcases numL_lt n r hx with z | z
        · rw [hr] at z; exact z
        · subst z
          rw [show l = [] from List.length_eq_zero_iff.1 hr.symm]
          show 0 < n ^ 0
          rw [Nat.pow_zero]
          omega
      have k1 := hb q hl' (fun y hy => h1 y (List.mem_cons_of_mem _ hy))
      have k2 := hb l rfl (fun y hy => h2 y (List.mem_cons_of_mem _ hy))
      have hxy : x = y := by
        rcases Nat.lt_trichotomy x y with z | z | z
        · have := Nat.mul_le_mul_right (n ^ l.length) (show x + 1 ≤ y from z)
          rw [Nat.succ_mul] at this
          omega
        · exact z
        · have := Nat.mul_le_mul_right (n ^ l.length) (show y + 1 ≤ x from z)
          rw [Nat.succ_mul] at this
          omega
      subst hxy
      rw [ih l hl' (fun y hy => h1 y (List.mem_cons_of_mem _ hy)) (fun y hy => h2 y (List.mem_cons_of_mem _ hy)) (by omega)]
theorem sa_31 (M : gS) (pl : Nat → Int32) (i : Nat) (v : Int32) : sa (sF M 31 pl) 31 i v = sF M 31 (upd pl i v) := by
  show sF (sF M 31 pl) 31 (upd (ma (sF M 31 pl) 31) i v) = _
  rw [ma_sF1, sF_sF]
theorem full_set : ∀ n, n ≤ 6 → ((1 : Int32) <<< (nI n &&& 31)) - 1 = nI (2 ^ n - 1) ∧ ∀ i, i < 32 → bt (nI (2 ^ n - 1)) i = decide (i < n) := by decide +kernel
theorem m_isRow_l {M : gS} {n N : Nat} (hn : n ≤ 6) (hN : N < n ^ n) (Q : Bool → gS → Prop) (hQ : ∀ b pl, (b = true ↔ ∀ i, i < n → ∃ k, k < n ∧ dg n N k = i) → (∀ k, k < n → pl k = nI (dg n N k)) → Q b (sF M 31 pl)) : ∀ j, j ≤ n → ∀ pl set, (∀ k, j ≤ k → k < n → pl k = nI (dg n N k)) → (∀ i, i < 32 → (bt set i = true ↔ ∃ k, j ≤ k ∧ k < n ∧ dg n N k = i)) → wX12_isRow_10 Q (j + 1) (nI n) (nI (N / n ^ (n - j))) set (nI j - 1) (sF M 31 pl) := by
  have hN6 : N < 46656 := by
    have : n ^ n ≤ 46656 := by
      have h7 : ∀ n, n ≤ 6 → n ^ n ≤ 46656 := by decide
      exact h7 n hn
    omega
  intro j
  induction j with
  | zero =>
    intro hj pl set hp hs
    rw [wX12_isRow_10]
    refine sw_t (by decide) ?_
    obtain ⟨f1, f2⟩ := full_set n hn
    rw [f1]
    have key : set = nI (2 ^ n - 1) ↔ ∀ i, i < n → ∃ k, k < n ∧ dg n N k = i := by
      constructor
      · intro z i hi
        have := (hs i (by omega)).1 (by rw [z, f2 i (by omega), decide_eq_true hi])
        obtain ⟨k, _, k2, k3⟩ := this
        exact ⟨k, k2, k3⟩
      · intro z
        apply b_ext
        intro i hi
        rw [f2 i hi]
        by_cases c : i < n
        · rw [decide_eq_true c]
          obtain ⟨k, k1, k2⟩ := z i c
          exact (hs i hi).2 ⟨k, by omega, k1, k2⟩
        · rw [decide_eq_false c]
          apply ts_nt
          intro y
          obtain ⟨k, _, k2, k3⟩ := (hs i hi).1 y
          have : dg n N k < n := Nat.mod_lt _ (by omega)
          omega
    by_cases c : set = nI (2 ^ n - 1)
    · exact sw_t c (hQ true pl ⟨fun _ => key.1 c, fun _ => rfl⟩ (fun k hk => hp k (by omega) hk))
    · exact sw_f c (hQ false pl ⟨fun z => absurd z (by decide), fun z => absurd (key.2 z) c⟩ (fun k hk => hp k (by omega) hk))
  | succ j ih =>
    intro hj pl set hp hs
    have hq : N / n ^ (n - (j + 1)) ≤ N := Nat.div_le_self _ _
    have hm := Nat.mod_lt (N / n ^ (n - (j + 1))) (show n > 0 by omega)
    have n0 : ¬ nI n = 0 := nI_ne0 (by omega) (by omega)
    rw [wX12_isRow_10, nI_pred, nI_clamp (by omega), pk_rem (by omega) (by omega) (by omega), pk_div (by omega) (by omega) (by omega)]
    refine sw_f (nI_pos (by omega)) ⟨n0, fun x3 h3 => ⟨vp_in_nI (by omega) (by decide), fun M4 h4 => ⟨n0, fun x5 h5 => ⟨vp_in_nI (by omega) (by decide), fun x6 h6 x7 h7 => ?_⟩⟩⟩⟩
    have e3 : x3 = nI (dg n N j) := by
      rw [h3]; unfold dg; rw [show n - 1 - j = n - (j + 1) by omega]
    have hd : dg n N j < n := Nat.mod_lt _ (by omega)
    rw [sa_31] at h4
    have e4 : ma M4 31 j = nI (dg n N j) := by
      rw [h4, ma_sF1, upd_at, if_pos rfl, e3]
    have e5 : x5 = nI (N / n ^ (n - j)) := by
      rw [h5]
      have e : n ^ (n - j) = n ^ (n - (j + 1)) * n := by
        rw [← Nat.pow_succ]; congr 1; omega
      rw [e, ← Nat.div_div_eq_div_mul]
    have e7 : x7 = nI j - 1 := by rw [h7, Int32.sub_eq_add_neg]
    rw [e4] at h6
    rw [e5, e7, h4]
    refine ih (by omega) _ _ (fun k hk1 hk2 => ?_) (fun i hi => ?_)
    · rw [upd_at]
      by_cases c : k = j
      · rw [if_pos c, e3, c]
      · rw [if_neg c]; exact hp k (by omega) hk2
    · rw [h6, b_or, b_shl _ (by omega) _ hi, Bool.or_eq_true, hs i hi, Bool.and_eq_true, decide_eq_true_eq]
      constructor
      · rintro (⟨k, k1, k2, k3⟩ | ⟨k1, k2⟩)
        · exact ⟨k, by omega, k2, k3⟩
        · rw [b_1 _ (by omega), decide_eq_true_eq] at k2
          exact ⟨j, by omega, by omega, by omega⟩
      · rintro ⟨k, k1, k2, k3⟩
        by_cases c : k = j
        · subst c
          exact Or.inr ⟨by omega, by rw [b_1 _ (by omega), decide_eq_true_eq]; omega⟩
        · exact Or.inl ⟨k, by omega, k2, k3⟩
theorem m_isRow {M : gS} {n N : Nat} (hn : n ≤ 6) (hN : N < n ^ n) (Q : Bool → gS → Prop) (hQ : ∀ b pl, (b = true ↔ ∀ i, i < n → ∃ k, k < n ∧ dg n N k = i) → (∀ k, k < n → pl k = nI (dg n N k)) → Q b (sF M 31 pl)) : wX12_isRow (nI N) (nI n) M Q := by
  unfold wX12_isRow
  intro x1 h1
  refine ⟨n + 1, ?_⟩
  have := m_isRow_l (M := M) hn hN Q hQ n (Nat.le_refl n) (ma M 31) 0 (fun k h1 h2 => by omega) (fun i hi => by rw [b_0]; exact ⟨fun z => absurd z (by decide), fun ⟨k, h1, h2, _⟩ => by omega⟩)
  rw [sF_self, Nat.sub_self, Nat.pow_zero, Nat.div_one] at this
  rw [h1]
  exact this
