-- PURE: who can have it
theorem any_cg {p q : Nat → Bool} : ∀ {l : List Nat}, (∀ x, x ∈ l → p x = q x) → l.any p = l.any q := by
  intro l
  induction l with
  | nil => intro _; rfl
  | cons a l ih =>
    intro h
    rw [List.any_cons, List.any_cons, h a (List.mem_cons_self ..), ih (fun x hx => h x (List.mem_cons_of_mem _ hx))]
/-- BEATS of word w for who said l last (4: nothing) -/
def costW (s : Nat → Int32) (w l : Nat) : Nat := aN s (28 + w) + (if w = l then aN s 2 else 0)
def canF (s : Nat → Int32) (v : Nat) : Nat → Nat → Nat → Nat → Nat → Nat → Bool
  | 0, _, _, _, _, _ => false
  | k + 1, left, m, t, l, h => (List.range (aN s 1)).any (fun w => decide (costW s w l ≤ left) && !canF s v k (left - costW s w l) t m h w) || (decide (0 < m) && decide (left + v ≤ 200) && canF s v k (left + v) (m - 1) t l h)
theorem cost_pos {s : Nat → Int32} (hw : wfS s) {w l : Nat} (h : w < aN s 1) : 1 ≤ costW s w l := by
  have := hw.2.2.1 w h
  unfold costW
  omega
theorem canF_st {s : Nat → Int32} (hw : wfS s) (v : Nat) : ∀ (k k' left m t l h : Nat), left + (m + t) * (v + 1) < k → left + (m + t) * (v + 1) < k' → canF s v k left m t l h = canF s v k' left m t l h := by
  intro k
  induction k with
  | zero => intro k' left m t l h h1; omega
  | succ k ih =>
    intro k' left m t l h h1 h2
    cases k' with
    | zero => omega
    | succ k' =>
      rw [canF, canF]
      congr 1
      · refine any_cg (fun w hw2 => ?_)
        have hc := cost_pos hw (l := l) (List.mem_range.1 hw2)
        by_cases c : costW s w l ≤ left
        · rw [ih k' (left - costW s w l) t m h w (by rw [Nat.add_comm t m]; omega) (by rw [Nat.add_comm t m]; omega)]
        · rw [decide_eq_false c, Bool.false_and, Bool.false_and]
      · cases m with
        | zero => rfl
        | succ m =>
          have e : (m + 1 + t) * (v + 1) = (m + t) * (v + 1) + (v + 1) := by
            rw [show m + 1 + t = (m + t) + 1 by omega, Nat.succ_mul]
          rw [e] at h1 h2
          rw [Nat.add_sub_cancel, ih k' (left + v) m t l h (by omega) (by omega)]
/-- who moves can have it: left BEATS, m pennies of his own, t of the other's, l said last by himself, h by the other -/
def Can (s : Nat → Int32) (v left m t l h : Nat) : Bool := canF s v (left + (m + t) * (v + 1) + 1) left m t l h
theorem Can_eq {s : Nat → Int32} (hw : wfS s) (v left m t l h : Nat) : Can s v left m t l h = ((List.range (aN s 1)).any (fun w => decide (costW s w l ≤ left) && !Can s v (left - costW s w l) t m h w) || (decide (0 < m) && decide (left + v ≤ 200) && Can s v (left + v) (m - 1) t l h)) := by
  unfold Can
  rw [canF]
  congr 1
  · refine any_cg (fun w hw2 => ?_)
    have hc := cost_pos hw (l := l) (List.mem_range.1 hw2)
    by_cases c : costW s w l ≤ left
    · rw [canF_st hw v (left + (m + t) * (v + 1)) (left - costW s w l + (t + m) * (v + 1) + 1) (left - costW s w l) t m h w (by rw [Nat.add_comm t m]; omega) (by omega)]
    · rw [decide_eq_false c, Bool.false_and, Bool.false_and]
  · cases m with
    | zero => rfl
    | succ m =>
      have e : (m + 1 + t) * (v + 1) = (m + t) * (v + 1) + (v + 1) := by
        rw [show m + 1 + t = (m + t) + 1 by omega, Nat.succ_mul]
      rw [Nat.add_sub_cancel, e, canF_st hw v (left + ((m + t) * (v + 1) + (v + 1))) (left + v + (m + t) * (v + 1) + 1) (left + v) m t l h (by omega) (by omega)]
def tbit (tb : Nat → Int32) (left m t l h : Nat) : Bool := bt (tb ((left * 8 + m) * 8 + t)) (5 * l + h)
theorem b_1 : ∀ j, j < 32 → bt 1 j = decide (j = 0) := by decide
theorem b_one (x : Int32) {i : Nat} (hi : i < 32) : ((x >>> (nI i &&& 31)) &&& 1) = 1 ↔ bt x i = true := by
  constructor
  · intro h
    have e := congrArg (fun z => bt z 0) h
    simp only [b_and, b_sshr i hi x (i := 0) (by omega), b_1 0 (by omega)] at e
    rw [if_pos (by omega)] at e
    simpa using e
  · intro h
    apply b_ext
    intro j hj
    rw [b_and, b_1 j hj]
    by_cases c : j = 0
    · subst c
      rw [b_sshr i hi x (i := 0) (by omega), if_pos (by omega)]
      simp [h]
    · simp [c]
theorem m_can (M : gS) {left m t l h : Nat} (h1 : left ≤ 200) (h2 : m ≤ 7) (h3 : t ≤ 7) (h4 : l ≤ 4) (h5 : h ≤ 4) (Q : Bool → gS → Prop) (hQ : Q (tbit (ma M 28) left m t l h) M) : wX12_can (nI left) (nI m) (nI t) (nI l) (nI h) M Q := by
  unfold wX12_can wX12_placeOf
  have e : (nI left * 8 + nI m) * 8 + nI t = nI ((left * 8 + m) * 8 + t) := by
    rw [show (8 : Int32) = nI 8 from rfl, pk_mul, nI_add, pk_mul, nI_add]
  have e2 : 5 * nI l + nI h = nI (5 * l + h) := by
    rw [show (5 : Int32) = nI 5 from rfl, pk_mul, nI_add]
  simp only [e, e2]
  rw [nI_clamp (by omega), b_one _ (by omega)]
  refine ⟨vp_in_nI (by omega) (by decide), fun c => ?_, fun c => ?_⟩
  · unfold tbit at hQ; rw [c] at hQ; exact hQ
  · unfold tbit at hQ; rw [ts_nt c] at hQ; exact hQ
theorem isub {a b : Int32} (h1 : -2147483648 ≤ a.toInt - b.toInt) (h2 : a.toInt - b.toInt < 2147483648) : (a - b).toInt = a.toInt - b.toInt := by
  rw [Int32.toInt_sub]
  unfold Int.bmod
  simp only []
  split <;> omega
def hwB (s tb : Nat → Int32) (v left m t l h : Nat) : Bool := (List.range (aN s 1)).any (fun w => decide (costW s w l ≤ left) && !tbit tb (left - costW s w l) t m h w) || (decide (0 < m) && decide (left + v ≤ 200) && tbit tb (left + v) (m - 1) t l h)
theorem m_hasWay_l (M : gS) (hw : wfS (ma M 25)) {v left m t l h : Nat} (h0 : v ≤ 100) (h1 : left ≤ 200) (h2 : m ≤ 7) (h3 : t ≤ 7) (h4 : l ≤ 4) (h5 : h ≤ 4) (Q : Bool → gS → Prop) : ∀ n i, i + n = aN (ma M 25) 1 → Q ((List.range' i n).any (fun w => decide (costW (ma M 25) w l ≤ left) && !tbit (ma M 28) (left - costW (ma M 25) w l) t m h w) || (decide (0 < m) && decide (left + v ≤ 200) && tbit (ma M 28) (left + v) (m - 1) t l h)) M → wX12_hasWay_3 Q (n + 1) (nI v) (nI left) (nI m) (nI t) (nI l) (nI h) (nI i) M := by
  have e1 := hw.n 1 rfl; have e2 := hw.n 2 rfl
  have b1 : aN (ma M 25) 1 ≤ 4 := hw.b 1 rfl
  have b2 : aN (ma M 25) 2 ≤ 9 := hw.b 2 rfl
  intro n
  induction n with
  | zero =>
    intro i hi hQ
    rw [wX12_hasWay_3, e1]
    refine sw_t (nI_le (by omega) (by omega)) ?_
    rw [show List.range' i 0 = [] from rfl, List.any_nil, Bool.false_or] at hQ
    by_cases c : 0 < m
    · refine sw_f (by rw [show (0 : Int32) = nI 0 from rfl, nI_leI (by omega) (by omega)]; omega) ?_
      rw [decide_eq_true c, Bool.true_and] at hQ
      rw [nI_add, show (200 : Int32) = nI 200 from rfl]
      by_cases c2 : left + v ≤ 200
      · refine sw_f (by rw [nI_ltI (by omega) (by omega)]; omega) ?_
        rw [decide_eq_true c2, Bool.true_and] at hQ
        rw [show (1 : Int32) = nI 1 from rfl, pk_sub (by omega)]
        refine m_can M (by omega) (by omega) h3 h4 h5 _ ?_
        cases hb : tbit (ma M 28) (left + v) (m - 1) t l h with
        | true => rw [hb] at hQ; exact bw_t hQ
        | false => rw [hb] at hQ; exact bw_f hQ
      · rw [decide_eq_false c2, Bool.false_and] at hQ
        exact sw_t (by rw [nI_ltI (by omega) (by omega)]; omega) hQ
    · rw [decide_eq_false c, Bool.false_and, Bool.false_and] at hQ
      exact sw_t (by rw [show (0 : Int32) = nI 0 from rfl, nI_leI (by omega) (by omega)]; omega) hQ
  | succ n ih =>
    intro i hi hQ
    have bw := hw.b (28 + i) (isB_28 i (by omega)); rw [bnd_28 i (by omega)] at bw
    have ew := hw.n (28 + i) (isB_28 i (by omega))
    have i28 : (28 : Int32) + nI i = nI (28 + i) := nI_add 28 i
    have key : ∀ z : Nat, z ≤ 9 → costW (ma M 25) i l = aN (ma M 25) (28 + i) + z → wX12_hasWay_43 (fun y1 y2 y3 y4 y5 y6 y7 M => wX12_hasWay_3 Q (n + 1) y1 y2 y3 y4 y5 y6 y7 M) Q (nI v) (nI left) (nI m) (nI t) (nI l) (nI h) (nI i) (nI left - ma M 25 (28 + i)) (nI z) M := by
      intro z hz hc
      unfold wX12_hasWay_43
      intro x1 hx1
      have ti : x1.toInt = (left : Int) - (aN (ma M 25) (28 + i) : Int) - (z : Int) := by
        have q1 : (nI left).toInt = (left : Int) := nI_toInt (by omega)
        have q2 : (ma M 25 (28 + i)).toInt = (aN (ma M 25) (28 + i) : Int) := by rw [ew]; exact nI_toInt (by omega)
        have q3 : (nI z).toInt = (z : Int) := nI_toInt (by omega)
        have q4 : (nI left - ma M 25 (28 + i)).toInt = (left : Int) - (aN (ma M 25) (28 + i) : Int) := by
          rw [isub (by omega) (by omega), q1, q2]
        rw [hx1, isub (by omega) (by omega), q4, q3]
      have go : Q ((List.range' (i + 1) n).any (fun w => decide (costW (ma M 25) w l ≤ left) && !tbit (ma M 28) (left - costW (ma M 25) w l) t m h w) || (decide (0 < m) && decide (left + v ≤ 200) && tbit (ma M 28) (left + v) (m - 1) t l h)) M → wX12_hasWay_69 (fun y1 y2 y3 y4 y5 y6 y7 M => wX12_hasWay_3 Q (n + 1) y1 y2 y3 y4 y5 y6 y7 M) Q (nI v) (nI left) (nI m) (nI t) (nI l) (nI h) (nI i) M := by
        intro hq
        unfold wX12_hasWay_69
        intro x hx
        rw [hx, nI_1]
        exact ih (i + 1) (by omega) hq
      rw [List.range'_succ, List.any_cons, hc] at hQ
      by_cases c : aN (ma M 25) (28 + i) + z ≤ left
      · have ex : x1 = nI (left - (aN (ma M 25) (28 + i) + z)) := by
          apply Int32.toInt_inj.1
          rw [ti, nI_toInt (by omega)]
          omega
        refine sw_f (by rw [ex]; exact nI_pos (by omega)) ?_
        rw [ex]
        refine m_can M (by omega) h3 h2 h5 (by omega) _ ?_
        rw [decide_eq_true c, Bool.true_and] at hQ
        cases hb : tbit (ma M 28) (left - (aN (ma M 25) (28 + i) + z)) t m h i with
        | true => rw [hb, Bool.not_true, Bool.false_or] at hQ; exact bw_t (go hQ)
        | false => rw [hb, Bool.not_false, Bool.true_or, Bool.true_or] at hQ; exact bw_f hQ
      · refine sw_t (by rw [Int32.lt_iff_toInt_lt, ti, show (0 : Int32).toInt = 0 by decide]; omega) ?_
        rw [decide_eq_false c, Bool.false_and, Bool.false_or] at hQ
        exact go hQ
    rw [wX12_hasWay_3, e1, i28, nI_clamp (by omega)]
    refine sw_f (nI_ge (by omega) (by omega)) ⟨vp_in_nI (by omega) (by decide), ?_⟩
    by_cases c : i = l
    · refine sw_t (by rw [c]) ?_
      rw [e2]
      exact key _ b2 (by unfold costW; rw [if_pos c])
    · refine sw_f (by rw [nI_eq (by omega) (by omega)]; exact c) ?_
      exact key 0 (by omega) (by unfold costW; rw [if_neg c])
theorem m_hasWay (M : gS) (hw : wfS (ma M 25)) {v left m t l h : Nat} (h0 : v ≤ 100) (h1 : left ≤ 200) (h2 : m ≤ 7) (h3 : t ≤ 7) (h4 : l ≤ 4) (h5 : h ≤ 4) (Q : Bool → gS → Prop) (hQ : Q (hwB (ma M 25) (ma M 28) v left m t l h) M) : wX12_hasWay (nI v) (nI left) (nI m) (nI t) (nI l) (nI h) M Q := by
  refine ⟨aN (ma M 25) 1 + 1, m_hasWay_l M hw h0 h1 h2 h3 h4 h5 Q (aN (ma M 25) 1) 0 (by omega) ?_⟩
  rw [← List.range_eq_range']
  exact hQ
