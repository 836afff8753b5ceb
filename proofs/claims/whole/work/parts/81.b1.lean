def setOK (s tb : Nat → Int32) (v left m t n : Nat) (set : Int32) : Prop := ∀ i, i < 25 → bt set i = (decide (i < n) && hwB s tb v left m t (i / 5) (i % 5))
theorem setOK_t {s tb : Nat → Int32} {v left m t l h : Nat} {set : Int32} (hl : l ≤ 4) (hh : h ≤ 4) (hs : setOK s tb v left m t (5 * l + h) set) (hb : hwB s tb v left m t l h = true) : setOK s tb v left m t (5 * l + h + 1) (set ||| ((1 : Int32) <<< (nI (5 * l + h) &&& 31))) := by
  intro i hi
  rw [b_or, hs i hi, b_shl _ (by omega) _ (by omega)]
  by_cases c : i < 5 * l + h
  · rw [decide_eq_true c, decide_eq_true (show i < 5 * l + h + 1 by omega), decide_eq_false (show ¬ 5 * l + h ≤ i by omega), Bool.false_and, Bool.or_false]
  · rw [decide_eq_false c, Bool.false_and, Bool.false_or, decide_eq_true (show 5 * l + h ≤ i by omega), Bool.true_and, b_1 _ (by omega)]
    by_cases c2 : i = 5 * l + h
    · rw [decide_eq_true (show i - (5 * l + h) = 0 by omega), decide_eq_true (show i < 5 * l + h + 1 by omega), show i / 5 = l by omega, show i % 5 = h by omega, hb]
      rfl
    · rw [decide_eq_false (show ¬ i - (5 * l + h) = 0 by omega), decide_eq_false (show ¬ i < 5 * l + h + 1 by omega), Bool.false_and]
theorem setOK_f {s tb : Nat → Int32} {v left m t l h : Nat} {set : Int32} (hl : l ≤ 4) (hh : h ≤ 4) (hs : setOK s tb v left m t (5 * l + h) set) (hb : hwB s tb v left m t l h = false) : setOK s tb v left m t (5 * l + h + 1) (set ||| 0) := by
  intro i hi
  rw [b_or, hs i hi, b_0, Bool.or_false]
  by_cases c2 : i = 5 * l + h
  · rw [show i / 5 = l by omega, show i % 5 = h by omega, hb, Bool.and_false, Bool.and_false]
  · by_cases c : i < 5 * l + h
    · rw [decide_eq_true c, decide_eq_true (show i < 5 * l + h + 1 by omega)]
    · rw [decide_eq_false c, decide_eq_false (show ¬ i < 5 * l + h + 1 by omega)]
theorem m_fp15 (M : gS) (hw : wfS (ma M 25)) {v left m t l : Nat} (h0 : v ≤ 100) (h1 : left ≤ 200) (h2 : m ≤ 7) (h3 : t ≤ 7) (h4 : l ≤ 4) (B6 : Int32 → Int32 → Int32 → Int32 → Int32 → Int32 → gS → Prop) (Q : gS → Prop) (hB : ∀ set, setOK (ma M 25) (ma M 28) v left m t (5 * (l + 1)) set → B6 (nI v) (nI left) (nI m) (nI t) set (nI (l + 1)) M) : ∀ n h, h + n = 5 → ∀ set, setOK (ma M 25) (ma M 28) v left m t (5 * l + h) set → wX12_fillsPlace_15 B6 Q (n + 1) (nI v) (nI left) (nI m) (nI t) set (nI l) (nI h) M := by
  intro n
  induction n with
  | zero =>
    intro h hh set hs
    rw [wX12_fillsPlace_15]
    refine sw_t (by rw [show (5 : Int32) = nI 5 from rfl, nI_leI (by omega) (by omega)]; omega) (fun x hx => ?_)
    rw [hx, nI_1]
    refine hB set ?_
    rw [show 5 * (l + 1) = 5 * l + h by omega]
    exact hs
  | succ n ih =>
    intro h hh set hs
    rw [wX12_fillsPlace_15]
    refine sw_f (by rw [show (5 : Int32) = nI 5 from rfl, nI_leI (by omega) (by omega)]; omega) (m_hasWay M hw h0 h1 h2 h3 h4 (by omega) _ ?_)
    have e2 : 5 * nI l + nI h = nI (5 * l + h) := by
      rw [show (5 : Int32) = nI 5 from rfl, pk_mul, nI_add]
    cases hb : hwB (ma M 25) (ma M 28) v left m t l h with
    | true =>
      refine bw_t ?_
      unfold wX12_fillsPlace_52
      intro x1 hx1 x2 hx2
      rw [hx1, hx2, nI_1, e2]
      exact ih (h + 1) (by omega) _ (setOK_t h4 (by omega) hs hb)
    | false =>
      refine bw_f ?_
      unfold wX12_fillsPlace_52
      intro x1 hx1 x2 hx2
      rw [hx1, hx2, nI_1]
      exact ih (h + 1) (by omega) _ (setOK_f h4 (by omega) hs hb)
theorem m_fp6 (M : gS) (hw : wfS (ma M 25)) {v left m t : Nat} (h0 : v ≤ 100) (h1 : left ≤ 200) (h2 : m ≤ 7) (h3 : t ≤ 7) (Q : gS → Prop) (hQ : ∀ set, setOK (ma M 25) (ma M 28) v left m t 25 set → Q (sa M 28 ((left * 8 + m) * 8 + t) set)) : ∀ n l, l + n = 5 → ∀ set, setOK (ma M 25) (ma M 28) v left m t (5 * l) set → wX12_fillsPlace_6 Q (n + 1) (nI v) (nI left) (nI m) (nI t) set (nI l) M := by
  intro n
  induction n with
  | zero =>
    intro l hl set hs
    rw [wX12_fillsPlace_6]
    refine sw_t (by rw [show (5 : Int32) = nI 5 from rfl, nI_leI (by omega) (by omega)]; omega) ?_
    unfold wX12_placeOf
    have e : (nI left * 8 + nI m) * 8 + nI t = nI ((left * 8 + m) * 8 + t) := by
      rw [show (8 : Int32) = nI 8 from rfl, pk_mul, nI_add, pk_mul, nI_add]
    rw [e]
    refine ⟨vp_in_nI (by omega) (by decide), fun M4 h4 => ?_⟩
    rw [nI_clamp (by omega)] at h4
    rw [h4]
    refine hQ set ?_
    rw [show 5 * l = 25 by omega] at hs
    exact hs
  | succ n ih =>
    intro l hl set hs
    rw [wX12_fillsPlace_6]
    refine sw_f (by rw [show (5 : Int32) = nI 5 from rfl, nI_leI (by omega) (by omega)]; omega) ⟨6, ?_⟩
    exact m_fp15 M hw h0 h1 h2 h3 (by omega) _ Q (fun set' hs' => ih (l + 1) (by omega) set' hs') 5 0 (by omega) set hs
theorem m_fillsPlace (M : gS) (hw : wfS (ma M 25)) {v left m t : Nat} (h0 : v ≤ 100) (h1 : left ≤ 200) (h2 : m ≤ 7) (h3 : t ≤ 7) (Q : gS → Prop) (hQ : ∀ set, (∀ l h, l ≤ 4 → h ≤ 4 → bt set (5 * l + h) = hwB (ma M 25) (ma M 28) v left m t l h) → Q (sa M 28 ((left * 8 + m) * 8 + t) set)) : wX12_fillsPlace (nI v) (nI left) (nI m) (nI t) M Q := by
  refine ⟨6, m_fp6 M hw h0 h1 h2 h3 Q (fun set hs => hQ set (fun l h hl hh => ?_)) 5 0 (by omega) 0 (fun i hi => ?_)⟩
  · rw [hs (5 * l + h) (by omega), decide_eq_true (show 5 * l + h < 25 by omega), Bool.true_and, show (5 * l + h) / 5 = l by omega, show (5 * l + h) % 5 = h by omega]
  · rw [b_0, decide_eq_false (show ¬ i < 5 * 0 by omega), Bool.false_and]
def tabOk (s : Nat → Int32) (v : Nat) (tb : Nat → Int32) (a L m : Nat) : Prop := ∀ left' m' t', left' ≤ 200 → m' ≤ 7 → t' ≤ 7 → (m' + t' < a ∨ (m' + t' = a ∧ (left' < L ∨ (left' = L ∧ m' < m)))) → ∀ l h, l ≤ 4 → h ≤ 4 → tbit tb left' m' t' l h = Can s v left' m' t' l h
theorem tab_put {s : Nat → Int32} (hw : wfS s) {v : Nat} {tb : Nat → Int32} {a L m t : Nat} (hL : L ≤ 200) (hm : m ≤ 7) (ht : t ≤ 7) (ha : m + t = a) (hok : tabOk s v tb a L m) {set : Int32} (hs : ∀ l h, l ≤ 4 → h ≤ 4 → bt set (5 * l + h) = hwB s tb v L m t l h) : tabOk s v (upd tb ((L * 8 + m) * 8 + t) set) a L (m + 1) := by
  have b1 : aN s 1 ≤ 4 := hw.b 1 rfl
  intro left' m' t' g1 g2 g3 g4 l h g5 g6
  unfold tbit
  rw [upd_at]
  by_cases c : (left' * 8 + m') * 8 + t' = (L * 8 + m) * 8 + t
  · have c1 : left' = L := by omega
    have c2 : m' = m := by omega
    have c3 : t' = t := by omega
    subst c1 c2 c3
    rw [if_pos rfl, hs l h g5 g6, Can_eq hw]
    unfold hwB
    congr 1
    · refine any_cg (fun w hw2 => ?_)
      have hw3 := List.mem_range.1 hw2
      have hc := cost_pos hw (l := l) hw3
      by_cases c : costW s w l ≤ left'
      · rw [hok (left' - costW s w l) t' m' (by omega) (by omega) (by omega) (Or.inr ⟨by omega, Or.inl (by omega)⟩) h w g6 (by omega)]
      · rw [decide_eq_false c, Bool.false_and, Bool.false_and]
    · by_cases d : 0 < m'
      · by_cases d2 : left' + v ≤ 200
        · rw [hok (left' + v) (m' - 1) t' (by omega) (by omega) (by omega) (Or.inl (by omega)) l h g5 g6]
        · rw [decide_eq_false d2, Bool.and_false, Bool.false_and, Bool.false_and]
      · rw [decide_eq_false d, Bool.false_and, Bool.false_and, Bool.false_and]
  · rw [if_neg c]
    exact hok left' m' t' g1 g2 g3 (by omega) l h g5 g6
theorem sa_28 (M : gS) (tb : Nat → Int32) (i : Nat) (v : Int32) : sa (sF M 28 tb) 28 i v = sF M 28 (upd tb i v) := by
  show sF (sF M 28 tb) 28 (upd (ma (sF M 28 tb) 28) i v) = _
  rw [ma_sF1, sF_sF]
theorem m_ft20 (M : gS) (hw : wfS (ma M 25)) {v a L : Nat} (h0 : v ≤ 100) (h1 : L ≤ 200) (h2 : a ≤ 14) (B2 : Int32 → Int32 → gS → Prop) (B10 : Int32 → Int32 → Int32 → gS → Prop) (Q : gS → Prop) (hB : ∀ tb, tabOk (ma M 25) v tb a (L + 1) 0 → B10 (nI v) (nI a) (nI (L + 1)) (sF M 28 tb)) : ∀ n m, m + n = 8 → ∀ tb, tabOk (ma M 25) v tb a L m → wX12_fillsTable_20 B2 B10 Q (n + 1) (nI v) (nI a) (nI L) (nI m) (sF M 28 tb) := by
  intro n
  induction n with
  | zero =>
    intro m hm tb ht
    rw [wX12_fillsTable_20]
    refine sw_t (by rw [show (7 : Int32) = nI 7 from rfl, nI_ltI (by omega) (by omega)]; omega) (fun x hx => ?_)
    rw [hx, nI_1]
    exact hB tb (fun left' m' t' g1 g2 g3 g4 l h g5 g6 => ht left' m' t' g1 g2 g3 (by omega) l h g5 g6)
  | succ n ih =>
    intro m hm tb ht
    rw [wX12_fillsTable_20]
    refine sw_f (by rw [show (7 : Int32) = nI 7 from rfl, nI_ltI (by omega) (by omega)]; omega) ?_
    by_cases c : m ≤ a ∧ a - m ≤ 7
    · have e : nI a - nI m = nI (a - m) := pk_sub c.1
      rw [e]
      refine m_in_t (lo := 0) (hi := 7) (by decide) (by decide) (nI_pos' (by omega)) (by rw [show (7 : Int32) = nI 7 from rfl, nI_leI (by omega) (by omega)]; omega) (bw_t ?_)
      refine m_fillsPlace (sF M 28 tb) hw h0 h1 (by omega) c.2 _ (fun set hs => ?_)
      unfold wX12_fillsTable_54
      intro x hx
      rw [hx, nI_1, sa_28]
      rw [ma_sF1] at hs
      exact ih (m + 1) (by omega) _ (tab_put hw h1 (by omega) c.2 (by omega) ht hs)
    · refine m_in_f (lo := 0) (hi := 7) (by decide) (by decide) (fun z => c ?_) (bw_f ?_)
      · have ti : (nI a - nI m).toInt = (a : Int) - (m : Int) := by
          rw [isub (by rw [nI_toInt (by omega), nI_toInt (by omega)]; omega) (by rw [nI_toInt (by omega), nI_toInt (by omega)]; omega), nI_toInt (by omega), nI_toInt (by omega)]
        rw [Int32.le_iff_toInt_le, Int32.le_iff_toInt_le, ti, show (0 : Int32).toInt = 0 by decide, show (7 : Int32).toInt = 7 by decide] at z
        omega
      · unfold wX12_fillsTable_54
        intro x hx
        rw [hx, nI_1]
        exact ih (m + 1) (by omega) _ (fun left' m' t' g1 g2 g3 g4 l h g5 g6 => ht left' m' t' g1 g2 g3 (by omega) l h g5 g6)
theorem m_ft10 (M : gS) (hw : wfS (ma M 25)) {v a : Nat} (h0 : v ≤ 100) (h2 : a ≤ 14) (B2 : Int32 → Int32 → gS → Prop) (Q : gS → Prop) (hB : ∀ tb, tabOk (ma M 25) v tb (a + 1) 0 0 → B2 (nI v) (nI (a + 1)) (sF M 28 tb)) : ∀ n L, L + n = 201 → ∀ tb, tabOk (ma M 25) v tb a L 0 → wX12_fillsTable_10 B2 Q (n + 1) (nI v) (nI a) (nI L) (sF M 28 tb) := by
  intro n
  induction n with
  | zero =>
    intro L hL tb ht
    rw [wX12_fillsTable_10]
    refine sw_t (by rw [show (200 : Int32) = nI 200 from rfl, nI_ltI (by omega) (by omega)]; omega) (fun x hx => ?_)
    rw [hx, nI_1]
    exact hB tb (fun left' m' t' g1 g2 g3 g4 l h g5 g6 => ht left' m' t' g1 g2 g3 (by omega) l h g5 g6)
  | succ n ih =>
    intro L hL tb ht
    rw [wX12_fillsTable_10]
    refine sw_f (by rw [show (200 : Int32) = nI 200 from rfl, nI_ltI (by omega) (by omega)]; omega) ⟨9, ?_⟩
    exact m_ft20 M hw h0 (by omega) h2 B2 _ Q (fun tb' ht' => ih (L + 1) (by omega) tb' ht') 8 0 (by omega) tb ht
theorem m_ft2 (M : gS) (hw : wfS (ma M 25)) {v : Nat} (h0 : v ≤ 100) (Q : gS → Prop) (hQ : ∀ tb, tabOk (ma M 25) v tb 15 0 0 → Q (sF M 28 tb)) : ∀ n a, a + n = 15 → ∀ tb, tabOk (ma M 25) v tb a 0 0 → wX12_fillsTable_2 Q (n + 1) (nI v) (nI a) (sF M 28 tb) := by
  intro n
  induction n with
  | zero =>
    intro a ha tb ht
    rw [wX12_fillsTable_2]
    refine sw_t (by rw [show (14 : Int32) = nI 14 from rfl, nI_ltI (by omega) (by omega)]; omega) ?_
    rw [show a = 15 by omega] at ht
    exact hQ tb ht
  | succ n ih =>
    intro a ha tb ht
    rw [wX12_fillsTable_2]
    refine sw_f (by rw [show (14 : Int32) = nI 14 from rfl, nI_ltI (by omega) (by omega)]; omega) ⟨202, ?_⟩
    exact m_ft10 M hw h0 (by omega) _ Q (fun tb' ht' => ih (a + 1) (by omega) tb' ht') 201 0 (by omega) tb ht
/-- the reference's table tells who can have it -/
def tabF (s : Nat → Int32) (v : Nat) (tb : Nat → Int32) : Prop := ∀ left m t l h, left ≤ 200 → m ≤ 7 → t ≤ 7 → l ≤ 4 → h ≤ 4 → tbit tb left m t l h = Can s v left m t l h
theorem m_fillsTable (M : gS) (hw : wfS (ma M 25)) {v : Nat} (h0 : v ≤ 100) (Q : gS → Prop) (hQ : ∀ tb, tabF (ma M 25) v tb → Q (sF M 28 tb)) : wX12_fillsTable (nI v) M Q := by
  refine ⟨16, ?_⟩
  have h := m_ft2 M hw h0 Q (fun tb ht => hQ tb (fun left m t l h g1 g2 g3 g4 g5 => ht left m t g1 g2 g3 (by omega) l h g4 g5)) 15 0 (by omega) (ma M 28) (fun left' m' t' g1 g2 g3 g4 => by omega)
  rw [sF_self] at h
  exact h
