-- PURE: plays, as the class counts them
def anyK (s : Nat → Int32) (a left : Nat) : Bool := (List.range (aN s 1)).any (fun w => decide (costK s w a ≤ left))
def mayT (v left m : Nat) : Bool := decide (0 < m) && decide (left + v ≤ 200)
def pfE (hat : Nat) (mv : Bool) : Nat := if hat = 0 ∧ mv = false then 1 else 0
def tnk (s : Nat → Int32) (k : Nat) : Nat := if aN s 2 = 0 then 0 else k
def sumR (f : Nat → Nat) : Nat → Nat → Nat
  | 0, _ => 0
  | n + 1, i => f i + sumR f n (i + 1)
def pyB (s : Nat → Int32) (v : Nat) (F : Nat → Nat → Nat → Nat → Nat → Nat → Bool → Nat) (left a b m t hat : Nat) (mv : Bool) : Nat := if (mayT v left m || anyK s a left) = true then F left a b m t hat mv else pfE hat mv
def pyW (s : Nat → Int32) (v : Nat) (F : Nat → Nat → Nat → Nat → Nat → Nat → Bool → Nat) (left a b m t hat : Nat) (mv : Bool) (w : Nat) : Nat := if costK s w a ≤ left then pyB s v F (left - costK s w a) (tnk s b) (tnk s (w + 1)) t m hat (!mv) else 0
def pyT (s : Nat → Int32) (v : Nat) (F : Nat → Nat → Nat → Nat → Nat → Nat → Bool → Nat) (left a b m t hat : Nat) (mv : Bool) : Nat := if 0 < hat ∧ mayT v left m = true then pyB s v F (left + v) a b (m - 1) t (hat - 1) mv else 0
def pyG (s : Nat → Int32) (v : Nat) : Nat → Nat → Nat → Nat → Nat → Nat → Nat → Bool → Nat
  | 0 => fun _ _ _ _ _ _ _ => 0
  | k + 1 => fun left a b m t hat mv => pfE hat mv + sumR (pyW s v (pyG s v k) left a b m t hat mv) (aN s 1) 0 + pyT s v (pyG s v k) left a b m t hat mv
theorem sumR_0 {f : Nat → Nat} (h : ∀ j, f j = 0) : ∀ n i, sumR f n i = 0 := by
  intro n
  induction n with
  | zero => intro i; rfl
  | succ n ih => intro i; rw [sumR, h, ih]
theorem pyG_0 (s : Nat → Int32) (v : Nat) : ∀ k left a b m t hat mv, k < hat → pyG s v k left a b m t hat mv = 0 := by
  intro k
  induction k with
  | zero => intro left a b m t hat mv _; rfl
  | succ k ih =>
    intro left a b m t hat mv h
    have e0 : ∀ h', 0 < h' → ∀ x, pfE h' x = 0 := fun h' hh x => by unfold pfE; rw [if_neg (by omega)]
    have eB : ∀ h', k < h' → 0 < h' → ∀ l a b m t x, pyB s v (pyG s v k) l a b m t h' x = 0 := by
      intro h' h1 h2 l a b m t x
      unfold pyB
      split
      · exact ih _ _ _ _ _ _ _ h1
      · exact e0 h' h2 x
    show pfE hat mv + sumR (pyW s v (pyG s v k) left a b m t hat mv) (aN s 1) 0 + pyT s v (pyG s v k) left a b m t hat mv = 0
    rw [e0 hat (by omega), sumR_0 (fun j => by unfold pyW; split; exact eB _ (by omega) (by omega) _ _ _ _ _ _; rfl)]
    unfold pyT
    by_cases c : 0 < hat ∧ mayT v left m = true
    · rw [if_pos c]
      by_cases c2 : hat = 1
      · have : k = 0 := by omega
        omega
      · rw [eB _ (by omega) (by omega)]
    · rw [if_neg c]
def keyN (k left a b m t hat : Nat) (mv : Bool) : Nat := (((k * 256 + left) * 64 + (8 * a + b)) * 64 + (8 * m + t)) * 32 + 2 * hat + (if mv = true then 1 else 0)
def pyV (left a b m t : Nat) : Prop := left ≤ 200 ∧ a ≤ 4 ∧ b ≤ 4 ∧ m ≤ 7 ∧ t ≤ 7
theorem kx1 {x x' h h' y y' : Nat} (e : y * 32 + 2 * h + x = y' * 32 + 2 * h' + x') (h1 : x ≤ 1) (h2 : x' ≤ 1) (h3 : h ≤ 8) (h4 : h' ≤ 8) : x = x' ∧ h = h' ∧ y = y' := by omega
theorem kx2 {m t y m' t' y' : Nat} (e : y * 64 + (8 * m + t) = y' * 64 + (8 * m' + t')) (h1 : m ≤ 7) (h2 : t ≤ 7) (h3 : m' ≤ 7) (h4 : t' ≤ 7) : m = m' ∧ t = t' ∧ y = y' := by omega
theorem keyN_inj {k left a b m t hat k' left' a' b' m' t' hat' : Nat} {mv mv' : Bool} (h : keyN k left a b m t hat mv = keyN k' left' a' b' m' t' hat' mv') (hv : pyV left a b m t) (hv' : pyV left' a' b' m' t') (h8 : hat ≤ 8) (h8' : hat' ≤ 8) : k = k' ∧ left = left' ∧ a = a' ∧ b = b' ∧ m = m' ∧ t = t' ∧ hat = hat' ∧ mv = mv' := by
  obtain ⟨v1, v2, v3, v4, v5⟩ := hv
  obtain ⟨w1, w2, w3, w4, w5⟩ := hv'
  unfold keyN at h
  have hm : (if mv = true then 1 else 0) ≤ 1 := by split <;> omega
  have hm' : (if mv' = true then 1 else 0) ≤ 1 := by split <;> omega
  obtain ⟨e1, e2, e3⟩ := kx1 h hm hm' h8 h8'
  obtain ⟨e4, e5, e6⟩ := kx2 e3 v4 v5 w4 w5
  have e7 : mv = mv' := by
    cases mv <;> cases mv' <;> first | rfl | (simp at e1)
  exact ⟨by omega, by omega, by omega, by omega, e4, e5, e2, e7⟩
theorem keyN_b {k left a b m t hat : Nat} {mv : Bool} (hk : 1 ≤ k) (hk8 : k ≤ 8) (hv : pyV left a b m t) (h8 : hat ≤ 8) : 0 < keyN k left a b m t hat mv ∧ keyN k left a b m t hat mv < 2 ^ 31 := by
  obtain ⟨v1, v2, v3, v4, v5⟩ := hv
  unfold keyN
  have hm : (if mv = true then 1 else 0) ≤ 1 := by split <;> omega
  omega
/-- what PlayCounter keeps is right -/
def memI (s : Nat → Int32) (v : Nat) (N : gS) : Prop := ∀ j, j < 2048 → ma N 0 j = 0 ∨ ∃ k left a b m t hat mv, 1 ≤ k ∧ k ≤ 8 ∧ pyV left a b m t ∧ hat ≤ 8 ∧ ma N 0 j = nI (keyN k left a b m t hat mv) ∧ ma N 1 j = nI (pyG s v k left a b m t hat mv)
theorem c_keyOf {k left a b m t hat : Nat} {mv : Bool} (hk8 : k ≤ 8) (hv : pyV left a b m t) (h8 : hat ≤ 8) (Q : Int32 → Prop) (h : Q (nI (keyN k left a b m t hat mv))) : wX5_keyOf (nI k) (nI left) (nI (8 * a + b)) (nI (8 * m + t)) (nI hat) (bI mv) Q := by
  obtain ⟨v1, v2, v3, v4, v5⟩ := hv
  unfold wX5_keyOf
  intro x1 h1 x2 h2 x3 h3
  have e1 : x1 = nI (k * 256 + left) := by
    rw [h1, pk_shlN ((8 : Int32) &&& 31) 8 (by decide) (by omega), show k * 2 ^ 8 = 2 ^ 8 * k from Nat.mul_comm _ _, fa_or_sum k (show left < 2 ^ 8 by omega)]
  have e2 : x2 = nI ((k * 256 + left) * 64 + (8 * a + b)) := by
    rw [h2, e1, pk_shlN ((6 : Int32) &&& 31) 6 (by decide) (by omega), show (k * 256 + left) * 2 ^ 6 = 2 ^ 6 * (k * 256 + left) from Nat.mul_comm _ _, fa_or_sum _ (show 8 * a + b < 2 ^ 6 by omega)]
  have e3 : x3 = nI (((k * 256 + left) * 64 + (8 * a + b)) * 64 + (8 * m + t)) := by
    rw [h3, e2, pk_shlN ((6 : Int32) &&& 31) 6 (by decide) (by omega), show ((k * 256 + left) * 64 + (8 * a + b)) * 2 ^ 6 = 2 ^ 6 * ((k * 256 + left) * 64 + (8 * a + b)) from Nat.mul_comm _ _, fa_or_sum _ (show 8 * m + t < 2 ^ 6 by omega)]
  have e4 : ((x3 <<< ((5 : Int32) &&& 31)) ||| (nI hat <<< ((1 : Int32) &&& 31))) = nI (2 ^ 1 * ((((k * 256 + left) * 64 + (8 * a + b)) * 64 + (8 * m + t)) * 16 + hat)) := by
    rw [e3, pk_shlN ((5 : Int32) &&& 31) 5 (by decide) (by omega), pk_shlN ((1 : Int32) &&& 31) 1 (by decide) (by omega), show (((k * 256 + left) * 64 + (8 * a + b)) * 64 + (8 * m + t)) * 2 ^ 5 = 2 ^ 5 * (((k * 256 + left) * 64 + (8 * a + b)) * 64 + (8 * m + t)) from Nat.mul_comm _ _, fa_or_sum _ (show hat * 2 ^ 1 < 2 ^ 5 by omega)]
    congr 1
    omega
  rw [e4]
  have eq0 : (nI (2 ^ 1 * ((((k * 256 + left) * 64 + (8 * a + b)) * 64 + (8 * m + t)) * 16 + hat)) ||| (0 : Int32)) = nI (keyN k left a b m t hat false) := by
    rw [show (0 : Int32) = nI 0 from rfl, fa_or_sum _ (show 0 < 2 ^ 1 by omega)]
    congr 1
    unfold keyN
    simp only [Bool.false_eq_true, if_false]
    omega
  have eq1 : (nI (2 ^ 1 * ((((k * 256 + left) * 64 + (8 * a + b)) * 64 + (8 * m + t)) * 16 + hat)) ||| (1 : Int32)) = nI (keyN k left a b m t hat true) := by
    rw [show (1 : Int32) = nI 1 from rfl, fa_or_sum _ (show 1 < 2 ^ 1 by omega)]
    congr 1
    unfold keyN
    simp only [if_true]
    omega
  cases mv with
  | false => exact sw_t rfl (by rw [eq0]; exact h)
  | true => exact sw_f (by decide) (by rw [eq1]; exact h)
theorem c_slot (y : Int32) : ∃ j, j < 2048 ∧ ((Int32.toUInt32 y >>> (Int32.toUInt32 (21 : Int32) &&& Int32.toUInt32 31)).toInt32) = nI j := by
  have e : y = nI y.toBitVec.toNat := by
    apply Int32.toBitVec_inj.1
    show y.toBitVec = BitVec.ofNat 32 y.toBitVec.toNat
    rw [BitVec.ofNat_toNat, BitVec.setWidth_eq]
  have hl : y.toBitVec.toNat < 2 ^ 32 := y.toBitVec.isLt
  refine ⟨y.toBitVec.toNat / 2 ^ 21, by omega, ?_⟩
  have := pk_ushrN hl (21 : Int32) 21 (by decide)
  rw [← e] at this
  exact this
theorem c_any_l {s : Nat → Int32} (hw : wfS s) {Mc : gS} (hC : relC s Mc) {a left : Nat} (ha : a ≤ 5) (hl : left ≤ 400) (Q : Bool → gS → Prop) : ∀ (n i : Nat), i + n = aN s 1 → Q ((List.range' i n).any (fun w => decide (costK s w a ≤ left))) Mc → wX1_anyWordFits_2 Q (n + 1) (nI a - 1) (nI left) (nI i) Mc := by
  have e1 := hw.n 1 rfl
  have b1 : aN s 1 ≤ 4 := hw.b 1 rfl
  intro n
  induction n with
  | zero =>
    intro i hi h
    rw [wX1_anyWordFits_2, hC.2.1, e1]
    exact sw_t (nI_le (by omega) (by omega)) (by simpa using h)
  | succ n ih =>
    intro i hi h
    rw [wX1_anyWordFits_2, hC.2.1, e1]
    refine sw_f (nI_ge (by omega) (by omega)) (c_cost hw hC (by omega) ha _ ?_)
    have cb := costK_b hw (w := i) (k := a) (by omega)
    rw [List.range'_succ, List.any_cons] at h
    by_cases c : costK s i a ≤ left
    · rw [decide_eq_true c, Bool.true_or] at h
      first
        | exact sw_t (nI_le c (by omega)) h
        | exact sw_f (nI_nlt c (by omega)) h
    · rw [decide_eq_false c, Bool.false_or] at h
      first
        | exact sw_f (nI_ge (by omega) (by omega)) (fun x hx => by rw [hx, nI_1]; exact ih (i + 1) (by omega) h)
        | exact sw_t (nI_lt (by omega) (by omega)) (fun x hx => by rw [hx, nI_1]; exact ih (i + 1) (by omega) h)
theorem c_any {s : Nat → Int32} (hw : wfS s) {Mc : gS} (hC : relC s Mc) {a left : Nat} (ha : a ≤ 5) (hl : left ≤ 400) (Q : Bool → gS → Prop) (h : Q (anyK s a left) Mc) : wX1_anyWordFits (nI a - 1) (nI left) Mc Q := by
  refine ⟨aN s 1 + 1, c_any_l hw hC ha hl Q (aN s 1) 0 (by omega) ?_⟩
  rw [← List.range_eq_range']
  exact h
theorem c_mayT {v left m t : Nat} (hv : v ≤ 200) (hl : left ≤ 400) (hm : m ≤ 7) (ht : t ≤ 7) {N : gS} (h3 : mg N 3 = nI v) (Q : Bool → gS → Prop) (h : Q (mayT v left m) N) : wX5_mayThrow (nI left) (nI (8 * m + t)) N Q := by
  unfold wX5_mayThrow
  unfold mayT at h
  rw [h3, nI_add]
  by_cases c : 0 < m
  · refine sw_f (show ¬ nI (8 * m + t) < nI 8 from nI_nlt (by omega) (by omega)) ?_
    rw [decide_eq_true c, Bool.true_and] at h
    by_cases c2 : left + v ≤ 200
    · rw [decide_eq_true c2] at h
      exact sw_f (show ¬ nI 200 < nI (left + v) from nI_nlt (by omega) (by omega)) h
    · rw [decide_eq_false c2] at h
      exact sw_t (show nI 200 < nI (left + v) from nI_lt (by omega) (by omega)) h
  · rw [decide_eq_false c, Bool.false_and] at h
    exact sw_t (show nI (8 * m + t) < nI 8 from nI_lt (by omega) (by omega)) h
theorem c_behind {s : Nat → Int32} (hw : wfS s) {v : Nat} (hv : v ≤ 100) {Mc : gS} (hC : relC s Mc) (T : Int32 → Int32 → Int32 → Int32 → Int32 → Int32 → gS → gS → (Int32 → gS → gS → Prop) → Prop) {k left a b m t hat : Nat} {mv : Bool} (hpv : pyV left a b m t) (hh : hat ≤ 14) {N : gS} (hI : memI s v N) (h3 : mg N 3 = nI v) (Q : Int32 → gS → gS → Prop) (hT : (∀ N', memI s v N' → mg N' 3 = nI v → Q (nI (pyG s v k left a b m t hat mv)) N' Mc) → T (nI k) (nI left) (nI (8 * a + b)) (nI (8 * m + t)) (nI hat) (bI mv) N Mc (fun (r1 : Int32) (N2 : gS) (N3 : gS) => (Q r1 N2 N3))) (h : ∀ N', memI s v N' → mg N' 3 = nI v → Q (nI (pyB s v (pyG s v k) left a b m t hat mv)) N' Mc) : wX5_behind T (nI k) (nI left) (nI (8 * a + b)) (nI (8 * m + t)) (nI hat) (bI mv) N Mc Q := by
  obtain ⟨v1, v2, v3, v4, v5⟩ := hpv
  unfold pyB at h
  unfold wX5_behind
  refine c_mayT (by omega) (by omega) v4 v5 h3 _ ?_
  have ed : nI (8 * a + b) / (8 : Int32) = nI a := by
    show nI (8 * a + b) / nI 8 = _
    rw [pk_div (by omega) (by omega) (by omega)]
    congr 1
    omega
  unfold wX5_behind_27
  cases c1 : mayT v left m with
  | true =>
    rw [c1, Bool.true_or, if_pos rfl] at h
    exact bw_t (hT h)
  | false =>
    rw [c1, Bool.false_or] at h
    refine bw_f ?_
    rw [ed]
    refine c_any hw hC (by omega) (by omega) _ ?_
    cases c2 : anyK s a left with
    | true =>
      rw [c2, if_pos rfl] at h
      exact bw_t (hT h)
    | false =>
      rw [c2, if_neg (by decide)] at h
      refine bw_f ?_
      have h' := h N hI h3
      unfold pfE at h'
      by_cases c3 : hat = 0
      · refine sw_t (by rw [c3]; rfl) ?_
        cases mv with
        | false => rw [if_pos ⟨c3, rfl⟩] at h'; exact sw_t rfl h'
        | true => rw [if_neg (by simp)] at h'; exact sw_f (by decide) h'
      · rw [if_neg (fun z => c3 z.1)] at h'
        exact sw_f (nI_ne0 (by omega) (by omega)) h'
theorem memI_put {s : Nat → Int32} {v : Nat} {N : gS} (hI : memI s v N) {k left a b m t hat : Nat} {mv : Bool} (hk : 1 ≤ k) (hk8 : k ≤ 8) (hpv : pyV left a b m t) (h8 : hat ≤ 8) {j : Nat} : memI s v (sa (sa N 0 j (nI (keyN k left a b m t hat mv))) 1 j (nI (pyG s v k left a b m t hat mv))) := by
  intro i hi
  have e0 : ma (sa (sa N 0 j (nI (keyN k left a b m t hat mv))) 1 j (nI (pyG s v k left a b m t hat mv))) 0 = upd (ma N 0) j (nI (keyN k left a b m t hat mv)) := rfl
  have e1 : ma (sa (sa N 0 j (nI (keyN k left a b m t hat mv))) 1 j (nI (pyG s v k left a b m t hat mv))) 1 = upd (ma N 1) j (nI (pyG s v k left a b m t hat mv)) := rfl
  rw [e0, e1, upd_at, upd_at]
  by_cases c : i = j
  · rw [if_pos c, if_pos c]
    exact Or.inr ⟨k, left, a, b, m, t, hat, mv, hk, hk8, hpv, h8, rfl, rfl⟩
  · rw [if_neg c, if_neg c]
    exact hI i hi
