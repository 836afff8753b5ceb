-- PURE: the bits of a long
def lb (x : Int64) (i : Nat) : Bool := x.toBitVec.getLsbD i
theorem l_or (x y : Int64) (i : Nat) : lb (x ||| y) i = (lb x i || lb y i) := by
  unfold lb; rw [Int64.toBitVec_or, BitVec.getLsbD_or]
theorem l_and (x y : Int64) (i : Nat) : lb (x &&& y) i = (lb x i && lb y i) := by
  unfold lb; rw [Int64.toBitVec_and, BitVec.getLsbD_and]
theorem l_xor (x y : Int64) (i : Nat) : lb (x ^^^ y) i = (lb x i ^^ lb y i) := by
  unfold lb; rw [Int64.toBitVec_xor, BitVec.getLsbD_xor]
theorem l_m1 : ∀ i, i < 64 → lb (-1) i = true := by decide +kernel
theorem l_0 (i : Nat) : lb 0 i = false := BitVec.getLsbD_zero
theorem l_1 : ∀ i, i < 64 → lb 1 i = decide (i = 0) := by decide +kernel
theorem l_not (x : Int64) {i : Nat} (hi : i < 64) : lb (x ^^^ (-1)) i = !lb x i := by
  rw [l_xor, l_m1 i hi, Bool.xor_true]
theorem sl_l : ∀ n, n < 64 → (((nI n).toInt64 &&& 63).toBitVec.smod 64).toNat = n := by decide +kernel
theorem sl_u : ∀ n, n < 64 → (((nI n).toInt64.toUInt64 &&& Int64.toUInt64 63).toBitVec % 64).toNat = n := by decide +kernel
theorem l_shl (n : Nat) {c : Int32} (hc : c = nI n) (hn : n < 64) (x : Int64) {i : Nat} (hi : i < 64) : lb (x <<< (c.toInt64 &&& 63)) i = (decide (n ≤ i) && lb x (i - n)) := by
  subst hc
  unfold lb
  rw [Int64.toBitVec_shiftLeft]
  show (x.toBitVec <<< (((nI n).toInt64 &&& 63).toBitVec.smod 64).toNat).getLsbD i = _
  rw [sl_l n hn, BitVec.getLsbD_shiftLeft]
  rcases Nat.lt_or_ge i n with h | h
  · simp [h, Nat.not_le.mpr h]
  · simp [hi, h, Nat.not_lt.mpr h]
theorem l_ushr (n : Nat) {c : Int32} (hc : c = nI n) (hn : n < 64) (x : Int64) (i : Nat) : lb ((x.toUInt64 >>> (c.toInt64.toUInt64 &&& Int64.toUInt64 63)).toInt64) i = lb x (n + i) := by
  subst hc
  show (x.toUInt64 >>> ((nI n).toInt64.toUInt64 &&& Int64.toUInt64 63)).toBitVec.getLsbD i = x.toUInt64.toBitVec.getLsbD (n + i)
  rw [UInt64.toBitVec_shiftRight]
  show (x.toUInt64.toBitVec >>> (((nI n).toInt64.toUInt64 &&& Int64.toUInt64 63).toBitVec % 64).toNat).getLsbD i = _
  rw [sl_u n hn, BitVec.getLsbD_ushiftRight]
/-- bits k apart are exchanged where the mask says so -/
def dsw (m : Int64) (k i : Nat) : Nat := if lb m i = true then k + i else if k ≤ i ∧ lb m (i - k) = true then i - k else i
theorem dswap {x m : Int64} {k : Nat} {c : Int32} (hc : c = nI k) (hk : k < 64) (hm : ∀ i, i < 64 → lb m i = true → k ≤ i → lb m (i - k) = false) {y z : Int64} (hy : y = (x ^^^ ((x.toUInt64 >>> (c.toInt64.toUInt64 &&& Int64.toUInt64 63)).toInt64)) &&& m) (hz : z = (x ^^^ y) ^^^ (y <<< (c.toInt64 &&& 63))) {i : Nat} (hi : i < 64) : lb z i = lb x (dsw m k i) := by
  have ey : ∀ j, lb y j = ((lb x j ^^ lb x (k + j)) && lb m j) := by
    intro j
    rw [hy, l_and, l_xor, l_ushr k hc hk]
  rw [hz, l_xor, l_xor, l_shl k hc hk y hi, ey i, ey (i - k)]
  unfold dsw
  by_cases c1 : lb m i = true
  · rw [if_pos c1, c1, Bool.and_true]
    by_cases c2 : k ≤ i
    · rw [hm i hi c1 c2, Bool.and_false, Bool.and_false, Bool.xor_false]
      cases lb x i <;> cases lb x (k + i) <;> rfl
    · rw [decide_eq_false c2, Bool.false_and, Bool.xor_false]
      cases lb x i <;> cases lb x (k + i) <;> rfl
  · rw [if_neg c1, ts_nt c1, Bool.and_false, Bool.xor_false]
    by_cases c2 : k ≤ i
    · by_cases c3 : lb m (i - k) = true
      · rw [if_pos ⟨c2, c3⟩, decide_eq_true c2, c3, Bool.and_true, Bool.true_and, show k + (i - k) = i by omega]
        cases lb x i <;> cases lb x (i - k) <;> rfl
      · rw [if_neg (fun z => c3 z.2), ts_nt c3, Bool.and_false, Bool.and_false, Bool.xor_false]
    · rw [if_neg (fun z => c2 z.1), decide_eq_false c2, Bool.false_and, Bool.xor_false]
theorem sw_all : ∀ i, i < 64 → dsw 47851476196393130 7 (dsw 225176545447116 14 (dsw 4042322160 28 i)) = 8 * (i % 8) + i / 8 ∧ dsw 225176545447116 14 (dsw 4042322160 28 i) < 64 ∧ dsw 4042322160 28 i < 64 := by decide +kernel
theorem sw_m1 : ∀ i, i < 64 → lb 47851476196393130 i = true → 7 ≤ i → lb 47851476196393130 (i - 7) = false := by decide +kernel
theorem sw_m2 : ∀ i, i < 64 → lb 225176545447116 i = true → 14 ≤ i → lb 225176545447116 (i - 14) = false := by decide +kernel
theorem sw_m3 : ∀ i, i < 64 → lb 4042322160 i = true → 28 ≤ i → lb 4042322160 (i - 28) = false := by decide +kernel
theorem c_swapped (x : Int64) (Q : Int64 → Prop) (h : ∀ y, (∀ i, i < 64 → lb y i = lb x (8 * (i % 8) + i / 8)) → Q y) : wX0_swapped x Q := by
  unfold wX0_swapped
  intro x1 h1 x2 h2 x3 h3 x4 h4 x5 h5
  refine h _ (fun i hi => ?_)
  obtain ⟨a1, a2, a3⟩ := sw_all i hi
  rw [dswap (k := 28) (c := 28) rfl (by omega) sw_m3 h5 rfl hi, dswap (k := 14) (c := 14) rfl (by omega) sw_m2 h3 h4 a3, dswap (k := 7) (c := 7) rfl (by omega) sw_m1 h1 h2 a2, a1]
theorem th_m1 : ∀ i, i < 64 → lb (-72340172838076674) i = decide (1 ≤ i % 8) := by decide +kernel
theorem th_m2 : ∀ i, i < 64 → lb (-217020518514230020) i = decide (2 ≤ i % 8) := by decide +kernel
theorem th_m4 : ∀ i, i < 64 → lb (-1085102592571150096) i = decide (4 ≤ i % 8) := by decide +kernel
theorem c_withThrows (x : Int64) (Q : Int64 → Prop) (h : ∀ y, (∀ t m, t < 8 → m < 8 → (lb y (8 * t + m) = true ↔ ∃ j, j ≤ m ∧ lb x (8 * t + j) = true)) → Q y) : wX0_withThrows x Q := by
  unfold wX0_withThrows
  intro x1 h1 x2 h2
  refine h _ (fun t m ht hm => ?_)
  have e1 : ∀ j, j < 8 → (lb x1 (8 * t + j) = true ↔ lb x (8 * t + j) = true ∨ (1 ≤ j ∧ lb x (8 * t + (j - 1)) = true)) := by
    intro j hj
    rw [h1, l_or, l_and, l_shl 1 (c := 1) rfl (by omega) x (by omega), th_m1 _ (by omega), show (8 * t + j) % 8 = j by omega]
    simp only [Bool.or_eq_true, Bool.and_eq_true, decide_eq_true_eq]
    constructor
    · rintro (z | ⟨⟨_, z⟩, z2⟩)
      · exact Or.inl z
      · exact Or.inr ⟨z2, by rw [show 8 * t + (j - 1) = 8 * t + j - 1 by omega]; exact z⟩
    · rintro (z | ⟨z2, z⟩)
      · exact Or.inl z
      · exact Or.inr ⟨⟨by omega, by rw [show 8 * t + j - 1 = 8 * t + (j - 1) by omega]; exact z⟩, z2⟩
  have e2 : ∀ j, j < 8 → (lb x2 (8 * t + j) = true ↔ lb x1 (8 * t + j) = true ∨ (2 ≤ j ∧ lb x1 (8 * t + (j - 2)) = true)) := by
    intro j hj
    rw [h2, l_or, l_and, l_shl 2 (c := 2) rfl (by omega) x1 (by omega), th_m2 _ (by omega), show (8 * t + j) % 8 = j by omega]
    simp only [Bool.or_eq_true, Bool.and_eq_true, decide_eq_true_eq]
    constructor
    · rintro (z | ⟨⟨_, z⟩, z2⟩)
      · exact Or.inl z
      · exact Or.inr ⟨z2, by rw [show 8 * t + (j - 2) = 8 * t + j - 2 by omega]; exact z⟩
    · rintro (z | ⟨z2, z⟩)
      · exact Or.inl z
      · exact Or.inr ⟨⟨by omega, by rw [show 8 * t + j - 2 = 8 * t + (j - 2) by omega]; exact z⟩, z2⟩
  rw [l_or, l_and, l_shl 4 (c := 4) rfl (by omega) x2 (by omega), th_m4 _ (by omega), show (8 * t + m) % 8 = m by omega]
  simp only [Bool.or_eq_true, Bool.and_eq_true, decide_eq_true_eq]
  constructor
  · intro z
    have z' : ∃ j, j ≤ m ∧ lb x2 (8 * t + j) = true ∧ (j = m ∨ 4 + j = m) := by
      rcases z with z | ⟨⟨_, z⟩, z2⟩
      · exact ⟨m, by omega, z, by omega⟩
      · exact ⟨m - 4, by omega, by rw [show 8 * t + (m - 4) = 8 * t + m - 4 by omega]; exact z, by omega⟩
    obtain ⟨j, g1, g2, _⟩ := z'
    rw [e2 j (by omega)] at g2
    have z2 : ∃ j, j ≤ m ∧ lb x1 (8 * t + j) = true := by
      rcases g2 with g | ⟨g, g'⟩
      · exact ⟨j, g1, g⟩
      · exact ⟨j - 2, by omega, g'⟩
    obtain ⟨k, k1, k2⟩ := z2
    rw [e1 k (by omega)] at k2
    rcases k2 with g | ⟨g, g'⟩
    · exact ⟨k, k1, g⟩
    · exact ⟨k - 1, by omega, g'⟩
  · rintro ⟨j, j1, j2⟩
    have a0 : ∀ k, k < 8 → lb x (8 * t + k) = true → lb x1 (8 * t + k) = true := fun k hk z => (e1 k hk).2 (Or.inl z)
    have a1 : ∀ k, k < 7 → lb x (8 * t + k) = true → lb x1 (8 * t + (k + 1)) = true := fun k hk z => (e1 (k + 1) (by omega)).2 (Or.inr ⟨by omega, z⟩)
    have b0 : ∀ k, k < 8 → lb x1 (8 * t + k) = true → lb x2 (8 * t + k) = true := fun k hk z => (e2 k hk).2 (Or.inl z)
    have b2 : ∀ k, k < 6 → lb x1 (8 * t + k) = true → lb x2 (8 * t + (k + 2)) = true := fun k hk z => (e2 (k + 2) (by omega)).2 (Or.inr ⟨by omega, z⟩)
    have s1 : ∀ d, d < 2 → j + d < 8 → lb x1 (8 * t + (j + d)) = true := by
      intro d hd hl
      rcases (show d = 0 ∨ d = 1 by omega) with rfl | rfl
      · exact a0 j (by omega) j2
      · exact a1 j (by omega) j2
    have s2 : ∀ d, d < 4 → j + d < 8 → lb x2 (8 * t + (j + d)) = true := by
      intro d hd hl
      by_cases c : d < 2
      · exact b0 _ hl (s1 d c hl)
      · have := b2 (j + (d - 2)) (by omega) (s1 (d - 2) (by omega) (by omega))
        rw [show j + (d - 2) + 2 = j + d by omega] at this
        exact this
    by_cases c : m - j < 4
    · left
      have := s2 (m - j) c (by omega)
      rw [show j + (m - j) = m by omega] at this
      exact this
    · right
      have := s2 (m - j - 4) (by omega) (by omega)
      rw [show 8 * t + (j + (m - j - 4)) = 8 * t + m - 4 by omega] at this
      exact ⟨⟨by omega, this⟩, by omega⟩
theorem c_holds (x : Int64) {m t : Nat} (hm : m < 8) (ht : t < 8) (Q : Bool → Prop) (h : Q (lb x (8 * t + m))) : wX0_holds x (nI m) (nI t) Q := by
  have e : (8 : Int32) * nI t + nI m = nI (8 * t + m) := by
    rw [show (8 : Int32) = nI 8 from rfl, pk_mul, nI_add]
  unfold wX0_holds
  rw [e]
  have key : lg_cmp (((x.toUInt64 >>> ((nI (8 * t + m)).toInt64.toUInt64 &&& Int64.toUInt64 63)).toInt64) &&& 1) 0 = 0 ↔ lb x (8 * t + m) = false := by
    rw [lgc_eq]
    constructor
    · intro z
      have e0 := congrArg (fun z => lb z 0) z
      simp only [l_and, l_ushr _ rfl (show 8 * t + m < 64 by omega), l_1 0 (by omega), l_0] at e0
      simpa using e0
    · intro z
      apply Int64.toBitVec_inj.1
      apply BitVec.eq_of_getLsbD_eq
      intro i hi
      show lb _ i = lb 0 i
      rw [l_and, l_ushr _ rfl (show 8 * t + m < 64 by omega), l_1 i hi, l_0]
      by_cases c : i = 0
      · subst c; rw [show 8 * t + m + 0 = 8 * t + m by omega, z]; rfl
      · rw [decide_eq_false c, Bool.and_false]
  rw [key]
  cases hb : lb x (8 * t + m) with
  | true => rw [hb] at h; exact sw_f (by decide) h
  | false => rw [hb] at h; exact sw_t rfl h
