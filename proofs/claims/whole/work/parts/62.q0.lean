-- PURE: the reference's row 'said' (its array 25), as numbers
def aN (s : Nat → Int32) (k : Nat) : Nat := (s k).toNatClampNeg
/-- how large the numbers of 'said' are, by place (those that are not listed are not bounded) -/
def bnd (k : Nat) : Nat := ([4, 4, 9, 1, 72, 200, 1, 0, 2, 0, 6, 2147483647, 7, 7, 9, 9, 0, 0, 0, 0, 9, 8, 9, 8, 9, 8, 9, 8, 9, 9, 9, 9, 999, 99, 999, 99, 999, 99, 999, 99, 999, 99, 999, 99] : List Nat).getD k 0
def isB (k : Nat) : Bool := decide (k < 44) && !([7, 9, 16, 17, 18, 19].contains k)
/-- a row 'said' as the reference keeps it -/
def wfS (s : Nat → Int32) : Prop := (∀ k, isB k = true → 0 ≤ s k ∧ aN s k ≤ bnd k) ∧ (∀ j, j < 2 → aN s (14 + j) < 4 ∨ aN s (14 + j) = 9) ∧ (∀ j, j < aN s 1 → 1 ≤ aN s (28 + j)) ∧ (∀ j, j < aN s 0 → 1 ≤ aN s (20 + 2 * j) ∧ 1 ≤ aN s (21 + 2 * j)) ∧ (∀ j, j < aN s 10 → 1 ≤ aN s (32 + 2 * j))
theorem aN_eq {s : Nat → Int32} {k : Nat} (h : 0 ≤ s k) : s k = nI (aN s k) := by
  have h1 : ¬ s k < 0 := by
    rw [Int32.lt_iff_toInt_lt]; rw [Int32.le_iff_toInt_le] at h; omega
  obtain ⟨j, hj, e⟩ := nI_of h1
  unfold aN
  rw [e, nI_clamp hj]
theorem wfS.n {s : Nat → Int32} (h : wfS s) (k : Nat) (hk : isB k = true) : s k = nI (aN s k) := aN_eq (h.1 k hk).1
theorem wfS.b {s : Nat → Int32} (h : wfS s) (k : Nat) (hk : isB k = true) : aN s k ≤ bnd k := (h.1 k hk).2
theorem isB_28 : ∀ w, w < 4 → isB (28 + w) = true := by decide
theorem isB_14 : ∀ w, w < 2 → isB (14 + w) = true := by decide
theorem isB_12 : ∀ w, w < 2 → isB (12 + w) = true := by decide
theorem bnd_28 : ∀ w, w < 4 → bnd (28 + w) = 9 := by decide
theorem bnd_14 : ∀ w, w < 2 → bnd (14 + w) = 9 := by decide
theorem bnd_12 : ∀ w, w < 2 → bnd (12 + w) = 7 := by decide
/-- BEATS that word w takes for the side whose turn it is -/
def costN (s : Nat → Int32) (w : Nat) : Nat := aN s (28 + w) + (if aN s (14 + aN s 6) = w then aN s 2 else 0)
def canSayN (s : Nat → Int32) (w : Nat) : Bool := decide (w < aN s 1) && decide (costN s w ≤ aN s 5)
def canThrowN (s : Nat → Int32) : Bool := decide (0 < aN s (12 + aN s 6)) && decide (aN s 5 + aN s 4 ≤ 200)
def canDoN (s : Nat → Int32) : Bool := (List.range (aN s 1)).any (canSayN s) || canThrowN s
theorem m_canSay (M : gS) (hw : wfS (ma M 25)) (w : Nat) (h4 : w < 4) (Q : Bool → gS → Prop) (h : Q (canSayN (ma M 25) w) M) : wX12_canSay (nI w) M Q := by
  have b1 := hw.b 1 rfl; have b2 := hw.b 2 rfl; have b5 := hw.b 5 rfl; have b6 := hw.b 6 rfl
  have bw := hw.b (28 + w) (isB_28 w h4); rw [bnd_28 w h4] at bw
  simp only [bnd] at b1 b2 b5 b6
  have h6 : aN (ma M 25) 6 < 2 := by
    have : aN (ma M 25) 6 ≤ 1 := b6
    omega
  have bl := hw.b (14 + aN (ma M 25) 6) (isB_14 _ h6); rw [bnd_14 _ h6] at bl
  have e1 := hw.n 1 rfl; have e2 := hw.n 2 rfl; have e5 := hw.n 5 rfl; have e6 := hw.n 6 rfl
  have ew := hw.n (28 + w) (isB_28 w h4); have el := hw.n (14 + aN (ma M 25) 6) (isB_14 _ h6)
  have i28 : (28 : Int32) + nI w = nI (28 + w) := nI_add 28 w
  have i14 : (14 : Int32) + nI (aN (ma M 25) 6) = nI (14 + aN (ma M 25) 6) := nI_add 14 _
  have b1 : aN (ma M 25) 1 ≤ 4 := b1
  have b2 : aN (ma M 25) 2 ≤ 9 := b2
  have b5 : aN (ma M 25) 5 ≤ 200 := b5
  have key : ∀ z : Nat, z ≤ 9 → (canSayN (ma M 25) w = (decide (w < aN (ma M 25) 1) && decide (aN (ma M 25) (28 + w) + z ≤ aN (ma M 25) 5))) → w < aN (ma M 25) 1 → wX12_canSay_48 Q (ma M 25 (28 + w)) (nI z) M := by
    intro z hz hc hlt
    unfold wX12_canSay_48
    rw [ew, e5, nI_add]
    refine ⟨fun c => ?_, fun c => ?_⟩
    · rw [nI_ltI (by omega) (by omega)] at c
      have : canSayN (ma M 25) w = false := by rw [hc]; simp; intro _; omega
      rw [this] at h; exact h
    · rw [nI_ltI (by omega) (by omega)] at c
      have : canSayN (ma M 25) w = true := by rw [hc]; simp; omega
      rw [this] at h; exact h
  unfold wX12_canSay
  rw [e1, e6, i28, i14, nI_clamp (by omega), nI_clamp (by omega)]
  refine ⟨fun c => ?_, fun c => ?_⟩
  · rw [nI_leI (by omega) (by omega)] at c
    have : canSayN (ma M 25) w = false := by unfold canSayN; simp; omega
    rw [this] at h; exact h
  · rw [nI_leI (by omega) (by omega)] at c
    refine ⟨vp_in_nI (by omega) (by omega), vp_in_nI (by omega) (by omega), fun c2 => ?_, fun c2 => ?_⟩
    · rw [el, nI_eq (by omega) (by omega)] at c2
      rw [e2]
      exact key _ b2 (by unfold canSayN costN; rw [if_pos c2]) (by omega)
    · rw [el, nI_eq (by omega) (by omega)] at c2
      exact key 0 (by omega) (by unfold canSayN costN; rw [if_neg c2]) (by omega)
theorem m_canThrow (M : gS) (hw : wfS (ma M 25)) (Q : Bool → gS → Prop) (h : Q (canThrowN (ma M 25)) M) : wX12_canThrow M Q := by
  have b4 : aN (ma M 25) 4 ≤ 72 := hw.b 4 rfl
  have b5 : aN (ma M 25) 5 ≤ 200 := hw.b 5 rfl
  have b6 : aN (ma M 25) 6 ≤ 1 := hw.b 6 rfl
  have h6 : aN (ma M 25) 6 < 2 := by omega
  have bp := hw.b (12 + aN (ma M 25) 6) (isB_12 _ h6); rw [bnd_12 _ h6] at bp
  have e4 := hw.n 4 rfl; have e5 := hw.n 5 rfl; have e6 := hw.n 6 rfl
  have ep := hw.n (12 + aN (ma M 25) 6) (isB_12 _ h6)
  have i12 : (12 : Int32) + nI (aN (ma M 25) 6) = nI (12 + aN (ma M 25) 6) := nI_add 12 _
  unfold wX12_canThrow
  rw [e6, i12, nI_clamp (by omega), ep, e4, e5, nI_add]
  refine ⟨vp_in_nI (by omega) (by omega), fun c => ?_, fun c => ?_⟩
  · rw [show (0 : Int32) = nI 0 from rfl, nI_leI (by omega) (by omega)] at c
    have : canThrowN (ma M 25) = false := by unfold canThrowN; simp; omega
    rw [this] at h; exact h
  · rw [show (0 : Int32) = nI 0 from rfl, nI_leI (by omega) (by omega)] at c
    refine ⟨fun c2 => ?_, fun c2 => ?_⟩
    · rw [show (200 : Int32) = nI 200 from rfl, nI_ltI (by omega) (by omega)] at c2
      have : canThrowN (ma M 25) = false := by unfold canThrowN; simp; omega
      rw [this] at h; exact h
    · rw [show (200 : Int32) = nI 200 from rfl, nI_ltI (by omega) (by omega)] at c2
      have : canThrowN (ma M 25) = true := by unfold canThrowN; simp; omega
      rw [this] at h; exact h
