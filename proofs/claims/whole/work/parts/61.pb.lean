-- PURE: reading what was written
theorem mg_sg (M : gS) (k : Nat) (v : Int32) (j : Nat) : mg (sg M k v) j = if j = k then v else mg M j := rfl
theorem mg_sx (M : gS) (k : Nat) (v : Int64) (j : Nat) : mg (sx M k v) j = mg M j := rfl
theorem mg_sa (M : gS) (k i : Nat) (v : Int32) (j : Nat) : mg (sa M k i v) j = mg M j := rfl
theorem mg_sl (M : gS) (k i : Nat) (v : Int64) (j : Nat) : mg (sl M k i v) j = mg M j := rfl
theorem mg_sF (M : gS) (k : Nat) (f : Nat → Int32) (j : Nat) : mg (sF M k f) j = mg M j := rfl
theorem mx_sg (M : gS) (k : Nat) (v : Int32) (j : Nat) : mx (sg M k v) j = mx M j := rfl
theorem mx_sx (M : gS) (k : Nat) (v : Int64) (j : Nat) : mx (sx M k v) j = if j = k then v else mx M j := rfl
theorem mx_sa (M : gS) (k i : Nat) (v : Int32) (j : Nat) : mx (sa M k i v) j = mx M j := rfl
theorem mx_sl (M : gS) (k i : Nat) (v : Int64) (j : Nat) : mx (sl M k i v) j = mx M j := rfl
theorem mx_sF (M : gS) (k : Nat) (f : Nat → Int32) (j : Nat) : mx (sF M k f) j = mx M j := rfl
theorem ma_sg (M : gS) (k : Nat) (v : Int32) (j : Nat) : ma (sg M k v) j = ma M j := rfl
theorem ma_sx (M : gS) (k : Nat) (v : Int64) (j : Nat) : ma (sx M k v) j = ma M j := rfl
theorem ma_sl (M : gS) (k i : Nat) (v : Int64) (j : Nat) : ma (sl M k i v) j = ma M j := rfl
theorem ma_sa (M : gS) (k i : Nat) (v : Int32) (j : Nat) : ma (sa M k i v) j = if j = k then upd (ma M k) i v else ma M j := rfl
theorem ma_sF (M : gS) (k : Nat) (f : Nat → Int32) (j : Nat) : ma (sF M k f) j = if j = k then f else ma M j := rfl
theorem ml_sg (M : gS) (k : Nat) (v : Int32) (j : Nat) : ml (sg M k v) j = ml M j := rfl
theorem ml_sx (M : gS) (k : Nat) (v : Int64) (j : Nat) : ml (sx M k v) j = ml M j := rfl
theorem ml_sa (M : gS) (k i : Nat) (v : Int32) (j : Nat) : ml (sa M k i v) j = ml M j := rfl
theorem ml_sl (M : gS) (k i : Nat) (v : Int64) (j : Nat) : ml (sl M k i v) j = if j = k then vp_updL (ml M k) i v else ml M j := rfl
theorem ml_sF (M : gS) (k : Nat) (f : Nat → Int32) (j : Nat) : ml (sF M k f) j = ml M j := rfl
theorem upd_at (f : Nat → Int32) (k : Nat) (v : Int32) (j : Nat) : upd f k v j = if j = k then v else f j := rfl
theorem bI_t : bI true = 1 := rfl
theorem bI_f : bI false = 0 := rfl
theorem bI_0 (b : Bool) : bI b = 0 ↔ b = false := by cases b <;> decide
/-- the same row of a group, set to what it is, is the group -/
theorem sF_self (M : gS) (k : Nat) : sF M k (ma M k) = M := by
  obtain ⟨a, b, c, d⟩ := M
  unfold sF ma va_up
  simp only
  congr 3
  funext j
  by_cases h : j = k
  · subst h; simp
  · simp [h]
-- comparisons of longs
theorem lgc_lt (x y : Int64) : lg_cmp x y < 0 ↔ x < y := by
  have h := lg_cmp_ge x y
  rw [Int32.le_iff_toInt_le, Int64.le_iff_toInt_le] at h
  rw [Int32.lt_iff_toInt_lt, Int64.lt_iff_toInt_lt]
  have e : (0 : Int32).toInt = 0 := by decide
  rw [e] at h ⊢
  omega
theorem lgc_gt (x y : Int64) : 0 < lg_cmp x y ↔ y < x := by
  unfold lg_cmp
  by_cases h : y < x
  · rw [if_pos h]; exact ⟨fun _ => h, fun _ => by decide⟩
  · rw [if_neg h]
    by_cases e : x = y
    · rw [if_pos e]; exact ⟨fun z => absurd z (by decide), fun z => absurd z h⟩
    · rw [if_neg e]; exact ⟨fun z => absurd z (by decide), fun z => absurd z h⟩
theorem lgc_eq (x y : Int64) : lg_cmp x y = 0 ↔ x = y := by
  unfold lg_cmp
  by_cases h : y < x
  · rw [if_pos h]
    refine ⟨fun z => absurd z (by decide), fun z => ?_⟩
    subst z
    rw [Int64.lt_iff_toInt_lt] at h
    omega
  · rw [if_neg h]
    by_cases e : x = y
    · rw [if_pos e]; exact ⟨fun _ => e, fun _ => rfl⟩
    · rw [if_neg e]; exact ⟨fun z => absurd z (by decide), fun z => absurd z e⟩
/-- 'in' of the reference -/
theorem m_in (v lo hi : Int64) (M : gS) (Q : Bool → gS → Prop) (h : Q (decide (lo ≤ v) && decide (v ≤ hi)) M) : wX12_in v lo hi M Q := by
  unfold wX12_in
  refine ⟨fun c => ?_, fun c => ?_⟩
  · rw [lgc_lt] at c
    have e : ¬ lo ≤ v := by rw [Int64.le_iff_toInt_le]; rw [Int64.lt_iff_toInt_lt] at c; omega
    simpa [e] using h
  · rw [lgc_lt] at c
    have e : lo ≤ v := by rw [Int64.le_iff_toInt_le]; rw [Int64.lt_iff_toInt_lt] at c; omega
    refine ⟨fun c2 => ?_, fun c2 => ?_⟩
    · rw [lgc_gt] at c2
      have e2 : ¬ v ≤ hi := by rw [Int64.le_iff_toInt_le]; rw [Int64.lt_iff_toInt_lt] at c2; omega
      simpa [e, e2] using h
    · rw [lgc_gt] at c2
      have e2 : v ≤ hi := by rw [Int64.le_iff_toInt_le]; rw [Int64.lt_iff_toInt_lt] at c2; omega
      simpa [e, e2] using h
