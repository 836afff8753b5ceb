/-- a quarrel begins: a verse of v beats, side f first -/
def beginS (s : Nat → Int32) (v f : Nat) : Nat → Int32 := upd (upd (upd (upd (upd (upd (upd (upd (upd (upd s 3 1) 4 (nI v)) 5 (nI v)) 6 (nI f)) 7 0) 8 0) 14 9) 16 0) 15 9) 17 0
theorem m_begins (M : gS) (v f : Nat) (Q : gS → Prop) (h : Q (sF M 25 (beginS (ma M 25) v f))) : wX12_begins (nI v) (nI f) M Q := by
  unfold wX12_begins
  intro M1 h1 M2 h2 M3 h3 M4 h4 M5 h5 M6 h6
  refine ⟨3, ?_⟩
  rw [wX12_begins_47]
  refine ⟨fun c => absurd c (by decide), fun _ => ⟨vp_in_c (j := 14) (by decide) (by decide) (by decide), fun M7 h7 => ⟨vp_in_c (j := 16) (by decide) (by decide) (by decide), fun M8 h8 x hx => ?_⟩⟩⟩
  have ex : x = 1 := by rw [hx]; rfl
  subst ex
  rw [wX12_begins_47]
  refine ⟨fun c => absurd c (by decide), fun _ => ⟨vp_in_c (j := 15) (by decide) (by decide) (by decide), fun M9 h9 => ⟨vp_in_c (j := 17) (by decide) (by decide) (by decide), fun M10 h10 y hy => ?_⟩⟩⟩
  have ey : y = 2 := by rw [hy]; rfl
  subst ey
  rw [wX12_begins_47]
  refine ⟨fun _ => ?_, fun c => absurd (by decide) c⟩
  have e : M10 = sF M 25 (beginS (ma M 25) v f) := by
    subst h10 h9 h8 h7 h6 h5 h4 h3 h2 h1
    unfold beginS
    rw [show Int32.toNatClampNeg ((14 : Int32) + 0) = 14 by decide, show Int32.toNatClampNeg ((16 : Int32) + 0) = 16 by decide, show Int32.toNatClampNeg ((14 : Int32) + 1) = 15 by decide, show Int32.toNatClampNeg ((16 : Int32) + 1) = 17 by decide]
    simp only [sa_25, ma_sF1, sF_sF]
  rw [e]; exact h
theorem begin_keep {s : Nat → Int32} {v f j : Nat} (h : j < 3 ∨ (8 < j ∧ j < 14) ∨ 17 < j) : beginS s v f j = s j := by
  unfold beginS
  rw [upd_at, if_neg (by omega), upd_at, if_neg (by omega), upd_at, if_neg (by omega), upd_at, if_neg (by omega), upd_at, if_neg (by omega), upd_at, if_neg (by omega), upd_at, if_neg (by omega), upd_at, if_neg (by omega), upd_at, if_neg (by omega), upd_at, if_neg (by omega)]
theorem begin_wf {s : Nat → Int32} (hw : wfS s) {v f : Nat} (hv : v ≤ 72) (hf : f ≤ 1) : wfS (beginS s v f) := by
  have keep : ∀ j, (j < 3 ∨ (8 < j ∧ j < 14) ∨ 17 < j) → aN (beginS s v f) j = aN s j := fun j h => by unfold aN; rw [begin_keep h]
  refine ⟨?_, fun j hj => ?_, fun j hj => ?_, fun j hj => ?_, fun j hj => ?_⟩
  · unfold beginS
    refine wf_upd (wf_upd (wf_upd (wf_upd (wf_upd (wf_upd (wf_upd (wf_upd (wf_upd (wf_upd hw.1 ?_) ?_) ?_) ?_) ?_) ?_) ?_) ?_) ?_) ?_
    · intro _; exact nI_ok (n := 1) (b := 1) (by omega) (by decide)
    · intro _; exact nI_ok (b := 72) (by omega) (by decide)
    · intro _; exact nI_ok (b := 200) (by omega) (by decide)
    · intro _; exact nI_ok (b := 1) (by omega) (by decide)
    · intro h; exact absurd h (by decide)
    · intro _; exact nI_ok (n := 0) (b := 2) (by omega) (by decide)
    · intro _; exact nI_ok (n := 9) (b := 9) (by omega) (by decide)
    · intro h; exact absurd h (by decide)
    · intro _; exact nI_ok (n := 9) (b := 9) (by omega) (by decide)
    · intro h; exact absurd h (by decide)
  · right
    have e : ∀ t, t < 2 → beginS s v f (14 + t) = 9 := by
      intro t ht
      rcases (show t = 0 ∨ t = 1 by omega) with rfl | rfl <;> rfl
    unfold aN
    rw [e j hj]; decide
  · rw [keep 1 (by omega)] at hj
    rw [keep (28 + j) (by omega)]; exact hw.2.2.1 j hj
  · rw [keep 0 (by omega)] at hj
    rw [keep (20 + 2 * j) (by omega), keep (21 + 2 * j) (by omega)]; exact hw.2.2.2.1 j hj
  · rw [keep 10 (by omega)] at hj
    rw [keep (32 + 2 * j) (by omega)]; exact hw.2.2.2.2 j hj
theorem begin_C {s : Nat → Int32} {Mc : gS} {v f : Nat} (hw : wfS s) (h : relC s Mc) : relC (beginS s v f) Mc :=
  relC_keep hw h (fun k hk => begin_keep (by unfold isCr at hk; omega))
theorem begin_spk {s : Nat → Int32} {v f : Nat} : spk (beginS s v f) := Or.inl rfl
/-- the verse of tune t -/
def verseN (s : Nat → Int32) (t : Nat) : Nat := aN s (20 + 2 * t) * aN s (21 + 2 * t)
theorem verse_le {s : Nat → Int32} (hw : wfS s) {t : Nat} (h : t < 4) : verseN s t ≤ 72 := by
  have h1 : ∀ t, t < 4 → isB (20 + 2 * t) = true ∧ bnd (20 + 2 * t) = 9 ∧ isB (21 + 2 * t) = true ∧ bnd (21 + 2 * t) = 8 := by decide
  obtain ⟨a1, a2, a3, a4⟩ := h1 t h
  have c1 := hw.b _ a1; have c2 := hw.b _ a3
  rw [a2] at c1; rw [a4] at c2
  unfold verseN
  exact Nat.le_trans (Nat.mul_le_mul c1 c2) (by decide)
theorem m_verseOf (M : gS) (hw : wfS (ma M 25)) (t : Nat) (h4 : t < 4) (Q : Int32 → gS → Prop) (h : Q (nI (verseN (ma M 25) t)) M) : wX12_verseOf (nI t) M Q := by
  have h1 : ∀ t, t < 4 → isB (20 + 2 * t) = true ∧ isB (21 + 2 * t) = true := by decide
  obtain ⟨a1, a3⟩ := h1 t h4
  have i1 : (20 : Int32) + (2 : Int32) * nI t = nI (20 + 2 * t) := by
    rw [show (2 : Int32) = nI 2 from rfl, pk_mul]; exact nI_add 20 _
  have i2 : nI (20 + 2 * t) + 1 = nI (21 + 2 * t) := by rw [nI_1]; congr 1; omega
  unfold wX12_verseOf
  rw [i1, i2, nI_clamp (by omega), nI_clamp (by omega), hw.n _ a1, hw.n _ a3, pk_mul]
  exact ⟨vp_in_nI (by omega) (by omega), vp_in_nI (by omega) (by omega), h⟩
