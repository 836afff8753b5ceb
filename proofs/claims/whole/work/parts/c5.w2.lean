-- PURE: tests, the reference: its stack
def skO (f : Nat → Int32) : List Nat → Prop
  | [] => True
  | x :: r => f r.length = nI x ∧ skO f r
theorem skO_upd {f : Nat → Int32} {i : Nat} {v : Int32} : ∀ S : List Nat, S.length ≤ i → skO f S → skO (upd f i v) S := by
  intro S
  induction S with
  | nil => intro _ _; trivial
  | cons x r ih =>
    intro h1 h2
    simp only [List.length_cons] at h1
    exact ⟨by rw [upd_at, if_neg (by omega)]; exact h2.1, ih (by omega) h2.2⟩
def dpt : List Nat → Nat
  | [] => 0
  | x :: r => (if x = 11 ∨ x = 91 then 1 else 0) + dpt r
def opn : List Nat → Nat
  | [] => 0
  | x :: r => (if x = 91 then 0 else 1) + opn r
def okS (S : List Nat) : Prop := ∀ x, x ∈ S → x = 11 ∨ x = 12 ∨ x = 13 ∨ x = 91
def strN (x : Nat) : Nat := if x = 13 then 1 else if x = 12 then 2 else if x = 11 then 3 else 0
def stl (least : Nat) : List Nat → List Nat → List Nat × List Nat
  | [], ts => ([], ts)
  | x :: S, ts => if strN x < least then (x :: S, ts) else stl least S (ts ++ [x])
theorem opn_le : ∀ S : List Nat, opn S ≤ S.length := by
  intro S
  induction S with
  | nil => exact Nat.le_refl _
  | cons x r ih => rw [opn, List.length_cons]; split <;> omega
/-- the reference within a test: its stack S, the top first -/
def stT (c : Nat → Nat) (L k p m : Nat) (ts S : List Nat) (M : gS) : Prop := stR c L k p m ts M ∧ mg M 21 = nI S.length ∧ skO (ma M 20) S ∧ mg M 18 = nI (dpt S)
def fT (k : Nat) (M N : gS) : Prop := (∀ j, j ≠ 3 → j ≠ 4 → j ≠ 20 → ma N j = ma M j) ∧ (∀ j, (j < 400 * k ∨ 400 * k + 400 ≤ j) → ma N 3 j = ma M 3 j) ∧ (∀ j, j ≠ 13 → j ≠ 14 → j ≠ 15 → j ≠ 17 → j ≠ 18 → j ≠ 21 → mg N j = mg M j)
theorem fT_refl (k : Nat) (M : gS) : fT k M M := ⟨fun _ _ _ _ => rfl, fun _ _ => rfl, fun _ _ _ _ _ _ _ => rfl⟩
theorem fT_trans {k : Nat} {A B C : gS} (h : fT k A B) (g : fT k B C) : fT k A C := ⟨fun j a b c => (g.1 j a b c).trans (h.1 j a b c), fun j a => (g.2.1 j a).trans (h.2.1 j a), fun j a b c d e f => (g.2.2 j a b c d e f).trans (h.2.2 j a b c d e f)⟩
theorem fT_S {k : Nat} {M N : gS} (h : fS k M N) : fT k M N := ⟨fun j a b _ => h.1 j a b, h.2.1, fun j a b c d _ _ => h.2.2 j a b c d⟩
theorem fT_1 {k : Nat} {M N : gS} (h : fl1 M N) : fT k M N := fT_S (fS_1 h)
theorem fT_3 {k : Nat} {M N : gS} (h : fl3 M N) : fT k M N := fT_S (fS_3 h)
theorem fT_sg (k : Nat) (M : gS) {j : Nat} (hj : j = 13 ∨ j = 18 ∨ j = 21) (v : Int32) : fT k M (sg M j v) := ⟨fun _ _ _ _ => rfl, fun _ _ => rfl, fun i _ _ _ _ _ _ => by rw [mg_sg, if_neg (by omega)]⟩
theorem fT_sa (k : Nat) (M : gS) (i : Nat) (v : Int32) : fT k M (sa M 20 i v) := ⟨fun j _ _ c => by rw [ma_sa, if_neg c], fun j _ => by rw [ma_sa, if_neg (by decide)], fun _ _ _ _ _ _ _ => rfl⟩
theorem stT_S {c : Nat → Nat} {L k p m p' m' : Nat} {ts ts' S : List Nat} {M N : gS} (h : stT c L k p m ts S M) (hf : fS k M N) (hs : stR c L k p' m' ts' N) : stT c L k p' m' ts' S N :=
  ⟨hs, by rw [hf.2.2 21 (by decide) (by decide) (by decide) (by decide)]; exact h.2.1, by rw [hf.1 20 (by decide) (by decide)]; exact h.2.2.1, by rw [hf.2.2 18 (by decide) (by decide) (by decide) (by decide)]; exact h.2.2.2⟩
theorem stT_1 {c : Nat → Nat} {L k p m : Nat} {ts S : List Nat} {M N : gS} (h : stT c L k p m ts S M) (hf : fl1 M N) (h13 : mg N 13 = nI p) : stT c L k p m ts S N := stT_S h (fS_1 hf) (stR_1 h.1 hf h13)
theorem stT_at {c : Nat → Nat} {L k p p' m : Nat} {ts S : List Nat} {M N : gS} (h : stT c L k p m ts S M) (hf : fl1 M N) (ha : atP c L p' N) : stT c L k p' m ts S N := stT_S h (fS_1 hf) (stR_at h.1 hf ha)
theorem m_strength {x : Nat} (hx : x = 11 ∨ x = 12 ∨ x = 13 ∨ x = 91) {M : gS} (Q : Int32 → gS → Prop) (h : Q (nI (strN x)) M) : wX12_strength (nI x) M Q := by
  unfold wX12_strength
  rcases hx with rfl | rfl | rfl | rfl
  · exact sw_f (by decide) (sw_f (by decide) (sw_t rfl h))
  · exact sw_f (by decide) (sw_t rfl h)
  · exact sw_t rfl h
  · exact sw_f (by decide) (sw_f (by decide) (sw_f (by decide) h))
theorem m_settles_l {c : Nat → Nat} {L k p m : Nat} (hk : k < 6) {least : Nat} (h1 : 1 ≤ least) (h3 : least ≤ 3) {B : gS} (Q : gS → Prop) : ∀ S ts N, okS S → ts.length + opn S ≤ 400 → S.length ≤ 400 → fT k B N → mg N 13 = mg B 13 → stT c L k p m ts S N → (∀ N', fT k B N' → mg N' 13 = mg B 13 → stT c L k p m (stl least S ts).2 (stl least S ts).1 N' → Q N') → wX12_settles_0 Q (S.length + 1) (nI least) N := by
  intro S
  induction S with
  | nil =>
    intro ts N _ _ _ hf h13 hs h
    rw [wX12_settles_0, hs.2.1]
    exact sw_t (by show nI 0 ≤ 0; decide) (h N hf h13 hs)
  | cons x S ih =>
    intro ts N hok hl hl2 hf h13 hs h
    obtain ⟨s1, s2, s3, s4⟩ := id hs
    simp only [List.length_cons] at hl2 s2 ⊢
    have hx := hok x (by simp)
    rw [opn] at hl
    rw [wX12_settles_0, s2, nI_pred, nI_clamp (by omega), s3.1]
    refine sw_f (nI_nle (by omega) (by omega)) ⟨vp_in_nI (by omega) (by decide), m_strength hx _ ?_⟩
    have hst : strN x ≤ 3 := by unfold strN; split <;> (try omega); split <;> (try omega); split <;> omega
    rw [stl] at h
    by_cases e : strN x < least
    · rw [if_pos e] at h
      exact sw_t (nI_lt e (by omega)) (h N hf h13 hs)
    · rw [if_neg e] at h
      refine sw_f (nI_nlt (by omega) (by omega)) (fun x5 h5 M6 h6 => ?_)
      rw [s2, nI_pred] at h5
      have hx91 : x ≠ 91 := by
        intro z
        apply e
        rw [z]
        show 0 < least
        omega
      rw [if_neg hx91] at hl
      have m21 : mg M6 21 = nI S.length := by rw [h6, mg_sg, if_pos rfl, h5]
      have f6 : fT k N M6 := by rw [h6]; exact fT_sg k N (Or.inr (Or.inr rfl)) _
      have t6 : stR c L k p m ts M6 := by rw [h6]; exact s1
      have a6 : ma M6 20 S.length = nI x := by rw [h6]; exact s3.1
      rw [m21, nI_clamp (by omega), a6]
      refine ⟨vp_in_nI (by omega) (by decide), m_puts hk t6 (by omega) (s := x) (v := 0) rfl rfl _ (fun N8 f8 g8 e8 s8 => ?_)⟩
      rw [show x + 16 * 0 = x by omega] at s8
      have n21 : mg N8 21 = nI S.length := by rw [g8]; exact m21
      have n20 : ma N8 20 = ma N 20 := by rw [e8 20 (by decide) (by decide), h6]; rfl
      have n18 : mg N8 18 = nI (dpt (x :: S)) := by rw [g8, h6]; exact s4
      have n13 : mg N8 13 = mg B 13 := by rw [g8, h6]; exact h13
      have fr8 := fT_trans hf (fT_trans f6 (fT_S f8))
      rw [n21, nI_clamp (by omega), n20, s3.1]
      have okS' : okS S := fun y hy => hok y (by simp [hy])
      have lts : (ts ++ [x]).length = ts.length + 1 := by rw [List.length_append]; rfl
      refine ⟨vp_in_nI (by omega) (by decide), ?_⟩
      by_cases e11 : x = 11
      · refine sw_t (by rw [e11]; rfl) (fun x10 h10 M11 h11 => ?_)
        refine ih (ts ++ [x]) M11 okS' (by rw [lts]; omega) (by omega) (fT_trans fr8 (by rw [h11]; exact fT_sg k N8 (Or.inr (Or.inl rfl)) _)) (by rw [h11]; exact n13) ⟨by rw [h11]; exact s8, by rw [h11]; exact n21, by rw [h11]; show skO (ma N8 20) S; rw [n20]; exact s3.2, ?_⟩ h
        rw [h11, mg_sg, if_pos rfl, h10, n18, dpt, if_pos (Or.inl e11), Nat.add_comm 1, nI_pred]
      · refine sw_f (fun z => e11 ((nI_eq (by omega) (by omega)).1 (show nI x = nI 11 from z))) ?_
        refine ih (ts ++ [x]) N8 okS' (by rw [lts]; omega) (by omega) fr8 n13 ⟨s8, n21, by rw [n20]; exact s3.2, ?_⟩ h
        rw [n18, dpt, if_neg (by omega), Nat.zero_add]
theorem m_settles {c : Nat → Nat} {L k p m : Nat} (hk : k < 6) {least : Nat} (h1 : 1 ≤ least) (h3 : least ≤ 3) {S ts : List Nat} {M : gS} (hok : okS S) (hl : ts.length + opn S ≤ 400) (hl2 : S.length ≤ 400) (hs : stT c L k p m ts S M) (Q : gS → Prop) (h : ∀ N, fT k M N → mg N 13 = mg M 13 → stT c L k p m (stl least S ts).2 (stl least S ts).1 N → Q N) : wX12_settles (nI least) M Q :=
  ⟨S.length + 1, m_settles_l hk h1 h3 Q S ts M hok hl hl2 (fT_refl k M) rfl hs h⟩
theorem skO_mem {f : Nat → Int32} : ∀ S : List Nat, okS S → skO f S → (91 ∈ S ↔ ∃ i, i < S.length ∧ f i = 91) := by
  intro S
  induction S with
  | nil => intro _ _; exact ⟨fun z => absurd z (by simp), fun ⟨i, hi, _⟩ => absurd hi (Nat.not_lt_zero i)⟩
  | cons x r ih =>
    intro hok hs
    have ihr := ih (fun y hy => hok y (by simp [hy])) hs.2
    have hx := hok x (by simp)
    constructor
    · intro z
      rcases List.mem_cons.1 z with z | z
      · exact ⟨r.length, by simp, by rw [hs.1, ← z]; rfl⟩
      · obtain ⟨i, hi, e⟩ := ihr.1 z
        exact ⟨i, by simp only [List.length_cons]; omega, e⟩
    · rintro ⟨i, hi, e⟩
      simp only [List.length_cons] at hi
      by_cases z : i = r.length
      · rw [z, hs.1] at e
        have := (nI_eq (by omega) (by omega)).1 (show nI x = nI 91 from e)
        rw [this]
        simp
      · exact List.mem_cons_of_mem _ (ihr.2 ⟨i, by omega, e⟩)
theorem m_isInside {c : Nat → Nat} {L k p m : Nat} {S ts : List Nat} {M : gS} (hok : okS S) (hl : S.length ≤ 400) (hs : stT c L k p m ts S M) (Q : Bool → gS → Prop) (h : Q (decide (91 ∈ S)) M) : wX12_isInside M Q := by
  obtain ⟨s1, s2, s3, s4⟩ := hs
  have hm := skO_mem S hok s3
  have lp : ∀ n i, i + n = S.length → (∀ j, j < i → ¬ ma M 20 j = 91) → wX12_isInside_2 Q (n + 1) (nI i) M := by
    intro n
    induction n with
    | zero =>
      intro i hi hno
      rw [wX12_isInside_2, s2]
      refine sw_t (nI_le (by omega) (by omega)) ?_
      rw [decide_eq_false (fun z => by obtain ⟨j, hj, e⟩ := hm.1 z; exact hno j (by omega) e)] at h
      exact h
    | succ n ih =>
      intro i hi hno
      rw [wX12_isInside_2, s2, nI_clamp (by omega)]
      refine sw_f (nI_ge (by omega) (by omega)) ⟨vp_in_nI (by omega) (by decide), ?_⟩
      by_cases e : ma M 20 i = 91
      · rw [decide_eq_true (hm.2 ⟨i, by omega, e⟩)] at h
        exact sw_t e h
      · refine sw_f e (fun x3 h3 => ?_)
        rw [h3, nI_1]
        refine ih (i + 1) (by omega) (fun j hj => ?_)
        by_cases z : j = i
        · rw [z]; exact e
        · exact hno j (by omega)
  exact ⟨S.length + 1, lp S.length 0 (by omega) (fun j hj => absurd hj (Nat.not_lt_zero j))⟩
/-- what is opened -/
theorem m_opens {c : Nat → Nat} {L k p m : Nat} {S ts : List Nat} {M : gS} (h13 : mg M 13 = nI p) (hl : S.length < 400) (hd : dpt S ≤ 10) (hs : stT c L k p m ts S M) {x : Nat} (hx : x = 11 ∨ x = 91) (Q : Bool → gS → Prop) (h : dpt S < 10 → ∀ N, fT k M N → mg N 13 = mg M 13 → stT c L k p m ts (x :: S) N → Q true N) (hF : dpt S = 10 → ∀ N, fT k M N → mg N 14 = nI (1 + 8 * p + 2) → Q false N) : wX12_opens (nI x) M Q := by
  obtain ⟨s1, s2, s3, s4⟩ := hs
  unfold wX12_opens
  rw [s4]
  by_cases e : dpt S = 10
  · rw [h13]
    exact sw_t (by rw [e]; rfl) (m_fails s1.2.2.1 2 p _ (fun N f _ g => hF e N (fT_3 f) g))
  · refine sw_f (fun z => e ((nI_eq (by omega) (by omega)).1 (show nI (dpt S) = nI 10 from z))) (fun x2 h2 M3 h3 => ?_)
    have m21 : mg M3 21 = nI S.length := by rw [h3]; exact s2
    rw [m21, nI_clamp (by omega)]
    refine ⟨vp_in_nI hl (by decide), fun M4 h4 x5 h5 M6 h6 => ?_⟩
    have n21 : mg M4 21 = nI S.length := by rw [h4]; exact m21
    refine h (by omega) M6 ?_ (by rw [h6, h4, h3]; rfl) ⟨by rw [h6, h4, h3]; exact s1, ?_, ?_, ?_⟩
    · rw [h6, h4, h3]
      exact fT_trans (fT_sg k M (Or.inr (Or.inl rfl)) _) (fT_trans (fT_sa k _ _ _) (fT_sg k _ (Or.inr (Or.inr rfl)) _))
    · rw [h6, mg_sg, if_pos rfl, h5, n21, nI_1]; rfl
    · have e20 : ma M6 20 = upd (ma M 20) S.length (nI x) := by rw [h6, h4, h3]; rfl
      rw [e20]
      exact ⟨by rw [upd_at, if_pos rfl], skO_upd S (Nat.le_refl _) s3⟩
    · have e18 : mg M6 18 = x2 := by rw [h6, h4, h3]; rfl
      rw [e18, h2, nI_1, dpt, if_pos (by omega), Nat.add_comm 1]
theorem m_compare {c : Nat → Nat} {L k p m : Nat} {ts : List Nat} {M : gS} (hk : k < 6) (hs : stR c L k p m ts M) (hm : m ≤ 60) (hl : ts.length ≤ p) (Q : Bool → gS → Prop) (h1 : ∀ p' m' ts', pCmp c L p m ts = .inr (p', m', ts') → ∀ N, fS k M N → stR c L k p' m' ts' N → Q true N) (hF : ∀ f, pCmp c L p m ts = .inl f → ∀ N, fS k M N → mg N 14 = nI f → Q false N) : wX12_compare M Q := by
  have hp := atP_le hs.2.1
  have hL := hs.1.2.1
  have hcb : ∀ j, c j < 256 := fun j => (hs.1.2.2 j).1
  unfold pCmp at h1 hF
  unfold wX12_compare
  refine m_sum hk hs hm hl _ (fun p1 m1 t1 e1 N f s => bw_t ?_) (fun fl ef N f g => bw_f (hF fl (by rw [ef]; rfl) N f g))
  obtain ⟨a1, a2, a3, a4, _⟩ := pSum_t hp hm e1
  have al := addT_len (pSum_t hp hm e1)
  rw [e1] at h1 hF
  have h1 : ∀ p' m' ts', (match cmpK c L p1 with | none => (Sum.inl (1 + 8 * p1 + 0) : Sum Nat (Nat × Nat × List Nat)) | some k => if m1 = 60 then .inl (1 + 8 * p1 + 3) else bnd2 (pSum c L (nxP c L p1) (m1 + 1) t1) (fun b => .inr (b.1, b.2.1, b.2.2 ++ [6 + k]))) = .inr (p', m', ts') → ∀ N, fS k M N → stR c L k p' m' ts' N → Q true N := h1
  have hF : ∀ f, (match cmpK c L p1 with | none => (Sum.inl (1 + 8 * p1 + 0) : Sum Nat (Nat × Nat × List Nat)) | some k => if m1 = 60 then .inl (1 + 8 * p1 + 3) else bnd2 (pSum c L (nxP c L p1) (m1 + 1) t1) (fun b => .inr (b.1, b.2.1, b.2.2 ++ [6 + k]))) = .inl f → ∀ N, fS k M N → mg N 14 = nI f → Q false N := hF
  refine m_seeA s.1 s.2.1 _ (fun N2 f2 g2 x7 h7 => ?_)
  have s2' := stR_1 s f2 g2
  have fr2 := fS_trans f (fS_1 f2)
  rw [h7, g2]
  have sx := fun x hx => seV_x (c := c) (L := L) (p := p1) (x := x) (hcb p1) hx
  -- behind the sign
  have c105 : ∀ kk also N3, cmpK c L p1 = some kk → p1 < L → fS k M N3 → stR c L k (nxP c L p1) m1 t1 N3 → (kk = 0 ∧ c p1 = 60 ∧ also = 0 ∨ kk = 1 ∧ c p1 = 60 ∧ also = 1 ∨ kk = 2 ∧ c p1 = 61 ∨ kk = 3 ∧ c p1 = 62 ∧ also = 1 ∨ kk = 4 ∧ c p1 = 62 ∧ also = 0) → wX12_compare_105 Q (nI (c p1)) (nI p1) (nI also) N3 := by
    intro kk also N3 ek pL f3 s3 hkk
    rw [ek] at h1 hF
    have h1 : ∀ p' m' ts', (if m1 = 60 then Sum.inl (1 + 8 * p1 + 3) else bnd2 (pSum c L (nxP c L p1) (m1 + 1) t1) (fun b => .inr (b.1, b.2.1, b.2.2 ++ [6 + kk])) : Sum Nat (Nat × Nat × List Nat)) = .inr (p', m', ts') → ∀ N, fS k M N → stR c L k p' m' ts' N → Q true N := h1
    have hF : ∀ f, (if m1 = 60 then Sum.inl (1 + 8 * p1 + 3) else bnd2 (pSum c L (nxP c L p1) (m1 + 1) t1) (fun b => .inr (b.1, b.2.1, b.2.2 ++ [6 + kk])) : Sum Nat (Nat × Nat × List Nat)) = .inl f → ∀ N, fS k M N → mg N 14 = nI f → Q false N := hF
    have hgt := nxP_gt (c := c) pL
    have hnx := nxP_le (c := c) a2
    unfold wX12_compare_105
    refine m_makes s3 a4 _ (fun z N4 f4 _ _ _ s4 => bw_t ?_) (fun z N4 f4 g => bw_f (hF _ (by rw [if_pos z]) N4 (fS_trans f3 f4) g))
    rw [if_neg (by omega)] at h1 hF
    have c152 : ∀ y : Int32, y = nI kk → wX12_compare_152 Q y N4 := by
      intro y hy
      unfold wX12_compare_152
      refine m_sum hk s4 (by omega) (by omega) _ (fun p2 m2 t2 e2 N5 f5 s5 => bw_t ?_) (fun fl ef N5 f5 g => bw_f (hF fl (by rw [ef]; rfl) N5 (fS_trans f3 (fS_trans f4 f5)) g))
      obtain ⟨b1, b2, b3, b4, _⟩ := pSum_t hnx (by omega) e2
      have bl := addT_len (pSum_t hnx (by omega) e2)
      refine m_puts hk s5 (by omega) (s := 6 + kk) (v := 0) (by rw [hy]; exact nI_add 6 kk) rfl _ (fun N6 f6 _ _ s6 => ?_)
      rw [show 6 + kk + 16 * 0 = 6 + kk by omega] at s6
      exact h1 _ _ _ (by rw [e2]; rfl) N6 (fS_trans f3 (fS_trans f4 (fS_trans f5 f6))) s6
    rcases hkk with ⟨z1, z2, z3⟩ | ⟨z1, z2, z3⟩ | ⟨z1, z2⟩ | ⟨z1, z2, z3⟩ | ⟨z1, z2, z3⟩
    · exact sw_t (by rw [z2]; rfl) (sw_t (by rw [z3]; rfl) (c152 _ (by rw [z1]; rfl)))
    · exact sw_t (by rw [z2]; rfl) (sw_f (by rw [z3]; decide) (c152 _ (by rw [z1]; rfl)))
    · exact sw_f (by rw [z2]; decide) (sw_t (by rw [z2]; rfl) (c152 _ (by rw [z1]; rfl)))
    · exact sw_f (by rw [z2]; decide) (sw_f (by rw [z2]; decide) (sw_f (by rw [z3]; decide) (c152 _ (by rw [z1]; rfl))))
    · exact sw_f (by rw [z2]; decide) (sw_f (by rw [z2]; decide) (sw_t (by rw [z3]; rfl) (c152 _ (by rw [z1]; rfl))))
  have tk : ∀ b, s2 c L p1 = b → p1 < L → (c p1 = 60 ∨ c p1 = 61 ∨ c p1 = 62) → tkE c L p1 = if b = true then p1 + 2 else p1 + 1 := by
    intro b hb pL hc
    have b1 : bL c L p1 = false := by unfold bL; rw [decide_eq_false (show ¬ 97 ≤ c p1 by omega), Bool.false_and, Bool.and_false]
    have b2 : bD c L p1 = false := by unfold bD; rw [decide_eq_false (show ¬ c p1 ≤ 57 by omega), Bool.and_false, Bool.and_false]
    unfold tkE
    rw [if_pos pL, if_neg (by rw [b1]; decide), if_neg (by rw [b2]; decide), hb]
  have c44 : p1 < L → (c p1 = 60 ∨ c p1 = 61 ∨ c p1 = 62) → wX12_compare_44 Q (nI (c p1)) (nI p1) N2 := by
    intro pL hc
    unfold wX12_compare_44 wX12_compare_89 wX12_compare_90
    intro x1 hx1 N3 hN3
    have f3 : fl1 N2 N3 := by rw [hN3]; exact fl1_sg N2 _
    have g3 : mg N3 13 = nI (p1 + 1) := by rw [hN3, mg_sg, if_pos rfl, hx1, g2, nI_1]
    have t3 := txR_fl s2'.1 f3
    have fr3 := fS_trans fr2 (fS_1 f3)
    have st3 : s2 c L p1 = false → stR c L k (nxP c L p1) m1 t1 N3 := fun hb => stR_at s2' f3 ⟨p1 + 1, by omega, g3, by unfold nxP; rw [tk false hb pL hc]; rfl⟩
    by_cases e61 : c p1 = 61
    · have hb : s2 c L p1 = false := by unfold s2; rw [decide_eq_false (by omega), Bool.false_and]
      have ek : cmpK c L p1 = some 2 := by unfold cmpK; rw [if_pos pL, if_neg (by omega), if_pos e61]
      exact sw_t (by rw [e61]; rfl) (sw_t rfl (c105 2 0 N3 ek pL fr3 (st3 hb) (by omega)))
    · refine sw_f (fun z => e61 ((nI_eq (by have := hcb p1; omega) (by omega)).1 (show nI (c p1) = nI 61 from z))) ?_
      rw [t3.1, g3, nI_clamp (by omega)]
      have ekf : s2 c L p1 = false → ∃ kk, cmpK c L p1 = some kk ∧ (kk = 0 ∧ c p1 = 60 ∨ kk = 4 ∧ c p1 = 62) := by
        intro hb
        unfold cmpK
        rw [if_pos pL, hb]
        rcases hc with z | z | z
        · exact ⟨0, by rw [if_pos z]; rfl, Or.inl ⟨rfl, z⟩⟩
        · exact absurd z e61
        · exact ⟨4, by rw [if_neg (by omega), if_neg (by omega), if_pos z]; rfl, Or.inr ⟨rfl, z⟩⟩
      by_cases d : p1 + 1 < L
      · refine sw_f (nI_ge d (by omega)) ⟨vp_in_nI (by omega) (by decide), ?_⟩
        by_cases e : c (p1 + 1) = 61
        · have hb : s2 c L p1 = true := by unfold s2; rw [decide_eq_true (by omega), decide_eq_true d, decide_eq_true e]; rfl
          refine sw_t (by rw [(t3.2.2 (p1 + 1)).2.2.1 (by omega), e]; rfl) (sw_f (by decide) (fun x2 hx2 N4 hN4 => ?_))
          have f4 : fl1 N3 N4 := by rw [hN4]; exact fl1_sg N3 _
          have g4 : mg N4 13 = nI (p1 + 2) := by rw [hN4, mg_sg, if_pos rfl, hx2, nI_1]
          have s4 := stR_at s2' (fl1_trans f3 f4) (⟨p1 + 2, by omega, g4, by unfold nxP; rw [tk true hb pL hc]; rfl⟩ : atP c L (nxP c L p1) N4)
          have fr4 := fS_trans fr3 (fS_1 f4)
          rcases hc with z | z | z
          · exact c105 1 1 N4 (by unfold cmpK; rw [if_pos pL, if_pos z, if_pos hb]) pL fr4 s4 (by omega)
          · exact absurd z e61
          · exact c105 3 1 N4 (by unfold cmpK; rw [if_pos pL, if_neg (by omega), if_neg (by omega), if_pos z, if_pos hb]) pL fr4 s4 (by omega)
        · have hb : s2 c L p1 = false := by unfold s2; rw [decide_eq_false e, Bool.and_false, Bool.and_false]
          obtain ⟨kk, ek, hkk⟩ := ekf hb
          refine sw_f (fun z => ?_) (sw_t rfl (c105 kk 0 N3 ek pL fr3 (st3 hb) (by omega)))
          by_cases q : c (p1 + 1) < 128
          · rw [(t3.2.2 (p1 + 1)).2.2.1 q] at z
            exact e ((nI_eq (by omega) (by omega)).1 (show nI (c (p1 + 1)) = nI 61 from z))
          · have := (t3.2.2 (p1 + 1)).2.2.2 (by omega)
            rw [z] at this
            exact absurd this (by decide)
      · have hb : s2 c L p1 = false := by unfold s2; rw [decide_eq_false d, Bool.false_and, Bool.and_false]
        obtain ⟨kk, ek, hkk⟩ := ekf hb
        exact sw_t (nI_le (by omega) (by omega)) (sw_t rfl (c105 kk 0 N3 ek pL fr3 (st3 hb) (by omega)))
  by_cases e60 : p1 < L ∧ c p1 = 60
  · have ev := (sx 60 (by omega)).2 e60
    rw [ev]
    have := c44 e60.1 (Or.inl e60.2)
    rw [e60.2] at this
    exact sw_t rfl this
  by_cases e61 : p1 < L ∧ c p1 = 61
  · have ev := (sx 61 (by omega)).2 e61
    rw [ev]
    have := c44 e61.1 (Or.inr (Or.inl e61.2))
    rw [e61.2] at this
    exact sw_f (by decide) (sw_t rfl this)
  by_cases e62 : p1 < L ∧ c p1 = 62
  · have ev := (sx 62 (by omega)).2 e62
    rw [ev]
    have := c44 e62.1 (Or.inr (Or.inr e62.2))
    rw [e62.2] at this
    exact sw_f (by decide) (sw_f (by decide) (sw_t rfl this))
  have ek : cmpK c L p1 = none := by
    unfold cmpK
    by_cases a : p1 < L
    · rw [if_pos a, if_neg (fun z => e60 ⟨a, z⟩), if_neg (fun z => e61 ⟨a, z⟩), if_neg (fun z => e62 ⟨a, z⟩)]
    · rw [if_neg a]
  rw [ek] at hF
  exact sw_f (fun z => e60 ((sx 60 (by omega)).1 z)) (sw_f (fun z => e61 ((sx 61 (by omega)).1 z)) (sw_f (fun z => e62 ((sx 62 (by omega)).1 z)) (m_fails s2'.2.2.1 0 p1 _ (fun N3 f3 _ g => hF _ rfl N3 (fS_trans fr2 (fS_3 f3)) g))))
