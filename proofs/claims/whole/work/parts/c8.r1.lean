-- PURE: rule(), the reference
theorem pTst_b {c : Nat → Nat} {L p m : Nat} {ts : List Nat} (hL : L ≤ 400) (hp : p ≤ L) (hm : m ≤ 60) : (∀ p' m' ts', pTst (pFc c L 10) c L p m ts = .inr (p', m', ts') → addT L p m p' m' 0 ts ts' [] true) ∧ (∀ f, pTst (pFc c L 10) c L p m ts = .inl f → 1 ≤ f ∧ f < 10000) :=
  ⟨fun _ _ _ h => pTL_t (pFc_ok (c := c) hL 10) _ _ _ _ _ _ _ _ _ hp hm h, fun _ h => pTL_f (pFc_ok (c := c) hL 10) _ _ _ _ _ _ _ (by omega) hp hm h⟩
/-- what a test adds -/
def okG (seg : List Nat) : Prop := seg = [] ∨ (1 ≤ seg.length ∧ (∀ x, x ∈ seg → tokOK x) ∧ vls seg ≤ 60 ∧ tyL seg [] = some [true])
theorem addT_g {L p m p' m' : Nat} {ts ts' : List Nat} (h : addT L p m p' m' 0 ts ts' [] true) : p < p' ∧ p' ≤ L ∧ m' ≤ 60 ∧ ∃ seg, ts' = ts ++ seg ∧ seg.length + p ≤ p' ∧ okG seg ∧ seg ≠ [] := by
  obtain ⟨a1, a2, a3, a4, seg, e, h1, h2, h3, h4⟩ := h
  have ne : seg ≠ [] := fun z => by
    have := h4 []
    rw [z] at this
    exact absurd this (by simp [tyL])
  refine ⟨a1, a2, a4, seg, e, by omega, Or.inr ⟨?_, h2, by omega, h4 []⟩, ne⟩
  rcases seg with _ | ⟨x, r⟩
  · exact absurd rfl ne
  · simp
theorem pIf_t {c : Nat → Nat} {L d q m : Nat} {ts : List Nat} (hL : L ≤ 400) (hq : q ≤ L) (hm : m ≤ 60) : (∀ d' p' m' ts', pIf c L d q m ts = .inr (d', p', m', ts') → d' = d ∧ q ≤ p' ∧ p' ≤ L ∧ m' ≤ 60 ∧ ∃ seg, ts' = ts ++ seg ∧ seg.length + q ≤ p' ∧ okG seg) ∧ (∀ f, pIf c L d q m ts = .inl f → 1 ≤ f ∧ f < 10000) := by
  unfold pIf
  have hnx := nxP_le (c := c) hq
  have hge := nxP_ge (c := c) hq
  obtain ⟨b1, b2⟩ := pTst_b (c := c) (ts := ts) hL hnx hm
  split
  · cases e : pTst (pFc c L 10) c L (nxP c L q) m ts with
    | inl f => exact ⟨fun d' p' m' ts' h => absurd h (by simp [bnd2]), fun f' h => by rw [← Sum.inl.inj h]; exact b2 f e⟩
    | inr a =>
      obtain ⟨p', m', ts'⟩ := a
      refine ⟨fun d' p'' m'' ts'' h => ?_, fun f' h => absurd h (by simp [bnd2])⟩
      have h' : (d, p', m', ts') = (d', p'', m'', ts'') := Sum.inr.inj h
      simp only [Prod.mk.injEq] at h'
      obtain ⟨rfl, rfl, rfl, rfl⟩ := h'
      obtain ⟨a1, a2, a3, seg, e1, e2, e3, _⟩ := addT_g (b1 _ _ _ e)
      exact ⟨rfl, by omega, a2, a3, seg, e1, by omega, e3⟩
  · refine ⟨fun d' p'' m'' ts'' h => ?_, fun f' h => absurd h (by simp)⟩
    have h' : (d, q, m, ts) = (d', p'', m'', ts'') := Sum.inr.inj h
    simp only [Prod.mk.injEq] at h'
    obtain ⟨rfl, rfl, rfl, rfl⟩ := h'
    exact ⟨rfl, Nat.le_refl _, hq, hm, [], by simp, by simp, Or.inl rfl⟩
theorem pDo_t {c : Nat → Nat} {L p : Nat} (hL : L ≤ 400) (hp : p < L) : (∀ d q, pDo c L p = .inr (d, q) → d ≤ 5 ∧ p < q ∧ q ≤ L) ∧ (∀ f, pDo c L p = .inl f → 1 ≤ f ∧ f < 10000) := by
  have hnx := nxP_le (c := c) (Nat.le_of_lt hp)
  have hgt := nxP_gt (c := c) hp
  have hge := nxP_ge (c := c) hnx
  have hn2 := nxP_le (c := c) hnx
  have hk := numK_le c L (nxP c L p)
  unfold pDo
  split
  · refine ⟨fun d q h => ?_, fun f h => ?_⟩
    · obtain ⟨_, _, e, _, ha⟩ := pNum_b h
      omega
    · obtain ⟨_, e⟩ := pNum_f h
      omega
  · refine ⟨fun d q h => ?_, fun f h => absurd h (by simp)⟩
    have h' := Sum.inr.inj h
    simp only [Prod.mk.injEq] at h'
    obtain ⟨e1, e2⟩ := h'
    refine ⟨?_, by omega, by omega⟩
    rw [← e1]
    split <;> omega
theorem isDo_lt {c : Nat → Nat} {L p : Nat} (h : isDo (lsW c L p)) : p < L := by
  rcases h with z | z | z
  · exact ls_lt ok_say z
  · exact ls_lt ok_throw z
  · exact ls_lt ok_still z
theorem pCl_t {c : Nat → Nat} {L i p m : Nat} {ts : List Nat} (hL : L ≤ 400) (hp : p ≤ L) (hm : m ≤ 60) : (∀ d' p' m' ts', pCl c L i p m ts = .inr (d', p', m', ts') → d' ≤ 5 ∧ p ≤ p' ∧ p' ≤ L ∧ m' ≤ 60 ∧ ∃ seg, ts' = ts ++ seg ∧ seg.length + p ≤ p' ∧ okG seg) ∧ (∀ f, pCl c L i p m ts = .inl f → 1 ≤ f ∧ f < 10000) := by
  unfold pCl
  by_cases e0 : isDo (lsW c L p)
  · have hpL := isDo_lt e0
    obtain ⟨d1, d2⟩ := pDo_t (c := c) hL hpL
    rw [if_pos e0]
    by_cases e12 : i = 12
    · rw [if_pos e12]
      exact ⟨fun _ _ _ _ h => absurd h (by simp), fun f h => by have := Sum.inl.inj h; omega⟩
    · rw [if_neg e12]
      cases e : pDo c L p with
      | inl f => exact ⟨fun d' p' m' ts' h => absurd h (by simp [bnd2]), fun f' h => by rw [← Sum.inl.inj h]; exact d2 f e⟩
      | inr a =>
        obtain ⟨d, q⟩ := a
        obtain ⟨q1, q2, q3⟩ := d1 d q e
        obtain ⟨i1, i2⟩ := pIf_t (c := c) (d := d) (ts := ts) hL q3 hm
        refine ⟨fun d' p' m' ts' h => ?_, fun f' h => i2 f' h⟩
        obtain ⟨r1, r2, r3, r4, seg, r5, r6, r7⟩ := i1 d' p' m' ts' h
        exact ⟨by omega, by omega, r3, r4, seg, r5, by omega, r7⟩
  · rw [if_neg e0]
    exact ⟨fun _ _ _ _ h => absurd h (by simp), fun f h => by have := Sum.inl.inj h; omega⟩
def bd (ds : List (Nat × Nat)) (i : Nat) : Nat := if i = 0 then 0 else (ds.getD (i - 1) (0, 0)).2
theorem bd_app {ds : List (Nat × Nat)} {x : Nat × Nat} {i : Nat} (h : i ≤ ds.length) : bd (ds ++ [x]) i = bd ds i := by
  unfold bd
  split
  · rfl
  · rw [gd_app (by omega)]
theorem bd_last (ds : List (Nat × Nat)) (x : Nat × Nat) : bd (ds ++ [x]) (ds.length + 1) = x.2 := by
  unfold bd
  rw [if_neg (by omega), Nat.add_sub_cancel, gd_last]
def dR (d : Nat) : Int32 := if d < 4 then 0 else if d = 4 then 1 else 2
/-- a clause's row: what it does, the number said, where its test begins, where it ends -/
def rowR (A : Nat → Int32) (j d a e : Nat) : Prop := A j = dR d ∧ (d < 4 → A (j + 1) = nI d) ∧ A (j + 2) = (if a = e then -1 else nI a) ∧ A (j + 3) = nI e
theorem rowR_u {A : Nat → Int32} {j d a e x : Nat} (v : Int32) (h : rowR A j d a e) (hx : j + 4 ≤ x) : rowR (upd A x v) j d a e := ⟨by rw [upd_at, if_neg (by omega)]; exact h.1, fun z => by rw [upd_at, if_neg (by omega)]; exact h.2.1 z, by rw [upd_at, if_neg (by omega)]; exact h.2.2.1, by rw [upd_at, if_neg (by omega)]; exact h.2.2.2⟩
def clQ (k : Nat) (ds : List (Nat × Nat)) (M : gS) : Prop := ma M 6 k = nI ds.length ∧ ∀ i, i < ds.length → rowR (ma M 5) (48 * k + 4 * i) (ds.getD i (0, 0)).1 (bd ds i) (bd ds (i + 1))
def fR (k : Nat) (M N : gS) : Prop := (∀ j, j ≠ 3 → j ≠ 4 → j ≠ 5 → j ≠ 6 → j ≠ 20 → ma N j = ma M j) ∧ (∀ j, (j < 400 * k ∨ 400 * k + 400 ≤ j) → ma N 3 j = ma M 3 j) ∧ (∀ j, (j < 48 * k ∨ 48 * k + 48 ≤ j) → ma N 5 j = ma M 5 j) ∧ (∀ j, j ≠ k → ma N 6 j = ma M 6 j) ∧ (∀ j, j ≠ 13 → j ≠ 14 → j ≠ 15 → j ≠ 17 → j ≠ 18 → j ≠ 19 → j ≠ 21 → mg N j = mg M j)
theorem fR_T {k : Nat} {M N : gS} (h : fT k M N) : fR k M N := ⟨fun j a b _ _ c => h.1 j a b c, h.2.1, fun j _ => by rw [h.1 5 (by decide) (by decide) (by decide)], fun j _ => by rw [h.1 6 (by decide) (by decide) (by decide)], fun j a b c d e _ f => h.2.2 j a b c d e f⟩
theorem fR_refl (k : Nat) (M : gS) : fR k M M := fR_T (fT_refl k M)
theorem fR_trans {k : Nat} {A B C : gS} (h : fR k A B) (g : fR k B C) : fR k A C := ⟨fun j a b c d e => (g.1 j a b c d e).trans (h.1 j a b c d e), fun j a => (g.2.1 j a).trans (h.2.1 j a), fun j a => (g.2.2.1 j a).trans (h.2.2.1 j a), fun j a => (g.2.2.2.1 j a).trans (h.2.2.2.1 j a), fun j a b c d e f i => (g.2.2.2.2 j a b c d e f i).trans (h.2.2.2.2 j a b c d e f i)⟩
theorem fR_5 {k : Nat} (M : gS) {i : Nat} (hi : 48 * k ≤ i ∧ i < 48 * k + 48) (v : Int32) : fR k M (sa M 5 i v) := ⟨fun j _ _ c _ _ => by rw [ma_sa, if_neg c], fun j _ => by rw [ma_sa, if_neg (by decide)], fun j hj => by rw [ma_sa, if_pos rfl, upd_at, if_neg (by omega)], fun j _ => by rw [ma_sa, if_neg (by decide)], fun _ _ _ _ _ _ _ _ => rfl⟩
theorem fR_6 {k : Nat} (M : gS) (v : Int32) : fR k M (sa M 6 k v) := ⟨fun j _ _ _ c _ => by rw [ma_sa, if_neg c], fun j _ => by rw [ma_sa, if_neg (by decide)], fun j _ => by rw [ma_sa, if_neg (by decide)], fun j hj => by rw [ma_sa, if_pos rfl, upd_at, if_neg hj], fun _ _ _ _ _ _ _ _ => rfl⟩
theorem fR_19 {k : Nat} (M : gS) (v : Int32) : fR k M (sg M 19 v) := ⟨fun _ _ _ _ _ _ => rfl, fun _ _ => rfl, fun _ _ => rfl, fun _ _ => rfl, fun j _ _ _ _ _ a _ => by rw [mg_sg, if_neg a]⟩
theorem stR_3 {c : Nat → Nat} {L k p p' m : Nat} {ts : List Nat} {M N : gS} (h : stR c L k p m ts M) (hf : fl3 M N) (h14 : mg N 14 = 0) (ha : atP c L p' N) : stR c L k p' m ts N := by
  obtain ⟨a1, a2, a3, a4, a5, a6⟩ := h
  refine ⟨txR_fl3 a1 hf, ha, h14, by rw [hf.2 16 (by decide) (by decide) (by decide)]; exact a4, by rw [hf.2 17 (by decide) (by decide) (by decide)]; exact a5, ?_⟩
  unfold rkR at *
  rw [hf.1]
  exact a6
/-- a clause under way -/
def cuQ (k : Nat) (ds : List (Nat × Nat)) (A : Nat → Int32) (M : gS) : Prop := ma M 6 k = nI ds.length ∧ mg M 19 = nI (ds.length + 1) ∧ ma M 5 = A
theorem cuQ_T {k : Nat} {ds : List (Nat × Nat)} {A : Nat → Int32} {M N : gS} (h : cuQ k ds A M) (f : fT k M N) : cuQ k ds A N := by
  unfold cuQ at *
  rw [f.1 6 (by decide) (by decide) (by decide), f.1 5 (by decide) (by decide) (by decide), f.2.2 19 (by decide) (by decide) (by decide) (by decide) (by decide) (by decide)]
  exact h
theorem m_112 {c : Nat → Nat} {L k p m d a : Nat} {ts : List Nat} {ds : List (Nat × Nat)} {A : Nat → Int32} {M : gS} (hk : k < 6) (hn : ds.length < 12) (hl : ts.length ≤ 400) (hs : stR c L k p m ts M) (hc : cuQ k ds A M) (ha : a = bd ds ds.length) (h0 : A (48 * k + 4 * ds.length) = dR d) (h1 : d < 4 → A (48 * k + 4 * ds.length + 1) = nI d) (h2 : A (48 * k + 4 * ds.length + 2) = (if a = ts.length then -1 else nI a)) (hA : ∀ i, i < ds.length → rowR A (48 * k + 4 * i) (ds.getD i (0, 0)).1 (bd ds i) (bd ds (i + 1))) (Q : Bool → gS → Prop) (h : ∀ N, fR k M N → stR c L k p m ts N → mg N 19 = nI (ds.length + 1) → clQ k (ds ++ [(d, ts.length)]) N → Q true N) : wX12_isDoingHere_112 Q (nI (48 * k + 4 * ds.length)) M := by
  obtain ⟨a1, a2, a3, a4, a5, r4, r3⟩ := id hs
  obtain ⟨c1, c2, c3⟩ := hc
  unfold wX12_isDoingHere_112
  rw [a4, nI_clamp (show k < 2 ^ 31 by omega), show nI (48 * k + 4 * ds.length) + (3 : Int32) = nI (48 * k + 4 * ds.length + 3) from nI_add _ 3, nI_clamp (show 48 * k + 4 * ds.length + 3 < 2 ^ 31 by omega)]
  refine ⟨vp_in_nI (by omega) (by decide), fun x1 h1' => ⟨vp_in_nI (by omega) (by decide), fun M2 e2 => ?_⟩⟩
  have m16 : mg M2 16 = nI k := by rw [e2]; exact a4
  have m6 : ma M2 6 k = nI ds.length := by rw [e2]; exact c1
  rw [m16, nI_clamp (show k < 2 ^ 31 by omega), m6, nI_1]
  refine ⟨vp_in_nI (by omega) (by decide), fun x3 h3 => ⟨vp_in_nI (by omega) (by decide), fun M4 e4 => ?_⟩⟩
  have e5 : ma M4 5 = upd A (48 * k + 4 * ds.length + 3) (nI ts.length) := by rw [e4, e2, h1', r4, ← c3]; rfl
  refine h M4 ?_ (by rw [e4, e2]; exact hs) (by rw [e4, e2]; exact c2) ⟨?_, fun i hi => ?_⟩
  · rw [e4, e2]
    exact fR_trans (fR_5 M (by omega) _) (fR_6 _ _)
  · rw [e4, ma_sa, if_pos rfl, upd_at, if_pos rfl, h3, gd_len]
  · rw [gd_len] at hi
    rw [e5]
    by_cases z : i = ds.length
    · rw [z, gd_last, bd_app (Nat.le_refl _), bd_last, ← ha]
      unfold rowR
      rw [upd_at, upd_at, upd_at, upd_at, if_neg (by omega), if_neg (by omega), if_neg (by omega), if_pos rfl]
      exact ⟨h0, h1, h2, rfl⟩
    · rw [gd_app (by omega), bd_app (by omega), bd_app (by omega)]
      exact rowR_u _ (hA i (by omega)) (by omega)
theorem w_if : (26982 : Int64) = lN (cdL Wif) := (fa_litL 26982).trans (congrArg lN (by decide))
theorem w_say : (7561593 : Int64) = lN (cdL Wsay) := (fa_litL 7561593).trans (congrArg lN (by decide))
theorem w_throw : (499968536439 : Int64) = lN (cdL Wthrow) := (fa_litL 499968536439).trans (congrArg lN (by decide))
theorem w_still : (495874305132 : Int64) = lN (cdL Wstill) := (fa_litL 495874305132).trans (congrArg lN (by decide))
theorem m_67 {c : Nat → Nat} {L k q m d : Nat} {ts : List Nat} {ds : List (Nat × Nat)} {A : Nat → Int32} {M : gS} (hk : k < 6) (hn : ds.length < 12) (hm : m ≤ 60) (hl : ts.length ≤ q) (hs : stR c L k q m ts M) (hc : cuQ k ds A M) (ha : ts.length = bd ds ds.length) (h0 : A (48 * k + 4 * ds.length) = dR d) (h1 : d < 4 → A (48 * k + 4 * ds.length + 1) = nI d) (hA : ∀ i, i < ds.length → rowR A (48 * k + 4 * i) (ds.getD i (0, 0)).1 (bd ds i) (bd ds (i + 1))) (Q : Bool → gS → Prop) (hQ1 : ∀ d' p' m' ts', pIf c L d q m ts = .inr (d', p', m', ts') → ∀ N, fR k M N → stR c L k p' m' ts' N → mg N 19 = nI (ds.length + 1) → clQ k (ds ++ [(d', ts'.length)]) N → Q true N) (hQ2 : ∀ f, pIf c L d q m ts = .inl f → ∀ N, fR k M N → mg N 14 = nI f → Q false N) : wX12_isDoingHere_67 Q (nI (48 * k + 4 * ds.length)) M := by
  have hL := hs.1.2.1
  have hq := atP_le hs.2.1
  unfold wX12_isDoingHere_67
  rw [show nI (48 * k + 4 * ds.length) + (2 : Int32) = nI (48 * k + 4 * ds.length + 2) from nI_add _ 2, nI_clamp (show 48 * k + 4 * ds.length + 2 < 2 ^ 31 by omega)]
  refine ⟨vp_in_nI (by omega) (by decide), fun M1 e1 => ?_⟩
  have s1 : stR c L k q m ts M1 := by rw [e1]; exact hs
  have f1 : fR k M M1 := by rw [e1]; exact fR_5 M (by omega) _
  have c1 : cuQ k ds (upd A (48 * k + 4 * ds.length + 2) (-1)) M1 := ⟨by rw [e1]; exact hc.1, by rw [e1]; exact hc.2.1, by rw [e1, ← hc.2.2]; rfl⟩
  have rA : ∀ (A' : Nat → Int32) v, (∀ i, i < ds.length → rowR A' (48 * k + 4 * i) (ds.getD i (0, 0)).1 (bd ds i) (bd ds (i + 1))) → ∀ i, i < ds.length → rowR (upd A' (48 * k + 4 * ds.length + 2) v) (48 * k + 4 * i) (ds.getD i (0, 0)).1 (bd ds i) (bd ds (i + 1)) := fun A' v hA' i hi => rowR_u _ (hA' i hi) (by omega)
  have u0 : ∀ (A' : Nat → Int32) v, upd A' (48 * k + 4 * ds.length + 2) v (48 * k + 4 * ds.length) = A' (48 * k + 4 * ds.length) := fun A' v => by rw [upd_at, if_neg (by omega)]
  have u1 : ∀ (A' : Nat → Int32) v, upd A' (48 * k + 4 * ds.length + 2) v (48 * k + 4 * ds.length + 1) = A' (48 * k + 4 * ds.length + 1) := fun A' v => by rw [upd_at, if_neg (by omega)]
  have u2 : ∀ (A' : Nat → Int32) v, upd A' (48 * k + 4 * ds.length + 2) v (48 * k + 4 * ds.length + 2) = v := fun A' v => by rw [upd_at, if_pos rfl]
  unfold pIf at hQ1 hQ2
  unfold wX12_takesWord
  refine m_isWordA s1.1 s1.2.1 ok_if w_if _ (fun N2 f2 g2 => ?_)
  have s2 := stR_1 s1 f2 g2
  have c2 := cuQ_T c1 (fT_1 f2)
  by_cases e : lsW c L q = Wif
  · rw [if_pos e] at hQ1 hQ2
    rw [decide_eq_true e]
    have pL := ls_lt ok_if e
    have hgt := nxP_gt (c := c) pL
    have hnx := nxP_le (c := c) hq
    refine bw_t (m_passA s2.1 hq g2 ok_if e _ (fun N3 f3 a3 => bw_t ?_))
    have s3 := stR_at s2 f3 a3
    have c3 := cuQ_T c2 (fT_1 f3)
    obtain ⟨b1, b2, b3, b4, b5, r4, r3⟩ := id s3
    rw [b4, nI_clamp (show k < 2 ^ 31 by omega), r4]
    refine ⟨vp_in_nI (by omega) (by decide), fun x6 h6 => ⟨vp_in_nI (by omega) (by decide), fun M7 e7 => ?_⟩⟩
    have s7 : stR c L k (nxP c L q) m ts M7 := by rw [e7]; exact s3
    have c7 : cuQ k ds (upd (upd A (48 * k + 4 * ds.length + 2) (-1)) (48 * k + 4 * ds.length + 2) (nI ts.length)) M7 := ⟨by rw [e7]; exact c3.1, by rw [e7]; exact c3.2.1, by rw [e7, h6, ← c3.2.2]; rfl⟩
    have f7 : fR k M M7 := fR_trans f1 (fR_trans (fR_T (fT_1 f2)) (fR_trans (fR_T (fT_1 f3)) (by rw [e7]; exact fR_5 _ (by omega) _)))
    refine m_tested hk s7 hm (by omega) _ (fun p' m' ts' ee N f s => bw_t ?_) (fun fl ef N f g => bw_f (hQ2 fl (by rw [ef]; rfl) N (fR_trans f7 (fR_T f)) g))
    obtain ⟨q1, q2, q3, seg, q4, q5, q6, q7⟩ := addT_g ((pTst_b hL hnx hm).1 _ _ _ ee)
    have sl : 1 ≤ seg.length := by
      rcases q6 with z | z
      · exact absurd z q7
      · exact z.1
    have ll : ts'.length = ts.length + seg.length := by rw [q4, List.length_append]
    refine m_112 hk hn (by omega) s (cuQ_T c7 f) ha (by rw [u0, u0]; exact h0) (fun z => by rw [u1, u1]; exact h1 z) (by rw [u2, if_neg (by omega)]) (rA _ _ (rA _ _ hA)) Q (fun N' f' s' g' c' => ?_)
    exact hQ1 d p' m' ts' (by rw [ee]; rfl) N' (fR_trans f7 (fR_trans (fR_T f) f')) s' g' c'
  · rw [if_neg e] at hQ1
    rw [decide_eq_false e]
    refine bw_f (bw_f ?_)
    refine m_112 (d := d) hk hn (by omega) s2 c2 ha (by rw [u0]; exact h0) (fun z => by rw [u1]; exact h1 z) (by rw [u2, if_pos rfl]) (rA _ _ hA) Q (fun N' f' s' g' c' => ?_)
    exact hQ1 d q m ts rfl N' (fR_trans f1 (fR_trans (fR_T (fT_1 f2)) f')) s' g' c'
