-- PURE: rules
/-- a token, as the reference keeps it: sort + 16 * value -/
def tokOK (t : Nat) : Prop := (t % 16 = 0 ∧ t / 16 ≤ 99999) ∨ (t % 16 = 1 ∧ t / 16 ≤ 8) ∨ (2 ≤ t % 16 ∧ t % 16 ≤ 13 ∧ t / 16 = 0)
/-- the class's code of it -/
def cod (t : Nat) : Int32 := if t % 16 = 0 then nI (t / 16) else if t % 16 = 1 then -1 - nI (t / 16) else -8 - nI (t % 16)
def opL (o : Nat) (x y : Int64) : Int64 := if o = 2 then x + y else if o = 3 then x - y else if o = 4 then x * y else if o = 5 then (if y = 0 then 0 else x / y) else if o = 6 then (if x < y then 1 else 0) else if o = 7 then (if x ≤ y then 1 else 0) else if o = 8 then (if x = y then 1 else 0) else if o = 9 then (if y ≤ x then 1 else 0) else if o = 10 then (if y < x then 1 else 0) else if o = 12 then x &&& y else x ||| y
def ownI (s : Nat → Int32) (k : Nat) : Int32 := if k = 0 then s 6 else if k = 1 then s 5 else if k = 2 then s 4 else if k = 3 then s (12 + aN s 6) else if k = 4 then s (12 + (1 - aN s 6)) else if k = 5 then s (14 + aN s 6) else if k = 6 then s (14 + (1 - aN s 6)) else if k = 7 then s (16 + aN s 6) else s 7
def evT (s : Nat → Int32) (st : List Int64) (t : Nat) : List Int64 :=
  if t % 16 = 0 then (nI (t / 16)).toInt64 :: st
  else if t % 16 = 1 then (ownI s (t / 16)).toInt64 :: st
  else if t % 16 = 11 then (match st with | x :: r => (1 - x) :: r | [] => [])
  else (match st with | y :: x :: r => opL (t % 16) x y :: r | q => q)
def evN (s : Nat → Int32) (τ : Nat → Nat) : Nat → Nat → List Int64 → List Int64
  | 0, _, st => st
  | n + 1, i, st => evN s τ n (i + 1) (evT s st (τ i))
def tyT (ty : List Bool) (t : Nat) : Option (List Bool) :=
  if t % 16 = 0 then some (false :: ty)
  else if t % 16 = 1 then some (false :: ty)
  else if t % 16 = 11 then (match ty with | true :: r => some (true :: r) | _ => none)
  else if t % 16 ≤ 5 then (match ty with | false :: false :: r => some (false :: r) | _ => none)
  else if t % 16 ≤ 10 then (match ty with | false :: false :: r => some (true :: r) | _ => none)
  else (match ty with | true :: true :: r => some (true :: r) | _ => none)
def tyN (τ : Nat → Nat) : Nat → Nat → List Bool → Option (List Bool)
  | 0, _, ty => some ty
  | n + 1, i, ty => match tyT ty (τ i) with
    | none => none
    | some ty' => if ty'.length ≤ 60 then tyN τ n (i + 1) ty' else none
def typd : List Int64 → List Bool → Prop
  | [], [] => True
  | x :: a, b :: c => (b = true → x = 0 ∨ x = 1) ∧ typd a c
  | _, _ => False
def stkR (f : Nat → Int64) : List Int64 → Prop
  | [] => True
  | x :: r => f r.length = x ∧ stkR f r
theorem typd_len : ∀ (st : List Int64) (ty : List Bool), typd st ty → st.length = ty.length := by
  intro st
  induction st with
  | nil => intro ty h; cases ty with
    | nil => rfl
    | cons _ _ => exact h.elim
  | cons x a ih => intro ty h; cases ty with
    | nil => exact h.elim
    | cons b c => simp only [List.length_cons]; rw [ih c h.2]
theorem stkR_upd {f : Nat → Int64} {i : Nat} {v : Int64} : ∀ (st : List Int64), st.length ≤ i → stkR f st → stkR (vp_updL f i v) st := by
  intro st
  induction st with
  | nil => intro _ _; trivial
  | cons x r ih =>
    intro h1 h2
    simp only [List.length_cons] at h1
    refine ⟨?_, ih (by omega) h2.2⟩
    show (if r.length = i then v else f r.length) = x
    rw [if_neg (by omega)]; exact h2.1
theorem stkR_push {f : Nat → Int64} {v : Int64} {st : List Int64} (h : stkR f st) : stkR (vp_updL f st.length v) (v :: st) := by
  refine ⟨?_, stkR_upd st (Nat.le_refl _) h⟩
  show (if st.length = st.length then v else f st.length) = v
  rw [if_pos rfl]
theorem b01_and : ∀ x y : Int64, (x = 0 ∨ x = 1) → (y = 0 ∨ y = 1) → (x &&& y = 0 ∨ x &&& y = 1) ∧ (x ||| y = 0 ∨ x ||| y = 1) := by
  intro x y hx hy
  rcases hx with rfl | rfl <;> rcases hy with rfl | rfl <;> decide
theorem ite01 (c : Prop) [Decidable c] : (if c then (1 : Int64) else 0) = 0 ∨ (if c then (1 : Int64) else 0) = 1 := by
  split
  · exact Or.inr rfl
  · exact Or.inl rfl
theorem op_b {o : Nat} (h1 : 6 ≤ o) (h2 : o ≤ 10) (x y : Int64) : opL o x y = 0 ∨ opL o x y = 1 := by
  rcases (show o = 6 ∨ o = 7 ∨ o = 8 ∨ o = 9 ∨ o = 10 by omega) with rfl | rfl | rfl | rfl | rfl
  · exact ite01 (x < y)
  · exact ite01 (x ≤ y)
  · exact ite01 (x = y)
  · exact ite01 (y ≤ x)
  · exact ite01 (y < x)
/-- what is typed stays typed -/
theorem typd_step {s : Nat → Int32} {t : Nat} (ht : tokOK t) {st : List Int64} {ty ty' : List Bool} (h : typd st ty) (h2 : tyT ty t = some ty') : typd (evT s st t) ty' := by
  unfold tyT at h2
  unfold evT
  by_cases c0 : t % 16 = 0
  · rw [if_pos c0] at h2 ⊢
    rw [← Option.some.inj h2]
    exact ⟨fun z => absurd z (by decide), h⟩
  rw [if_neg c0] at h2 ⊢
  by_cases c1 : t % 16 = 1
  · rw [if_pos c1] at h2 ⊢
    rw [← Option.some.inj h2]
    exact ⟨fun z => absurd z (by decide), h⟩
  rw [if_neg c1] at h2 ⊢
  by_cases c11 : t % 16 = 11
  · rw [if_pos c11] at h2 ⊢
    match ty, st, h, h2 with
    | true :: r, x :: a, h, h2 =>
      rw [← Option.some.inj h2]
      refine ⟨fun _ => ?_, h.2⟩
      rcases h.1 rfl with z | z
      · rw [z]; exact Or.inr (by decide)
      · rw [z]; exact Or.inl (by decide)
  rw [if_neg c11] at h2 ⊢
  have h13 : t % 16 ≤ 13 := by unfold tokOK at ht; omega
  by_cases c5 : t % 16 ≤ 5
  · rw [if_pos c5] at h2
    match ty, st, h, h2 with
    | false :: false :: r, y :: x :: a, h, h2 =>
      rw [← Option.some.inj h2]
      exact ⟨fun z => absurd z (by decide), h.2.2⟩
  rw [if_neg c5] at h2
  by_cases c10 : t % 16 ≤ 10
  · rw [if_pos c10] at h2
    match ty, st, h, h2 with
    | false :: false :: r, y :: x :: a, h, h2 =>
      rw [← Option.some.inj h2]
      exact ⟨fun _ => op_b (by omega) c10 x y, h.2.2⟩
  rw [if_neg c10] at h2
  match ty, st, h, h2 with
  | true :: true :: r, y :: x :: a, h, h2 =>
    rw [← Option.some.inj h2]
    refine ⟨fun _ => ?_, h.2.2⟩
    have := b01_and x y (h.2.1 rfl) (h.1 rfl)
    rcases (show t % 16 = 12 ∨ t % 16 = 13 by omega) with z | z
    · rw [z]; exact this.1
    · rw [z]; exact this.2
/-- the frame of all that a run of the reference does -/
def frm (M N : gS) : Prop := (∀ k, k ≠ 25 → ma N k = ma M k) ∧ (∀ k, k ≠ 23 → k ≠ 26 → mg N k = mg M k) ∧ (∀ k, mx N k = mx M k)
theorem frm_refl (M : gS) : frm M M := ⟨fun _ _ => rfl, fun _ _ _ => rfl, fun _ => rfl⟩
theorem frm_trans {A B C : gS} (h : frm A B) (g : frm B C) : frm A C := ⟨fun k hk => (g.1 k hk).trans (h.1 k hk), fun k h1 h2 => (g.2.1 k h1 h2).trans (h.2.1 k h1 h2), fun k => (g.2.2 k).trans (h.2.2 k)⟩
theorem frm_sg (M : gS) (v : Int32) : frm M (sg M 23 v) := ⟨fun _ _ => rfl, fun k h _ => by rw [mg_sg, if_neg h], fun _ => rfl⟩
theorem frm_sl (M : gS) (k i : Nat) (v : Int64) : frm M (sl M k i v) := ⟨fun _ _ => rfl, fun _ _ _ => rfl, fun _ => rfl⟩
theorem frm_sF (M : gS) (f : Nat → Int32) : frm M (sF M 25 f) := ⟨fun k h => by rw [ma_sF, if_neg h], fun _ _ _ => rfl, fun _ => rfl⟩
theorem frm_end (M : gS) : frm M (endM M) := ⟨fun k h => by unfold endM; rw [ma_sF, if_neg h]; rfl, fun k h1 h2 => by unfold endM; rw [mg_sF, mg_sg, if_neg h2], fun _ => rfl⟩
theorem frm_look (M : gS) : frm M (lookM M) := by
  unfold lookM
  split
  · exact frm_refl M
  · exact frm_end M
theorem m_push {M : gS} {st : List Int64} (hl : st.length < 64) (h23 : mg M 23 = nI st.length) (hs : stkR (ml M 22) st) (v : Int64) (Q : gS → Prop) (hQ : ∀ N, frm M N → ma N = ma M → ml N 24 = ml M 24 → mg N 23 = nI (v :: st).length → stkR (ml N 22) (v :: st) → Q N) : wX12_push v M Q := by
  unfold wX12_push
  rw [h23, nI_clamp (by omega)]
  refine ⟨vp_in_nI hl (by decide), fun M1 h1 x2 h2 M3 h3 => hQ M3 ?_ ?_ ?_ ?_ ?_⟩
  · rw [h3, h1]; exact frm_trans (frm_sl M 22 _ v) (frm_sg _ _)
  · rw [h3, h1]; rfl
  · rw [h3, h1]; rfl
  · have : mg M1 23 = nI st.length := by rw [h1]; exact h23
    rw [h3, h2, this, nI_1]; rfl
  · have e : ml M3 22 = vp_updL (ml M 22) st.length v := by rw [h3, h1]; rfl
    rw [e]; exact stkR_push hs
theorem m_pop {M : gS} {v : Int64} {st : List Int64} (hl : st.length < 64) (h23 : mg M 23 = nI (v :: st).length) (hs : stkR (ml M 22) (v :: st)) (Q : Int64 → gS → Prop) (hQ : ∀ N, frm M N → ma N = ma M → ml N 24 = ml M 24 → mg N 23 = nI st.length → stkR (ml N 22) st → Q v N) : wX12_pop M Q := by
  unfold wX12_pop
  intro x1 h1 M2 h2
  have e1 : x1 = nI st.length := by
    rw [h1, h23]
    show nI (st.length + 1) - 1 = _
    rw [nI_pred]
  have e23 : mg M2 23 = nI st.length := by rw [h2, e1]; rfl
  rw [e23, nI_clamp (by omega)]
  have ev : ml M2 22 st.length = v := by rw [h2]; exact hs.1
  refine ⟨vp_in_nI hl (by decide), ?_⟩
  rw [ev]
  refine hQ M2 ?_ ?_ ?_ e23 ?_
  · rw [h2]; exact frm_sg _ _
  · rw [h2]; rfl
  · rw [h2]; rfl
  · rw [h2]; exact hs.2
theorem m_one {M : gS} {o : Nat} (h2 : 2 ≤ o) (h13 : o ≤ 13) (h11 : o ≠ 11) (x y : Int64) (Q : Int64 → gS → Prop) (hQ : Q (opL o x y) M) : wX12_one (nI o) x y M Q := by
  have ne : ∀ k : Nat, k < 100 → (nI o = nI k ↔ o = k) := fun k hk => nI_eq (by omega) (by omega)
  unfold wX12_one
  unfold opL at hQ
  by_cases c2 : o = 2
  · rw [if_pos c2] at hQ; exact sw_t ((ne 2 (by omega)).2 c2) hQ
  rw [if_neg c2] at hQ; refine sw_f (fun z => c2 ((ne 2 (by omega)).1 z)) ?_
  by_cases c3 : o = 3
  · rw [if_pos c3] at hQ; exact sw_t ((ne 3 (by omega)).2 c3) hQ
  rw [if_neg c3] at hQ; refine sw_f (fun z => c3 ((ne 3 (by omega)).1 z)) ?_
  by_cases c4 : o = 4
  · rw [if_pos c4] at hQ; exact sw_t ((ne 4 (by omega)).2 c4) hQ
  rw [if_neg c4] at hQ; refine sw_f (fun z => c4 ((ne 4 (by omega)).1 z)) ?_
  by_cases c5 : o = 5
  · rw [if_pos c5] at hQ; refine sw_t ((ne 5 (by omega)).2 c5) ?_
    rw [lgc_eq]
    by_cases z : y = 0
    · rw [if_pos z] at hQ; exact sw_t z hQ
    · rw [if_neg z] at hQ; exact sw_f z ⟨z, hQ⟩
  rw [if_neg c5] at hQ; refine sw_f (fun z => c5 ((ne 5 (by omega)).1 z)) ?_
  by_cases c6 : o = 6
  · rw [if_pos c6] at hQ; refine sw_t ((ne 6 (by omega)).2 c6) ?_
    have e : (0 ≤ lg_cmp x y) ↔ ¬ x < y := by rw [← lgc_lt, nlt_le]
    by_cases z : x < y
    · rw [if_pos z] at hQ; exact sw_f (fun k => e.1 k z) hQ
    · rw [if_neg z] at hQ; exact sw_t (e.2 z) hQ
  rw [if_neg c6] at hQ; refine sw_f (fun z => c6 ((ne 6 (by omega)).1 z)) ?_
  have lt64 : ∀ a b : Int64, a ≤ b ↔ ¬ b < a := by
    intro a b; rw [Int64.le_iff_toInt_le, Int64.lt_iff_toInt_lt]; omega
  by_cases c7 : o = 7
  · rw [if_pos c7] at hQ; refine sw_t ((ne 7 (by omega)).2 c7) ?_
    rw [lgc_gt]
    by_cases z : x ≤ y
    · rw [if_pos z] at hQ; exact sw_f ((lt64 x y).1 z) hQ
    · rw [if_neg z] at hQ; exact sw_t (Classical.byContradiction fun k => z ((lt64 x y).2 k)) hQ
  rw [if_neg c7] at hQ; refine sw_f (fun z => c7 ((ne 7 (by omega)).1 z)) ?_
  by_cases c8 : o = 8
  · rw [if_pos c8] at hQ; refine sw_t ((ne 8 (by omega)).2 c8) ?_
    rw [lgc_eq]
    by_cases z : x = y
    · rw [if_pos z] at hQ; exact sw_t z hQ
    · rw [if_neg z] at hQ; exact sw_f z hQ
  rw [if_neg c8] at hQ; refine sw_f (fun z => c8 ((ne 8 (by omega)).1 z)) ?_
  by_cases c9 : o = 9
  · rw [if_pos c9] at hQ; refine sw_t ((ne 9 (by omega)).2 c9) ?_
    rw [lgc_lt]
    by_cases z : y ≤ x
    · rw [if_pos z] at hQ; exact sw_f ((lt64 y x).1 z) hQ
    · rw [if_neg z] at hQ; exact sw_t (Classical.byContradiction fun k => z ((lt64 y x).2 k)) hQ
  rw [if_neg c9] at hQ; refine sw_f (fun z => c9 ((ne 9 (by omega)).1 z)) ?_
  by_cases c10 : o = 10
  · rw [if_pos c10] at hQ; refine sw_t ((ne 10 (by omega)).2 c10) ?_
    have e : (lg_cmp x y ≤ 0) ↔ ¬ y < x := by rw [← lgc_gt, nlt_le]
    by_cases z : y < x
    · rw [if_pos z] at hQ; exact sw_f (fun k => e.1 k z) hQ
    · rw [if_neg z] at hQ; exact sw_t (e.2 z) hQ
  rw [if_neg c10] at hQ; refine sw_f (fun z => c10 ((ne 10 (by omega)).1 z)) ?_
  refine sw_f (fun z => h11 ((ne 11 (by omega)).1 z)) ?_
  by_cases c12 : o = 12
  · rw [if_pos c12] at hQ; exact sw_t ((ne 12 (by omega)).2 c12) hQ
  rw [if_neg c12] at hQ; exact sw_f (fun z => c12 ((ne 12 (by omega)).1 z)) hQ
