-- PURE: rule(), what is kept of it
theorem tyT_h {ty ty' : List Bool} {t : Nat} (h : tyT ty t = some ty') : ty'.length ≤ ty.length + vls [t] := by
  unfold tyT at h
  by_cases c0 : t % 16 = 0
  · rw [if_pos c0] at h
    rw [vls_v (by omega), ← Option.some.inj h, List.length_cons]
    exact Nat.le_refl _
  · rw [if_neg c0] at h
    by_cases c1 : t % 16 = 1
    · rw [if_pos c1] at h
      rw [vls_v (by omega), ← Option.some.inj h, List.length_cons]
      exact Nat.le_refl _
    · rw [if_neg c1] at h
      have le : ty'.length ≤ ty.length := by
        split at h
        · split at h
          · rw [← Option.some.inj h]; exact Nat.le_refl _
          · exact absurd h (by simp)
        · split at h
          · split at h
            · rw [← Option.some.inj h]; simp only [List.length_cons]; omega
            · exact absurd h (by simp)
          · split at h
            · split at h
              · rw [← Option.some.inj h]; simp only [List.length_cons]; omega
              · exact absurd h (by simp)
            · split at h
              · rw [← Option.some.inj h]; simp only [List.length_cons]; omega
              · exact absurd h (by simp)
      exact Nat.le_trans le (Nat.le_add_right _ _)
theorem tyN_seg {τ : Nat → Nat} : ∀ (seg : List Nat) (i : Nat) (ty r : List Bool), (∀ j, j < seg.length → τ (i + j) = seg.getD j 0) → ty.length + vls seg ≤ 60 → tyL seg ty = some r → tyN τ seg.length i ty = some r := by
  intro seg
  induction seg with
  | nil => intro i ty r _ _ h; exact h
  | cons t s ih =>
    intro i ty r ht hv h
    have e0 : τ i = t := ht 0 (by simp)
    have hv' : vls (t :: s) = vls [t] + vls s := vls_app [t] s
    rw [List.length_cons, tyN, e0]
    have h : (tyT ty t).bind (tyL s) = some r := h
    cases e : tyT ty t with
    | none => rw [e] at h; exact absurd h (by simp)
    | some ty' =>
      rw [e] at h
      have hh := tyT_h e
      show (if ty'.length ≤ 60 then tyN τ s.length (i + 1) ty' else none) = some r
      rw [if_pos (by omega)]
      refine ih (i + 1) ty' r (fun j hj => ?_) (by omega) h
      have := ht (j + 1) (by simp only [List.length_cons]; omega)
      rw [show i + (j + 1) = i + 1 + j by omega] at this
      rw [this]
      rfl
/-- clauses that were told: their tests, one behind the other -/
def okR (ts : List Nat) (ds : List (Nat × Nat)) : Prop := ts.length = bd ds ds.length ∧ (∀ x, x ∈ ts → tokOK x) ∧ ∀ i, i < ds.length → (ds.getD i (0, 0)).1 ≤ 5 ∧ ∃ a seg z, ts = a ++ seg ++ z ∧ a.length = bd ds i ∧ a.length + seg.length = bd ds (i + 1) ∧ okG seg
theorem okR_0 : okR [] [] := ⟨rfl, fun x hx => absurd hx (by simp), fun i hi => absurd hi (Nat.not_lt_zero i)⟩
theorem okR_add {ts seg : List Nat} {ds : List (Nat × Nat)} {d : Nat} (h : okR ts ds) (hg : okG seg) (hd : d ≤ 5) : okR (ts ++ seg) (ds ++ [(d, (ts ++ seg).length)]) := by
  obtain ⟨h1, h2, h3⟩ := h
  refine ⟨by rw [gd_len, bd_last], fun x hx => ?_, fun i hi => ?_⟩
  · rcases List.mem_append.1 hx with z | z
    · exact h2 x z
    · rcases hg with y | y
      · rw [y] at z; exact absurd z (by simp)
      · exact y.2.1 x z
  · rw [gd_len] at hi
    by_cases z : i = ds.length
    · rw [z, gd_last, bd_app (Nat.le_refl _), bd_last]
      exact ⟨hd, ts, seg, [], by simp, h1, by rw [List.length_append], hg⟩
    · rw [gd_app (by omega), bd_app (by omega), bd_app (by omega)]
      obtain ⟨q1, a, s, y, q2, q3, q4, q5⟩ := h3 i (by omega)
      exact ⟨q1, a, s, y ++ seg, by rw [q2]; simp, q3, q4, q5⟩
theorem pRl_ok {c : Nat → Nat} {L : Nat} (hL : L ≤ 400) : ∀ n ds, ds.length + n = 13 → 1 ≤ n → ∀ p m ts, p ≤ L → m ≤ 60 → ts.length ≤ p → okR ts ds → (∀ ts' ds', pRl c L n p m ts ds = .inr (ts', ds') → okR ts' ds' ∧ ds'.length ≤ 12 ∧ ts'.length ≤ 400) ∧ (∀ f, pRl c L n p m ts ds = .inl f → 1 ≤ f ∧ f < 10000) := by
  intro n
  induction n with
  | zero => intro ds _ h; omega
  | succ n ih =>
    intro ds hln _ p m ts hp hm hl hk
    rw [pRl_s]
    obtain ⟨t1, t2⟩ := pCl_t (c := c) (i := ds.length) (ts := ts) hL hp hm
    cases e : pCl c L ds.length p m ts with
    | inl f => exact ⟨fun ts' ds' h => absurd h (by simp [bnd2]), fun f' h => by rw [← Sum.inl.inj h]; exact t2 f e⟩
    | inr a =>
      obtain ⟨d, p', m', ts'⟩ := a
      obtain ⟨q1, q2, q3, q4, seg, q5, q6, q7⟩ := t1 _ _ _ _ e
      have hlen : ts'.length = ts.length + seg.length := by rw [q5, List.length_append]
      have en : 1 ≤ n := by
        rcases (show 1 ≤ n ∨ n = 0 by omega) with z | z
        · exact z
        · have e12 : ds.length = 12 := by omega
          obtain ⟨f0, hf0⟩ := pCl_12 c L p m ts
          rw [e12, hf0] at e
          exact absurd e (by simp)
      have ok' : okR ts' (ds ++ [(d, ts'.length)]) := by rw [q5]; exact okR_add hk q7 q1
      show (∀ ts'' ds'', rlX c L n p' m' ts' (ds ++ [(d, ts'.length)]) = .inr (ts'', ds'') → _) ∧ (∀ f, rlX c L n p' m' ts' (ds ++ [(d, ts'.length)]) = .inl f → _)
      unfold rlX
      have hnx := nxP_le (c := c) q3
      have hge := nxP_ge (c := c) q3
      split
      · split
        · exact ih (ds ++ [(d, ts'.length)]) (by rw [gd_len]; omega) en (nxP c L p') m' ts' hnx q4 (by omega) ok'
        · exact ⟨fun _ _ h => absurd h (by simp), fun f h => by have := Sum.inl.inj h; omega⟩
      · refine ⟨fun ts'' ds'' h => ?_, fun f h => absurd h (by simp)⟩
        have h' := Sum.inr.inj h
        simp only [Prod.mk.injEq] at h'
        obtain ⟨rfl, rfl⟩ := h'
        exact ⟨ok', by rw [gd_len]; omega, by omega⟩
theorem rlF_ok {c : Nat → Nat} {L : Nat} (hL : L ≤ 400) : (∀ ts ds, rlF c L = .inr (ts, ds) → okR ts ds ∧ ds.length ≤ 12 ∧ ts.length ≤ 400) ∧ (∀ f, rlF c L = .inl f → 1 ≤ f ∧ f < 10000) :=
  pRl_ok hL 13 [] rfl (by omega) (sk c L 0) 0 [] (sk_le (by omega)) (by omega) (Nat.zero_le _) okR_0
theorem rel_of {M R : gS} {k : Nat} {ts : List Nat} {ds : List (Nat × Nat)} (hk : okR ts ds) (hn : ds.length ≤ 12) (hl : ts.length ≤ 400) (r1 : rkR k ts M) (r2 : clQ k ds M) (r3 : rkC ts R) (r4 : clC ds R) : relRd M k R ds.length (bd ds) (fun i => ts.getD i 0) := by
  obtain ⟨k1, k2, k3⟩ := hk
  refine ⟨hn, rfl, by rw [← k1]; exact hl, r2.1, r4.1, fun i hi => ?_, fun i hi => ?_⟩
  · rw [← k1] at hi
    refine ⟨?_, r1.2 i hi, r3.2 i hi⟩
    have : ts.getD i 0 = ts[i] := by simp [List.getD, hi]
    show tokOK (ts.getD i 0)
    rw [this]
    exact k2 _ (List.getElem_mem hi)
  · obtain ⟨q1, a, seg, z, q2, q3, q4, q5⟩ := k3 i hi
    obtain ⟨c1, c2, c3, c4⟩ := r2.2 i hi
    obtain ⟨d1, d2⟩ := r4.2 i hi
    have lt : ts.length = a.length + seg.length + z.length := by rw [q2, List.length_append, List.length_append]
    have e2 : ma R 2 i = nI (bd ds (i + 1)) := by
      rw [d2]
      unfold bd
      rw [if_neg (by omega), Nat.add_sub_cancel]
    refine ⟨by omega, by omega, e2, c4, ?_, ?_⟩
    · rw [c1, d1]
      unfold dR dC
      by_cases z1 : (ds.getD i (0, 0)).1 < 4
      · rw [if_pos z1, if_pos (by omega)]
        exact Or.inl ⟨rfl, _, z1, c2 z1, rfl⟩
      · rw [if_neg z1]
        by_cases z2 : (ds.getD i (0, 0)).1 = 4
        · rw [if_pos z2, if_pos (by omega), z2]
          exact Or.inr (Or.inl ⟨rfl, rfl⟩)
        · rw [if_neg z2, if_neg (by omega)]
          exact Or.inr (Or.inr ⟨rfl, rfl⟩)
    · rcases q5 with y | ⟨y1, y2, y3, y4⟩
      · have el : seg.length = 0 := by rw [y]; rfl
        rw [if_pos (by omega)] at c3
        exact Or.inl ⟨c3, by omega⟩
      · rw [if_neg (by omega)] at c3
        refine Or.inr ⟨c3, by omega, ?_⟩
        rw [show bd ds (i + 1) - bd ds i = seg.length by omega]
        refine tyN_seg seg _ [] _ (fun j hj => ?_) (by simpa using y3) y4
        show ts.getD (bd ds i + j) 0 = _
        rw [q2, ← q3]
        simp only [List.getD]
        rw [List.append_assoc, List.getElem?_append_right (by omega), Nat.add_sub_cancel_left, List.getElem?_append_left hj]
