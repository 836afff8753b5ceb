-- PURE: facts and tests; what their tokens are
def tyL : List Nat → List Bool → Option (List Bool)
  | [], ty => some ty
  | t :: r, ty => (tyT ty t).bind (tyL r)
theorem tyL_app (a b : List Nat) : ∀ ty, tyL (a ++ b) ty = (tyL a ty).bind (tyL b) := by
  induction a with
  | nil => intro ty; rfl
  | cons t r ih =>
    intro ty
    show (tyT ty t).bind (tyL (r ++ b)) = ((tyT ty t).bind (tyL r)).bind (tyL b)
    cases tyT ty t with
    | none => rfl
    | some x => exact ih x
/-- how many values -/
def vls (l : List Nat) : Nat := (l.filter (fun t => decide (t % 16 ≤ 1))).length
theorem vls_app (a b : List Nat) : vls (a ++ b) = vls a + vls b := by unfold vls; rw [List.filter_append, List.length_append]
theorem vls_op {t : Nat} (h : ¬ t % 16 ≤ 1) : vls [t] = 0 := by unfold vls; simp [List.filter, h]
theorem vls_v {t : Nat} (h : t % 16 ≤ 1) : vls [t] = 1 := by unfold vls; simp [List.filter, h]
theorem ty_val {t : Nat} (h : t % 16 = 0 ∨ t % 16 = 1) (ty : List Bool) : tyL [t] ty = some (false :: ty) := by
  show (tyT ty t).bind (tyL []) = _
  unfold tyT
  rcases h with z | z
  · rw [if_pos z]; rfl
  · rw [if_neg (by omega), if_pos z]; rfl
theorem ty_ar {t : Nat} (h : 2 ≤ t ∧ t ≤ 5) (ty : List Bool) : tyL [t] (false :: false :: ty) = some (false :: ty) := by
  show (tyT _ t).bind (tyL []) = _
  unfold tyT
  rw [if_neg (by omega), if_neg (by omega), if_neg (by omega), if_pos (by omega)]
  rfl
theorem ty_cm {t : Nat} (h : 6 ≤ t ∧ t ≤ 10) (ty : List Bool) : tyL [t] (false :: false :: ty) = some (true :: ty) := by
  show (tyT _ t).bind (tyL []) = _
  unfold tyT
  rw [if_neg (by omega), if_neg (by omega), if_neg (by omega), if_neg (by omega), if_pos (by omega)]
  rfl
theorem ty_not (ty : List Bool) : tyL [11] (true :: ty) = some (true :: ty) := rfl
theorem ty_and (ty : List Bool) : tyL [12] (true :: true :: ty) = some (true :: ty) := rfl
theorem ty_or (ty : List Bool) : tyL [13] (true :: true :: ty) = some (true :: ty) := rfl
/-- tokens that are added: how many, what they do to the types -/
def addT (L p m p' m' pend : Nat) (ts ts' : List Nat) (inn : List Bool) (res : Bool) : Prop := p < p' ∧ p' ≤ L ∧ m < m' ∧ m' ≤ 60 ∧ ∃ seg, ts' = ts ++ seg ∧ seg.length + p ≤ pend + p' ∧ (∀ x, x ∈ seg → tokOK x) ∧ vls seg + m ≤ m' ∧ ∀ ty, tyL seg (inn ++ ty) = some (res :: ty)
theorem addT_len {L p m p' m' pend : Nat} {ts ts' : List Nat} {inn : List Bool} {res : Bool} (h : addT L p m p' m' pend ts ts' inn res) : ts'.length + p ≤ ts.length + pend + p' := by
  obtain ⟨_, _, _, _, seg, e, h1, _⟩ := h
  rw [e, List.length_append]
  omega
theorem tok_op {t : Nat} (h : 2 ≤ t ∧ t ≤ 13) : tokOK t := Or.inr (Or.inr ⟨by omega, by omega, by omega⟩)
def pnd (o : Option Nat) : List Bool := match o with | none => [] | some _ => [false]
theorem ty_oL {o : Option Nat} (ho : oB o) (ty : List Bool) : tyL (oL o) (false :: (pnd o ++ ty)) = some (false :: ty) := by
  cases o with
  | none => rfl
  | some t => exact ty_ar ho ty
theorem oL_ok {o : Option Nat} (ho : oB o) : (∀ x, x ∈ oL o → tokOK x) ∧ vls (oL o) = 0 := by
  cases o with
  | none => exact ⟨fun x hx => absurd hx (by simp [oL]), rfl⟩
  | some t =>
    have hb : 2 ≤ t ∧ t ≤ 5 := ho
    refine ⟨fun x hx => ?_, vls_op (by omega)⟩
    have : x = t := by simpa [oL] using hx
    rw [this]
    exact tok_op (by omega)
theorem pSL_t {c : Nat → Nat} {L : Nat} : ∀ n to po p m ts p' m' ts', oB to → oB po → p ≤ L → m ≤ 60 → pSL c L n to po p m ts = .inr (p', m', ts') → addT L p m p' m' (oN to + oN po) ts ts' (pnd to ++ pnd po) false := by
  intro n
  induction n with
  | zero => intro to po p m ts p' m' ts' _ _ _ _ h; exact absurd h (by simp [pSL])
  | succ n ih =>
    intro to po p m ts p' m' ts' hto hpo hp hm h
    rw [pSL] at h
    obtain ⟨a, ea, h⟩ := bnd2_r h
    obtain ⟨a1, a2, a3⟩ := a
    obtain ⟨hpL, e1, e2, e3, t, e4, e5, e6⟩ := pVal_ok hp hm ea
    have hgt := nxP_gt (c := c) hpL
    have hnx := nxP_le (c := c) hp
    obtain ⟨o1, o2⟩ := oL_ok hto
    obtain ⟨o3, o4⟩ := oL_ok hpo
    have tv : ∀ ty, tyL ([t] ++ oL to) (pnd to ++ ty) = some (false :: ty) := by
      intro ty
      rw [tyL_app, ty_val e5]
      exact ty_oL hto ty
    have hv : vls [t] = 1 := vls_v (by omega)
    have h' : pSH (pSL c L n) c L po a1 a2 (a3 ++ oL to) = .inr (p', m', ts') := h
    unfold pSH at h'
    rw [e1, e2] at h'
    have mem2 : ∀ x, x ∈ [t] ++ oL to → tokOK x := fun x hx => by
      rcases List.mem_append.1 hx with z | z
      · rw [show x = t by simpa using z]; exact e6
      · exact o1 x z
    have mem4 : ∀ x, x ∈ [t] ++ oL to ++ oL po → tokOK x := fun x hx => by
      rcases List.mem_append.1 hx with z | z
      · exact mem2 x z
      · exact o3 x z
    have l2 : ([t] ++ oL to).length = 1 + oN to := by rw [List.length_append, oL_len]; rfl
    have l4 : ([t] ++ oL to ++ oL po).length = 1 + oN to + oN po := by rw [List.length_append, l2, oL_len]
    have v2 : vls ([t] ++ oL to) = 1 := by rw [vls_app, hv, o2]
    have v4 : vls ([t] ++ oL to ++ oL po) = 1 := by rw [vls_app, v2, o4]
    have tm : ∀ x, x = 4 ∨ x = 5 → nxP c L p < L → pSL c L n (some x) po (nxP c L (nxP c L p)) (m + 1) (a3 ++ oL to) = .inr (p', m', ts') → addT L p m p' m' (oN to + oN po) ts ts' (pnd to ++ pnd po) false := by
      intro x hx q3 q5
      have hgt2 := nxP_gt (c := c) q3
      obtain ⟨r1, r2, r3, r4, seg, r5, r6, r7, r8, r9⟩ := ih (some x) po _ _ _ _ _ _ (by show 2 ≤ x ∧ x ≤ 5; omega) hpo (nxP_le hnx) (by omega) q5
      refine ⟨by omega, r2, by omega, r4, [t] ++ oL to ++ seg, ?_, ?_, fun y hy => ?_, ?_, fun ty => ?_⟩
      · rw [r5, e4, List.append_assoc, List.append_assoc, List.append_assoc]
      · rw [List.length_append, l2]
        have : oN (some x) = 1 := rfl
        omega
      · rcases List.mem_append.1 hy with z | z
        · exact mem2 y z
        · exact r7 y z
      · rw [vls_app, v2]; omega
      · rw [tyL_app, List.append_assoc, tv]
        exact r9 ty
    have pl : ∀ x, x = 2 ∨ x = 3 → nxP c L p < L → pSL c L n none (some x) (nxP c L (nxP c L p)) (m + 1) (a3 ++ oL to ++ oL po) = .inr (p', m', ts') → addT L p m p' m' (oN to + oN po) ts ts' (pnd to ++ pnd po) false := by
      intro x hx q3 q5
      have hgt2 := nxP_gt (c := c) q3
      obtain ⟨r1, r2, r3, r4, seg, r5, r6, r7, r8, r9⟩ := ih none (some x) _ _ _ _ _ _ trivial (by show 2 ≤ x ∧ x ≤ 5; omega) (nxP_le hnx) (by omega) q5
      refine ⟨by omega, r2, by omega, r4, [t] ++ oL to ++ oL po ++ seg, ?_, ?_, fun y hy => ?_, ?_, fun ty => ?_⟩
      · rw [r5, e4]; simp only [List.append_assoc]
      · rw [List.length_append, l4]
        have : oN (some x) = 1 := rfl
        have : oN none = 0 := rfl
        omega
      · rcases List.mem_append.1 hy with z | z
        · exact mem4 y z
        · exact r7 y z
      · rw [vls_app, v4]; omega
      · rw [tyL_app, tyL_app, List.append_assoc, tv]
        show ((tyL (oL po) (false :: (pnd po ++ ty))).bind (tyL seg)) = _
        rw [ty_oL hpo]
        exact r9 ty
    split at h'
    · rename_i z; exact tm 4 (Or.inl rfl) z.1 h'
    split at h'
    · rename_i z; exact tm 5 (Or.inr rfl) z.1 h'
    split at h'
    · rename_i z; exact pl 2 (Or.inl rfl) z.1 h'
    split at h'
    · rename_i z; exact pl 3 (Or.inr rfl) z.1 h'
    · have q := Sum.inr.inj h'
      have q1 : nxP c L p = p' := congrArg Prod.fst q
      have q2 : m + 1 = m' := congrArg (fun x => x.2.1) q
      have q3 : a3 ++ oL to ++ oL po = ts' := congrArg (fun x => x.2.2) q
      refine ⟨by omega, by omega, by omega, by omega, [t] ++ oL to ++ oL po, ?_, by rw [l4]; omega, mem4, by rw [v4]; omega, fun ty => ?_⟩
      · rw [← q3, e4]; simp only [List.append_assoc]
      · rw [tyL_app, List.append_assoc, tv]
        exact ty_oL hpo ty
theorem pSum_t {c : Nat → Nat} {L p m p' m' : Nat} {ts ts' : List Nat} (hp : p ≤ L) (hm : m ≤ 60) (h : pSum c L p m ts = .inr (p', m', ts')) : addT L p m p' m' 0 ts ts' [] false :=
  pSL_t _ none none p m ts p' m' ts' trivial trivial hp hm h
theorem pSL_f {c : Nat → Nat} {L : Nat} (hL : L ≤ 400) : ∀ n to po p m ts f, L - p < n → p ≤ L → m ≤ 60 → pSL c L n to po p m ts = .inl f → 1 ≤ f ∧ f < 10000 := by
  intro n
  induction n with
  | zero => intro to po p m ts f h; omega
  | succ n ih =>
    intro to po p m ts f hn hp hm h
    rw [pSL] at h
    rcases bnd2_l h with h | ⟨a, ea, h⟩
    · exact pVal_f hp hL h
    · obtain ⟨a1, a2, a3⟩ := a
      obtain ⟨hpL, e1, e2, e3, t, e4, e5, e6⟩ := pVal_ok hp hm ea
      have hgt := nxP_gt (c := c) hpL
      have hnx := nxP_le (c := c) hp
      have h' : pSH (pSL c L n) c L po a1 a2 (a3 ++ oL to) = .inl f := h
      unfold pSH at h'
      rw [e1] at h'
      have go : ∀ to' po' tt, nxP c L p < L → pSL c L n to' po' (nxP c L (nxP c L p)) a2 tt = .inl f → 1 ≤ f ∧ f < 10000 := fun to' po' tt q1 q2 => by
        have := nxP_gt (c := c) q1
        exact ih to' po' _ a2 tt f (by omega) (nxP_le hnx) e3 q2
      split at h'
      · rename_i z; exact go _ _ _ z.1 h'
      split at h'
      · rename_i z; exact go _ _ _ z.1 h'
      split at h'
      · rename_i z; exact go _ _ _ z.1 h'
      split at h'
      · rename_i z; exact go _ _ _ z.1 h'
      · exact absurd h' (by simp)
def cmpK (c : Nat → Nat) (L p : Nat) : Option Nat := if p < L then (if c p = 60 then (if s2 c L p = true then some 1 else some 0) else if c p = 61 then some 2 else if c p = 62 then (if s2 c L p = true then some 3 else some 4) else none) else none
def pCmp (c : Nat → Nat) (L p m : Nat) (ts : List Nat) : Sum Nat (Nat × Nat × List Nat) := bnd2 (pSum c L p m ts) (fun a => match cmpK c L a.1 with | none => .inl (1 + 8 * a.1 + 0) | some k => if a.2.1 = 60 then .inl (1 + 8 * a.1 + 3) else bnd2 (pSum c L (nxP c L a.1) (a.2.1 + 1) a.2.2) (fun b => .inr (b.1, b.2.1, b.2.2 ++ [6 + k])))
def bT (b : Bool) (t : Nat) : List Nat := if b = true then [t] else []
def pTL (F : Nat → Nat → List Nat → Sum Nat (Nat × Nat × List Nat)) (c : Nat → Nat) (L : Nat) : Nat → Bool → Bool → Nat → Nat → List Nat → Sum Nat (Nat × Nat × List Nat)
  | 0, _, _, _, _, _ => .inl 0
  | n + 1, a, o, p, m, ts => bnd2 (F p m ts) (fun x => if lsW c L x.1 = Wand then pTL F c L n true o (nxP c L x.1) x.2.1 (x.2.2 ++ bT a 12) else if lsW c L x.1 = Wor then pTL F c L n false true (nxP c L x.1) x.2.1 (x.2.2 ++ bT a 12 ++ bT o 13) else .inr (x.1, x.2.1, x.2.2 ++ bT a 12 ++ bT o 13))
def pTst (F : Nat → Nat → List Nat → Sum Nat (Nat × Nat × List Nat)) (c : Nat → Nat) (L p m : Nat) (ts : List Nat) : Sum Nat (Nat × Nat × List Nat) := pTL F c L (L - p + 1) false false p m ts
def pFc (c : Nat → Nat) (L : Nat) : Nat → Nat → Nat → List Nat → Sum Nat (Nat × Nat × List Nat)
  | 0 => fun p m ts => if lsW c L p = Wnot ∨ (p < L ∧ c p = 91) then .inl (1 + 8 * p + 2) else pCmp c L p m ts
  | e + 1 => fun p m ts => if lsW c L p = Wnot then bnd2 (pFc c L e (nxP c L p) m ts) (fun x => .inr (x.1, x.2.1, x.2.2 ++ [11])) else if p < L ∧ c p = 91 then bnd2 (pTst (pFc c L e) c L (nxP c L p) m ts) (fun x => if x.1 < L ∧ c x.1 = 93 then .inr (nxP c L x.1, x.2.1, x.2.2) else .inl (1 + 8 * x.1 + 0)) else pCmp c L p m ts
theorem cmpK_b {c : Nat → Nat} {L p k : Nat} (h : cmpK c L p = some k) : k ≤ 4 ∧ p < L := by
  unfold cmpK at h
  split at h
  · rename_i z
    refine ⟨?_, z⟩
    split at h
    · split at h <;> (have := Option.some.inj h; omega)
    · split at h
      · have := Option.some.inj h; omega
      · split at h
        · split at h <;> (have := Option.some.inj h; omega)
        · exact absurd h (by simp)
  · exact absurd h (by simp)
theorem pCmp_t {c : Nat → Nat} {L p m p' m' : Nat} {ts ts' : List Nat} (hp : p ≤ L) (hm : m ≤ 60) (h : pCmp c L p m ts = .inr (p', m', ts')) : addT L p m p' m' 0 ts ts' [] true := by
  unfold pCmp at h
  obtain ⟨a, ea, h⟩ := bnd2_r h
  obtain ⟨a1, a2, a3⟩ := a
  obtain ⟨r1, r2, r3, r4, seg, r5, r6, r7, r8, r9⟩ := pSum_t hp hm ea
  cases ek : cmpK c L a1 with
  | none => simp only [ek] at h; exact absurd h (by simp)
  | some k =>
    simp only [ek] at h
    obtain ⟨k4, kL⟩ := cmpK_b ek
    by_cases z : a2 = 60
    · rw [if_pos z] at h; exact absurd h (by simp)
    · rw [if_neg z] at h
      have hgt := nxP_gt (c := c) kL
      obtain ⟨b, eb, h⟩ := bnd2_r h
      obtain ⟨b1, b2, b3⟩ := b
      obtain ⟨q1, q2, q3, q4, seg2, q5, q6, q7, q8, q9⟩ := pSum_t (nxP_le r2) (by omega) eb
      have q := Sum.inr.inj h
      have w1 : b1 = p' := congrArg Prod.fst q
      have w2 : b2 = m' := congrArg (fun x => x.2.1) q
      have w3 : b3 ++ [6 + k] = ts' := congrArg (fun x => x.2.2) q
      refine ⟨by omega, by omega, by omega, by omega, seg ++ seg2 ++ [6 + k], ?_, ?_, fun x hx => ?_, ?_, fun ty => ?_⟩
      · rw [← w3, q5, r5]; simp only [List.append_assoc]
      · rw [List.length_append, List.length_append]
        have : ([6 + k] : List Nat).length = 1 := rfl
        omega
      · rcases List.mem_append.1 hx with y | y
        · rcases List.mem_append.1 y with y | y
          · exact r7 x y
          · exact q7 x y
        · rw [show x = 6 + k by simpa using y]; exact tok_op (by omega)
      · rw [vls_app, vls_app, vls_op (show ¬ (6 + k) % 16 ≤ 1 by omega)]; omega
      · have t1 : tyL seg ty = some (false :: ty) := r9 ty
        have t2 : tyL seg2 (false :: ty) = some (false :: false :: ty) := q9 (false :: ty)
        show tyL (seg ++ seg2 ++ [6 + k]) ty = _
        rw [tyL_app, tyL_app, t1]
        show (tyL seg2 (false :: ty)).bind (tyL [6 + k]) = _
        rw [t2]
        exact ty_cm (by omega) ty
theorem pCmp_f {c : Nat → Nat} {L p m f : Nat} {ts : List Nat} (hp : p ≤ L) (hL : L ≤ 400) (hm : m ≤ 60) (h : pCmp c L p m ts = .inl f) : 1 ≤ f ∧ f < 10000 := by
  unfold pCmp at h
  rcases bnd2_l h with h | ⟨a, ea, h⟩
  · exact pSL_f hL _ none none p m ts f (by omega) hp hm h
  · obtain ⟨a1, a2, a3⟩ := a
    obtain ⟨r1, r2, r3, r4, _⟩ := pSum_t hp hm ea
    cases ek : cmpK c L a1 with
    | none => simp only [ek] at h; have := Sum.inl.inj h; omega
    | some k =>
      simp only [ek] at h
      obtain ⟨k4, kL⟩ := cmpK_b ek
      by_cases z : a2 = 60
      · rw [if_pos z] at h; have := Sum.inl.inj h; omega
      · rw [if_neg z] at h
        rcases bnd2_l h with h | ⟨b, eb, h⟩
        · exact pSL_f hL _ none none _ _ _ f (by omega) (nxP_le r2) (by omega) h
        · exact absurd h (by simp)
def bPd (b : Bool) : List Bool := if b = true then [true] else []
def bNn (b : Bool) : Nat := if b = true then 1 else 0
/-- what a reader of facts keeps to -/
def okF (c : Nat → Nat) (L : Nat) (F : Nat → Nat → List Nat → Sum Nat (Nat × Nat × List Nat)) : Prop := (∀ p m ts p' m' ts', p ≤ L → m ≤ 60 → F p m ts = .inr (p', m', ts') → addT L p m p' m' 0 ts ts' [] true) ∧ (∀ p m ts f, p ≤ L → m ≤ 60 → F p m ts = .inl f → 1 ≤ f ∧ f < 10000)
theorem ls_lt {c : Nat → Nat} {L p : Nat} {W : List Nat} (hW : okW W) (h : lsW c L p = W) : p < L := bL_in c L p (ls_bL hW h)
theorem pTL_t {c : Nat → Nat} {L : Nat} {F : Nat → Nat → List Nat → Sum Nat (Nat × Nat × List Nat)} (hF : okF c L F) : ∀ n a o p m ts p' m' ts', p ≤ L → m ≤ 60 → pTL F c L n a o p m ts = .inr (p', m', ts') → addT L p m p' m' (bNn a + bNn o) ts ts' (bPd a ++ bPd o) true := by
  intro n
  induction n with
  | zero => intro a o p m ts p' m' ts' _ _ h; exact absurd h (by simp [pTL])
  | succ n ih =>
    intro a o p m ts p' m' ts' hp hm h
    rw [pTL] at h
    obtain ⟨x, ex, h⟩ := bnd2_r h
    obtain ⟨x1, x2, x3⟩ := x
    obtain ⟨r1, r2, r3, r4, seg, r5, r6, r7, r8, r9⟩ := hF.1 p m ts x1 x2 x3 hp hm ex
    have la : (bT a 12).length = bNn a := by cases a <;> rfl
    have lo : (bT o 13).length = bNn o := by cases o <;> rfl
    have ma' : ∀ y, y ∈ bT a 12 → tokOK y := fun y hy => by
      cases a with
      | false => exact absurd hy (by simp [bT])
      | true => rw [show y = 12 by simpa [bT] using hy]; exact tok_op (by omega)
    have mo' : ∀ y, y ∈ bT o 13 → tokOK y := fun y hy => by
      cases o with
      | false => exact absurd hy (by simp [bT])
      | true => rw [show y = 13 by simpa [bT] using hy]; exact tok_op (by omega)
    have va : vls (bT a 12) = 0 := by cases a <;> rfl
    have vo : vls (bT o 13) = 0 := by cases o <;> rfl
    have t1 : ∀ ty, tyL (seg ++ bT a 12) (bPd a ++ ty) = some (true :: ty) := fun ty => by
      have q : tyL seg (bPd a ++ ty) = some (true :: (bPd a ++ ty)) := r9 _
      rw [tyL_app, q]
      cases a <;> rfl
    have t2 : ∀ ty, tyL (seg ++ bT a 12 ++ bT o 13) (bPd a ++ bPd o ++ ty) = some (true :: ty) := fun ty => by
      rw [tyL_app, List.append_assoc, t1]
      cases o <;> rfl
    by_cases e1 : lsW c L x1 = Wand
    · simp only [e1, if_true] at h
      have xL := ls_lt ok_and e1
      have hgt := nxP_gt (c := c) xL
      obtain ⟨q1, q2, q3, q4, seg2, q5, q6, q7, q8, q9⟩ := ih true o _ x2 _ p' m' ts' (nxP_le r2) r4 h
      have bt1 : bNn true = 1 := rfl
      refine ⟨by omega, q2, by omega, q4, seg ++ bT a 12 ++ seg2, ?_, ?_, fun y hy => ?_, ?_, fun ty => ?_⟩
      · rw [q5, r5]; simp only [List.append_assoc]
      · rw [List.length_append, List.length_append, la]; omega
      · rcases List.mem_append.1 hy with z | z
        · rcases List.mem_append.1 z with z | z
          · exact r7 y z
          · exact ma' y z
        · exact q7 y z
      · rw [vls_app, vls_app, va]; omega
      · rw [tyL_app, List.append_assoc, t1]
        exact q9 ty
    · simp only [e1, if_false] at h
      by_cases e2 : lsW c L x1 = Wor
      · simp only [e2, if_true] at h
        have xL := ls_lt ok_or e2
        have hgt := nxP_gt (c := c) xL
        obtain ⟨q1, q2, q3, q4, seg2, q5, q6, q7, q8, q9⟩ := ih false true _ x2 _ p' m' ts' (nxP_le r2) r4 h
        have bt1 : bNn true = 1 := rfl
        have bt0 : bNn false = 0 := rfl
        refine ⟨by omega, q2, by omega, q4, seg ++ bT a 12 ++ bT o 13 ++ seg2, ?_, ?_, fun y hy => ?_, ?_, fun ty => ?_⟩
        · rw [q5, r5]; simp only [List.append_assoc]
        · rw [List.length_append, List.length_append, List.length_append, la, lo]; omega
        · rcases List.mem_append.1 hy with z | z
          · rcases List.mem_append.1 z with z | z
            · rcases List.mem_append.1 z with z | z
              · exact r7 y z
              · exact ma' y z
            · exact mo' y z
          · exact q7 y z
        · rw [vls_app, vls_app, vls_app, va, vo]; omega
        · rw [tyL_app, t2]
          exact q9 ty
      · simp only [e2, if_false] at h
        have q := Sum.inr.inj h
        have w1 : x1 = p' := congrArg Prod.fst q
        have w2 : x2 = m' := congrArg (fun x => x.2.1) q
        have w3 : x3 ++ bT a 12 ++ bT o 13 = ts' := congrArg (fun x => x.2.2) q
        refine ⟨by omega, by omega, by omega, by omega, seg ++ bT a 12 ++ bT o 13, ?_, ?_, fun y hy => ?_, ?_, t2⟩
        · rw [← w3, r5]; simp only [List.append_assoc]
        · rw [List.length_append, List.length_append, la, lo]; omega
        · rcases List.mem_append.1 hy with z | z
          · rcases List.mem_append.1 z with z | z
            · exact r7 y z
            · exact ma' y z
          · exact mo' y z
        · rw [vls_app, vls_app, va, vo]; omega
theorem pTL_f {c : Nat → Nat} {L : Nat} {F : Nat → Nat → List Nat → Sum Nat (Nat × Nat × List Nat)} (hF : okF c L F) : ∀ n a o p m ts f, L - p < n → p ≤ L → m ≤ 60 → pTL F c L n a o p m ts = .inl f → 1 ≤ f ∧ f < 10000 := by
  intro n
  induction n with
  | zero => intro a o p m ts f h; omega
  | succ n ih =>
    intro a o p m ts f hn hp hm h
    rw [pTL] at h
    rcases bnd2_l h with h | ⟨x, ex, h⟩
    · exact hF.2 p m ts f hp hm h
    · obtain ⟨x1, x2, x3⟩ := x
      obtain ⟨r1, r2, r3, r4, _⟩ := hF.1 p m ts x1 x2 x3 hp hm ex
      by_cases e1 : lsW c L x1 = Wand
      · simp only [e1, if_true] at h
        have hgt := nxP_gt (c := c) (ls_lt ok_and e1)
        exact ih _ _ _ _ _ f (by omega) (nxP_le r2) r4 h
      · simp only [e1, if_false] at h
        by_cases e2 : lsW c L x1 = Wor
        · simp only [e2, if_true] at h
          have hgt := nxP_gt (c := c) (ls_lt ok_or e2)
          exact ih _ _ _ _ _ f (by omega) (nxP_le r2) r4 h
        · simp only [e2, if_false] at h
          exact absurd h (by simp)
theorem pFc_0 (c : Nat → Nat) (L p m : Nat) (ts : List Nat) : pFc c L 0 p m ts = if lsW c L p = Wnot ∨ (p < L ∧ c p = 91) then .inl (1 + 8 * p + 2) else pCmp c L p m ts := rfl
theorem pFc_s (c : Nat → Nat) (L e p m : Nat) (ts : List Nat) : pFc c L (e + 1) p m ts = if lsW c L p = Wnot then bnd2 (pFc c L e (nxP c L p) m ts) (fun x => .inr (x.1, x.2.1, x.2.2 ++ [11])) else if p < L ∧ c p = 91 then bnd2 (pTst (pFc c L e) c L (nxP c L p) m ts) (fun x => if x.1 < L ∧ c x.1 = 93 then .inr (nxP c L x.1, x.2.1, x.2.2) else .inl (1 + 8 * x.1 + 0)) else pCmp c L p m ts := rfl
theorem pFc_ok {c : Nat → Nat} {L : Nat} (hL : L ≤ 400) : ∀ e, okF c L (pFc c L e) := by
  intro e
  induction e with
  | zero =>
    refine ⟨fun p m ts p' m' ts' hp hm h => ?_, fun p m ts f hp hm h => ?_⟩
    · rw [pFc_0] at h
      split at h
      · exact absurd h (by simp)
      · exact pCmp_t hp hm h
    · rw [pFc_0] at h
      split at h
      · have := Sum.inl.inj h; omega
      · exact pCmp_f hp hL hm h
  | succ e ih =>
    refine ⟨fun p m ts p' m' ts' hp hm h => ?_, fun p m ts f hp hm h => ?_⟩
    · rw [pFc_s] at h
      by_cases e1 : lsW c L p = Wnot
      · rw [if_pos e1] at h
        have pL := ls_lt ok_not e1
        have hgt := nxP_gt (c := c) pL
        obtain ⟨x, ex, h⟩ := bnd2_r h
        obtain ⟨x1, x2, x3⟩ := x
        obtain ⟨r1, r2, r3, r4, seg, r5, r6, r7, r8, r9⟩ := ih.1 _ m ts x1 x2 x3 (nxP_le hp) hm ex
        have q := Sum.inr.inj h
        have w1 : x1 = p' := congrArg Prod.fst q
        have w2 : x2 = m' := congrArg (fun x => x.2.1) q
        have w3 : x3 ++ [11] = ts' := congrArg (fun x => x.2.2) q
        refine ⟨by omega, by omega, by omega, by omega, seg ++ [11], ?_, ?_, fun y hy => ?_, ?_, fun ty => ?_⟩
        · rw [← w3, r5]; simp only [List.append_assoc]
        · rw [List.length_append]
          have : ([11] : List Nat).length = 1 := rfl
          omega
        · rcases List.mem_append.1 hy with z | z
          · exact r7 y z
          · rw [show y = 11 by simpa using z]; exact tok_op (by omega)
        · rw [vls_app, vls_op (show ¬ 11 % 16 ≤ 1 by omega)]; omega
        · have t1 : tyL seg ty = some (true :: ty) := r9 ty
          show tyL (seg ++ [11]) ty = _
          rw [tyL_app, t1]
          exact ty_not ty
      · rw [if_neg e1] at h
        by_cases e2 : p < L ∧ c p = 91
        · rw [if_pos e2] at h
          have hgt := nxP_gt (c := c) e2.1
          obtain ⟨x, ex, h⟩ := bnd2_r h
          obtain ⟨x1, x2, x3⟩ := x
          obtain ⟨r1, r2, r3, r4, seg, r5, r6, r7, r8, r9⟩ := pTL_t ih _ false false _ m ts x1 x2 x3 (nxP_le hp) hm ex
          by_cases e3 : x1 < L ∧ c x1 = 93
          · simp only [e3, and_self, if_true] at h
            have q := Sum.inr.inj h
            have w1 : nxP c L x1 = p' := congrArg Prod.fst q
            have w2 : x2 = m' := congrArg (fun x => x.2.1) q
            have w3 : x3 = ts' := congrArg (fun x => x.2.2) q
            have hgt2 := nxP_gt (c := c) e3.1
            have hnx2 := nxP_le (c := c) r2
            have bt0 : bNn false = 0 := rfl
            exact ⟨by omega, by omega, by omega, by omega, seg, by rw [← w3, r5], by omega, r7, by omega, r9⟩
          · exfalso
            have h' : (if x1 < L ∧ c x1 = 93 then Sum.inr (nxP c L x1, x2, x3) else Sum.inl (1 + 8 * x1 + 0) : Sum Nat (Nat × Nat × List Nat)) = .inr (p', m', ts') := h
            rw [if_neg e3] at h'
            exact absurd h' (by simp)
        · rw [if_neg e2] at h
          exact pCmp_t hp hm h
    · rw [pFc_s] at h
      by_cases e1 : lsW c L p = Wnot
      · rw [if_pos e1] at h
        rcases bnd2_l h with h | ⟨x, ex, h⟩
        · exact ih.2 _ m ts f (nxP_le hp) hm h
        · exact absurd h (by simp)
      · rw [if_neg e1] at h
        by_cases e2 : p < L ∧ c p = 91
        · rw [if_pos e2] at h
          rcases bnd2_l h with h | ⟨x, ex, h⟩
          · exact pTL_f ih _ false false _ m ts f (by omega) (nxP_le hp) hm h
          · obtain ⟨x1, x2, x3⟩ := x
            obtain ⟨r1, r2, _⟩ := pTL_t ih _ false false _ m ts x1 x2 x3 (nxP_le hp) hm ex
            have h' : (if x1 < L ∧ c x1 = 93 then Sum.inr (nxP c L x1, x2, x3) else Sum.inl (1 + 8 * x1 + 0) : Sum Nat (Nat × Nat × List Nat)) = .inl f := h
            split at h'
            · exact absurd h' (by simp)
            · have := Sum.inl.inj h'; omega
        · rw [if_neg e2] at h
          exact pCmp_f hp hL hm h
