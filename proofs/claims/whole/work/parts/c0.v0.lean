-- PURE: sums in a rule's text, and the class's reading of them
def owN (l : List Nat) : Option Nat := if l = Wside then some 0 else if l = Wleft then some 1 else if l = Wverse then some 2 else if l = Wmine then some 3 else if l = Wtheirs then some 4 else if l = Wlast then some 5 else if l = Wheard then some 6 else if l = Wsaid then some 7 else if l = Wmoves then some 8 else none
def pVal (c : Nat → Nat) (L p m : Nat) (ts : List Nat) : Sum Nat (Nat × Nat × List Nat) :=
  if bD c L p = true then (if eD c L p - p ≤ 5 then (if m = 60 then .inl (1 + 8 * p + 3) else .inr (nxP c L p, m + 1, ts ++ [16 * numV c L p])) else .inl (1 + 8 * p + 1))
  else match owN (lsW c L p) with
    | none => .inl (1 + 8 * p + 0)
    | some w => if m = 60 then .inl (1 + 8 * p + 3) else .inr (nxP c L p, m + 1, ts ++ [16 * w + 1])
def oL (o : Option Nat) : List Nat := match o with | none => [] | some t => [t]
def pSH (F : Option Nat → Option Nat → Nat → Nat → List Nat → Sum Nat (Nat × Nat × List Nat)) (c : Nat → Nat) (L : Nat) (po : Option Nat) (p m : Nat) (ts : List Nat) : Sum Nat (Nat × Nat × List Nat) :=
  if p < L ∧ c p = 42 then F (some 4) po (nxP c L p) m ts
  else if p < L ∧ c p = 47 then F (some 5) po (nxP c L p) m ts
  else if p < L ∧ c p = 43 then F none (some 2) (nxP c L p) m (ts ++ oL po)
  else if p < L ∧ c p = 45 then F none (some 3) (nxP c L p) m (ts ++ oL po)
  else .inr (p, m, ts ++ oL po)
def pSL (c : Nat → Nat) (L : Nat) : Nat → Option Nat → Option Nat → Nat → Nat → List Nat → Sum Nat (Nat × Nat × List Nat)
  | 0, _, _, _, _, _ => .inl 0
  | n + 1, to, po, p, m, ts => bnd2 (pVal c L p m ts) (fun a => pSH (pSL c L n) c L po a.1 a.2.1 (a.2.2 ++ oL to))
theorem owN_b {l : List Nat} {w : Nat} (h : owN l = some w) : w ≤ 8 ∧ l ≠ [] := by
  unfold owN at h
  have nn : ∀ W : List Nat, okW W → l = W → l ≠ [] := fun W o e z => by rw [e] at z; have := o.1; rw [z] at this; exact absurd this (by decide)
  split at h
  · rename_i e; exact ⟨by have := Option.some.inj h; omega, nn _ ok_side e⟩
  split at h
  · rename_i e; exact ⟨by have := Option.some.inj h; omega, nn _ ok_left e⟩
  split at h
  · rename_i e; exact ⟨by have := Option.some.inj h; omega, nn _ ok_verse e⟩
  split at h
  · rename_i e; exact ⟨by have := Option.some.inj h; omega, nn _ ok_mine e⟩
  split at h
  · rename_i e; exact ⟨by have := Option.some.inj h; omega, nn _ ok_theirs e⟩
  split at h
  · rename_i e; exact ⟨by have := Option.some.inj h; omega, nn _ ok_last e⟩
  split at h
  · rename_i e; exact ⟨by have := Option.some.inj h; omega, nn _ ok_heard e⟩
  split at h
  · rename_i e; exact ⟨by have := Option.some.inj h; omega, nn _ ok_said e⟩
  split at h
  · rename_i e; exact ⟨by have := Option.some.inj h; omega, nn _ ok_moves e⟩
  · exact absurd h (by simp)
theorem na_5' (l : List Nat) : na l (sN 5) 0 (some l) = match owN l with | none => -1 | some w => nI w := by
  rw [na_5]
  unfold owN
  split
  · rfl
  split
  · rfl
  split
  · rfl
  split
  · rfl
  split
  · rfl
  split
  · rfl
  split
  · rfl
  split
  · rfl
  split
  · rfl
  · rfl
theorem nxP_gt {c : Nat → Nat} {L p : Nat} (h : p < L) : p < nxP c L p := by
  have h1 := (tkE_b (c := c) (show p ≤ L by omega)).2.2 h
  have h2 := sk_ge c L (tkE c L p)
  unfold nxP
  omega
theorem pVal_ok {c : Nat → Nat} {L p m p' m' : Nat} {ts ts' : List Nat} (hp : p ≤ L) (hm : m ≤ 60) (h : pVal c L p m ts = .inr (p', m', ts')) : p < L ∧ p' = nxP c L p ∧ m' = m + 1 ∧ m' ≤ 60 ∧ ∃ t, ts' = ts ++ [t] ∧ (t % 16 = 0 ∨ t % 16 = 1) ∧ tokOK t := by
  unfold pVal at h
  by_cases d : bD c L p = true
  · rw [if_pos d] at h
    by_cases e : eD c L p - p ≤ 5
    · rw [if_pos e] at h
      by_cases z : m = 60
      · rw [if_pos z] at h; exact absurd h (by simp)
      · rw [if_neg z] at h
        have q := Sum.inr.inj h
        have q1 := congrArg Prod.fst q
        have q2 := congrArg (fun x => x.2.1) q
        have q3 := congrArg (fun x => x.2.2) q
        have n5 := nv5 (c := c) (L := L) (p := p) (eD c L p - p) e (Nat.le_refl _)
        have p5 : (10 : Nat) ^ (eD c L p - p) ≤ 10 ^ 5 := Nat.pow_le_pow_right (by decide) e
        refine ⟨bD_in c L p d, q1.symm, q2.symm, by have : m + 1 = m' := q2; omega, 16 * numV c L p, q3.symm, Or.inl (by omega), Or.inl ⟨by omega, ?_⟩⟩
        unfold numV
        omega
    · rw [if_neg e] at h; exact absurd h (by simp)
  · rw [if_neg d] at h
    cases o : owN (lsW c L p) with
    | none => rw [o] at h; exact absurd h (by simp)
    | some w =>
      rw [o] at h
      obtain ⟨w8, wn⟩ := owN_b o
      have h' : (if m = 60 then Sum.inl (1 + 8 * p + 3) else Sum.inr (nxP c L p, m + 1, ts ++ [16 * w + 1]) : Sum Nat (Nat × Nat × List Nat)) = .inr (p', m', ts') := h
      by_cases z : m = 60
      · rw [if_pos z] at h'; exact absurd h' (by simp)
      · rw [if_neg z] at h'
        have q := Sum.inr.inj h'
        have q1 := congrArg Prod.fst q
        have q2 := congrArg (fun x => x.2.1) q
        have q3 := congrArg (fun x => x.2.2) q
        have hpL : p < L := by
          cases b : bL c L p with
          | true => exact bL_in c L p b
          | false => exact absurd (ls_nil b) wn
        refine ⟨hpL, q1.symm, q2.symm, by have : m + 1 = m' := q2; omega, 16 * w + 1, q3.symm, Or.inr (by omega), Or.inr (Or.inl ⟨by omega, by omega⟩)⟩
theorem pVal_f {c : Nat → Nat} {L p m f : Nat} {ts : List Nat} (hp : p ≤ L) (hL : L ≤ 400) (h : pVal c L p m ts = .inl f) : 1 ≤ f ∧ f < 10000 := by
  unfold pVal at h
  have lf : ∀ k : Nat, k ≤ 4 → (Sum.inl (1 + 8 * p + k) : Sum Nat (Nat × Nat × List Nat)) = .inl f → 1 ≤ f ∧ f < 10000 := fun k hk h => by have := Sum.inl.inj h; omega
  split at h
  · split at h
    · split at h
      · exact lf 3 (by omega) h
      · exact absurd h (by simp)
    · exact lf 1 (by omega) h
  · split at h
    · exact lf 0 (by omega) h
    · split at h
      · exact lf 3 (by omega) h
      · exact absurd h (by simp)
/-- the codes of a Rule -/
def rkC (ts : List Nat) (R : gS) : Prop := mg R 4 = nI ts.length ∧ ∀ i, i < ts.length → ma R 3 i = cod (ts.getD i 0)
def rcF (R S : gS) : Prop := mg S 0 = mg R 0 ∧ ma S 1 = ma R 1 ∧ ma S 2 = ma R 2
theorem rcF_refl (R : gS) : rcF R R := ⟨rfl, rfl, rfl⟩
theorem rcF_trans {A B C : gS} (h : rcF A B) (g : rcF B C) : rcF A C := ⟨g.1.trans h.1, g.2.1.trans h.2.1, g.2.2.trans h.2.2⟩
theorem getD_app {l : List Nat} {x i : Nat} (h : i < l.length) : (l ++ [x]).getD i 0 = l.getD i 0 := by
  simp [List.getD, List.getElem?_append_left h]
theorem getD_last (l : List Nat) (x : Nat) : (l ++ [x]).getD l.length 0 = x := by
  simp [List.getD]
theorem c_put {ts : List Nat} {R : gS} (hr : rkC ts R) (hl : ts.length < 400) {t : Nat} {x : Int32} (hx : x = cod t) (Q : gS → Prop) (h : ∀ N, rcF R N → rkC (ts ++ [t]) N → Q N) : wX8_put x R Q := by
  obtain ⟨r4, r3⟩ := hr
  unfold wX8_put
  rw [r4, nI_clamp (by omega)]
  refine sw_f (nI_pos (by omega)) (sw_f (nI_ge (b := 400) hl (by omega)) ⟨vp_in_nI hl (by decide), fun N3 h3 x4 h4 N5 h5 => h N5 (by rw [h5, h3]; exact ⟨rfl, rfl, rfl⟩) ⟨?_, fun i hi => ?_⟩⟩)
  · have m3 : mg N3 4 = nI ts.length := by rw [h3]; exact r4
    rw [h5, mg_sg, if_pos rfl, h4, m3, nI_1, List.length_append]
    rfl
  · rw [List.length_append] at hi
    have hi' : i < ts.length + 1 := hi
    have e : ma N5 3 = upd (ma R 3) ts.length x := by rw [h5, h3]; rfl
    rw [e, upd_at]
    by_cases z : i = ts.length
    · rw [if_pos z, z, getD_last, hx]
    · rw [if_neg z, getD_app (by omega)]
      exact r3 i (by omega)
theorem c_put_any {x : Int32} {R : gS} (Q : gS → Prop) (h : ∀ N, Q N) : wX8_put x R Q := by
  unfold wX8_put
  by_cases a : mg R 4 < 0
  · exact sw_t a (h R)
  · refine sw_f a ?_
    by_cases b : (400 : Int32) ≤ mg R 4
    · exact sw_t b (h R)
    · refine sw_f b ?_
      obtain ⟨j, hj, e⟩ := nI_of a
      rw [e] at b ⊢
      have : j < 400 := Nat.lt_of_not_le (fun z => b (show nI 400 ≤ nI j from nI_le z hj))
      exact ⟨vp_in_nI this (by decide), fun N3 _ x4 _ N5 _ => h N5⟩
def cDs (o : Option Nat) : Int32 := match o with | none => -100 | some t => cod t
def oB (o : Option Nat) : Prop := match o with | none => True | some t => 2 ≤ t ∧ t ≤ 5
def oN (o : Option Nat) : Nat := match o with | none => 0 | some _ => 1
theorem cDs_n {t : Nat} (h : 2 ≤ t ∧ t ≤ 5) : ¬ cod t = -100 := by
  rcases (show t = 2 ∨ t = 3 ∨ t = 4 ∨ t = 5 by omega) with rfl | rfl | rfl | rfl <;> decide
theorem c_isSignX {c : Nat → Nat} {L p x : Nat} {M Mt : gS} (ht : txC c L M Mt) (hr : rdC c L p M) (hx : x = 42 ∨ x = 43 ∨ x = 45 ∨ x = 47 ∨ x = 91 ∨ x = 93) (Q : Bool → gS → gS → Prop) (h : Q (decide (p < L ∧ c p = x)) M Mt) : wX7_isSign (nI x) M Mt Q := by
  refine c_isSign ht hr (by omega) (by omega) (by omega) (fun _ _ => trivial) (fun q hq hl => ⟨?_, ?_⟩) Q h
  · unfold bL
    rw [show (decide (97 ≤ c q) && decide (c q ≤ 122)) = false by
      rw [hq]
      rcases hx with rfl | rfl | rfl | rfl | rfl | rfl <;> decide, Bool.and_false]
  · unfold bD
    rw [show (decide (48 ≤ c q) && decide (c q ≤ 57)) = false by
      rw [hq]
      rcases hx with rfl | rfl | rfl | rfl | rfl | rfl <;> decide, Bool.and_false]
theorem c_isSign_any {x : Int32} {M Mt : gS} (Q : Bool → gS → gS → Prop) (h : ∀ b, Q b M Mt) : wX7_isSign x M Mt Q := by
  unfold wX7_isSign
  exact ⟨fun _ => ⟨fun _ => h _, fun _ => h _⟩, fun _ => h _⟩
theorem c_code {c : Nat → Nat} {L p a b : Nat} {M0 M Mt R : gS} (ht : txC c L M Mt) (hr : rdC c L p M) (ha : a = 42 ∨ a = 43) (hb : b = 45 ∨ b = 47) {x y : Int32} (Q : Int32 → gS → gS → gS → gS → Prop) (h : Q (if p < L ∧ c p = a then x else if p < L ∧ c p = b then y else -100) M0 M Mt R) : wX9_codeOfSign (nI a) x (nI b) y M0 M Mt R Q := by
  unfold wX9_codeOfSign
  refine c_isSignX ht hr (by omega) _ ?_
  by_cases e1 : p < L ∧ c p = a
  · rw [if_pos e1] at h
    rw [decide_eq_true e1]
    exact bw_t h
  · rw [if_neg e1] at h
    rw [decide_eq_false e1]
    refine bw_f (c_isSignX ht hr (by omega) _ ?_)
    by_cases e2 : p < L ∧ c p = b
    · rw [if_pos e2] at h
      rw [decide_eq_true e2]
      exact bw_t h
    · rw [if_neg e2] at h
      rw [decide_eq_false e2]
      exact bw_f h
theorem c_code_any {x y z w : Int32} {M0 M Mt R : gS} (Q : Int32 → gS → gS → gS → gS → Prop) (h : ∀ r, Q r M0 M Mt R) : wX9_codeOfSign x y z w M0 M Mt R Q := by
  unfold wX9_codeOfSign
  exact c_isSign_any _ (fun b => ⟨fun _ => c_isSign_any _ (fun b => ⟨fun _ => h _, fun _ => h _⟩), fun _ => h _⟩)
theorem c_next_f {c : Nat → Nat} {L f : Nat} {M0 M Mt : gS} (ht : txC c L M0 Mt) (hr : flC c L f M0 M) (Q : gS → gS → Prop) (h : ∀ N, flC c L f M0 N → Q N Mt) : wX7_advance M Mt Q := by
  obtain ⟨h1, h7, p, hp⟩ := hr
  exact c_next (txC_F ht h1) hp Q (fun N f r => h N ⟨frF_trans h1 (frF_7 f), by rw [f.2.1]; exact h7, _, r⟩)
theorem c_fail_f {c : Nat → Nat} {L f : Nat} (hf : 1 ≤ f) (hf2 : f < 10000) {M0 M Mt : gS} (hr : flC c L f M0 M) (k : Nat) (Q : gS → gS → Prop) (h : ∀ N, flC c L f M0 N → Q N Mt) : wX7_fail (nI k) M Mt Q := by
  obtain ⟨h1, h7, p, hp⟩ := hr
  refine c_fail hp k Q (fun N fr r e => h N ⟨frF_trans h1 fr, ?_, p, r⟩)
  rw [e, h7]
  unfold ftC
  rw [if_neg (nI_ne0 (by omega) (by omega))]
/-- room for a node: m of them so far -/
theorem c_room {c : Nat → Nat} {L p m : Nat} {M0 M Mt R : gS} (hr : rdC c L p M) (h7 : mg M 7 = 0) (hm : m ≤ 60) (h2 : mg M0 2 = nI m) (Q : Bool → gS → gS → gS → gS → Prop) (h : m < 60 → ∀ N0, mg N0 2 = nI (m + 1) → Q true N0 M Mt R) (hf : m = 60 → ∀ N0 N, flC c L (1 + 8 * p + 3) M N → Q false N0 N Mt R) : wX9_isRoomForNode M0 M Mt R Q := by
  unfold wX9_isRoomForNode
  intro x1 hx1 N2 hN2
  have e2 : mg N2 2 = nI (m + 1) := by rw [hN2, mg_sg, if_pos rfl, hx1, h2, nI_1]
  rw [e2]
  by_cases z : m < 60
  · exact sw_t (show nI (m + 1) ≤ nI 60 from nI_le (by omega) (by omega)) (h z N2 e2)
  · exact sw_f (show ¬ nI (m + 1) ≤ nI 60 from nI_ge (by omega) (by omega)) (c_fail0 hr h7 3 _ (fun N hN => hf (by omega) N2 N hN))
theorem c_room_f {c : Nat → Nat} {L f : Nat} (hf : 1 ≤ f) (hf2 : f < 10000) {B M0 M Mt R : gS} (hr : flC c L f B M) (Q : Bool → gS → gS → gS → gS → Prop) (h : ∀ b N0 N, flC c L f B N → Q b N0 N Mt R) : wX9_isRoomForNode M0 M Mt R Q := by
  unfold wX9_isRoomForNode
  intro x1 _ N2 _
  exact ⟨fun _ => h _ N2 M hr, fun _ => c_fail_f hf hf2 hr 3 _ (fun N hN => h _ N2 N hN)⟩
theorem rd_kind {c : Nat → Nat} {L p : Nat} {M : gS} (hr : rdC c L p M) : (mg M 4 = 2 ↔ bD c L p = true) := by
  obtain ⟨r1, r2, r3, r4, r5⟩ := hr
  by_cases a : p < L
  · cases b : bL c L p with
    | true =>
      rw [(r4 a).1 b]
      refine ⟨fun z => absurd z (by decide), fun z => ?_⟩
      have := bD_nL z
      rw [b] at this
      exact absurd this (by decide)
    | false =>
      cases d : bD c L p with
      | true => rw [((r4 a).2.1 b d).1]; exact ⟨fun _ => rfl, fun _ => rfl⟩
      | false => rw [((r4 a).2.2 b d).1]; exact ⟨fun z => absurd z (by decide), fun z => absurd z (by decide)⟩
  · rw [r5 a]
    exact ⟨fun z => absurd z (by decide), fun z => absurd (bD_in c L p z) a⟩
theorem c_value {c : Nat → Nat} {L p m : Nat} {ts : List Nat} {M0 M Mt R : gS} (ht : txC c L M Mt) (hr : rdC c L p M) (h7 : mg M 7 = 0) (hm : m ≤ 60) (h2 : mg M0 2 = nI m) (Q : Int32 → gS → gS → gS → gS → Prop) (h : ∀ t, pVal c L p m ts = .inr (nxP c L p, m + 1, ts ++ [t]) → ∀ N0, mg N0 2 = nI (m + 1) → Q (cod t) N0 M Mt R) (hf : ∀ f, pVal c L p m ts = .inl f → ∀ N0 N, flC c L f M N → Q (-100) N0 N Mt R) : wX9_valueAhead M0 M Mt R Q := by
  have hk := rd_kind hr
  unfold wX9_valueAhead
  refine c_name ht hr (by omega) _ ?_
  rw [na_5']
  unfold pVal at h hf
  have rm : ∀ y t, (y = -1 → mg M 6 = cod t) → (¬ y = -1 → (-1 : Int32) - y = cod t) → (m = 60 → ∀ N0 N, flC c L (1 + 8 * p + 3) M N → Q (-100) N0 N Mt R) → (m < 60 → ∀ N0, mg N0 2 = nI (m + 1) → Q (cod t) N0 M Mt R) → wX9_valueAhead_70 Q y M0 M Mt R := by
    intro y t e1 e2 q1 q2
    unfold wX9_valueAhead_70
    refine c_room hr h7 hm h2 _ (fun z N0 g => bw_t ?_) (fun z N0 N hN => bw_f (q1 z N0 N hN))
    by_cases a : y = -1
    · exact sw_t a (by rw [e1 a]; exact q2 z N0 g)
    · exact sw_f a (by rw [e2 a]; exact q2 z N0 g)
  cases d : bD c L p with
  | true =>
    rw [if_pos d] at h hf
    have hpL := bD_in c L p d
    have r6 := ((hr.2.2.2.1 hpL).2.1 (bD_nL d) d).2
    have k2 := hk.2 d
    have lsn : lsW c L p = [] := ls_nil (bD_nL d)
    have own : owN (lsW c L p) = none := by rw [lsn]; decide
    rw [own]
    refine sw_t k2 ?_
    unfold wX9_valueAhead_37
    refine sw_t k2 ?_
    by_cases e : eD c L p - p ≤ 5
    · rw [if_pos e] at h hf
      have e6 : mg M 6 = nI (numV c L p) := by rw [r6]; unfold nmV; rw [if_pos e]; rfl
      have n5 := nv5 (c := c) (L := L) (p := p) (eD c L p - p) e (Nat.le_refl _)
      have p5 : (10 : Nat) ^ (eD c L p - p) ≤ 10 ^ 5 := Nat.pow_le_pow_right (by decide) e
      have ec : cod (16 * numV c L p) = nI (numV c L p) := by
        unfold cod
        rw [if_pos (by omega), show 16 * numV c L p / 16 = numV c L p by omega]
      rw [e6]
      refine sw_f (nI_nm1 (by unfold numV; omega)) (rm (-1) (16 * numV c L p) (fun _ => by rw [ec]; exact e6) (fun z => absurd rfl z) (fun z N0 N hN => hf _ (by rw [if_pos z]) N0 N hN) (fun z N0 g => h _ (by rw [if_neg (by omega)]) N0 g))
    · rw [if_neg e] at h hf
      have e6 : mg M 6 = -1 := by rw [r6]; unfold nmV; rw [if_neg e]
      exact sw_t e6 (c_fail0 hr h7 1 _ (fun N hN => hf _ rfl M0 N hN))
  | false =>
    rw [if_neg (by rw [d]; decide)] at h hf
    have k2 : ¬ mg M 4 = 2 := fun z => by have := hk.1 z; rw [d] at this; exact absurd this (by decide)
    refine sw_f k2 ?_
    cases o : owN (lsW c L p) with
    | none =>
      rw [o] at hf
      exact sw_t rfl (c_fail0 hr h7 0 _ (fun N hN => hf _ rfl M0 N hN))
    | some w =>
      rw [o] at h hf
      obtain ⟨w8, _⟩ := owN_b o
      have ec : cod (16 * w + 1) = -1 - nI w := by
        unfold cod
        rw [if_neg (by omega), if_pos (by omega), show (16 * w + 1) / 16 = w by omega]
      refine sw_f (nI_nm1 (by omega)) ?_
      unfold wX9_valueAhead_37
      have h' : ∀ t, (if m = 60 then Sum.inl (1 + 8 * p + 3) else Sum.inr (nxP c L p, m + 1, ts ++ [16 * w + 1]) : Sum Nat (Nat × Nat × List Nat)) = .inr (nxP c L p, m + 1, ts ++ [t]) → ∀ N0, mg N0 2 = nI (m + 1) → Q (cod t) N0 M Mt R := h
      have hf' : ∀ f, (if m = 60 then Sum.inl (1 + 8 * p + 3) else Sum.inr (nxP c L p, m + 1, ts ++ [16 * w + 1]) : Sum Nat (Nat × Nat × List Nat)) = .inl f → ∀ N0 N, flC c L f M N → Q (-100) N0 N Mt R := hf
      exact sw_f k2 (rm (nI w) (16 * w + 1) (fun z => absurd z (nI_nm1 (by omega))) (fun _ => ec.symm) (fun z N0 N hN => hf' _ (by rw [if_pos z]) N0 N hN) (fun z N0 g => h' _ (by rw [if_neg (by omega)]) N0 g))
