-- PURE: a corner's clauses
/-- what has been told: tunes, words, again, bars, beats of tunes, beats of words, purses -/
abbrev tK_t : Type := Nat × Nat × Int32 × (Nat → Nat) × (Nat → Nat) × (Nat → Nat) × (Nat → Nat)
def updN (f : Nat → Nat) (i v : Nat) : Nat → Nat := fun j => if j = i then v else f j
def okK (K : tK_t) : Prop := K.1 ≤ 4 ∧ K.2.1 ≤ 4 ∧ (K.2.2.1 = -1 ∨ ∃ n, n ≤ 9 ∧ K.2.2.1 = nI n) ∧ (∀ j, j < K.1 → 1 ≤ K.2.2.2.1 j ∧ K.2.2.2.1 j ≤ 9 ∧ 1 ≤ K.2.2.2.2.1 j ∧ K.2.2.2.2.1 j ≤ 8) ∧ (∀ j, j < K.2.1 → 1 ≤ K.2.2.2.2.2.1 j ∧ K.2.2.2.2.2.1 j ≤ 9) ∧ (∀ j, j < 2 → K.2.2.2.2.2.2 j ≤ 7)
def krR (K : tK_t) (M : gS) : Prop := mg M 7 = nI K.1 ∧ mg M 8 = nI K.2.1 ∧ mg M 9 = K.2.2.1 ∧ (∀ j, j < K.1 → ma M 10 (2 * j) = nI (K.2.2.2.1 j) ∧ ma M 10 (2 * j + 1) = nI (K.2.2.2.2.1 j)) ∧ (∀ j, j < K.2.1 → ma M 11 j = nI (K.2.2.2.2.2.1 j)) ∧ (∀ j, j < 2 → ma M 12 j = nI (K.2.2.2.2.2.2 j))
def krC (K : tK_t) (Mc : gS) : Prop := mg Mc 0 = nI K.1 ∧ mg Mc 2 = nI K.2.1 ∧ mg Mc 4 = K.2.2.1 ∧ (∀ j, j < K.1 → ma Mc 1 j = nI (K.2.2.2.1 j * K.2.2.2.2.1 j)) ∧ (∀ j, j < K.2.1 → ma Mc 3 j = nI (K.2.2.2.2.2.1 j)) ∧ (∀ j, j < 2 → ma Mc 5 j = nI (K.2.2.2.2.2.2 j))
/-- a fault, or what comes of it -/
def bnd2 {α β : Type} (x : Sum Nat α) (f : α → Sum Nat β) : Sum Nat β := match x with | .inl e => .inl e | .inr a => f a
def pNum (c : Nat → Nat) (L p lo hi : Nat) : Sum Nat (Nat × Nat) := if numOK c L p lo hi = true then .inr (numV c L p, nxP c L p) else .inl (1 + 8 * p + numK c L p)
def clT (c : Nat → Nat) (L : Nat) (K : tK_t) (p : Nat) : Sum Nat (tK_t × Nat) :=
  if K.1 = 4 then .inl (1 + 8 * p + 4) else bnd2 (pNum c L (nxP c L p) 1 9) (fun a => bnd2 (pNum c L a.2 1 8) (fun b => .inr ((K.1 + 1, K.2.1, K.2.2.1, updN K.2.2.2.1 K.1 a.1, updN K.2.2.2.2.1 K.1 b.1, K.2.2.2.2.2.1, K.2.2.2.2.2.2), b.2)))
def clW (c : Nat → Nat) (L : Nat) (K : tK_t) (p : Nat) : Sum Nat (tK_t × Nat) :=
  if K.2.1 = 4 then .inl (1 + 8 * p + 4) else bnd2 (pNum c L (nxP c L p) 1 9) (fun a => .inr ((K.1, K.2.1 + 1, K.2.2.1, K.2.2.2.1, K.2.2.2.2.1, updN K.2.2.2.2.2.1 K.2.1 a.1, K.2.2.2.2.2.2), a.2))
def clP (c : Nat → Nat) (L : Nat) (K : tK_t) (p : Nat) : Sum Nat (tK_t × Nat) :=
  bnd2 (pNum c L (nxP c L p) 0 1) (fun a => bnd2 (pNum c L a.2 0 7) (fun b => .inr ((K.1, K.2.1, K.2.2.1, K.2.2.2.1, K.2.2.2.2.1, K.2.2.2.2.2.1, updN K.2.2.2.2.2.2 a.1 b.1), b.2)))
def clA (c : Nat → Nat) (L : Nat) (K : tK_t) (p : Nat) : Sum Nat (tK_t × Nat) :=
  if K.2.2.1 = -1 then bnd2 (pNum c L (nxP c L p) 0 9) (fun a => .inr ((K.1, K.2.1, nI a.1, K.2.2.2.1, K.2.2.2.2.1, K.2.2.2.2.2.1, K.2.2.2.2.2.2), a.2)) else .inl (1 + 8 * p + 4)
def clX (c : Nat → Nat) (L : Nat) (many : Bool) (K : tK_t) (p : Nat) : Sum Nat (tK_t × Nat) :=
  if lsW c L p = Wtune then (if many = true then .inl (1 + 8 * p + 4) else clT c L K p)
  else if lsW c L p = Wword then (if many = true then .inl (1 + 8 * p + 4) else clW c L K p)
  else if lsW c L p = Wpurse then (if many = true then .inl (1 + 8 * p + 4) else clP c L K p)
  else if lsW c L p = Wagain then (if many = true then .inl (1 + 8 * p + 4) else clA c L K p)
  else .inl (1 + 8 * p + 0)
theorem pNum_b {c : Nat → Nat} {L p lo hi a q : Nat} (h : pNum c L p lo hi = .inr (a, q)) : numOK c L p lo hi = true ∧ a = numV c L p ∧ q = nxP c L p ∧ lo ≤ a ∧ a ≤ hi := by
  unfold pNum at h
  by_cases o : numOK c L p lo hi = true
  · rw [if_pos o] at h
    have e := Sum.inr.inj h
    have e1 : numV c L p = a := congrArg Prod.fst e
    have e2 : nxP c L p = q := congrArg Prod.snd e
    have o' := o
    unfold numOK at o'
    simp only [Bool.and_eq_true, decide_eq_true_eq] at o'
    exact ⟨o, e1.symm, e2.symm, by omega, by omega⟩
  · rw [if_neg o] at h
    exact absurd h (by simp)
theorem pNum_f {c : Nat → Nat} {L p lo hi f : Nat} (h : pNum c L p lo hi = .inl f) : numOK c L p lo hi = false ∧ f = 1 + 8 * p + numK c L p := by
  unfold pNum at h
  by_cases o : numOK c L p lo hi = true
  · rw [if_pos o] at h
    exact absurd h (by simp)
  · rw [if_neg o] at h
    exact ⟨ts_nt o, (Sum.inl.inj h).symm⟩
theorem updN_s (f : Nat → Nat) (i v : Nat) : updN f i v i = v := if_pos rfl
theorem updN_o (f : Nat → Nat) {i j : Nat} (v : Nat) (h : j ≠ i) : updN f i v j = f j := if_neg h
theorem nxP_le {c : Nat → Nat} {L p : Nat} (h : p ≤ L) : nxP c L p ≤ L := sk_le (tkE_b h).2.1
/-- the class's Reader has its first fault f, and looks at some token -/
def flC (c : Nat → Nat) (L f : Nat) (M N : gS) : Prop := frF M N ∧ mg N 7 = nI f ∧ ∃ p, rdC c L p N
theorem txC_F {c : Nat → Nat} {L : Nat} {M N Mt : gS} (h : txC c L M Mt) (hf : frF M N) : txC c L N Mt := by unfold txC; rw [hf.1]; exact h
theorem txC_7 {c : Nat → Nat} {L : Nat} {M N Mt : gS} (h : txC c L M Mt) (hf : fr7 M N) : txC c L N Mt := by unfold txC; rw [hf.1]; exact h
theorem frF_7 {M N : gS} (h : fr7 M N) : frF M N := ⟨h.1, h.2.2⟩
theorem frF_trans {A B C : gS} (h : frF A B) (g : frF B C) : frF A C := ⟨g.1.trans h.1, g.2.trans h.2⟩
/-- a number is taken, in both ways -/
theorem c_take {c : Nat → Nat} {L p : Nat} {M Mt : gS} (ht : txC c L M Mt) (hr : rdC c L p M) (h7 : mg M 7 = 0) {lo hi : Nat} (hlo : lo < 1000) (hhi : hi ≤ 100000) (Q : Int32 → gS → gS → Prop) (h1 : ∀ a q, pNum c L p lo hi = .inr (a, q) → ∀ N, fr7 M N → mg N 7 = 0 → rdC c L q N → Q (nI a) N Mt) (h2 : ∀ f, pNum c L p lo hi = .inl f → ∀ N, flC c L f M N → Q (-1) N Mt) : wX7_takeNumber (nI lo) (nI hi) M Mt Q := by
  cases e : pNum c L p lo hi with
  | inr a =>
    obtain ⟨a, q⟩ := a
    obtain ⟨o, ea, eq, _, _⟩ := pNum_b e
    refine c_take_ok ht hr hlo hhi o Q (fun N f r => ?_)
    rw [← ea]
    exact h1 a q e N f (by rw [f.2.1]; exact h7) (by rw [eq]; exact r)
  | inl f =>
    obtain ⟨o, ef⟩ := pNum_f e
    refine c_take_no hr hlo hhi o Q (fun N fr r h => h2 f e N ⟨fr, ?_, p, r⟩)
    rw [h, h7, ef]
    rfl
/-- behind a fault a number that is taken changes nothing of it -/
theorem c_take_f {c : Nat → Nat} {L f : Nat} (hf : 1 ≤ f) (hf2 : f < 10000) {M0 M Mt : gS} (ht : txC c L M0 Mt) (hr : flC c L f M0 M) {lo hi : Nat} (hlo : lo < 1000) (hhi : hi ≤ 100000) (Q : Int32 → gS → gS → Prop) (h : ∀ r N, flC c L f M0 N → Q r N Mt) : wX7_takeNumber (nI lo) (nI hi) M Mt Q := by
  obtain ⟨h1, h7, p, hp⟩ := hr
  have htM := txC_F ht h1
  cases o : numOK c L p lo hi with
  | true => exact c_take_ok htM hp hlo hhi o Q (fun N fr r => h _ N ⟨frF_trans h1 (frF_7 fr), by rw [fr.2.1]; exact h7, _, r⟩)
  | false =>
    refine c_take_no hp hlo hhi o Q (fun N fr r h' => h _ N ⟨frF_trans h1 fr, ?_, p, r⟩)
    rw [h', h7]
    unfold ftC
    rw [if_neg (nI_ne0 (by omega) (by omega))]
/-- a fault is told of a Reader without one -/
theorem c_fail0 {c : Nat → Nat} {L p : Nat} {M Mt : gS} (hr : rdC c L p M) (h7 : mg M 7 = 0) (k : Nat) (Q : gS → gS → Prop) (h : ∀ N, flC c L (1 + 8 * p + k) M N → Q N Mt) : wX7_fail (nI k) M Mt Q := by
  refine c_fail hr k Q (fun N fr r h' => h N ⟨fr, ?_, p, r⟩)
  rw [h', h7]
  rfl
theorem numK_le (c : Nat → Nat) (L p : Nat) : numK c L p ≤ 1 := by unfold numK; split <;> omega
theorem pf_b {c : Nat → Nat} {L p lo hi f : Nat} (hp : p ≤ L) (hL : L ≤ 400) (h : pNum c L p lo hi = .inl f) : 1 ≤ f ∧ f < 10000 := by
  obtain ⟨_, e⟩ := pNum_f h
  have := numK_le c L p
  omega
theorem c_clause {c : Nat → Nat} {L p : Nat} {Mr Mt : gS} (ht : txC c L Mr Mt) (hr : rdC c L p Mr) (h7 : mg Mr 7 = 0) {K : tK_t} (hK : okK K) {Mc M0 : gS} (hc : krC K Mc) (many : Bool) (Q : gS → gS → gS → gS → Prop) (h1 : ∀ K' p', clX c L many K p = .inr (K', p') → okK K' → p' ≤ L → ∀ N Nc, fr7 Mr N → mg N 7 = 0 → rdC c L p' N → krC K' Nc → Q M0 N Mt Nc) (h2 : ∀ f, clX c L many K p = .inl f → 1 ≤ f → f < 10000 → ∀ N Nc, flC c L f Mr N → Q M0 N Mt Nc) : wX2_readClause (bI many) M0 Mr Mt Mc Q := by
  have hL := ht.2.1
  have hpL := hr.1
  have hn := nxP_le (c := c) hpL
  obtain ⟨k1, k2, k3, k4, k5, k6⟩ := hK
  obtain ⟨c0, c2, c4, c1, c3, c5⟩ := hc
  unfold wX2_readClause
  refine c_name ht hr (by omega) _ ?_
  rw [na_0]
  unfold clX at h1 h2
  have mT : bI true = 0 → False := by decide
  by_cases e1 : lsW c L p = Wtune
  · rw [if_pos e1] at h1 h2 ⊢
    refine sw_t rfl ?_
    unfold wX2_readTune wX2_readTune_15
    cases many with
    | true =>
      rw [if_pos rfl] at h1 h2
      exact sw_f (by decide) (c_fail0 hr h7 4 _ (fun N hN => h2 _ rfl (by omega) (by omega) N Mc hN))
    | false =>
      rw [if_neg (by decide)] at h1 h2
      unfold clT at h1 h2
      refine sw_t rfl ?_
      rw [c0]
      by_cases e4 : K.1 = 4
      · rw [if_pos e4] at h1 h2
        exact sw_f (by rw [e4]; decide) (c_fail0 hr h7 4 _ (fun N hN => h2 _ rfl (by omega) (by omega) N Mc hN))
      · rw [if_neg e4] at h1 h2
        refine sw_t (show nI K.1 < nI 4 from nI_lt (by omega) (by omega)) (c_next ht hr _ (fun N f r => ?_))
        have t1 := txC_7 ht f
        have g7 : mg N 7 = 0 := by rw [f.2.1]; exact h7
        refine c_take (lo := 1) (hi := 9) t1 r g7 (by omega) (by omega) _ (fun a q ea N2 f2 g72 r2 => ?_) (fun fl ef N2 hN2 => ?_)
        · obtain ⟨_, _, eq, b1, b2⟩ := pNum_b ea
          rw [ea] at h1 h2
          have hq : q ≤ L := by rw [eq]; exact nxP_le hn
          refine c_take (lo := 1) (hi := 8) (txC_7 t1 f2) r2 g72 (by omega) (by omega) _ (fun b q2 eb N3 f3 g73 r3 => ?_) (fun fl ef N3 hN3 => ?_)
          · obtain ⟨_, _, eq2, b3, b4⟩ := pNum_b eb
            have h1' := h1 _ q2 (by show bnd2 (pNum c L q 1 8) _ = _; rw [eb]; rfl)
            refine sw_t g73 (fun x13 h13 => ⟨vp_in_nI (by omega) (by decide), fun N14 h14 x15 h15 N16 h16 => ?_⟩)
            rw [nI_clamp (by omega)] at h14
            have m14 : mg N14 0 = nI K.1 := by rw [h14]; exact c0
            refine h1' ?_ (by rw [eq2]; exact nxP_le hq) N3 N16 (fr7_trans f (fr7_trans f2 f3)) g73 r3 ?_
            · refine ⟨by show K.1 + 1 ≤ 4; omega, k2, k3, fun j hj => ?_, k5, k6⟩
              have hj' : j < K.1 + 1 := hj
              by_cases z : j = K.1
              · show 1 ≤ updN _ _ _ j ∧ updN _ _ _ j ≤ 9 ∧ 1 ≤ updN _ _ _ j ∧ updN _ _ _ j ≤ 8
                rw [z, updN_s, updN_s]; omega
              · show 1 ≤ updN _ _ _ j ∧ updN _ _ _ j ≤ 9 ∧ 1 ≤ updN _ _ _ j ∧ updN _ _ _ j ≤ 8
                rw [updN_o _ _ z, updN_o _ _ z]; exact k4 j (by omega)
            · refine ⟨?_, by rw [h16, h14]; exact c2, by rw [h16, h14]; exact c4, fun j hj => ?_, fun j hj => by rw [h16, h14]; exact c3 j hj, fun j hj => by rw [h16, h14]; exact c5 j hj⟩
              · rw [h16, mg_sg, if_pos rfl, h15, m14, nI_1]
              · have hj' : j < K.1 + 1 := hj
                have em : ma N16 1 = upd (ma Mc 1) K.1 x13 := by rw [h16, h14]; rfl
                show ma N16 1 j = nI (updN _ _ _ j * updN _ _ _ j)
                rw [em, upd_at]
                by_cases z : j = K.1
                · rw [if_pos z, z, updN_s, updN_s, h13, pk_mul]
                · rw [if_neg z, updN_o _ _ z, updN_o _ _ z]; exact c1 j (by omega)
          · obtain ⟨g1, g2⟩ := pf_b hq hL ef
            have h2' := h2 fl (by show bnd2 (pNum c L q 1 8) _ = _; rw [ef]; rfl) g1 g2
            refine sw_f (by rw [hN3.2.1]; exact nI_ne0 (by omega) (by omega)) (h2' N3 Mc ⟨frF_trans (frF_7 (fr7_trans f f2)) hN3.1, hN3.2⟩)
        · obtain ⟨g1, g2⟩ := pf_b hn hL ef
          rw [ef] at h2
          have h2' := h2 fl rfl g1 g2
          refine c_take_f (lo := 1) (hi := 8) g1 g2 t1 hN2 (by omega) (by omega) _ (fun r3 N3 hN3 => ?_)
          exact sw_f (by rw [hN3.2.1]; exact nI_ne0 (by omega) (by omega)) (h2' N3 Mc ⟨frF_trans (frF_7 f) hN3.1, hN3.2⟩)
  rw [if_neg e1] at h1 h2 ⊢
  by_cases e2 : lsW c L p = Wword
  · rw [if_pos e2] at h1 h2 ⊢
    refine sw_f (by decide) (sw_t rfl ?_)
    unfold wX2_readWord wX2_readWord_15
    cases many with
    | true =>
      rw [if_pos rfl] at h1 h2
      exact sw_f (by decide) (c_fail0 hr h7 4 _ (fun N hN => h2 _ rfl (by omega) (by omega) N Mc hN))
    | false =>
      rw [if_neg (by decide)] at h1 h2
      unfold clW at h1 h2
      refine sw_t rfl ?_
      rw [c2]
      by_cases e4 : K.2.1 = 4
      · rw [if_pos e4] at h1 h2
        exact sw_f (by rw [e4]; decide) (c_fail0 hr h7 4 _ (fun N hN => h2 _ rfl (by omega) (by omega) N Mc hN))
      · rw [if_neg e4] at h1 h2
        refine sw_t (show nI K.2.1 < nI 4 from nI_lt (by omega) (by omega)) (c_next ht hr _ (fun N f r => ?_))
        have t1 := txC_7 ht f
        have g7 : mg N 7 = 0 := by rw [f.2.1]; exact h7
        refine c_take (lo := 1) (hi := 9) t1 r g7 (by omega) (by omega) _ (fun a q ea N2 f2 g72 r2 => ?_) (fun fl ef N2 hN2 => ?_)
        · obtain ⟨_, _, eq, b1, b2⟩ := pNum_b ea
          rw [ea] at h1
          have h1' := h1 _ q rfl
          refine sw_t g72 ⟨vp_in_nI (by omega) (by decide), fun N10 h10 x11 h11 N12 h12 => ?_⟩
          rw [nI_clamp (by omega)] at h10
          have m10 : mg N10 2 = nI K.2.1 := by rw [h10]; exact c2
          refine h1' ?_ (by rw [eq]; exact nxP_le hn) N2 N12 (fr7_trans f f2) g72 r2 ?_
          · refine ⟨k1, by show K.2.1 + 1 ≤ 4; omega, k3, k4, fun j hj => ?_, k6⟩
            have hj' : j < K.2.1 + 1 := hj
            show 1 ≤ updN _ _ _ j ∧ updN _ _ _ j ≤ 9
            by_cases z : j = K.2.1
            · rw [z, updN_s]; omega
            · rw [updN_o _ _ z]; exact k5 j (by omega)
          · refine ⟨by rw [h12, h10]; exact c0, ?_, by rw [h12, h10]; exact c4, fun j hj => by rw [h12, h10]; exact c1 j hj, fun j hj => ?_, fun j hj => by rw [h12, h10]; exact c5 j hj⟩
            · rw [h12, mg_sg, if_pos rfl, h11, m10, nI_1]
            · have hj' : j < K.2.1 + 1 := hj
              have em : ma N12 3 = upd (ma Mc 3) K.2.1 (nI a) := by rw [h12, h10]; rfl
              show ma N12 3 j = nI (updN _ _ _ j)
              rw [em, upd_at]
              by_cases z : j = K.2.1
              · rw [if_pos z, z, updN_s]
              · rw [if_neg z, updN_o _ _ z]; exact c3 j (by omega)
        · obtain ⟨g1, g2⟩ := pf_b hn hL ef
          rw [ef] at h2
          exact sw_f (by rw [hN2.2.1]; exact nI_ne0 (by omega) (by omega)) (h2 fl rfl g1 g2 N2 Mc ⟨frF_trans (frF_7 f) hN2.1, hN2.2⟩)
  rw [if_neg e2] at h1 h2 ⊢
  by_cases e3 : lsW c L p = Wpurse
  · rw [if_pos e3] at h1 h2 ⊢
    refine sw_f (by decide) (sw_f (by decide) (sw_t rfl ?_))
    unfold wX2_readPurse
    cases many with
    | true =>
      rw [if_pos rfl] at h1 h2
      exact sw_f (by decide) (c_fail0 hr h7 4 _ (fun N hN => h2 _ rfl (by omega) (by omega) N Mc hN))
    | false =>
      rw [if_neg (by decide)] at h1 h2
      unfold clP at h1 h2
      refine sw_t rfl (c_next ht hr _ (fun N f r => ?_))
      have t1 := txC_7 ht f
      have g7 : mg N 7 = 0 := by rw [f.2.1]; exact h7
      refine c_take (lo := 0) (hi := 1) t1 r g7 (by omega) (by omega) _ (fun a q ea N2 f2 g72 r2 => ?_) (fun fl ef N2 hN2 => ?_)
      · obtain ⟨_, _, eq, b1, b2⟩ := pNum_b ea
        rw [ea] at h1 h2
        have hq : q ≤ L := by rw [eq]; exact nxP_le hn
        refine c_take (lo := 0) (hi := 7) (txC_7 t1 f2) r2 g72 (by omega) (by omega) _ (fun b q2 eb N3 f3 g73 r3 => ?_) (fun fl ef N3 hN3 => ?_)
        · obtain ⟨_, _, eq2, b3, b4⟩ := pNum_b eb
          have h1' := h1 _ q2 (by show bnd2 (pNum c L q 0 7) _ = _; rw [eb]; rfl)
          refine sw_t g73 (c_side_t ?_ (bw_t ⟨vp_in_nI (by omega) (by decide), fun N15 h15 => ?_⟩))
          · rcases (show a = 0 ∨ a = 1 by omega) with rfl | rfl
            · exact Or.inl rfl
            · exact Or.inr rfl
          · rw [nI_clamp (by omega)] at h15
            refine h1' ?_ (by rw [eq2]; exact nxP_le hq) N3 N15 (fr7_trans f (fr7_trans f2 f3)) g73 r3 ?_
            · refine ⟨k1, k2, k3, k4, k5, fun j hj => ?_⟩
              show updN _ _ _ j ≤ 7
              by_cases z : j = a
              · rw [z, updN_s]; omega
              · rw [updN_o _ _ z]; exact k6 j hj
            · refine ⟨by rw [h15]; exact c0, by rw [h15]; exact c2, by rw [h15]; exact c4, fun j hj => by rw [h15]; exact c1 j hj, fun j hj => by rw [h15]; exact c3 j hj, fun j hj => ?_⟩
              have em : ma N15 5 = upd (ma Mc 5) a (nI b) := by rw [h15]; rfl
              show ma N15 5 j = nI (updN _ _ _ j)
              rw [em, upd_at]
              by_cases z : j = a
              · rw [if_pos z, z, updN_s]
              · rw [if_neg z, updN_o _ _ z]; exact c5 j hj
        · obtain ⟨g1, g2⟩ := pf_b hq hL ef
          have h2' := h2 fl (by show bnd2 (pNum c L q 0 7) _ = _; rw [ef]; rfl) g1 g2
          exact sw_f (by rw [hN3.2.1]; exact nI_ne0 (by omega) (by omega)) (h2' N3 Mc ⟨frF_trans (frF_7 (fr7_trans f f2)) hN3.1, hN3.2⟩)
      · obtain ⟨g1, g2⟩ := pf_b hn hL ef
        rw [ef] at h2
        have h2' := h2 fl rfl g1 g2
        refine c_take_f (lo := 0) (hi := 7) g1 g2 t1 hN2 (by omega) (by omega) _ (fun r3 N3 hN3 => ?_)
        exact sw_f (by rw [hN3.2.1]; exact nI_ne0 (by omega) (by omega)) (h2' N3 Mc ⟨frF_trans (frF_7 f) hN3.1, hN3.2⟩)
  rw [if_neg e3] at h1 h2 ⊢
  by_cases e5 : lsW c L p = Wagain
  · rw [if_pos e5] at h1 h2 ⊢
    refine sw_f (by decide) (sw_f (by decide) (sw_f (by decide) (sw_t rfl ?_)))
    unfold wX2_readAgain wX2_readAgain_15
    cases many with
    | true =>
      rw [if_pos rfl] at h1 h2
      exact sw_f (by decide) (c_fail0 hr h7 4 _ (fun N hN => h2 _ rfl (by omega) (by omega) N Mc hN))
    | false =>
      rw [if_neg (by decide)] at h1 h2
      unfold clA at h1 h2
      refine sw_t rfl ?_
      rw [c4]
      by_cases e4 : K.2.2.1 = -1
      · rw [if_pos e4] at h1 h2
        refine sw_t e4 (c_next ht hr _ (fun N f r => ?_))
        have t1 := txC_7 ht f
        have g7 : mg N 7 = 0 := by rw [f.2.1]; exact h7
        refine c_take (lo := 0) (hi := 9) t1 r g7 (by omega) (by omega) _ (fun a q ea N2 f2 g72 r2 N9 h9 => ?_) (fun fl ef N2 hN2 N9 h9 => ?_)
        · obtain ⟨_, _, eq, b1, b2⟩ := pNum_b ea
          rw [ea] at h1
          refine h1 _ q rfl ⟨k1, k2, Or.inr ⟨a, b2, rfl⟩, k4, k5, k6⟩ (by rw [eq]; exact nxP_le hn) N2 N9 (fr7_trans f f2) g72 r2 ?_
          exact ⟨by rw [h9]; exact c0, by rw [h9]; exact c2, by rw [h9, mg_sg, if_pos rfl], fun j hj => by rw [h9]; exact c1 j hj, fun j hj => by rw [h9]; exact c3 j hj, fun j hj => by rw [h9]; exact c5 j hj⟩
        · obtain ⟨g1, g2⟩ := pf_b hn hL ef
          rw [ef] at h2
          exact h2 fl rfl g1 g2 N2 N9 ⟨frF_trans (frF_7 f) hN2.1, hN2.2⟩
      · rw [if_neg e4] at h1 h2
        exact sw_f e4 (c_fail0 hr h7 4 _ (fun N hN => h2 _ rfl (by omega) (by omega) N Mc hN))
  rw [if_neg e5] at h1 h2 ⊢
  exact sw_f (by decide) (sw_f (by decide) (sw_f (by decide) (sw_f (by decide) (c_fail0 hr h7 0 _ (fun N hN => h2 _ rfl (by omega) (by omega) N Mc hN)))))
