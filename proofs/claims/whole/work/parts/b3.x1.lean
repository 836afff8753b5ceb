-- PURE: the class's Reader; numbers
def nvf (c : Nat → Nat) (p : Nat) : Nat → Nat
  | 0 => 0
  | i + 1 => nvf c p i * 10 + (c (p + i) - 48)
/-- the text that a Reader reads -/
def txC (c : Nat → Nat) (L : Nat) (Mr Mt : gS) : Prop := mg Mr 1 = nI L ∧ L ≤ 400 ∧ ∀ j, c j < 256 ∧ ma Mt 0 j = nI (c j)
theorem c_isLetter {x : Nat} (hx : x < 256) {Q : Bool → Prop} (h : Q (decide (97 ≤ x) && decide (x ≤ 122))) : wX7_isLetter (nI x) Q := by
  unfold wX7_isLetter
  by_cases d : 97 ≤ x
  · rw [decide_eq_true d, Bool.true_and] at h
    refine sw_f (show ¬ nI x < nI 97 from nI_nlt d (by omega)) ?_
    by_cases e : x ≤ 122
    · rw [decide_eq_true e] at h
      exact sw_f (show ¬ nI 122 < nI x from nI_nlt e (by omega)) h
    · rw [decide_eq_false e] at h
      exact sw_t (show nI 122 < nI x from nI_lt (by omega) (by omega)) h
  · rw [decide_eq_false d, Bool.false_and] at h
    exact sw_t (show nI x < nI 97 from nI_lt (by omega) (by omega)) h
theorem c_isDigit {x : Nat} (hx : x < 256) {Q : Bool → Prop} (h : Q (decide (48 ≤ x) && decide (x ≤ 57))) : wX7_isDigit (nI x) Q := by
  unfold wX7_isDigit
  by_cases d : 48 ≤ x
  · rw [decide_eq_true d, Bool.true_and] at h
    refine sw_f (show ¬ nI x < nI 48 from nI_nlt d (by omega)) ?_
    by_cases e : x ≤ 57
    · rw [decide_eq_true e] at h
      exact sw_f (show ¬ nI 57 < nI x from nI_nlt e (by omega)) h
    · rw [decide_eq_false e] at h
      exact sw_t (show nI 57 < nI x from nI_lt (by omega) (by omega)) h
  · rw [decide_eq_false d, Bool.false_and] at h
    exact sw_t (show nI x < nI 48 from nI_lt (by omega) (by omega)) h
theorem bL_lt {c : Nat → Nat} {L p : Nat} (h : p < L) : bL c L p = (decide (97 ≤ c p) && decide (c p ≤ 122)) := by unfold bL; rw [decide_eq_true h, Bool.true_and]
theorem bD_lt {c : Nat → Nat} {L p : Nat} (h : p < L) : bD c L p = (decide (48 ≤ c p) && decide (c p ≤ 57)) := by unfold bD; rw [decide_eq_true h, Bool.true_and]
/-- the sign at p with what follows -/
def s2 (c : Nat → Nat) (L p : Nat) : Bool := decide (c p = 60 ∨ c p = 62) && (decide (p + 1 < L) && decide (c (p + 1) = 61))
def sgN (c : Nat → Nat) (L p : Nat) : Nat := if s2 c L p = true then c p + 256 else c p
/-- where the token at p ends -/
def tkE (c : Nat → Nat) (L p : Nat) : Nat := if p < L then (if bL c L p = true then eL c L p else if bD c L p = true then eD c L p else if s2 c L p = true then p + 2 else p + 1) else p
def nmV (c : Nat → Nat) (L p : Nat) : Int32 := if eD c L p - p ≤ 5 then nI (nvf c p (eD c L p - p)) else -1
/-- a Reader that looks at the token at p -/
def rdC (c : Nat → Nat) (L p : Nat) (N : gS) : Prop := p ≤ L ∧ mg N 2 = nI p ∧ mg N 3 = nI (tkE c L p) ∧ (p < L → (bL c L p = true → mg N 4 = 1) ∧ (bL c L p = false → bD c L p = true → mg N 4 = 2 ∧ mg N 6 = nmV c L p) ∧ (bL c L p = false → bD c L p = false → mg N 4 = 3 ∧ mg N 5 = nI (sgN c L p))) ∧ (¬ p < L → mg N 4 = 0)
theorem tkE_b {c : Nat → Nat} {L p : Nat} (h : p ≤ L) : p ≤ tkE c L p ∧ tkE c L p ≤ L ∧ (p < L → p < tkE c L p) := by
  unfold tkE
  by_cases a : p < L
  · rw [if_pos a]
    by_cases b : bL c L p = true
    · rw [if_pos b]
      have e : eL c L p = eL c L (p + 1) := eo_t (bL_in c L) b
      have h1 : p + 1 ≤ eL c L (p + 1) := eo_ge _ _ _
      have h2 : eL c L (p + 1) ≤ L := eo_le _ (by omega)
      omega
    · rw [if_neg b]
      by_cases d : bD c L p = true
      · rw [if_pos d]
        have e : eD c L p = eD c L (p + 1) := eo_t (bD_in c L) d
        have h1 : p + 1 ≤ eD c L (p + 1) := eo_ge _ _ _
        have h2 : eD c L (p + 1) ≤ L := eo_le _ (by omega)
        omega
      · rw [if_neg d]
        by_cases s : s2 c L p = true
        · rw [if_pos s]
          unfold s2 at s
          simp only [Bool.and_eq_true, decide_eq_true_eq] at s
          omega
        · rw [if_neg s]
          omega
  · rw [if_neg a]
    omega
/-- of a Reader, all stays but the token -/
def fr7 (M N : gS) : Prop := mg N 1 = mg M 1 ∧ mg N 7 = mg M 7 ∧ ma N = ma M
theorem fr7_trans {A B C : gS} (h : fr7 A B) (g : fr7 B C) : fr7 A C := ⟨g.1.trans h.1, g.2.1.trans h.2.1, g.2.2.trans h.2.2⟩
theorem c_passName_l {c : Nat → Nat} {L : Nat} {M Mt : gS} (ht : txC c L M Mt) {p : Nat} (Q : gS → gS → Prop) (h : ∀ N, fr7 M N → mg N 2 = nI p → mg N 3 = nI (eL c L p) → mg N 4 = 1 → Q N Mt) : ∀ n q, L - q = n → q ≤ L → eL c L q = eL c L p → ∀ N, fr7 M N → mg N 2 = nI p → mg N 3 = nI q → mg N 4 = 1 → wX7_passName_5 Q (n + 1) N Mt := by
  obtain ⟨h1, hL, hc⟩ := ht
  intro n
  induction n with
  | zero =>
    intro q hq hqL he N hf n2 n3 n4
    have es : eL c L q = q := eo_f (bL_in c L) (by unfold bL; rw [decide_eq_false (by omega), Bool.false_and])
    rw [wX7_passName_5, hf.1, h1, n3]
    exact sw_t (nI_le (by omega) (by omega)) (h N hf n2 (by rw [← he, es]; exact n3) n4)
  | succ n ih =>
    intro q hq hqL he N hf n2 n3 n4
    rw [wX7_passName_5, hf.1, h1, n3, nI_clamp (by omega), (hc q).2]
    refine sw_f (nI_ge (by omega) (by omega)) ⟨vp_in_nI (by omega) (by decide), c_isLetter (hc q).1 ?_⟩
    rw [← bL_lt (L := L) (by omega)]
    cases b : bL c L q with
    | false =>
      have es : eL c L q = q := eo_f (bL_in c L) b
      exact bw_f (h N hf n2 (by rw [← he, es]; exact n3) n4)
    | true =>
      have es : eL c L q = eL c L (q + 1) := eo_t (bL_in c L) b
      refine bw_t (fun x5 h5 N6 h6 => ?_)
      refine ih (q + 1) (by omega) (by omega) (by rw [← es]; exact he) N6 (by rw [h6]; exact hf) (by rw [h6]; exact n2) (by rw [h6, mg_sg, if_pos rfl, h5, nI_1]) (by rw [h6]; exact n4)
theorem nvf_lt {c : Nat → Nat} (hc : ∀ j, c j < 256) (p : Nat) : ∀ n, nvf c p n < 1000 ^ n := by
  intro n
  induction n with
  | zero => show 0 < 1; decide
  | succ n ih =>
    have := hc (p + n)
    rw [nvf, Nat.pow_succ]
    omega
theorem nv5 {c : Nat → Nat} {L p : Nat} : ∀ n, n ≤ 5 → n ≤ eD c L p - p → nvf c p n < 10 ^ n := by
  intro n
  induction n with
  | zero => intro _ _; show 0 < 1; decide
  | succ n ih =>
    intro h1 h2
    have := ih (by omega) (by omega)
    have hb := eo_in (bD_in c L) _ p (p + n) rfl (by omega) (show p + n < eD c L p by omega)
    unfold bD at hb
    simp only [Bool.and_eq_true, decide_eq_true_eq] at hb
    rw [nvf, Nat.pow_succ]
    omega
/-- what passNumber has reckoned of i digits -/
def nmI (c : Nat → Nat) (p i : Nat) : Int32 := if i ≤ 5 then nI (nvf c p i) else -1
theorem c_passNumber_l {c : Nat → Nat} {L : Nat} {M Mt : gS} (ht : txC c L M Mt) {p : Nat} (hp : p ≤ L) (Q : gS → gS → Prop) (h : ∀ N, fr7 M N → mg N 2 = nI p → mg N 3 = nI (eD c L p) → mg N 4 = 2 → mg N 6 = nmV c L p → Q N Mt) : ∀ n i, eD c L p - (p + i) = n → p + i ≤ eD c L p → ∀ N, fr7 M N → mg N 2 = nI p → mg N 3 = nI (p + i) → mg N 4 = 2 → mg N 6 = nmI c p i → wX7_passNumber_10 Q (n + 1) N Mt := by
  obtain ⟨h1, hL, hc⟩ := ht
  have hE : eD c L p ≤ L := eo_le _ hp
  intro n
  induction n with
  | zero =>
    intro i hi hip N hf n2 n3 n4 n6
    have e : p + i = eD c L p := by omega
    have ef : bD c L (p + i) = false := by rw [e]; exact eo_end (bD_in c L) p
    have hQ := h N hf n2 (by rw [← e]; exact n3) n4 (by rw [n6]; unfold nmV nmI; rw [show eD c L p - p = i by omega])
    rw [wX7_passNumber_10, hf.1, h1, n3, nI_clamp (by omega), (hc (p + i)).2]
    by_cases a : p + i < L
    · refine sw_f (nI_ge a (by omega)) ⟨vp_in_nI (by omega) (by decide), c_isDigit (hc (p + i)).1 ?_⟩
      rw [← bD_lt (L := L) a, ef]
      exact bw_f hQ
    · exact sw_t (nI_le (by omega) (by omega)) hQ
  | succ n ih =>
    intro i hi hip N hf n2 n3 n4 n6
    have et : bD c L (p + i) = true := eo_in (bD_in c L) _ p (p + i) rfl (by omega) (show p + i < eD c L p by omega)
    have hb := et
    unfold bD at hb
    simp only [Bool.and_eq_true, decide_eq_true_eq] at hb
    rw [wX7_passNumber_10, hf.1, h1, n3, n2, nI_clamp (by omega), (hc (p + i)).2, show nI (p + i) - nI p = nI i by rw [pk_sub (by omega)]; congr 1; omega]
    refine sw_f (nI_ge (by omega) (by omega)) ⟨vp_in_nI (by omega) (by decide), c_isDigit (hc (p + i)).1 ?_⟩
    rw [← bD_lt (L := L) hb.1, et]
    refine bw_t ?_
    have nxt : ∀ N8, fr7 M N8 → mg N8 2 = nI p → mg N8 3 = nI (p + i) → mg N8 4 = 2 → mg N8 6 = nmI c p (i + 1) → wX7_passNumber_81 (fun (M0 : gS) (M1 : gS) => wX7_passNumber_10 Q (n + 1) M0 M1) Q N8 Mt := by
      intro N8 f8 m2 m3 m4 m6
      unfold wX7_passNumber_81
      intro x1 hx1 N2 hN2
      refine ih (i + 1) (by omega) (by omega) N2 (by rw [hN2]; exact f8) (by rw [hN2]; exact m2) (by rw [hN2, mg_sg, if_pos rfl, hx1, m3, nI_1]; rfl) (by rw [hN2]; exact m4) (by rw [hN2]; exact m6)
    by_cases a : 5 ≤ i
    · refine sw_t (show nI 5 ≤ nI i from nI_le a (by omega)) (fun N6 h6 => ?_)
      refine nxt N6 (by rw [h6]; exact hf) (by rw [h6]; exact n2) (by rw [h6]; exact n3) (by rw [h6]; exact n4) ?_
      rw [h6, mg_sg, if_pos rfl]
      unfold nmI
      rw [if_neg (by omega)]
    · refine sw_f (show ¬ nI 5 ≤ nI i from nI_ge (by omega) (by omega)) ⟨vp_in_nI (by omega) (by decide), fun x7 h7 N8 h8 => ?_⟩
      refine nxt N8 (by rw [h8]; exact hf) (by rw [h8]; exact n2) (by rw [h8]; exact n3) (by rw [h8]; exact n4) ?_
      rw [h8, mg_sg, if_pos rfl, h7, n6]
      unfold nmI
      rw [if_pos (by omega), if_pos (by omega)]
      show nI (nvf c p i) * nI 10 + nI (c (p + i)) - nI 48 = _
      rw [pk_mul, nI_add, pk_sub (by omega), nvf]
      congr 1
      omega
theorem c_pass46 {c : Nat → Nat} {L : Nat} {M Mt : gS} (ht : txC c L M Mt) {p : Nat} (hp : p ≤ L) (h2 : mg M 2 = nI p) (Q : gS → gS → Prop) (h : ∀ N, fr7 M N → rdC c L p N → Q N Mt) : wX7_advance_46 Q M Mt := by
  obtain ⟨h1, hL, hc⟩ := id ht
  unfold wX7_advance_46
  intro x1 hx1 N2 hN2
  have f2 : fr7 M N2 := by rw [hN2]; exact ⟨rfl, rfl, rfl⟩
  have m2 : mg N2 2 = nI p := by rw [hN2]; exact h2
  have m3 : mg N2 3 = nI p := by rw [hN2, mg_sg, if_pos rfl, hx1, h2]
  have m1 : mg N2 1 = nI L := by rw [f2.1, h1]
  rw [m2, m1, nI_clamp (by omega), (hc p).2]
  by_cases a : p < L
  · refine sw_t (nI_lt a (by omega)) ⟨vp_in_nI (by omega) (by decide), c_isLetter (hc p).1 ?_⟩
    rw [← bL_lt (L := L) a]
    cases bl : bL c L p with
    | true =>
      refine bw_t ?_
      unfold wX7_passName
      intro N1 hN1
      refine ⟨L - p + 1, c_passName_l ht Q (fun N f n2 n3 n4 => h N f ⟨hp, n2, ?_, fun _ => ⟨fun _ => n4, fun z => absurd (z.symm.trans bl) (by decide), fun z => absurd (z.symm.trans bl) (by decide)⟩, fun z => absurd a z⟩) (L - p) p rfl hp rfl N1 (by rw [hN1]; exact f2) (by rw [hN1]; exact m2) (by rw [hN1]; exact m3) (by rw [hN1, mg_sg, if_pos rfl])⟩
      unfold tkE
      rw [if_pos a, if_pos bl]
      exact n3
    | false =>
      refine bw_f ⟨vp_in_nI (by omega) (by decide), c_isDigit (hc p).1 ?_⟩
      rw [← bD_lt (L := L) a]
      cases bd : bD c L p with
      | true =>
        refine bw_t ?_
        unfold wX7_passNumber
        intro N1 hN1 N3 hN3
        refine ⟨eD c L p - (p + 0) + 1, c_passNumber_l ht hp Q (fun N f n2 n3 n4 n6 => h N f ⟨hp, n2, ?_, fun _ => ⟨fun z => absurd (z.symm.trans bl) (by decide), fun _ _ => ⟨n4, n6⟩, fun _ z => absurd (z.symm.trans bd) (by decide)⟩, fun z => absurd a z⟩) _ 0 rfl (eo_ge _ _ _) N3 (by rw [hN3, hN1]; exact f2) (by rw [hN3, hN1]; exact m2) (by rw [hN3, hN1]; exact m3) (by rw [hN3, hN1]; rfl) (by rw [hN3]; rfl)⟩
        unfold tkE
        rw [if_pos a, if_neg (by rw [bl]; decide), if_pos bd]
        exact n3
      | false =>
        refine bw_f ⟨vp_in_nI (by omega) (by decide), ?_⟩
        unfold wX7_passSign
        intro N1 hN1 N3 hN3 x3 hx3 N4 hN4
        have e2 : mg N3 2 = nI p := by rw [hN3, hN1]; exact m2
        have q2 : mg N4 2 = nI p := by rw [hN4]; exact e2
        have q3 : mg N4 3 = nI (p + 1) := by rw [hN4, mg_sg, if_pos rfl, hx3, e2, nI_1]
        have q4 : mg N4 4 = 3 := by rw [hN4, hN3, hN1]; rfl
        have q5 : mg N4 5 = nI (c p) := by rw [hN4, hN3]; rfl
        have f4 : fr7 M N4 := by rw [hN4, hN3, hN1]; exact f2
        have m14 : mg N4 1 = nI L := by rw [f4.1, h1]
        have fin : ∀ N, fr7 M N → mg N 2 = nI p → mg N 4 = 3 → mg N 3 = nI (if s2 c L p = true then p + 2 else p + 1) → mg N 5 = nI (sgN c L p) → Q N Mt := by
          intro N f n2 n4 n3 n5
          refine h N f ⟨hp, n2, ?_, fun _ => ⟨fun z => absurd (z.symm.trans bl) (by decide), fun _ z => absurd (z.symm.trans bd) (by decide), fun _ _ => ⟨n4, n5⟩⟩, fun z => absurd a z⟩
          unfold tkE
          rw [if_pos a, if_neg (by rw [bl]; decide), if_neg (by rw [bd]; decide)]
          exact n3
        have p32 : (c p = 60 ∨ c p = 62) → wX7_passSign_32 Q (nI (c p)) N4 Mt := by
          intro hs
          unfold wX7_passSign_32
          rw [m14, q3, nI_clamp (by omega), (hc (p + 1)).2]
          by_cases b : p + 1 < L
          · refine sw_f (nI_ge b (by omega)) ⟨vp_in_nI (by omega) (by decide), ?_⟩
            by_cases d : c (p + 1) = 61
            · have hs2 : s2 c L p = true := by unfold s2; rw [decide_eq_true hs, decide_eq_true b, decide_eq_true d]; rfl
              refine sw_t (by rw [d]; rfl) (fun x4 hx4 N5 hN5 x6 hx6 N6 hN6 => ?_)
              refine fin N6 (by rw [hN6, hN5]; exact f4) (by rw [hN6, hN5]; exact q2) (by rw [hN6, hN5]; exact q4) ?_ ?_
              · have : mg N5 3 = nI (p + 1) := by rw [hN5]; exact q3
                rw [hN6, mg_sg, if_pos rfl, hx6, this, nI_1, if_pos hs2]
              · unfold sgN
                rw [if_pos hs2, hN6, mg_sg, if_neg (by decide), hN5, mg_sg, if_pos rfl, hx4]
                exact nI_add _ 256
            · have hs2 : s2 c L p = false := by unfold s2; rw [decide_eq_false d, Bool.and_false, Bool.and_false]
              have dc := (hc (p + 1)).1
              refine sw_f (fun z => d ((nI_eq (by omega) (by omega)).1 (show nI (c (p + 1)) = nI 61 from z))) (fin N4 f4 q2 q4 ?_ ?_)
              · rw [if_neg (by rw [hs2]; decide)]; exact q3
              · unfold sgN; rw [if_neg (by rw [hs2]; decide)]; exact q5
          · have hs2 : s2 c L p = false := by unfold s2; rw [decide_eq_false b, Bool.false_and, Bool.and_false]
            refine sw_t (nI_le (by omega) (by omega)) (fin N4 f4 q2 q4 ?_ ?_)
            · rw [if_neg (by rw [hs2]; decide)]; exact q3
            · unfold sgN; rw [if_neg (by rw [hs2]; decide)]; exact q5
        have dc := (hc p).1
        by_cases k60 : c p = 60
        · exact sw_t (by rw [k60]; rfl) (p32 (Or.inl k60))
        · refine sw_f (fun z => k60 ((nI_eq (by omega) (by omega)).1 (show nI (c p) = nI 60 from z))) ?_
          by_cases k62 : c p = 62
          · exact sw_t (by rw [k62]; rfl) (p32 (Or.inr k62))
          · have hs2 : s2 c L p = false := by unfold s2; rw [decide_eq_false (by omega), Bool.false_and]
            refine sw_f (fun z => k62 ((nI_eq (by omega) (by omega)).1 (show nI (c p) = nI 62 from z))) (fin N4 f4 q2 q4 ?_ ?_)
            · rw [if_neg (by rw [hs2]; decide)]; exact q3
            · unfold sgN; rw [if_neg (by rw [hs2]; decide)]; exact q5
  · refine sw_f (nI_nlt (by omega) (by omega)) (fun N19 h19 => h N19 (by rw [h19]; exact f2) ⟨hp, by rw [h19]; exact m2, ?_, fun z => absurd z a, fun _ => by rw [h19, mg_sg, if_pos rfl]⟩)
    unfold tkE
    rw [if_neg a, h19]
    exact m3
theorem c_adv_l {c : Nat → Nat} {L : Nat} {M Mt : gS} (ht : txC c L M Mt) (Q : gS → gS → Prop) : ∀ n q, L - q = n → q ≤ L → ∀ N, fr7 M N → mg N 2 = nI q → (∀ N', fr7 M N' → rdC c L (sk c L q) N' → Q N' Mt) → wX7_advance_8 Q (n + 1) N Mt := by
  obtain ⟨h1, hL, hc⟩ := id ht
  intro n
  induction n with
  | zero =>
    intro q hq hqL N hf n2 h
    have es : sk c L q = q := eo_f (bB_in c L) (by unfold bB; rw [decide_eq_false (by omega), Bool.false_and])
    rw [es] at h
    have htN : txC c L N Mt := by unfold txC; rw [hf.1]; exact ht
    rw [wX7_advance_8, hf.1, h1, n2]
    exact sw_t (nI_le (by omega) (by omega)) (c_pass46 htN hqL n2 Q (fun N' f' r' => h N' (fr7_trans hf f') r'))
  | succ n ih =>
    intro q hq hqL N hf n2 h
    have htN : txC c L N Mt := by unfold txC; rw [hf.1]; exact ht
    have dc := (hc q).1
    rw [wX7_advance_8, hf.1, h1, n2, nI_clamp (by omega), (hc q).2]
    refine sw_f (nI_ge (by omega) (by omega)) ⟨vp_in_nI (by omega) (by decide), ?_⟩
    by_cases e : c q = 32
    · have es : sk c L q = sk c L (q + 1) := eo_t (bB_in c L) (by unfold bB; rw [decide_eq_true (show q < L by omega), decide_eq_true e]; rfl)
      rw [es] at h
      refine sw_t (by rw [e]; rfl) (fun x3 h3 N4 h4 => ?_)
      exact ih (q + 1) (by omega) (by omega) N4 (by rw [h4]; exact hf) (by rw [h4, mg_sg, if_pos rfl, h3, nI_1]) h
    · have es : sk c L q = q := eo_f (bB_in c L) (by unfold bB; rw [decide_eq_false e, Bool.and_false])
      rw [es] at h
      exact sw_f (fun z => e ((nI_eq (by omega) (by omega)).1 (show nI (c q) = nI 32 from z))) (c_pass46 htN hqL n2 Q (fun N' f' r' => h N' (fr7_trans hf f') r'))
theorem c_advance {c : Nat → Nat} {L : Nat} {M Mt : gS} (ht : txC c L M Mt) {q : Nat} (hq : q ≤ L) (h3 : mg M 3 = nI q) (Q : gS → gS → Prop) (h : ∀ N, fr7 M N → rdC c L (sk c L q) N → Q N Mt) : wX7_advance M Mt Q := by
  unfold wX7_advance
  intro x1 h1 N2 h2
  have f2 : fr7 M N2 := by rw [h2]; exact ⟨rfl, rfl, rfl⟩
  have ht2 : txC c L N2 Mt := by unfold txC; rw [f2.1]; exact ht
  exact ⟨L - q + 1, c_adv_l ht2 Q (L - q) q rfl hq N2 ⟨rfl, rfl, rfl⟩ (by rw [h2, mg_sg, if_pos rfl, h1, h3]) (fun N f r => h N (fr7_trans f2 f) r)⟩
/-- the next token's place -/
def nxP (c : Nat → Nat) (L p : Nat) : Nat := sk c L (tkE c L p)
theorem c_next {c : Nat → Nat} {L : Nat} {M Mt : gS} (ht : txC c L M Mt) {p : Nat} (hr : rdC c L p M) (Q : gS → gS → Prop) (h : ∀ N, fr7 M N → rdC c L (nxP c L p) N → Q N Mt) : wX7_advance M Mt Q :=
  c_advance ht (tkE_b hr.1).2.1 hr.2.2.1 Q h
