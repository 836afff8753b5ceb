-- PURE: corner()
def rdL (c : Nat → Nat) (L : Nat) : Nat → Nat → tK_t → Nat → Sum Nat (tK_t × Nat)
  | 0, _, _, _ => .inl 0
  | n + 1, ln, K, p => bnd2 (clX c L (decide (ln = 16)) K p) (fun a => if a.2 < L then (if c a.2 = 59 then rdL c L n (ln + 1) a.1 (nxP c L a.2) else .inl (1 + 8 * a.2 + 0)) else .inr a)
theorem clX_16 (c : Nat → Nat) (L : Nat) (K : tK_t) (p : Nat) : ∃ f, clX c L true K p = .inl f := by
  unfold clX
  split
  · exact ⟨_, if_pos rfl⟩
  · split
    · exact ⟨_, if_pos rfl⟩
    · split
      · exact ⟨_, if_pos rfl⟩
      · split
        · exact ⟨_, if_pos rfl⟩
        · exact ⟨_, rfl⟩
theorem sg59 {c : Nat → Nat} {L p : Nat} (h : c p = 59) (hp : p < L) : bL c L p = false ∧ bD c L p = false ∧ sgN c L p = 59 ∧ tkE c L p = p + 1 := by
  have b1 : bL c L p = false := by unfold bL; rw [decide_eq_false (show ¬ 97 ≤ c p by omega), Bool.false_and, Bool.and_false]
  have b2 : bD c L p = false := by unfold bD; rw [decide_eq_false (show ¬ c p ≤ 57 by omega), Bool.and_false, Bool.and_false]
  have b3 : s2 c L p = false := by unfold s2; rw [decide_eq_false (by omega), Bool.false_and]
  refine ⟨b1, b2, ?_, ?_⟩
  · unfold sgN; rw [if_neg (by rw [b3]; decide)]; exact h
  · unfold tkE; rw [if_pos hp, if_neg (by rw [b1]; decide), if_neg (by rw [b2]; decide), if_neg (by rw [b3]; decide)]
theorem sgN_iff {c : Nat → Nat} {L p x : Nat} (hx : x < 256) (hc : c p < 256) (h60 : x ≠ 60) (h62 : x ≠ 62) : sgN c L p = x ↔ c p = x := by
  unfold sgN
  by_cases s : s2 c L p = true
  · rw [if_pos s]
    unfold s2 at s
    simp only [Bool.and_eq_true, decide_eq_true_eq] at s
    constructor
    · intro z; omega
    · intro z; omega
  · rw [if_neg s]
theorem c_isSign {c : Nat → Nat} {L p x : Nat} {M Mt : gS} (ht : txC c L M Mt) (hr : rdC c L p M) (hx : x < 256) (h60 : x ≠ 60) (h62 : x ≠ 62) (hL : bL c L p = false → bD c L p = false → True) (hl : ∀ q, c q = x → q < L → bL c L q = false ∧ bD c L q = false) (Q : Bool → gS → gS → Prop) (h : Q (decide (p < L ∧ c p = x)) M Mt) : wX7_isSign (nI x) M Mt Q := by
  obtain ⟨r1, r2, r3, r4, r5⟩ := hr
  have hc := (ht.2.2 p).1
  unfold wX7_isSign
  by_cases a : p < L
  · cases b : bL c L p with
    | true =>
      refine sw_f (by rw [(r4 a).1 b]; decide) ?_
      rw [decide_eq_false (fun z => by have := (hl p z.2 a).1; rw [b] at this; exact absurd this (by decide))] at h
      exact h
    | false =>
      cases d : bD c L p with
      | true =>
        refine sw_f (by rw [((r4 a).2.1 b d).1]; decide) ?_
        rw [decide_eq_false (fun z => by have := (hl p z.2 a).2; rw [d] at this; exact absurd this (by decide))] at h
        exact h
      | false =>
        obtain ⟨q4, q5⟩ := (r4 a).2.2 b d
        refine sw_t q4 ?_
        rw [q5]
        have hs : sgN c L p < 1000 := by unfold sgN; split <;> omega
        have iff := sgN_iff (c := c) (L := L) (p := p) hx hc h60 h62
        by_cases e : c p = x
        · rw [decide_eq_true ⟨a, e⟩] at h
          exact sw_t (by rw [iff.2 e]) h
        · rw [decide_eq_false (fun z => e z.2)] at h
          exact sw_f (fun z => e (iff.1 ((nI_eq (by omega) (by omega)).1 z))) h
  · rw [decide_eq_false (fun z => a z.1)] at h
    exact sw_f (by rw [r5 a]; decide) h
theorem c_semi {c : Nat → Nat} {L p : Nat} {M Mt : gS} (ht : txC c L M Mt) (hr : rdC c L p M) (Q : Bool → gS → gS → Prop) (h : Q (decide (p < L ∧ c p = 59)) M Mt) : wX7_isSign (59 : Int32) M Mt Q :=
  c_isSign (x := 59) ht hr (by omega) (by omega) (by omega) (fun _ _ => trivial) (fun q hq hl => ⟨(sg59 hq hl).1, (sg59 hq hl).2.1⟩) Q h
/-- behind a clause -/
theorem c_goes {c : Nat → Nat} {L p : Nat} {M Mt : gS} (ht : txC c L M Mt) (hr : rdC c L p M) (h7 : mg M 7 = 0) (Q : Bool → gS → gS → Prop) (h1 : ¬ p < L → Q false M Mt) (h2 : p < L → c p = 59 → ∀ N, fr7 M N → mg N 7 = 0 → rdC c L (nxP c L p) N → Q true N Mt) (h3 : p < L → ¬ c p = 59 → ∀ N, flC c L (1 + 8 * p + 0) M N → Q false N Mt) : wX7_goesOnToClause M Mt Q := by
  unfold wX7_goesOnToClause
  refine sw_t h7 ?_
  by_cases a : p < L
  · refine sw_f ?_ (c_semi ht hr _ ?_)
    · cases b : bL c L p with
      | true => rw [(hr.2.2.2.1 a).1 b]; decide
      | false =>
        cases d : bD c L p with
        | true => rw [((hr.2.2.2.1 a).2.1 b d).1]; decide
        | false => rw [((hr.2.2.2.1 a).2.2 b d).1]; decide
    · by_cases e : c p = 59
      · rw [decide_eq_true ⟨a, e⟩]
        exact bw_t (c_next ht hr _ (fun N f r => h2 a e N f (by rw [f.2.1]; exact h7) r))
      · rw [decide_eq_false (fun z => e z.2)]
        exact bw_f (c_fail0 hr h7 0 _ (fun N hN => h3 a e N hN))
  · exact sw_t (hr.2.2.2.2 a) (h1 a)
theorem c_readC {c : Nat → Nat} {L : Nat} {B Mt M0 : gS} (ht : txC c L B Mt) (Q : Int32 → gS → gS → gS → gS → Prop) : ∀ n ln, ln + n = 17 → 1 ≤ n → ∀ K p Mr Mc, okK K → frF B Mr → mg Mr 7 = 0 → rdC c L p Mr → krC K Mc → (∀ K' p', rdL c L n ln K p = .inr (K', p') → okK K' → ∀ N Nc, frF B N → mg N 7 = 0 → rdC c L p' N → krC K' Nc → wX2_read_94 Q M0 N Mt Nc) → (∀ f, rdL c L n ln K p = .inl f → 1 ≤ f → f < 10000 → ∀ N Nc, flC c L f B N → wX2_read_94 Q M0 N Mt Nc) → wX2_read_55 Q (n + 1) 1 (nI ln) M0 Mr Mt Mc := by
  have hL := ht.2.1
  intro n
  induction n with
  | zero => intro ln _ h; omega
  | succ n ih =>
    intro ln hln _ K p Mr Mc hK hf h7 hr hc h1 h2
    have tM := txC_F ht hf
    have stp : ∀ N Nc y1, y1 = (0 : Int32) → 1 ≤ n ∨ n = 0 → wX2_read_94 Q M0 N Mt Nc → wX2_read_55 Q (n + 1) y1 (nI (ln + 1)) M0 N Mt Nc := by
      intro N Nc y1 hy _ hq
      rw [wX2_read_55]
      by_cases z : 16 < ln + 1
      · exact sw_t (show nI 16 < nI (ln + 1) from nI_lt z (by omega)) hq
      · exact sw_f (show ¬ nI 16 < nI (ln + 1) from nI_nlt (by omega) (by omega)) (sw_t hy hq)
    have body : wX2_read_77 (fun (y1 : Int32) (y2 : Int32) (M0 : gS) (M1 : gS) (M2 : gS) (M3 : gS) => wX2_read_55 Q (n + 1) y1 y2 M0 M1 M2 M3) Q (nI ln) (bI (decide (ln = 16))) M0 Mr Mt Mc := by
      unfold wX2_read_77
      rw [rdL] at h1 h2
      refine c_clause tM hr h7 hK hc (decide (ln = 16)) _ (fun K' p' ek oK hp' N Nc f g7 r kc => ?_) (fun fl ef g1 g2 N Nc hN => ?_)
      · rw [ek] at h1 h2
        have tN := txC_7 tM f
        have hfN := frF_trans hf (frF_7 f)
        refine c_goes tN r g7 _ (fun a x10 hx10 => ?_) (fun a e N2 f2 g72 r2 x10 hx10 => ?_) (fun a e N2 hN2 x10 hx10 => ?_)
        · rw [hx10, nI_1]
          refine stp N Nc _ rfl (by omega) (h1 K' p' ?_ oK N Nc hfN g7 r kc)
          show (if p' < L then _ else _) = _
          rw [if_neg a]
        · rw [hx10, nI_1]
          have en : 1 ≤ n := by
            rcases (show 1 ≤ n ∨ n = 0 by omega) with z | z
            · exact z
            · have e16 : ln = 16 := by omega
              obtain ⟨f0, hf0⟩ := clX_16 c L K p
              rw [decide_eq_true e16, hf0] at ek
              exact absurd ek (by simp)
          have eL : (bnd2 (Sum.inr (K', p')) (fun a : tK_t × Nat => if a.2 < L then (if c a.2 = 59 then rdL c L n (ln + 1) a.1 (nxP c L a.2) else Sum.inl (1 + 8 * a.2 + 0)) else Sum.inr a) : Sum Nat (tK_t × Nat)) = rdL c L n (ln + 1) K' (nxP c L p') := by
            show (if p' < L then (if c p' = 59 then _ else _) else _) = _
            rw [if_pos a, if_pos e]
          rw [eL] at h1 h2
          exact ih (ln + 1) (by omega) en K' (nxP c L p') N2 Nc oK (frF_trans hfN (frF_7 f2)) g72 r2 kc h1 h2
        · rw [hx10, nI_1]
          refine stp N2 Nc _ rfl (by omega) (h2 (1 + 8 * p' + 0) ?_ (by omega) (by omega) N2 Nc ⟨frF_trans hfN hN2.1, hN2.2⟩)
          show (if p' < L then (if c p' = 59 then _ else _) else _) = _
          rw [if_pos a, if_neg e]
      · rw [ef] at h2
        obtain ⟨q1, q2, q3⟩ := hN
        unfold wX7_goesOnToClause
        refine sw_f (by rw [q2]; exact nI_ne0 (by omega) (by omega)) (fun x10 hx10 => ?_)
        rw [hx10, nI_1]
        exact stp N Nc _ rfl (by omega) (h2 fl rfl g1 g2 N Nc ⟨frF_trans hf q1, q2, q3⟩)
    rw [wX2_read_55]
    refine sw_f (show ¬ nI 16 < nI ln from nI_nlt (by omega) (by omega)) (sw_f (by decide) ?_)
    by_cases e16 : ln = 16
    · rw [decide_eq_true e16] at body
      exact sw_t (by rw [e16]; rfl) body
    · rw [decide_eq_false e16] at body
      exact sw_f (fun z => e16 ((nI_eq (by omega) (by omega)).1 (show nI ln = nI 16 from z))) body
def K0 : tK_t := (0, 0, -1, fun _ => 0, fun _ => 0, fun _ => 0, fun _ => 0)
theorem ok_K0 : okK K0 := ⟨by decide, by decide, Or.inl rfl, fun j hj => absurd hj (Nat.not_lt_zero j), fun j hj => absurd hj (Nat.not_lt_zero j), fun j _ => Nat.zero_le 7⟩
/-- a corner's text: its fault, or what it tells -/
def rdF (c : Nat → Nat) (L : Nat) : Sum Nat tK_t := bnd2 (rdL c L 17 0 K0 (sk c L 0)) (fun a => if a.1.1 = 0 ∨ a.1.2.1 = 0 then .inl (1 + 8 * a.2 + 0) else .inr a.1)
def agK (g : Int32) : Int32 := if (0 : Int32) < g then g else 0
theorem c_read {c : Nat → Nat} {L : Nat} {Mr Mt M0 Mc : gS} (ht : txC c L Mr Mt) (h3 : mg Mr 3 = 0) (h7 : mg Mr 7 = 0) (Q : Int32 → gS → gS → gS → gS → Prop) (h1 : ∀ K, rdF c L = .inr K → okK K → K.1 ≠ 0 → K.2.1 ≠ 0 → ∀ N Nc, mg Nc 0 = nI K.1 → mg Nc 2 = nI K.2.1 → mg Nc 4 = agK K.2.2.1 → (∀ j, j < K.1 → ma Nc 1 j = nI (K.2.2.2.1 j * K.2.2.2.2.1 j)) → (∀ j, j < K.2.1 → ma Nc 3 j = nI (K.2.2.2.2.2.1 j)) → (∀ j, j < 2 → ma Nc 5 j = nI (K.2.2.2.2.2.2 j)) → Q 0 M0 N Mt Nc) (h2 : ∀ f, rdF c L = .inl f → 1 ≤ f → f < 10000 → ∀ N Nc, Q (nI f) M0 N Mt Nc) : wX2_read M0 Mr Mt Mc Q := by
  have hL := ht.2.1
  unfold rdF at h1 h2
  unfold wX2_read
  intro N1 e1 N2 e2 N3 e3 N4 e4 N5 e5
  refine c_advance ht (q := 0) (by omega) h3 _ (fun N f r => ⟨18, ?_⟩)
  have k0 : krC K0 N5 := by
    rw [e5, e4, e3, e2, e1]
    refine ⟨rfl, rfl, rfl, fun j hj => absurd hj (Nat.not_lt_zero j), fun j hj => absurd hj (Nat.not_lt_zero j), fun j hj => ?_⟩
    rcases (show j = 0 ∨ j = 1 by omega) with rfl | rfl <;> rfl
  refine c_readC ht Q 17 0 (by omega) (by omega) K0 (sk c L 0) N N5 ok_K0 (frF_7 f) (by rw [f.2.1]; exact h7) r k0 (fun K p ek oK N' Nc fr g7 r' kc => ?_) (fun fl ef g1 g2 N' Nc hN => ?_)
  · rw [ek] at h1 h2
    obtain ⟨q0, q2, q4, q1, q3, q5⟩ := kc
    unfold wX2_read_94 wX2_read_114
    rw [q0, q2]
    have fin : K.1 = 0 ∨ K.2.1 = 0 → wX7_fail (0 : Int32) N' Mt (fun (N2 : gS) (N3 : gS) => (wX2_read_122 Q M0 N2 N3 Nc)) := by
      intro z
      refine c_fail0 r' g7 0 _ (fun N2 hN2 => ?_)
      unfold wX2_read_122
      intro x1 _ N3 _
      rw [hN2.2.1]
      exact h2 _ (by show (if K.1 = 0 ∨ K.2.1 = 0 then _ else _) = _; rw [if_pos z]) (by omega) (by have := r'.1; omega) N2 N3
    have o1 := oK.1
    have o2 := oK.2.1
    by_cases z1 : K.1 = 0
    · exact sw_t (by rw [z1]; rfl) (fin (Or.inl z1))
    · refine sw_f (nI_ne0 (by omega) (by omega)) ?_
      by_cases z2 : K.2.1 = 0
      · exact sw_t (by rw [z2]; rfl) (fin (Or.inr z2))
      · refine sw_f (nI_ne0 (by omega) (by omega)) ?_
        unfold wX2_read_122
        intro x1 hx1 N2 hN2
        rw [g7]
        have eK : (bnd2 (Sum.inr (K, p)) (fun a : tK_t × Nat => if a.1.1 = 0 ∨ a.1.2.1 = 0 then Sum.inl (1 + 8 * a.2 + 0) else Sum.inr a.1) : Sum Nat tK_t) = .inr K := by
          show (if K.1 = 0 ∨ K.2.1 = 0 then _ else _) = _
          rw [if_neg (by omega)]
        refine h1 K eK oK z1 z2 N' N2 (by rw [hN2]; exact q0) (by rw [hN2]; exact q2) ?_ (fun j hj => by rw [hN2]; exact q1 j hj) (fun j hj => by rw [hN2]; exact q3 j hj) (fun j hj => by rw [hN2]; exact q5 j hj)
        rw [hN2, mg_sg, if_pos rfl, hx1, q4]
        rfl
  · rw [ef] at h2
    have fin : ∀ N2 N3, mg N2 7 = nI fl → Q (mg N2 7) M0 N2 Mt N3 := fun N2 N3 e => by rw [e]; exact h2 fl rfl g1 g2 N2 N3
    obtain ⟨_, q7, p, rp⟩ := hN
    have f114 : wX7_fail (0 : Int32) N' Mt (fun (N2 : gS) (N3 : gS) => (wX2_read_122 Q M0 N2 N3 Nc)) := by
      refine c_fail rp 0 _ (fun N2 _ _ e7 => ?_)
      unfold wX2_read_122
      intro x1 _ N3 _
      refine fin N2 N3 ?_
      rw [e7, q7]
      unfold ftC
      rw [if_neg (nI_ne0 (by omega) (by omega))]
    unfold wX2_read_94 wX2_read_114
    refine ⟨fun _ => f114, fun _ => ⟨fun _ => f114, fun _ => ?_⟩⟩
    unfold wX2_read_122
    intro x1 _ N3 _
    exact fin N' N3 q7
def tlX (c : Nat → Nat) (L n ln : Nat) (a : tK_t × Nat) : Sum Nat (tK_t × Nat) := if a.2 < L then (if c a.2 = 59 then rdL c L n ln a.1 (nxP c L a.2) else .inl (1 + 8 * a.2 + 0)) else .inr a
def fnX (a : tK_t × Nat) : Sum Nat tK_t := if a.1.1 = 0 ∨ a.1.2.1 = 0 then .inl (1 + 8 * a.2 + 0) else .inr a.1
theorem rdL_s (c : Nat → Nat) (L n ln : Nat) (K : tK_t) (p : Nat) : rdL c L (n + 1) ln K p = bnd2 (clX c L (decide (ln = 16)) K p) (tlX c L n (ln + 1)) := rfl
theorem seV_59 {c : Nat → Nat} {L p : Nat} (hc : c p < 256) : seV c L p = 59 ↔ p < L ∧ c p = 59 := by
  unfold seV
  by_cases a : p < L
  · rw [if_pos a]
    refine ⟨fun z => ⟨a, (nI_eq (by omega) (by omega)).1 (show nI (c p) = nI 59 from z)⟩, fun z => by rw [z.2]; rfl⟩
  · rw [if_neg a]
    exact ⟨fun z => absurd z (by decide), fun z => absurd z.1 a⟩
theorem seV_m {c : Nat → Nat} {L p : Nat} (hc : c p < 256) : seV c L p = -1 ↔ ¬ p < L := by
  unfold seV
  by_cases a : p < L
  · rw [if_pos a]
    exact ⟨fun z => absurd z (nI_nm1 (by omega)), fun z => absurd a z⟩
  · rw [if_neg a]
    exact ⟨fun _ => a, fun _ => rfl⟩
theorem m_rd35 {c : Nat → Nat} {L : Nat} {B : gS} (ht : txR c L B) (h16 : mg B 16 = 6) (Q : Bool → gS → Prop) (h1 : ∀ K N, fK B N → mg N 14 = 0 → krR K N → okK K → K.1 ≠ 0 → K.2.1 ≠ 0 → rdF c L = .inr K → wX12_readsAll_125 Q N) (h2 : ∀ f N, rdF c L = .inl f → fK B N → mg N 14 = nI f → wX12_readsAll_125 Q N) : ∀ n ln, ln + n = 17 → 1 ≤ n → ∀ K p M, okK K → fK B M → mg M 14 = 0 → mg M 19 = nI ln → atP c L p M → krR K M → rdF c L = bnd2 (tlX c L n ln (K, p)) fnX → (∀ K' p', clX c L (decide (ln = 16)) K (nxP c L p) = .inr (K', p') → okK K') → (∀ K p ln, okK K → p ≤ L → ∀ K' p', clX c L (decide (ln = 16)) K p = .inr (K', p') → okK K') → wX12_readsAll_35 Q (n + 1) 1 M := by
  have hL := ht.2.1
  intro n
  induction n with
  | zero => intro ln _ h; omega
  | succ n ih =>
    intro ln hln _ K p M hK hf h14 h19 ha hk he _ hcl
    have tM := txR_K ht hf
    have hp := atP_le ha
    have hcp := (ht.2.2 p).1
    have m16 : mg M 16 = 6 := by rw [hf.2 16 (by decide) (by decide) (by decide) (by decide) (by decide) (by decide) (by decide)]; exact h16
    rw [wX12_readsAll_35]
    refine sw_f (by decide) (m_seeA tM ha _ (fun N f e => ?_))
    have tN := txR_fl tM f
    have aN' := atP_of ha e
    have fN := fK_trans hf (fK_1 f)
    have n14 : mg N 14 = 0 := by rw [f.2 14 (by decide)]; exact h14
    have n16 : mg N 16 = 6 := by rw [f.2 16 (by decide)]; exact m16
    have kN := krR_1 hk f
    have hnx := nxP_le (c := c) hp
    unfold tlX at he
    by_cases s : p < L ∧ c p = 59
    · have he' : rdF c L = bnd2 (rdL c L (n + 1) ln K (nxP c L p)) fnX := by
        rw [he]
        show bnd2 (if p < L then (if c p = 59 then _ else _) else _) fnX = _
        rw [if_pos s.1, if_pos s.2]
      rw [rdL_s] at he'
      refine sw_t ((seV_59 hcp).2 s) (fun x5 h5 M6 h6 => ?_)
      have f6 : fK N M6 := by rw [h6]; exact fK_sg N (Or.inr (Or.inr (Or.inr (Or.inl rfl)))) _
      have a6 : atP c L (nxP c L p) M6 := by
        refine ⟨p + 1, by omega, by rw [h6, mg_sg, if_pos rfl, h5, e, nI_1], ?_⟩
        unfold nxP
        rw [(sg59 s.2 s.1).2.2.2]
      refine m_clauseC (txR_K tN f6) a6 (by rw [h6]; exact n14) (by rw [h6]; exact n16) (show ln ≤ 16 by omega) (by rw [h6]; show mg N 19 = _; rw [f.2 19 (by decide)]; exact h19) hK (by rw [h6]; exact kN) _ (fun K' p' ek N2 f2 g19 g14 a2 k2 => ?_) (fun fl ef N2 f2 g14 => ?_)
      · rw [ek] at he'
        have en : 1 ≤ n := by
          rcases (show 1 ≤ n ∨ n = 0 by omega) with z | z
          · exact z
          · have e16 : ln = 16 := by omega
            obtain ⟨f0, hf0⟩ := clX_16 c L K (nxP c L p)
            rw [decide_eq_true e16, hf0] at ek
            exact absurd ek (by simp)
        have oK' := hcl K (nxP c L p) ln hK hnx K' p' ek
        exact ih (ln + 1) (by omega) en K' p' N2 oK' (fK_trans fN (fK_trans f6 f2)) g14 g19 a2 k2 he' (fun K2 p2 e2 => hcl K' (nxP c L p') (ln + 1) oK' (nxP_le (atP_le a2)) K2 p2 e2) hcl
      · rw [ef] at he'
        rw [wX12_readsAll_35]
        unfold wX12_readsAll_66 wX12_readsAll_88
        exact sw_t rfl (sw_t rfl (sw_t rfl (h2 fl N2 he' (fK_trans fN (fK_trans f6 f2)) g14)))
    · refine sw_f (fun z => s ((seV_59 hcp).1 z)) ?_
      unfold wX12_readsAll_66
      refine sw_f (by decide) (m_seeA tN aN' _ (fun N2 f2 e2 => ?_))
      have fN2 := fK_trans fN (fK_1 f2)
      have q14 : mg N2 14 = 0 := by rw [f2.2 14 (by decide)]; exact n14
      have k2 := krR_1 kN f2
      by_cases a : p < L
      · have hx : ¬ c p = 59 := fun z => s ⟨a, z⟩
        have he' : rdF c L = .inl (1 + 8 * p + 0) := by
          rw [he]
          show bnd2 (if p < L then (if c p = 59 then _ else _) else _) fnX = _
          rw [if_pos a, if_neg hx]
          rfl
        refine sw_f (fun z => (seV_m hcp).1 z a) ?_
        rw [e2]
        refine m_fails q14 0 p _ (fun N3 f3 _ g => ?_)
        unfold wX12_readsAll_88
        exact sw_t rfl (h2 _ N3 he' (fK_trans fN2 (fK_3 f3)) g)
      · have he' : rdF c L = fnX (K, p) := by
          rw [he]
          show bnd2 (if p < L then _ else _) fnX = _
          rw [if_neg a]
          rfl
        have z16 : mg N2 16 = 6 := by rw [f2.2 16 (by decide)]; exact n16
        refine sw_t ((seV_m hcp).2 a) ?_
        unfold wX12_readsAll_88 wX12_readsAll_115
        rw [k2.1, k2.2.1]
        have o1 := hK.1
        have o2 := hK.2.1
        have bad : K.1 = 0 ∨ K.2.1 = 0 → wX12_fails (0 : Int32) (mg N2 13) N2 (fun (b3 : Bool) (M2 : gS) => (wX12_readsAll_125 Q M2)) := by
          intro z
          rw [e2]
          refine m_fails q14 0 p _ (fun N3 f3 _ g => h2 _ N3 ?_ (fK_trans fN2 (fK_3 f3)) g)
          rw [he']
          show (if K.1 = 0 ∨ K.2.1 = 0 then _ else _) = _
          rw [if_pos z]
        refine sw_f (by decide) (sw_t z16 ?_)
        by_cases z1 : K.1 = 0
        · exact sw_t (by rw [z1]; rfl) (bad (Or.inl z1))
        · refine sw_f (nI_ne0 (by omega) (by omega)) ?_
          by_cases z2 : K.2.1 = 0
          · exact sw_t (by rw [z2]; rfl) (bad (Or.inr z2))
          · refine sw_f (nI_ne0 (by omega) (by omega)) (h1 K N2 fN2 q14 k2 hK z1 z2 ?_)
            rw [he']
            show (if K.1 = 0 ∨ K.2.1 = 0 then _ else _) = _
            rw [if_neg (by omega)]
theorem pNum_ok {c : Nat → Nat} {L : Nat} {K : tK_t} (hK : okK K) : ∀ (many : Bool) p K' p', clX c L many K p = .inr (K', p') → okK K' := by
  obtain ⟨k1, k2, k3, k4, k5, k6⟩ := hK
  intro many p K' p' h
  unfold clX at h
  cases many with
  | true =>
    obtain ⟨f, hf⟩ := clX_16 c L K p
    unfold clX at hf
    rw [hf] at h
    exact absurd h (by simp)
  | false =>
    simp only [Bool.false_eq_true, if_false] at h
    by_cases e1 : lsW c L p = Wtune
    · rw [if_pos e1] at h
      unfold clT at h
      by_cases e4 : K.1 = 4
      · rw [if_pos e4] at h; exact absurd h (by simp)
      · rw [if_neg e4] at h
        cases ea : pNum c L (nxP c L p) 1 9 with
        | inl f => rw [ea] at h; exact absurd h (by simp [bnd2])
        | inr a =>
          rw [ea] at h
          obtain ⟨_, _, _, b1, b2⟩ := pNum_b (a := a.1) (q := a.2) ea
          have h' : bnd2 (pNum c L a.2 1 8) (fun b => (Sum.inr ((K.1 + 1, K.2.1, K.2.2.1, updN K.2.2.2.1 K.1 a.1, updN K.2.2.2.2.1 K.1 b.1, K.2.2.2.2.2.1, K.2.2.2.2.2.2), b.2) : Sum Nat (tK_t × Nat))) = .inr (K', p') := h
          cases eb : pNum c L a.2 1 8 with
          | inl f => rw [eb] at h'; exact absurd h' (by simp [bnd2])
          | inr b =>
            rw [eb] at h'
            obtain ⟨_, _, _, b3, b4⟩ := pNum_b (a := b.1) (q := b.2) eb
            have e := congrArg Prod.fst (Sum.inr.inj h')
            show okK (Prod.fst (K', p'))
            rw [← e]
            refine ⟨by show K.1 + 1 ≤ 4; omega, k2, k3, fun j hj => ?_, k5, k6⟩
            have hj' : j < K.1 + 1 := hj
            show 1 ≤ updN _ _ _ j ∧ updN _ _ _ j ≤ 9 ∧ 1 ≤ updN _ _ _ j ∧ updN _ _ _ j ≤ 8
            by_cases z : j = K.1
            · rw [z, updN_s, updN_s]; omega
            · rw [updN_o _ _ z, updN_o _ _ z]; exact k4 j (by omega)
    rw [if_neg e1] at h
    by_cases e2 : lsW c L p = Wword
    · rw [if_pos e2] at h
      unfold clW at h
      by_cases e4 : K.2.1 = 4
      · rw [if_pos e4] at h; exact absurd h (by simp)
      · rw [if_neg e4] at h
        cases ea : pNum c L (nxP c L p) 1 9 with
        | inl f => rw [ea] at h; exact absurd h (by simp [bnd2])
        | inr a =>
          rw [ea] at h
          obtain ⟨_, _, _, b1, b2⟩ := pNum_b (a := a.1) (q := a.2) ea
          have e := congrArg Prod.fst (Sum.inr.inj h)
          show okK (Prod.fst (K', p'))
          rw [← e]
          refine ⟨k1, by show K.2.1 + 1 ≤ 4; omega, k3, k4, fun j hj => ?_, k6⟩
          have hj' : j < K.2.1 + 1 := hj
          show 1 ≤ updN _ _ _ j ∧ updN _ _ _ j ≤ 9
          by_cases z : j = K.2.1
          · rw [z, updN_s]; omega
          · rw [updN_o _ _ z]; exact k5 j (by omega)
    rw [if_neg e2] at h
    by_cases e3 : lsW c L p = Wpurse
    · rw [if_pos e3] at h
      unfold clP at h
      cases ea : pNum c L (nxP c L p) 0 1 with
      | inl f => rw [ea] at h; exact absurd h (by simp [bnd2])
      | inr a =>
        rw [ea] at h
        have h' : bnd2 (pNum c L a.2 0 7) (fun b => (Sum.inr ((K.1, K.2.1, K.2.2.1, K.2.2.2.1, K.2.2.2.2.1, K.2.2.2.2.2.1, updN K.2.2.2.2.2.2 a.1 b.1), b.2) : Sum Nat (tK_t × Nat))) = .inr (K', p') := h
        cases eb : pNum c L a.2 0 7 with
        | inl f => rw [eb] at h'; exact absurd h' (by simp [bnd2])
        | inr b =>
          rw [eb] at h'
          obtain ⟨_, _, _, b3, b4⟩ := pNum_b (a := b.1) (q := b.2) eb
          have e := congrArg Prod.fst (Sum.inr.inj h')
          show okK (Prod.fst (K', p'))
          rw [← e]
          refine ⟨k1, k2, k3, k4, k5, fun j hj => ?_⟩
          show updN _ _ _ j ≤ 7
          by_cases z : j = a.1
          · rw [z, updN_s]; omega
          · rw [updN_o _ _ z]; exact k6 j hj
    rw [if_neg e3] at h
    by_cases e5 : lsW c L p = Wagain
    · rw [if_pos e5] at h
      unfold clA at h
      by_cases e4 : K.2.2.1 = -1
      · rw [if_pos e4] at h
        cases ea : pNum c L (nxP c L p) 0 9 with
        | inl f => rw [ea] at h; exact absurd h (by simp [bnd2])
        | inr a =>
          rw [ea] at h
          obtain ⟨_, _, _, b1, b2⟩ := pNum_b (a := a.1) (q := a.2) ea
          have e := congrArg Prod.fst (Sum.inr.inj h)
          show okK (Prod.fst (K', p'))
          rw [← e]
          exact ⟨k1, k2, Or.inr ⟨a.1, b2, rfl⟩, k4, k5, k6⟩
      · rw [if_neg e4] at h; exact absurd h (by simp)
    rw [if_neg e5] at h
    exact absurd h (by simp)
/-- all that reading a whole text may change of the reference -/
def fA (M N : gS) : Prop := (∀ k, k ≠ 4 → k ≠ 10 → k ≠ 11 → k ≠ 12 → ma N k = ma M k) ∧ mg N 2 = mg M 2
theorem m_readsC {c : Nat → Nat} {L : Nat} {M : gS} (ht : txR c L M) (h16 : mg M 16 = 6) (hk : krR K0 M) (Q : Bool → gS → Prop) (h1 : ∀ K, rdF c L = .inr K → okK K → K.1 ≠ 0 → K.2.1 ≠ 0 → ∀ N, fA M N → mg N 1 = 0 → krR K N → Q true N) (h2 : ∀ f, rdF c L = .inl f → 1 ≤ f → f < 10000 → ∀ N, fA M N → mg N 1 = 0 → mg N 14 = nI f → Q false N) (hfb : ∀ f, rdF c L = .inl f → 1 ≤ f ∧ f < 10000) : wX12_readsAll M Q := by
  have hL := ht.2.1
  unfold wX12_readsAll
  rw [h16]
  refine ⟨show vp_in (nI 6) 7 from vp_in_nI (by omega) (by decide), fun M1 e1 M2 e2 M3 e3 M4 e4 M5 e5 => ?_⟩
  have a5 : ∀ k, k ≠ 4 → ma M5 k = ma M k := fun k hk => by rw [e5, e4, e3, e2, e1]; show ma (sa M 4 _ _) k = _; rw [ma_sa, if_neg hk]
  have g5 : ∀ k, k ≠ 13 → k ≠ 14 → k ≠ 17 → k ≠ 19 → mg M5 k = mg M k := fun k p1 p2 p3 p4 => by rw [e5, mg_sg, if_neg p3, e4, mg_sg, if_neg p2, e3, mg_sg, if_neg p1, e2, mg_sg, if_neg p4, e1]; rfl
  have t5 : txR c L M5 := by unfold txR; rw [a5 0 (by decide), g5 1 (by decide) (by decide) (by decide) (by decide)]; exact ht
  have s13 : mg M5 13 = nI 0 := by rw [e5, e4, e3]; rfl
  have s14 : mg M5 14 = 0 := by rw [e5, e4]; rfl
  have s16 : mg M5 16 = 6 := by rw [g5 16 (by decide) (by decide) (by decide) (by decide)]; exact h16
  have s19 : mg M5 19 = nI 0 := by rw [e5, e4, e3, e2]; rfl
  have k5 : krR K0 M5 := by
    unfold krR at *
    rw [a5 10 (by decide), a5 11 (by decide), a5 12 (by decide), g5 7 (by decide) (by decide) (by decide) (by decide), g5 8 (by decide) (by decide) (by decide) (by decide), g5 9 (by decide) (by decide) (by decide) (by decide)]
    exact hk
  have fA5 : ∀ N, fK M5 N → ∀ N2, N2 = sg N 1 0 → fA M N2 := by
    intro N f N2 hN2
    rw [hN2]
    refine ⟨fun k p1 p2 p3 p4 => ?_, ?_⟩
    · show ma N k = ma M k
      rw [f.1 k p2 p3 p4, a5 k p1]
    · show mg N 2 = mg M 2
      rw [f.2 2 (by decide) (by decide) (by decide) (by decide) (by decide) (by decide) (by decide), g5 2 (by decide) (by decide) (by decide) (by decide)]
  have ok125 : ∀ K N, fK M5 N → mg N 14 = 0 → krR K N → okK K → K.1 ≠ 0 → K.2.1 ≠ 0 → rdF c L = .inr K → wX12_readsAll_125 Q N := by
    intro K N f g k o z1 z2 ek
    unfold wX12_readsAll_125
    intro N2 hN2
    exact sw_t (by rw [hN2]; exact g) (h1 K ek o z1 z2 N2 (fA5 N f N2 hN2) (by rw [hN2, mg_sg, if_pos rfl]) (by rw [hN2]; exact k))
  have no125 : ∀ f N, rdF c L = .inl f → fK M5 N → mg N 14 = nI f → wX12_readsAll_125 Q N := by
    intro f N ef fr g
    obtain ⟨b1, b2⟩ := hfb f ef
    unfold wX12_readsAll_125
    intro N2 hN2
    have q14 : mg N2 14 = nI f := by rw [hN2]; exact g
    exact sw_f (by rw [q14]; exact nI_ne0 (by omega) (by omega)) (h2 f ef b1 b2 N2 (fA5 N fr N2 hN2) (by rw [hN2, mg_sg, if_pos rfl]) q14)
  have a0 : atP c L (sk c L 0) M5 := ⟨0, by omega, s13, rfl⟩
  have eF : rdF c L = bnd2 (bnd2 (clX c L (decide (0 = 16)) K0 (sk c L 0)) (tlX c L 16 1)) fnX := rfl
  refine m_clauseC t5 a0 s14 s16 (ln := 0) (by omega) s19 ok_K0 k5 _ (fun K' p' ek N f g19 g14 a k => ⟨17, ?_⟩) (fun fl ef N f g14 => ⟨1, ?_⟩)
  · rw [ek] at eF
    have oK := pNum_ok ok_K0 _ _ _ _ ek
    exact m_rd35 t5 s16 Q ok125 no125 16 1 (by omega) (by omega) K' p' N oK f g14 g19 a k eF (fun K2 p2 e2 => pNum_ok oK _ _ _ _ e2) (fun K p ln o _ K2 p2 e2 => pNum_ok o _ _ _ _ e2)
  · rw [ef] at eF
    rw [wX12_readsAll_35]
    unfold wX12_readsAll_66 wX12_readsAll_88
    exact sw_t rfl (sw_t rfl (sw_t rfl (no125 fl N eF f g14)))
