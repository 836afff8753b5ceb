-- PURE: rule(), what its text tells, and the class
/-- what a clause does: 0..3 says that, 4 throws, 5 keeps still; and where it goes on -/
def pDo (c : Nat → Nat) (L p : Nat) : Sum Nat (Nat × Nat) := if lsW c L p = Wsay then pNum c L (nxP c L p) 0 3 else .inr (if lsW c L p = Wthrow then 4 else 5, nxP c L p)
def pIf (c : Nat → Nat) (L d q m : Nat) (ts : List Nat) : Sum Nat (Nat × Nat × Nat × List Nat) := if lsW c L q = Wif then bnd2 (pTst (pFc c L 10) c L (nxP c L q) m ts) (fun a => .inr (d, a.1, a.2.1, a.2.2)) else .inr (d, q, m, ts)
theorem nxP_ge {c : Nat → Nat} {L p : Nat} (h : p ≤ L) : p ≤ nxP c L p := Nat.le_trans (tkE_b h).1 (sk_ge c L _)
abbrev isDo (w : List Nat) : Prop := w = Wsay ∨ w = Wthrow ∨ w = Wstill
def pCl (c : Nat → Nat) (L i p m : Nat) (ts : List Nat) : Sum Nat (Nat × Nat × Nat × List Nat) := if isDo (lsW c L p) then (if i = 12 then .inl (1 + 8 * p + 4) else bnd2 (pDo c L p) (fun a => pIf c L a.1 a.2 m ts)) else .inl (1 + 8 * p + 0)
def pRl (c : Nat → Nat) (L : Nat) : Nat → Nat → Nat → List Nat → List (Nat × Nat) → Sum Nat (List Nat × List (Nat × Nat))
  | 0, _, _, _, _ => .inl 0
  | n + 1, p, m, ts, ds => bnd2 (pCl c L ds.length p m ts) (fun a => if a.2.1 < L then (if c a.2.1 = 59 then pRl c L n (nxP c L a.2.1) a.2.2.1 a.2.2.2 (ds ++ [(a.1, a.2.2.2.length)]) else .inl (1 + 8 * a.2.1 + 0)) else .inr (a.2.2.2, ds ++ [(a.1, a.2.2.2.length)]))
def dC (d : Nat) : Int32 := if d < 5 then nI d else -1
def clC (ds : List (Nat × Nat)) (R : gS) : Prop := mg R 0 = nI ds.length ∧ ∀ i, i < ds.length → ma R 1 i = dC (ds.getD i (0, 0)).1 ∧ ma R 2 i = nI (ds.getD i (0, 0)).2
theorem gd_app {l : List (Nat × Nat)} {x : Nat × Nat} {i : Nat} (h : i < l.length) : (l ++ [x]).getD i (0, 0) = l.getD i (0, 0) := by
  simp [List.getD, List.getElem?_append_left h]
theorem gd_last (l : List (Nat × Nat)) (x : Nat × Nat) : (l ++ [x]).getD l.length (0, 0) = x := by
  simp [List.getD]
theorem gd_len (l : List (Nat × Nat)) (x : Nat × Nat) : (l ++ [x]).length = l.length + 1 := by simp
theorem clC_F {ds : List (Nat × Nat)} {R S : gS} (h : clC ds R) (f : rcF R S) : clC ds S := by
  unfold clC at *
  rw [f.1, f.2.1, f.2.2]
  exact h
theorem c_add {R : gS} {ds : List (Nat × Nat)} {ts : List Nat} (hk : rkC ts R) (hc : clC ds R) (hn : ds.length < 12) (d : Nat) (Q : gS → Prop) (h : ∀ R', rkC ts R' → clC (ds ++ [(d, ts.length)]) R' → Q R') : wX8_addClause (dC d) R Q := by
  unfold wX8_addClause
  rw [hc.1, nI_clamp (by omega)]
  refine sw_f (show ¬ nI ds.length < nI 0 from nI_nlt (by omega) (by omega)) (sw_f (Int32.not_le.2 (show nI ds.length < nI 12 from nI_lt (by omega) (by omega))) ⟨vp_in_nI (by omega) (by decide), fun N3 h3 x4 h4 => ?_⟩)
  have n30 : mg N3 0 = nI ds.length := by rw [h3]; exact hc.1
  rw [n30, nI_clamp (by omega)]
  refine ⟨vp_in_nI (by omega) (by decide), fun N5 h5 x6 h6 N7 h7 => ?_⟩
  have n50 : mg N5 0 = nI ds.length := by rw [h5]; exact n30
  have x4v : x4 = nI ts.length := by rw [h4, h3]; exact hk.1
  have e1 : ma N7 1 = upd (ma R 1) ds.length (dC d) := by rw [h7, h5, h3]; rfl
  have e2 : ma N7 2 = upd (ma R 2) ds.length (nI ts.length) := by rw [h7, h5, h3, x4v]; rfl
  refine h N7 ⟨by rw [h7, h5, h3]; exact hk.1, by rw [h7, h5, h3]; exact hk.2⟩ ⟨by rw [h7, mg_sg, if_pos rfl, h6, n50, nI_1, gd_len], fun i hi => ?_⟩
  rw [gd_len] at hi
  rw [e1, e2, upd_at, upd_at]
  by_cases z : i = ds.length
  · rw [if_pos z, if_pos z, z, gd_last]; exact ⟨rfl, rfl⟩
  · rw [if_neg z, if_neg z, gd_app (by omega)]; exact hc.2 i (by omega)
theorem c_add_any (y : Int32) (R : gS) (Q : gS → Prop) (h : ∀ R', Q R') : wX8_addClause y R Q := by
  unfold wX8_addClause
  refine ⟨fun _ => h _, fun a => ⟨fun _ => h _, fun b => ?_⟩⟩
  have v : vp_in (mg R 0) 12 := by
    obtain ⟨j, hj, e⟩ := nI_of a
    rw [e] at b ⊢
    exact vp_in_nI (Nat.lt_of_not_le (fun z => b (show nI 12 ≤ nI j from nI_le z hj))) (by decide)
  exact ⟨v, fun N3 h3 x4 _ => ⟨by rw [h3]; exact v, fun N5 _ x6 _ N7 _ => h _⟩⟩
/-- what is asked of what follows a clause -/
def okC (c : Nat → Nat) (L : Nat) (B Mt : gS) (ds : List (Nat × Nat)) (Q : gS → gS → gS → gS → Prop) (x : Sum Nat (Nat × Nat × Nat × List Nat)) : Prop := (∀ d p' m' ts', x = .inr (d, p', m', ts') → ts'.length ≤ p' → m' ≤ 60 → ∀ N0 N R', frF B N → mg N 7 = 0 → rdC c L p' N → mg N0 2 = nI m' → rkC ts' R' → clC (ds ++ [(d, ts'.length)]) R' → Q N0 N Mt R') ∧ (∀ f, x = .inl f → 1 ≤ f → f < 10000 → ∀ N0 N R', flC c L f B N → Q N0 N Mt R')
theorem c_cl73 {c : Nat → Nat} {L q m d : Nat} {ts : List Nat} {ds : List (Nat × Nat)} {B Mt M0 Mr R : gS} (ht : txC c L B Mt) (hs : rdS c L q m ts B M0 Mr R) (hR : clC ds R) (hn : ds.length < 12) (Q : gS → gS → gS → gS → Prop) (hQ : okC c L B Mt ds Q (pIf c L d q m ts)) : wX9_readClause_73 Q (dC d) M0 Mr Mt R := by
  have hL := ht.2.1
  obtain ⟨s1, s2, s3, s4, s5, s6, s7⟩ := id hs
  have tM := txC_F ht s2
  obtain ⟨h1, h2⟩ := hQ
  unfold pIf at h1 h2
  unfold wX9_readClause_73
  refine sw_t s3 (c_name tM s4 (by omega) _ ?_)
  rw [na_2]
  by_cases e : lsW c L q = Wif
  · rw [if_pos e] at h1 h2 ⊢
    have pL := ls_lt ok_if e
    have hgt := nxP_gt (c := c) pL
    have hnx := nxP_le (c := c) s4.1
    refine sw_t rfl (c_next tM s4 _ (fun N f r => ?_))
    unfold wX9_rt
    refine c_test (e := 10) (c_factC c L 10 (by omega)) ht _ (show rdS c L (nxP c L q) m ts B M0 N R from ⟨by omega, frF_trans s2 (frF_7 f), by rw [f.2.1]; exact s3, r, s5, s6, s7⟩) ⟨fun p' m' ts' ee N0 N' R' rf fr g7 rr g2 rk => ?_, fun fl ef b1 b2 N0 N' R' hN => ?_⟩
    · rw [ee] at h1
      have ad := pTL_t (pFc_ok (c := c) hL 10) _ _ _ _ _ _ _ _ _ (show nxP c L q ≤ L by omega) s6 ee
      have al := addT_len ad
      have b0 : bNn false = 0 := rfl
      unfold wX9_readClause_107
      exact c_add rk (clC_F hR rf) hn d _ (fun R2 k2 c2 => h1 d p' m' ts' rfl (by omega) ad.2.2.2.1 N0 N' R2 fr g7 rr g2 k2 c2)
    · rw [ef] at h2
      unfold wX9_readClause_107
      exact c_add_any _ _ _ (fun R2 => h2 fl rfl b1 b2 N0 N' R2 hN)
  · rw [if_neg e] at h1 h2 ⊢
    refine sw_f (by decide) ?_
    unfold wX9_readClause_107
    exact c_add s7 hR hn d _ (fun R2 k2 c2 => h1 d q m ts rfl s1 s6 M0 Mr R2 s2 s3 s4 s5 k2 c2)
theorem c_cl {c : Nat → Nat} {L p m : Nat} {ts : List Nat} {ds : List (Nat × Nat)} {B Mt M0 Mr R : gS} (ht : txC c L B Mt) (hs : rdS c L p m ts B M0 Mr R) (hR : clC ds R) (hn : ds.length ≤ 12) (Q : gS → gS → gS → gS → Prop) (hQ : okC c L B Mt ds Q (pCl c L ds.length p m ts)) : wX9_readClause (bI (decide (ds.length = 12))) M0 Mr Mt R Q := by
  have hL := ht.2.1
  obtain ⟨s1, s2, s3, s4, s5, s6, s7⟩ := id hs
  have hpL := s4.1
  have tM := txC_F ht s2
  unfold wX9_readClause
  refine c_name tM s4 (by omega) _ ?_
  rw [na_1]
  unfold pCl at hQ
  by_cases e0 : isDo (lsW c L p)
  · rw [if_pos e0] at hQ
    have pL : p < L := by rcases e0 with z | z | z; exact ls_lt ok_say z; exact ls_lt ok_throw z; exact ls_lt ok_still z
    have hgt := nxP_gt (c := c) pL
    have hnx := nxP_le (c := c) hpL
    by_cases e12 : ds.length = 12
    · rw [if_pos e12] at hQ
      have fin : wX7_fail (4 : Int32) Mr Mt (fun (N11 : gS) (N12 : gS) => (Q M0 N11 N12 R)) := c_fail0 s4 s3 4 _ (fun N hN => hQ.2 _ rfl (by omega) (by omega) M0 N R ⟨frF_trans s2 hN.1, hN.2⟩)
      rw [decide_eq_true e12]
      split
      · exact sw_f (by decide) (bw_t fin)
      · split
        · exact sw_f (by decide) (bw_t fin)
        · split
          · exact sw_f (by decide) (bw_t fin)
          · next z1 z2 z3 => exact absurd e0 (fun z => z.elim z1 (fun z => z.elim z2 z3))
    · rw [if_neg e12] at hQ
      rw [decide_eq_false e12]
      have s' : ∀ N, fr7 Mr N → rdC c L (nxP c L p) N → rdS c L (nxP c L p) m ts B M0 N R := fun N f r => ⟨by omega, frF_trans s2 (frF_7 f), by rw [f.2.1]; exact s3, r, s5, s6, s7⟩
      unfold pDo at hQ
      by_cases eS : lsW c L p = Wsay
      · rw [if_pos eS] at hQ ⊢
        refine sw_f (by decide) (bw_f (c_next tM s4 _ (fun N f r => sw_f (by decide) ?_)))
        unfold wX9_readClause_58
        have sN := s' N f r
        have tN := txC_7 tM f
        refine sw_t rfl (c_take (lo := 0) (hi := 3) tN r sN.2.2.1 (by omega) (by omega) _ (fun a q ea N2 f2 g7 r2 => ?_) (fun fl ef N2 hN2 => ?_))
        · rw [ea] at hQ
          obtain ⟨_, _, eq, _, ha⟩ := pNum_b ea
          have hq := nxP_ge (c := c) hnx
          have : nI a = dC a := by unfold dC; rw [if_pos (by omega)]
          rw [this]
          exact c_cl73 ht ⟨by omega, frF_trans sN.2.1 (frF_7 f2), g7, r2, s5, s6, s7⟩ hR (by omega) Q hQ
        · rw [ef] at hQ
          obtain ⟨_, efl⟩ := pNum_f ef
          have hk := numK_le c L (nxP c L p)
          unfold wX9_readClause_73
          refine sw_f (by rw [hN2.2.1]; exact nI_ne0 (by omega) (by omega)) ?_
          unfold wX9_readClause_107
          exact c_add_any _ _ _ (fun R2 => hQ.2 fl rfl (by omega) (by omega) M0 N2 R2 ⟨frF_trans sN.2.1 hN2.1, hN2.2⟩)
      · rw [if_neg eS] at hQ ⊢
        by_cases eT : lsW c L p = Wthrow
        · rw [if_pos eT] at hQ ⊢
          refine sw_f (by decide) (bw_f (c_next tM s4 _ (fun N f r => sw_t rfl ?_)))
          unfold wX9_readClause_58
          exact sw_f (by decide) (c_cl73 (d := 4) ht (s' N f r) hR (by omega) Q hQ)
        · rw [if_neg eT] at hQ ⊢
          have eU : lsW c L p = Wstill := by rcases e0 with z | z | z; exact absurd z eS; exact absurd z eT; exact z
          rw [if_pos eU]
          refine sw_f (by decide) (bw_f (c_next tM s4 _ (fun N f r => sw_f (by decide) ?_)))
          unfold wX9_readClause_58
          exact sw_f (by decide) (c_cl73 (d := 5) ht (s' N f r) hR (by omega) Q hQ)
  · rw [if_neg e0] at hQ
    rw [if_neg (fun z => e0 (Or.inl z)), if_neg (fun z => e0 (Or.inr (Or.inl z))), if_neg (fun z => e0 (Or.inr (Or.inr z)))]
    exact sw_t rfl (c_fail0 s4 s3 0 _ (fun N hN => hQ.2 _ rfl (by omega) (by omega) M0 N R ⟨frF_trans s2 hN.1, hN.2⟩))
theorem pCl_12 (c : Nat → Nat) (L p m : Nat) (ts : List Nat) : ∃ f, pCl c L 12 p m ts = .inl f := by
  unfold pCl
  split
  · exact ⟨_, if_pos rfl⟩
  · exact ⟨_, rfl⟩
theorem c_rl {c : Nat → Nat} {L : Nat} {B Mt : gS} (ht : txC c L B Mt) (Q : Int32 → gS → gS → gS → gS → Prop) : ∀ n ds, ds.length + n = 13 → 1 ≤ n → ∀ p m ts M0 Mr R, rdS c L p m ts B M0 Mr R → clC ds R → (∀ ts' ds', pRl c L n p m ts ds = .inr (ts', ds') → ∀ N0 N R', rkC ts' R' → clC ds' R' → Q 0 N0 N Mt R') → (∀ f, pRl c L n p m ts ds = .inl f → 1 ≤ f → f < 10000 → ∀ N0 N R', Q (nI f) N0 N Mt R') → wX9_read_18 Q (n + 1) 1 (nI ds.length) M0 Mr Mt R := by
  have hL := ht.2.1
  intro n
  induction n with
  | zero => intro ds _ h; omega
  | succ n ih =>
    intro ds hln _ p m ts M0 Mr R hs hc h1 h2
    have stp : ∀ N0 N R' y1, y1 = (0 : Int32) → Q (mg N 7) N0 N Mt R' → wX9_read_18 Q (n + 1) y1 (nI (ds.length + 1)) N0 N Mt R' := by
      intro N0 N R' y1 hy hq
      rw [wX9_read_18]
      exact ⟨fun _ => hq, fun _ => sw_t hy hq⟩
    have body : wX9_read_40 (fun (y1 : Int32) (y2 : Int32) (M0 : gS) (M1 : gS) (M2 : gS) (M3 : gS) => wX9_read_18 Q (n + 1) y1 y2 M0 M1 M2 M3) Q (nI ds.length) (bI (decide (ds.length = 12))) M0 Mr Mt R := by
      unfold wX9_read_40
      rw [pRl] at h1 h2
      refine c_cl ht hs hc (by omega) _ ⟨fun d p' m' ts' ek l' hm' N0 N R' f g7 r g2 rk cc => ?_, fun fl ef g1 g2 N0 N R' hN => ?_⟩
      · rw [ek] at h1 h2
        have tN := txC_F ht f
        refine c_goes tN r g7 _ (fun a x10 hx10 => ?_) (fun a e N2 f2 g72 r2 x10 hx10 => ?_) (fun a e N2 hN2 x10 hx10 => ?_)
        · rw [hx10, nI_1]
          refine stp N0 N R' _ rfl ?_
          rw [g7]
          refine h1 ts' _ ?_ N0 N R' rk cc
          show (if p' < L then _ else _) = _
          rw [if_neg a]
        · rw [hx10, nI_1]
          have en : 1 ≤ n := by
            rcases (show 1 ≤ n ∨ n = 0 by omega) with z | z
            · exact z
            · have e12 : ds.length = 12 := by omega
              obtain ⟨f0, hf0⟩ := pCl_12 c L p m ts
              rw [e12, hf0] at ek
              exact absurd ek (by simp)
          have eL : (bnd2 (Sum.inr (d, p', m', ts')) (fun a : Nat × Nat × Nat × List Nat => if a.2.1 < L then (if c a.2.1 = 59 then pRl c L n (nxP c L a.2.1) a.2.2.1 a.2.2.2 (ds ++ [(a.1, a.2.2.2.length)]) else Sum.inl (1 + 8 * a.2.1 + 0)) else Sum.inr (a.2.2.2, ds ++ [(a.1, a.2.2.2.length)])) : Sum Nat (List Nat × List (Nat × Nat))) = pRl c L n (nxP c L p') m' ts' (ds ++ [(d, ts'.length)]) := by
            show (if p' < L then (if c p' = 59 then _ else _) else _) = _
            rw [if_pos a, if_pos e]
          rw [eL] at h1 h2
          have hge := nxP_ge (c := c) r.1
          have := ih (ds ++ [(d, ts'.length)]) (by rw [gd_len]; omega) en (nxP c L p') m' ts' N0 N2 R' ⟨by omega, frF_trans f (frF_7 f2), g72, r2, g2, hm', rk⟩ cc h1 h2
          rw [gd_len] at this
          exact this
        · rw [hx10, nI_1]
          refine stp N0 N2 R' _ rfl ?_
          rw [hN2.2.1]
          refine h2 (1 + 8 * p' + 0) ?_ (by omega) (by omega) N0 N2 R'
          show (if p' < L then (if c p' = 59 then _ else _) else _) = _
          rw [if_pos a, if_neg e]
      · rw [ef] at h2
        obtain ⟨q1, q2, q3⟩ := hN
        unfold wX7_goesOnToClause
        refine sw_f (by rw [q2]; exact nI_ne0 (by omega) (by omega)) (fun x10 hx10 => ?_)
        rw [hx10, nI_1]
        refine stp N0 N R' _ rfl ?_
        rw [q2]
        exact h2 fl rfl g1 g2 N0 N R'
    rw [wX9_read_18]
    refine sw_f (show ¬ nI 12 < nI ds.length from nI_nlt (by omega) (by omega)) (sw_f (by decide) ?_)
    by_cases e12 : ds.length = 12
    · rw [decide_eq_true e12] at body
      exact sw_t (by rw [e12]; rfl) body
    · rw [decide_eq_false e12] at body
      exact sw_f (fun z => e12 ((nI_eq (by omega) (by omega)).1 (show nI ds.length = nI 12 from z))) body
def rlF (c : Nat → Nat) (L : Nat) : Sum Nat (List Nat × List (Nat × Nat)) := pRl c L 13 (sk c L 0) 0 [] []
theorem c_rule {c : Nat → Nat} {L : Nat} {Mr Mt R : gS} (ht : txC c L Mr Mt) (h3 : mg Mr 3 = 0) (h7 : mg Mr 7 = 0) (Q : Int32 → gS → gS → gS → gS → Prop) (h1 : ∀ ts ds, rlF c L = .inr (ts, ds) → ∀ N0 N R', rkC ts R' → clC ds R' → Q 0 N0 N Mt R') (h2 : ∀ f, rlF c L = .inl f → 1 ≤ f → f < 10000 → ∀ N0 N R', Q (nI f) N0 N Mt R') : wX9_read zS Mr Mt R Q := by
  unfold wX9_read wX8_clear
  intro N1 e1 N2 e2
  refine c_advance ht (q := 0) (by omega) h3 _ (fun N f r => ⟨14, ?_⟩)
  refine c_rl ht Q 13 [] rfl (by omega) (sk c L 0) 0 [] zS N N2 ⟨Nat.zero_le _, frF_7 f, by rw [f.2.1]; exact h7, r, rfl, by omega, ?_⟩ ?_ h1 h2
  · rw [e2]; exact ⟨rfl, fun i hi => absurd hi (Nat.not_lt_zero i)⟩
  · rw [e2, e1]; exact ⟨rfl, fun i hi => absurd hi (Nat.not_lt_zero i)⟩
