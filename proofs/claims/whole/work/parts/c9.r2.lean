-- PURE: rule(), the reference: clauses in a row
def dsI (w : List Nat) : Int32 := if w = Wsay then 0 else if w = Wthrow then 1 else if w = Wstill then 2 else -1
theorem m_doing {c : Nat → Nat} {L p : Nat} {M : gS} (ht : txR c L M) (ha : atP c L p M) (Q : Int32 → gS → Prop) (h : ∀ N, fl1 M N → mg N 13 = nI p → Q (dsI (lsW c L p)) N) : wX12_doingSort M Q := by
  unfold wX12_doingSort
  unfold dsI at h
  refine m_isWordA ht ha ok_say w_say _ (fun N f g => ?_)
  by_cases e1 : lsW c L p = Wsay
  · rw [decide_eq_true e1]
    rw [if_pos e1] at h
    exact bw_t (h N f g)
  · rw [decide_eq_false e1]
    rw [if_neg e1] at h
    refine bw_f (m_isWordA (txR_fl ht f) (atP_of ha g) ok_throw w_throw _ (fun N2 f2 g2 => ?_))
    by_cases e2 : lsW c L p = Wthrow
    · rw [decide_eq_true e2]
      rw [if_pos e2] at h
      exact bw_t (h N2 (fl1_trans f f2) g2)
    · rw [decide_eq_false e2]
      rw [if_neg e2] at h
      refine bw_f (m_isWordA (txR_fl (txR_fl ht f) f2) (atP_of ha g2) ok_still w_still _ (fun N3 f3 g3 => ?_))
      by_cases e3 : lsW c L p = Wstill
      · rw [decide_eq_true e3]
        rw [if_pos e3] at h
        exact bw_t (h N3 (fl1_trans f (fl1_trans f2 f3)) g3)
      · rw [decide_eq_false e3]
        rw [if_neg e3] at h
        exact bw_f (h N3 (fl1_trans f (fl1_trans f2 f3)) g3)
theorem m_here {c : Nat → Nat} {L k p m : Nat} {ts : List Nat} {ds : List (Nat × Nat)} {M : gS} (hk : k < 6) (hn : ds.length < 12) (hm : m ≤ 60) (hl : ts.length ≤ p) (hs : stR c L k p m ts M) (h13 : mg M 13 = nI p) (h19 : mg M 19 = nI (ds.length + 1)) (hc : clQ k ds M) (ha : ts.length = bd ds ds.length) (hD : isDo (lsW c L p)) (Q : Bool → gS → Prop) (hQ1 : ∀ d' p' m' ts', bnd2 (pDo c L p) (fun a => pIf c L a.1 a.2 m ts) = .inr (d', p', m', ts') → ∀ N, fR k M N → stR c L k p' m' ts' N → mg N 19 = nI (ds.length + 1) → clQ k (ds ++ [(d', ts'.length)]) N → Q true N) (hQ2 : ∀ f, bnd2 (pDo c L p) (fun a => pIf c L a.1 a.2 m ts) = .inl f → ∀ N, fR k M N → mg N 14 = nI f → Q false N) : wX12_isDoingHere (dsI (lsW c L p)) M Q := by
  have hL := hs.1.2.1
  have hp := atP_le hs.2.1
  have pL := isDo_lt hD
  have hgt := nxP_gt (c := c) pL
  have hnx := nxP_le (c := c) hp
  obtain ⟨W, hW, hlw⟩ : ∃ W, okW W ∧ lsW c L p = W := by
    rcases hD with z | z | z
    · exact ⟨_, ok_say, z⟩
    · exact ⟨_, ok_throw, z⟩
    · exact ⟨_, ok_still, z⟩
  unfold wX12_isDoingHere
  refine m_passA hs.1 hp h13 hW hlw _ (fun N2 f2 a2 => ?_)
  have s2 := stR_at hs f2 a2
  have n6 : ma N2 6 k = nI ds.length := by rw [f2.1]; exact hc.1
  have n5 : ma N2 5 = ma M 5 := by rw [f2.1]
  have n19 : mg N2 19 = nI (ds.length + 1) := by rw [f2.2 19 (by decide)]; exact h19
  rw [s2.2.2.2.1, nI_clamp (show k < 2 ^ 31 by omega), n6, show (48 : Int32) * nI k + (4 : Int32) * nI ds.length = nI (48 * k + 4 * ds.length) by
    show nI 48 * nI k + nI 4 * nI ds.length = _
    rw [pk_mul, pk_mul, nI_add]]
  refine ⟨vp_in_nI (by omega) (by decide), fun x3 h3 => ?_⟩
  subst h3
  rw [nI_clamp (show 48 * k + 4 * ds.length < 2 ^ 31 by omega), nI_1, nI_clamp (show 48 * k + 4 * ds.length + 1 < 2 ^ 31 by omega)]
  refine ⟨vp_in_nI (by omega) (by decide), fun M4 e4 => ⟨vp_in_nI (by omega) (by decide), fun M5 e5 => ?_⟩⟩
  have s5 : stR c L k (nxP c L p) m ts M5 := by rw [e5, e4]; exact s2
  have f5 : fR k M M5 := fR_trans (fR_T (fT_1 f2)) (by rw [e5, e4]; exact fR_trans (fR_5 N2 (by omega) _) (fR_5 _ (by omega) _))
  have q5 : cuQ k ds (upd (upd (ma M 5) (48 * k + 4 * ds.length) (dsI (lsW c L p))) (48 * k + 4 * ds.length + 1) (-1)) M5 := ⟨by rw [e5, e4]; exact n6, by rw [e5, e4]; exact n19, by rw [e5, e4, ← n5]; rfl⟩
  have r5 : ∀ i, i < ds.length → rowR (upd (upd (ma M 5) (48 * k + 4 * ds.length) (dsI (lsW c L p))) (48 * k + 4 * ds.length + 1) (-1)) (48 * k + 4 * i) (ds.getD i (0, 0)).1 (bd ds i) (bd ds (i + 1)) := fun i hi => rowR_u _ (rowR_u _ (hc.2 i hi) (by omega)) (by omega)
  unfold pDo at hQ1 hQ2
  by_cases eS : lsW c L p = Wsay
  · rw [if_pos eS] at hQ1 hQ2
    have ed : dsI (lsW c L p) = 0 := by unfold dsI; rw [if_pos eS]
    rw [ed] at q5 r5 ⊢
    refine sw_t rfl (m_take (lo := 0) (hi := 3) s5.1 s5.2.1 s5.2.2.1 (by omega) (by omega) _ (fun v q ev N8 f8 g14 g15 a8 => bw_t (fun x11 h11 => ⟨vp_in_nI (by omega) (by decide), fun M12 e12 => ?_⟩)) (fun fl ef N8 f8 g14 => bw_f (hQ2 fl (by rw [ef]; rfl) N8 (fR_trans f5 (fR_T (fT_3 f8))) g14)))
    obtain ⟨_, _, eq, _, hv⟩ := pNum_b ev
    have hge := nxP_ge (c := c) hnx
    have s8 := stR_3 s5 f8 g14 a8
    have q8 := cuQ_T q5 (fT_3 (k := k) f8)
    refine m_67 (d := v) (A := upd (upd (upd (ma M 5) (48 * k + 4 * ds.length) 0) (48 * k + 4 * ds.length + 1) (-1)) (48 * k + 4 * ds.length + 1) (nI v)) hk hn hm (by omega) (show stR c L k q m ts M12 by rw [e12]; exact s8) ⟨by rw [e12]; exact q8.1, by rw [e12]; exact q8.2.1, by rw [e12, h11, g15, ← q8.2.2]; rfl⟩ ha ?_ (fun _ => by rw [upd_at, if_pos rfl]) (fun i hi => rowR_u _ (r5 i hi) (by omega)) Q (fun d' p' m' ts' ee N f s g cc => hQ1 d' p' m' ts' (by rw [ev]; exact ee) N (fR_trans f5 (fR_trans (fR_T (fT_3 f8)) (fR_trans (by rw [e12]; exact fR_5 _ (by omega) _) f))) s g cc) (fun fl ef N f g => hQ2 fl (by rw [ev]; exact ef) N (fR_trans f5 (fR_trans (fR_T (fT_3 f8)) (fR_trans (by rw [e12]; exact fR_5 _ (by omega) _) f))) g)
    rw [upd_at, if_neg (by omega), upd_at, if_neg (by omega), upd_at, if_pos rfl]
    unfold dR
    rw [if_pos (by omega)]
  · rw [if_neg eS] at hQ1 hQ2
    by_cases eT : lsW c L p = Wthrow
    · rw [if_pos eT] at hQ1 hQ2
      have ed : dsI (lsW c L p) = 1 := by unfold dsI; rw [if_neg eS, if_pos eT]
      rw [ed] at q5 r5 ⊢
      refine sw_f (by decide) (m_67 (d := 4) hk hn hm (by omega) s5 q5 ha ?_ (fun z => absurd z (by omega)) r5 Q (fun d' p' m' ts' ee N f s g cc => hQ1 d' p' m' ts' ee N (fR_trans f5 f) s g cc) (fun fl ef N f g => hQ2 fl ef N (fR_trans f5 f) g))
      rw [upd_at, if_neg (by omega), upd_at, if_pos rfl]
      rfl
    · rw [if_neg eT] at hQ1 hQ2
      have eU : lsW c L p = Wstill := by
        rcases hD with z | z | z
        · exact absurd z eS
        · exact absurd z eT
        · exact z
      have ed : dsI (lsW c L p) = 2 := by unfold dsI; rw [if_neg eS, if_neg eT, if_pos eU]
      rw [ed] at q5 r5 ⊢
      refine sw_f (by decide) (m_67 (d := 5) hk hn hm (by omega) s5 q5 ha ?_ (fun z => absurd z (by omega)) r5 Q (fun d' p' m' ts' ee N f s g cc => hQ1 d' p' m' ts' ee N (fR_trans f5 f) s g cc) (fun fl ef N f g => hQ2 fl ef N (fR_trans f5 f) g))
      rw [upd_at, if_neg (by omega), upd_at, if_pos rfl]
      rfl
theorem clQ_1 {k : Nat} {ds : List (Nat × Nat)} {M N : gS} (h : clQ k ds M) (f : fl1 M N) : clQ k ds N := by
  unfold clQ at *
  rw [f.1]
  exact h
theorem m_clR {c : Nat → Nat} {L k p m : Nat} {ts : List Nat} {ds : List (Nat × Nat)} {M : gS} (hk : k < 6) (hn : ds.length ≤ 12) (hm : m ≤ 60) (hl : ts.length ≤ p) (hs : stR c L k p m ts M) (h19 : mg M 19 = nI ds.length) (hc : clQ k ds M) (ha : ts.length = bd ds ds.length) (Q : Bool → gS → Prop) (hQ1 : ∀ d' p' m' ts', pCl c L ds.length p m ts = .inr (d', p', m', ts') → ∀ N, fR k M N → stR c L k p' m' ts' N → mg N 19 = nI (ds.length + 1) → clQ k (ds ++ [(d', ts'.length)]) N → Q true N) (hQ2 : ∀ f, pCl c L ds.length p m ts = .inl f → ∀ N, fR k M N → mg N 14 = nI f → Q false N) : wX12_clauseHere M Q := by
  unfold wX12_clauseHere
  refine m_seeA hs.1 hs.2.1 _ (fun N f g x3 h3 => ?_)
  have s1 := stR_1 hs f g
  have h3 : x3 = nI p := by rw [h3]; exact g
  refine sw_f (by rw [s1.2.2.2.1]; exact fun z => absurd ((nI_eq (by omega) (by omega)).1 (show nI k = nI 6 from z)) (by omega)) ?_
  unfold wX12_clauseHere_24
  refine sw_t rfl (m_doing s1.1 s1.2.1 _ (fun N2 f2 g2 => ?_))
  have s2 := stR_1 s1 f2 g2
  have fr2 : fR k M N2 := fR_T (fT_1 (fl1_trans f f2))
  have c2 := clQ_1 (clQ_1 hc f) f2
  have n19 : mg N2 19 = nI ds.length := by rw [f2.2 19 (by decide), f.2 19 (by decide)]; exact h19
  unfold pCl at hQ1 hQ2
  by_cases e0 : isDo (lsW c L p)
  · rw [if_pos e0] at hQ1 hQ2
    have dn : ¬ dsI (lsW c L p) < 0 := by
      unfold dsI
      rcases e0 with z | z | z <;> rw [z] <;> decide
    refine sw_f dn ?_
    unfold wX12_clauseHere_89
    refine sw_f (by decide) (sw_t rfl ?_)
    unfold wX12_clauseHere_116
    rw [n19, h3]
    by_cases e12 : ds.length = 12
    · rw [if_pos e12] at hQ2
      refine sw_t (by rw [e12]; rfl) (m_fails s2.2.2.1 4 p _ (fun N3 f3 _ g3 => hQ2 _ rfl N3 (fR_trans fr2 (fR_T (fT_3 f3))) g3))
    · rw [if_neg e12] at hQ1 hQ2
      refine sw_f (fun z => e12 ((nI_eq (by omega) (by omega)).1 (show nI ds.length = nI 12 from z))) (fun x2 hx2 M3 e3 => sw_t rfl ?_)
      have s3 : stR c L k p m ts M3 := by rw [e3]; exact s2
      have f3 : fR k M M3 := fR_trans fr2 (by rw [e3]; exact fR_19 _ _)
      have n19' : mg M3 19 = nI (ds.length + 1) := by rw [e3, mg_sg, if_pos rfl, hx2, nI_1]
      refine m_doing s3.1 s3.2.1 _ (fun N4 f4 g4 => ?_)
      refine m_here hk (by omega) hm hl (stR_1 s3 f4 g4) g4 (by rw [f4.2 19 (by decide)]; exact n19') (clQ_1 (by rw [e3]; exact c2) f4) ha e0 _ (fun d' p' m' ts' ee N5 f5 s5 g5 cc => hQ1 d' p' m' ts' ee N5 (fR_trans f3 (fR_trans (fR_T (fT_1 f4)) f5)) s5 g5 cc) (fun fl ef N5 f5 g5 => hQ2 fl ef N5 (fR_trans f3 (fR_trans (fR_T (fT_1 f4)) f5)) g5)
  · rw [if_neg e0] at hQ2
    have dn : dsI (lsW c L p) < 0 := by
      unfold dsI
      rw [if_neg (fun z => e0 (Or.inl z)), if_neg (fun z => e0 (Or.inr (Or.inl z))), if_neg (fun z => e0 (Or.inr (Or.inr z)))]
      decide
    refine sw_t dn ?_
    unfold wX12_clauseHere_89
    rw [h3]
    exact sw_t rfl (m_fails s2.2.2.1 0 p _ (fun N3 f3 _ g3 => hQ2 _ rfl N3 (fR_trans fr2 (fR_T (fT_3 f3))) g3))
def rlX (c : Nat → Nat) (L n p m : Nat) (ts : List Nat) (ds : List (Nat × Nat)) : Sum Nat (List Nat × List (Nat × Nat)) := if p < L then (if c p = 59 then pRl c L n (nxP c L p) m ts ds else .inl (1 + 8 * p + 0)) else .inr (ts, ds)
theorem pRl_s (c : Nat → Nat) (L n p m : Nat) (ts : List Nat) (ds : List (Nat × Nat)) : pRl c L (n + 1) p m ts ds = bnd2 (pCl c L ds.length p m ts) (fun a => rlX c L n a.2.1 a.2.2.1 a.2.2.2 (ds ++ [(a.1, a.2.2.2.length)])) := rfl
theorem m_rl35 {c : Nat → Nat} {L k : Nat} {B : gS} (hk : k < 6) (Q : Bool → gS → Prop) : ∀ n ds, ds.length + n = 13 → 1 ≤ n → ∀ p m ts M, fR k B M → stR c L k p m ts M → m ≤ 60 → ts.length ≤ p → mg M 19 = nI ds.length → clQ k ds M → ts.length = bd ds ds.length → (∀ ts' ds', rlX c L n p m ts ds = .inr (ts', ds') → ∀ N, fR k B N → mg N 14 = 0 → rkR k ts' N → clQ k ds' N → wX12_readsAll_125 Q N) → (∀ f, rlX c L n p m ts ds = .inl f → ∀ N, fR k B N → mg N 14 = nI f → wX12_readsAll_125 Q N) → wX12_readsAll_35 Q (n + 1) 1 M := by
  intro n
  induction n with
  | zero => intro ds _ h; omega
  | succ n ih =>
    intro ds hln _ p m ts M hf hs hm hl h19 hc hb h1 h2
    have hL := hs.1.2.1
    have hp := atP_le hs.2.1
    have hcp := (hs.1.2.2 p).1
    have hnx := nxP_le (c := c) hp
    have hge := nxP_ge (c := c) hp
    rw [wX12_readsAll_35]
    refine sw_f (by decide) (m_seeA hs.1 hs.2.1 _ (fun N f e => ?_))
    have sN := stR_1 hs f e
    have fN := fR_trans hf (fR_T (fT_1 f))
    have cN := clQ_1 hc f
    have n19 : mg N 19 = nI ds.length := by rw [f.2 19 (by decide)]; exact h19
    unfold rlX at h1 h2
    by_cases s : p < L ∧ c p = 59
    · rw [if_pos s.1, if_pos s.2, pRl_s] at h1 h2
      refine sw_t ((seV_59 hcp).2 s) (fun x5 h5 M6 h6 => ?_)
      have f6 : fl1 N M6 := by rw [h6]; exact fl1_sg N _
      have a6 : atP c L (nxP c L p) M6 := by
        refine ⟨p + 1, by omega, by rw [h6, mg_sg, if_pos rfl, h5, e, nI_1], ?_⟩
        unfold nxP
        rw [(sg59 s.2 s.1).2.2.2]
      refine m_clR hk (by omega) hm (by omega) (stR_at sN f6 a6) (by rw [h6]; exact n19) (clQ_1 cN f6) hb _ (fun d' p' m' ts' ek N2 f2 s2 g19 c2 => ?_) (fun fl ef N2 f2 g14 => ?_)
      · rw [ek] at h1 h2
        have en : 1 ≤ n := by
          rcases (show 1 ≤ n ∨ n = 0 by omega) with z | z
          · exact z
          · have e12 : ds.length = 12 := by omega
            obtain ⟨f0, hf0⟩ := pCl_12 c L (nxP c L p) m ts
            rw [e12, hf0] at ek
            exact absurd ek (by simp)
        obtain ⟨q1, q2, q3, q4, seg, q5, q6, _⟩ := (pCl_t hL hnx hm).1 _ _ _ _ ek
        refine ih (ds ++ [(d', ts'.length)]) (by rw [gd_len]; omega) en p' m' ts' N2 (fR_trans fN (fR_trans (fR_T (fT_1 f6)) f2)) s2 q4 (by rw [q5, List.length_append]; omega) (by rw [gd_len]; exact g19) c2 (by rw [gd_len, bd_last]) h1 h2
      · rw [ef] at h2
        rw [wX12_readsAll_35]
        unfold wX12_readsAll_66 wX12_readsAll_88
        exact sw_t rfl (sw_t rfl (sw_t rfl (h2 fl rfl N2 (fR_trans fN (fR_trans (fR_T (fT_1 f6)) f2)) g14)))
    · refine sw_f (fun z => s ((seV_59 hcp).1 z)) ?_
      unfold wX12_readsAll_66
      refine sw_f (by decide) (m_seeA sN.1 sN.2.1 _ (fun N3 f3 e3 => ?_))
      have s3 := stR_1 sN f3 e3
      have fr3 := fR_trans fN (fR_T (fT_1 f3))
      by_cases a : p < L
      · rw [if_pos a, if_neg (fun z => s ⟨a, z⟩)] at h2
        refine sw_f (fun z => ((seV_m hcp).1 z) a) ?_
        rw [e3]
        refine m_fails s3.2.2.1 0 p _ (fun N4 f4 _ g4 => ?_)
        unfold wX12_readsAll_88
        exact sw_t rfl (h2 _ rfl N4 (fR_trans fr3 (fR_T (fT_3 f4))) g4)
      · rw [if_neg a] at h1
        refine sw_t ((seV_m hcp).2 a) ?_
        unfold wX12_readsAll_88
        refine sw_f (by decide) (sw_f (by rw [s3.2.2.2.1]; exact fun z => absurd ((nI_eq (by omega) (by omega)).1 (show nI k = nI 6 from z)) (by omega)) ?_)
        exact h1 ts ds rfl N3 fr3 s3.2.2.1 s3.2.2.2.2.2 (clQ_1 cN f3)
