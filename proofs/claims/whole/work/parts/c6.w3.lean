-- PURE: tests, the reference: facts and joints
def KC (Q : Bool → gS → Prop) (kt : Nat) : gS → Prop := fun (M18 : gS) => (wX12_isWord (6385252 : Int64) M18 (fun (b21 : Bool) (M20 : gS) => (((bI b21) = 0 → (wX12_isWord (28530 : Int64) M20 (fun (b25 : Bool) (M24 : gS) => (((bI b25) = 0 → (wX12_tested_54 (fun (y1 : Int32) (M : gS) => wX12_tested_12 Q kt y1 M) Q (0 : Int32) M24)) ∧ (¬ (bI b25) = 0 → (wX12_tested_49 (fun (y1 : Int32) (M : gS) => wX12_tested_12 Q kt y1 M) Q M24)))))) ∧ (¬ (bI b21) = 0 → (wX12_tested_49 (fun (y1 : Int32) (M : gS) => wX12_tested_12 Q kt y1 M) Q M20)))))
def KF (Q : Bool → gS → Prop) (kt : Nat) : Bool → gS → Prop := fun (b15 : Bool) (M14 : gS) => (((bI b15) = 0 → (Q false M14)) ∧ (¬ (bI b15) = 0 → (wX12_closes M14 (KC Q kt))))
theorem tested_1 {Q : Bool → gS → Prop} {kt : Nat} {M : gS} (h : wX12_fact M (KF Q kt)) : wX12_tested_12 Q (kt + 1) 1 M := by
  rw [wX12_tested_12]
  exact sw_f (by decide) h
/-- at the while of closes(), with whatever fuel is enough -/
def CP (Q : Bool → gS → Prop) (L p : Nat) (N : gS) : Prop := ∀ kt kc, L - p < kt → L - p < kc → wX12_closes_5 (KC Q kt) kc N
def factR (c : Nat → Nat) (L k e : Nat) : Prop := ∀ (Q : Bool → gS → Prop) (B : gS) S p m ts N, okS S → dpt S = 10 - e → ts.length + opn S ≤ p → S.length ≤ p → m ≤ 60 → fT k B N → stT c L k p m ts S N → (∀ p' m' ts', pFc c L e p m ts = .inr (p', m', ts') → ∀ N', fT k B N' → stT c L k p' m' (stl 3 S ts').2 (stl 3 S ts').1 N' → CP Q L p' N') → (∀ f, pFc c L e p m ts = .inl f → ∀ N', fT k B N' → mg N' 14 = nI f → Q false N') → ∀ kt kfa, L - p < kt → L - p + 1 < kfa → wX12_fact_2 (KF Q kt) kfa 1 N
def sgm (a o : Bool) : List Nat := (if a = true then [12] else []) ++ (if o = true then [13] else [])
def topS (S : List Nat) : Prop := S = [] ∨ ∃ r, S = 91 :: r
def testR (c : Nat → Nat) (L k e : Nat) : Prop := ∀ (Q : Bool → gS → Prop) (B : gS) n S a o p m ts N, L - p < n → topS S → okS S → dpt S = 10 - e → ts.length + opn (sgm a o ++ S) ≤ p → (sgm a o ++ S).length ≤ p → m ≤ 60 → fT k B N → stT c L k p m ts (sgm a o ++ S) N → (∀ p' m' ts', pTL (pFc c L e) c L n a o p m ts = .inr (p', m', ts') → ∀ a' o' t0, ts' = t0 ++ bT a' 12 ++ bT o' 13 → ¬ lsW c L p' = Wand → ¬ lsW c L p' = Wor → ts'.length + opn S ≤ p' → t0.length + opn (sgm a' o' ++ S) ≤ p' → (sgm a' o' ++ S).length ≤ p' → ∀ N', fT k B N' → stT c L k p' m' t0 (sgm a' o' ++ S) N' → CP Q L p' N') → (∀ f, pTL (pFc c L e) c L n a o p m ts = .inl f → ∀ N', fT k B N' → mg N' 14 = nI f → Q false N') → ∀ kt kfa, L - p < kt → L - p + 1 < kfa → wX12_fact_2 (KF Q kt) kfa 1 N
theorem sgm_ok {a o : Bool} {S : List Nat} (h : okS S) : okS (sgm a o ++ S) := by
  intro x hx
  rcases List.mem_append.1 hx with z | z
  · cases a <;> cases o <;> simp [sgm] at z <;> omega
  · exact h x z
theorem sgm_d (a o : Bool) (S : List Nat) : dpt (sgm a o ++ S) = dpt S := by cases a <;> cases o <;> simp [sgm, dpt]
theorem sgm_o (a o : Bool) (S : List Nat) : opn (sgm a o ++ S) = bNn a + bNn o + opn S := by cases a <;> cases o <;> simp [sgm, opn, bNn] <;> omega
theorem sgm_l (a o : Bool) (S : List Nat) : (sgm a o ++ S).length = bNn a + bNn o + S.length := by cases a <;> cases o <;> simp [sgm, bNn] <;> omega
theorem stl_top {S : List Nat} (h : topS S) {least : Nat} (hl : 1 ≤ least) (ts : List Nat) : stl least S ts = (S, ts) := by
  rcases h with rfl | ⟨r, rfl⟩
  · rfl
  · rw [stl, if_pos (show strN 91 < least by show 0 < least; omega)]
theorem stl_3 {S : List Nat} (h : topS S) (a o : Bool) (ts : List Nat) : stl 3 (sgm a o ++ S) ts = (sgm a o ++ S, ts) := by
  cases a <;> cases o
  · exact stl_top h (by omega) ts
  · show stl 3 (13 :: S) ts = _; rw [stl, if_pos (by decide)]; rfl
  · show stl 3 (12 :: S) ts = _; rw [stl, if_pos (by decide)]; rfl
  · show stl 3 (12 :: 13 :: S) ts = _; rw [stl, if_pos (by decide)]; rfl
theorem stl_2 {S : List Nat} (h : topS S) (a o : Bool) (ts : List Nat) : stl 2 (sgm a o ++ S) ts = (sgm false o ++ S, ts ++ bT a 12) := by
  cases a <;> cases o
  · show stl 2 S ts = (S, ts ++ []); rw [List.append_nil]; exact stl_top h (by omega) ts
  · show stl 2 (13 :: S) ts = (13 :: S, ts ++ []); rw [stl, if_pos (by decide), List.append_nil]
  · show stl 2 (12 :: S) ts = (S, ts ++ [12]); rw [stl, if_neg (by decide)]; exact stl_top h (by omega) _
  · show stl 2 (12 :: 13 :: S) ts = (13 :: S, ts ++ [12]); rw [stl, if_neg (by decide), stl, if_pos (by decide)]
theorem stl_1 {S : List Nat} (h : topS S) (a o : Bool) (ts : List Nat) : stl 1 (sgm a o ++ S) ts = (S, ts ++ bT a 12 ++ bT o 13) := by
  cases a <;> cases o
  · show stl 1 S ts = (S, ts ++ [] ++ []); rw [List.append_nil, List.append_nil]; exact stl_top h (by omega) ts
  · show stl 1 (13 :: S) ts = (S, ts ++ [] ++ [13]); rw [stl, if_neg (by decide), List.append_nil]; exact stl_top h (by omega) _
  · show stl 1 (12 :: S) ts = (S, ts ++ [12] ++ []); rw [stl, if_neg (by decide), List.append_nil]; exact stl_top h (by omega) _
  · show stl 1 (12 :: 13 :: S) ts = (S, ts ++ [12] ++ [13]); rw [stl, if_neg (by decide), stl, if_neg (by decide)]; exact stl_top h (by omega) _
theorem w_and : (6385252 : Int64) = lN (cdL Wand) := (fa_litL 6385252).trans (congrArg lN (by decide))
theorem w_or : (28530 : Int64) = lN (cdL Wor) := (fa_litL 28530).trans (congrArg lN (by decide))
theorem w_not : (7237492 : Int64) = lN (cdL Wnot) := (fa_litL 7237492).trans (congrArg lN (by decide))
/-- a joint: s is pushed behind what is settled -/
theorem m_t76 {c : Nat → Nat} {L k p m : Nat} (hk : k < 6) {Q : Bool → gS → Prop} {S ts : List Nat} {M : gS} (hok : okS S) (hl : ts.length + opn S ≤ p) (hl2 : S.length ≤ p) (hs : stT c L k p m ts S M) (h13 : mg M 13 = nI p) {W : List Nat} (hW : okW W) (hlw : lsW c L p = W) {s : Nat} (hs2 : s = 12 ∨ s = 13) {kt : Nat} (h : ∀ N, fT k M N → stT c L k (nxP c L p) m (stl (strN s) S ts).2 (s :: (stl (strN s) S ts).1) N → wX12_tested_12 Q kt 1 N) (hst : (stl (strN s) S ts).1.length < 400) : wX12_tested_76 (fun (y1 : Int32) (M : gS) => wX12_tested_12 Q kt y1 M) Q 1 (nI s) M := by
  have hp := atP_le hs.1.2.1
  have hL := hs.1.1.2.1
  have hst1 : 1 ≤ strN s ∧ strN s ≤ 3 := by rcases hs2 with rfl | rfl <;> decide
  unfold wX12_tested_76
  refine m_passA hs.1.1 hp h13 hW hlw _ (fun N f a => ?_)
  have s1 := stT_at hs f a
  refine m_strength (by omega) _ (m_settles hk hst1.1 hst1.2 hok (by omega) (by omega) s1 _ (fun N2 f2 g2 s2 => ?_))
  obtain ⟨t1, t2, t3, t4⟩ := id s2
  rw [t2, nI_clamp (by omega)]
  refine ⟨vp_in_nI hst (by decide), fun M7 h7 x8 h8 M9 h9 => ?_⟩
  have n21 : mg M7 21 = nI (stl (strN s) S ts).1.length := by rw [h7]; exact t2
  refine h M9 ?_ ⟨by rw [h9, h7]; exact t1, ?_, ?_, ?_⟩
  · refine fT_trans (fT_1 f) (fT_trans f2 ?_)
    rw [h9, h7]
    exact fT_trans (fT_sa k _ _ _) (fT_sg k _ (Or.inr (Or.inr rfl)) _)
  · rw [h9, mg_sg, if_pos rfl, h8, n21, nI_1]; rfl
  · have e20 : ma M9 20 = upd (ma N2 20) (stl (strN s) S ts).1.length (nI s) := by rw [h9, h7]; rfl
    rw [e20]
    exact ⟨by rw [upd_at, if_pos rfl], skO_upd _ (Nat.le_refl _) t3⟩
  · have e18 : mg M9 18 = mg N2 18 := by rw [h9, h7]; rfl
    rw [e18, t4, dpt, if_neg (by omega), Nat.zero_add]
theorem see_let {c : Nat → Nat} {L p : Nat} {W : List Nat} (hW : okW W) (h : lsW c L p = W) {x : Nat} (hx : x < 97) : ¬ seV c L p = nI x := by
  have b := ls_bL hW h
  have hp := bL_in c L p b
  unfold bL at b
  simp only [Bool.and_eq_true, decide_eq_true_eq] at b
  unfold seV
  rw [if_pos hp, nI_eq (by omega) (by omega)]
  omega
theorem testR_of {c : Nat → Nat} {L k e : Nat} (hk : k < 6) (hL : L ≤ 400) (hFc : factR c L k e) : testR c L k e := by
  have hok := pFc_ok (c := c) hL e
  intro Q B n
  induction n with
  | zero => intro S a o p m ts N h; omega
  | succ n ih =>
    intro S a o p m ts N hn htop hS hd hl hl2 hm hf hs h1 hF kt kfa hkt hkfa
    have hp := atP_le hs.1.2.1
    rw [pTL] at h1 hF
    refine hFc Q B (sgm a o ++ S) p m ts N (sgm_ok hS) (by rw [sgm_d]; exact hd) hl hl2 hm hf hs (fun p1 m1 t1 e1 N1 f1 s1 => ?_) (fun fl ef N1 f1 g => hF fl (by rw [ef]; rfl) N1 f1 g) kt kfa hkt hkfa
    rw [stl_3 htop] at s1
    have s1 : stT c L k p1 m1 t1 (sgm a o ++ S) N1 := s1
    have ad := hok.1 _ _ _ _ _ _ hp hm e1
    obtain ⟨a1, a2, a3, a4, _⟩ := id ad
    have al := addT_len ad
    rw [e1] at h1 hF
    have h1 : ∀ p' m' ts', (if lsW c L p1 = Wand then pTL (pFc c L e) c L n true o (nxP c L p1) m1 (t1 ++ bT a 12) else if lsW c L p1 = Wor then pTL (pFc c L e) c L n false true (nxP c L p1) m1 (t1 ++ bT a 12 ++ bT o 13) else .inr (p1, m1, t1 ++ bT a 12 ++ bT o 13) : Sum Nat (Nat × Nat × List Nat)) = .inr (p', m', ts') → ∀ a' o' t0, ts' = t0 ++ bT a' 12 ++ bT o' 13 → ¬ lsW c L p' = Wand → ¬ lsW c L p' = Wor → ts'.length + opn S ≤ p' → t0.length + opn (sgm a' o' ++ S) ≤ p' → (sgm a' o' ++ S).length ≤ p' → ∀ N', fT k B N' → stT c L k p' m' t0 (sgm a' o' ++ S) N' → CP Q L p' N' := h1
    have hF : ∀ f, (if lsW c L p1 = Wand then pTL (pFc c L e) c L n true o (nxP c L p1) m1 (t1 ++ bT a 12) else if lsW c L p1 = Wor then pTL (pFc c L e) c L n false true (nxP c L p1) m1 (t1 ++ bT a 12 ++ bT o 13) else .inr (p1, m1, t1 ++ bT a 12 ++ bT o 13) : Sum Nat (Nat × Nat × List Nat)) = .inl f → ∀ N', fT k B N' → mg N' 14 = nI f → Q false N' := hF
    have la : (t1 ++ bT a 12).length = t1.length + bNn a := by rw [List.length_append]; cases a <;> rfl
    have lo : (t1 ++ bT a 12 ++ bT o 13).length = t1.length + bNn a + bNn o := by rw [List.length_append, la]; cases o <;> rfl
    rw [sgm_o] at hl
    rw [sgm_l] at hl2
    have bt1 : bNn true = 1 := rfl
    have bt0 : bNn false = 0 := rfl
    have bo : bNn o ≤ 1 := by cases o <;> decide
    have ba : bNn a ≤ 1 := by cases a <;> decide
    -- the loop goes on behind a joint
    have joint : ∀ s a' o' W, okW W → lsW c L p1 = W → (s = 12 ∨ s = 13) → s :: (stl (strN s) (sgm a o ++ S) t1).1 = sgm a' o' ++ S → (∀ p' m' ts', pTL (pFc c L e) c L n a' o' (nxP c L p1) m1 (stl (strN s) (sgm a o ++ S) t1).2 = .inr (p', m', ts') → ∀ a' o' t0, ts' = t0 ++ bT a' 12 ++ bT o' 13 → ¬ lsW c L p' = Wand → ¬ lsW c L p' = Wor → ts'.length + opn S ≤ p' → t0.length + opn (sgm a' o' ++ S) ≤ p' → (sgm a' o' ++ S).length ≤ p' → ∀ N', fT k B N' → stT c L k p' m' t0 (sgm a' o' ++ S) N' → CP Q L p' N') → (∀ f, pTL (pFc c L e) c L n a' o' (nxP c L p1) m1 (stl (strN s) (sgm a o ++ S) t1).2 = .inl f → ∀ N', fT k B N' → mg N' 14 = nI f → Q false N') → (stl (strN s) (sgm a o ++ S) t1).2.length + opn (sgm a' o' ++ S) ≤ nxP c L p1 → (sgm a' o' ++ S).length ≤ nxP c L p1 → ∀ kt N2, L - p1 < kt → fT k B N2 → stT c L k p1 m1 t1 (sgm a o ++ S) N2 → mg N2 13 = nI p1 → wX12_tested_76 (fun (y1 : Int32) (M : gS) => wX12_tested_12 Q kt y1 M) Q 1 (nI s) N2 := by
      intro s a' o' W hW hlw hs2 eS q1 q2 q3 q4 kt N2 hkt2 f2 s2 e2
      have pL := ls_lt hW hlw
      have hgt := nxP_gt (c := c) pL
      have hnx := nxP_le (c := c) a2
      have hlS : (stl (strN s) (sgm a o ++ S) t1).1.length + 1 = (sgm a' o' ++ S).length := by rw [← eS]; rfl
      refine m_t76 hk (sgm_ok hS) (by rw [sgm_o]; omega) (by rw [sgm_l]; omega) s2 e2 hW hlw hs2 (fun N3 f3 s3 => ?_) (by omega)
      rw [eS] at s3
      obtain ⟨kt', rfl⟩ : ∃ q, kt = q + 1 := ⟨kt - 1, by omega⟩
      exact tested_1 ⟨L - nxP c L p1 + 2, ih S a' o' (nxP c L p1) m1 _ N3 (by omega) htop hS hd q3 q4 a4 (fT_trans f2 f3) s3 q1 q2 kt' _ (by omega) (by omega)⟩
    intro kt2 kc hkt2 hkc
    obtain ⟨kc', rfl⟩ : ∃ q, kc = q + 1 := ⟨kc - 1, by omega⟩
    by_cases eA : lsW c L p1 = Wand
    · rw [if_pos eA] at h1 hF
      rw [wX12_closes_5]
      refine m_seeA s1.1.1 s1.1.2.1 _ (fun N2 f2 g2 => sw_f (see_let ok_and eA (x := 93) (by omega)) ?_)
      have s2 := stT_1 s1 f2 g2
      have e2 := stl_2 htop a o t1
      have pL := ls_lt ok_and eA
      have hgt := nxP_gt (c := c) pL
      unfold KC
      refine m_isWordA s2.1.1 s2.1.2.1 ok_and w_and _ (fun N3 f3 g3 => ?_)
      rw [decide_eq_true eA]
      refine bw_t ?_
      have s3 := stT_1 s2 f3 g3
      unfold wX12_tested_49 wX12_tested_54
      refine sw_f (by decide) (m_isWordA s3.1.1 s3.1.2.1 ok_and w_and _ (fun N4 f4 g4 => ?_))
      rw [decide_eq_true eA]
      refine bw_t ?_
      have s4 := stT_1 s3 f4 g4
      refine joint 12 true o Wand ok_and eA (Or.inl rfl) ?_ ?_ ?_ ?_ ?_ kt2 N4 hkt2 (fT_trans f1 (fT_1 (fl1_trans f2 (fl1_trans f3 f4)))) s4 g4
      · show 12 :: (stl 2 (sgm a o ++ S) t1).1 = _
        rw [e2]
        cases o <;> rfl
      · show ∀ p' m' ts', pTL (pFc c L e) c L n true o (nxP c L p1) m1 (stl 2 (sgm a o ++ S) t1).2 = _ → _
        rw [e2]
        exact h1
      · show ∀ f, pTL (pFc c L e) c L n true o (nxP c L p1) m1 (stl 2 (sgm a o ++ S) t1).2 = _ → _
        rw [e2]
        exact hF
      · show (stl 2 (sgm a o ++ S) t1).2.length + _ ≤ _
        rw [e2, sgm_o]
        show (t1 ++ bT a 12).length + _ ≤ _
        rw [la]; omega
      · rw [sgm_l]; omega
    · rw [if_neg eA] at h1 hF
      by_cases eO : lsW c L p1 = Wor
      · rw [if_pos eO] at h1 hF
        rw [wX12_closes_5]
        refine m_seeA s1.1.1 s1.1.2.1 _ (fun N2 f2 g2 => sw_f (see_let ok_or eO (x := 93) (by omega)) ?_)
        have s2 := stT_1 s1 f2 g2
        have e2 := stl_1 htop a o t1
        have pL := ls_lt ok_or eO
        have hgt := nxP_gt (c := c) pL
        unfold KC
        refine m_isWordA s2.1.1 s2.1.2.1 ok_and w_and _ (fun N3 f3 g3 => ?_)
        rw [decide_eq_false eA]
        have s3 := stT_1 s2 f3 g3
        refine bw_f (m_isWordA s3.1.1 s3.1.2.1 ok_or w_or _ (fun N5 f5 g5 => ?_))
        rw [decide_eq_true eO]
        refine bw_t ?_
        have s5 := stT_1 s3 f5 g5
        unfold wX12_tested_49 wX12_tested_54
        refine sw_f (by decide) (m_isWordA s5.1.1 s5.1.2.1 ok_and w_and _ (fun N4 f4 g4 => ?_))
        rw [decide_eq_false eA]
        refine bw_f ?_
        have s4 := stT_1 s5 f4 g4
        refine joint 13 false true Wor ok_or eO (Or.inr rfl) ?_ ?_ ?_ ?_ ?_ kt2 N4 hkt2 (fT_trans f1 (fT_1 (fl1_trans f2 (fl1_trans f3 (fl1_trans f5 f4))))) s4 g4
        · show 13 :: (stl 1 (sgm a o ++ S) t1).1 = _
          rw [e2]
          rfl
        · show ∀ p' m' ts', pTL (pFc c L e) c L n false true (nxP c L p1) m1 (stl 1 (sgm a o ++ S) t1).2 = _ → _
          rw [e2]
          exact h1
        · show ∀ f, pTL (pFc c L e) c L n false true (nxP c L p1) m1 (stl 1 (sgm a o ++ S) t1).2 = _ → _
          rw [e2]
          exact hF
        · show (stl 1 (sgm a o ++ S) t1).2.length + _ ≤ _
          rw [e2, sgm_o]
          show (t1 ++ bT a 12 ++ bT o 13).length + _ ≤ _
          rw [lo]; omega
        · rw [sgm_l]; omega
      · rw [if_neg eO] at h1 hF
        exact h1 _ _ _ rfl a o t1 rfl eA eO (by rw [lo]; omega) (by rw [sgm_o]; omega) (by rw [sgm_l]; omega) N1 f1 s1 kt2 (kc' + 1) hkt2 hkc
/-- the test is over: no joint follows -/
theorem m_nojoint {c : Nat → Nat} {L k p m : Nat} {Q : Bool → gS → Prop} {S ts : List Nat} {M : gS} (hs : stT c L k p m ts S M) (hA : ¬ lsW c L p = Wand) (hO : ¬ lsW c L p = Wor) {kt : Nat} (h : ∀ N, fT k M N → stT c L k p m ts S N → mg N 13 = nI p → wX12_tested_12 Q kt 0 N) : KC Q kt M := by
  unfold KC
  refine m_isWordA hs.1.1 hs.1.2.1 ok_and w_and _ (fun N f g => ?_)
  rw [decide_eq_false hA]
  have s1 := stT_1 hs f g
  refine bw_f (m_isWordA s1.1.1 s1.1.2.1 ok_or w_or _ (fun N2 f2 g2 => ?_))
  rw [decide_eq_false hO]
  refine bw_f ?_
  unfold wX12_tested_54
  exact sw_t rfl (h N2 (fT_trans (fT_1 f) (fT_1 f2)) (stT_1 s1 f2 g2) g2)
theorem factR_of {c : Nat → Nat} {L k : Nat} (hk : k < 6) (hL : L ≤ 400) : ∀ e, e ≤ 10 → factR c L k e := by
  intro e
  induction e with
  | zero =>
    intro _ Q B S p m ts N hS hd hl hl2 hm hf hs h1 hF kt kfa hkt hkfa
    have hp := atP_le hs.1.2.1
    have hcp := (hs.1.1.2.2 p).1
    have hol := opn_le S
    rw [pFc_0] at h1 hF
    obtain ⟨kf, rfl⟩ : ∃ q, kfa = q + 2 := ⟨kfa - 2, by omega⟩
    rw [wX12_fact_2]
    refine sw_f (by decide) (m_seeA hs.1.1 hs.1.2.1 _ (fun N1 f1 g1 => ?_))
    have s1 := stT_1 hs f1 g1
    refine m_isWordA s1.1.1 s1.1.2.1 ok_not w_not _ (fun N2 f2 g2 => ?_)
    have s2 := stT_1 s1 f2 g2
    have fr2 := fT_trans hf (fT_1 (fl1_trans f1 f2))
    by_cases eN : lsW c L p = Wnot
    · rw [decide_eq_true eN]
      rw [if_pos (Or.inl eN)] at hF
      have pL := ls_lt ok_not eN
      refine bw_t (m_opens g2 (by omega) (by omega) s2 (x := 11) (Or.inl rfl) _ (fun z => absurd z (by omega)) (fun _ N3 f3 g => bw_f (bw_f (hF _ rfl N3 (fT_trans fr2 f3) g))))
    · rw [decide_eq_false eN]
      refine bw_f ?_
      by_cases eB : p < L ∧ c p = 91
      · rw [if_pos (Or.inr eB)] at hF
        exact sw_t ((seV_x (x := 91) hcp (by omega)).2 eB) (m_opens g2 (by omega) (by omega) s2 (x := 91) (Or.inr rfl) _ (fun z => absurd z (by omega)) (fun _ N3 f3 g => bw_f (bw_f (hF _ rfl N3 (fT_trans fr2 f3) g))))
      · rw [if_neg (fun z => z.elim eN eB)] at h1 hF
        refine sw_f (fun z => eB ((seV_x (x := 91) hcp (by omega)).1 z)) ?_
        unfold wX12_fact_72
        show wX12_fact_2 (KF Q kt) (kf + 1) 0 N2
        rw [wX12_fact_2]
        refine sw_t rfl (m_compare hk s2.1 hm (by omega) _ (fun p' m' ts' ee N3 f3 s3 => bw_t ?_) (fun fl ef N3 f3 g => bw_f (hF fl ef N3 (fT_trans fr2 (fT_S f3)) g)))
        obtain ⟨a1, a2, a3, a4, _⟩ := pCmp_t hp hm ee
        have al := addT_len (pCmp_t hp hm ee)
        unfold wX12_closes
        refine m_settles hk (least := 3) (by omega) (by omega) hS (by omega) (by omega) (stT_S s2 f3 s3) _ (fun N4 f4 _ s4 => ⟨L - p' + 1, ?_⟩)
        exact h1 p' m' ts' ee N4 (fT_trans fr2 (fT_trans (fT_S f3) f4)) s4 kt _ (by omega) (by omega)
  | succ e ih =>
    intro he Q B S p m ts N hS hd hl hl2 hm hf hs h1 hF kt kfa hkt hkfa
    have ihf := ih (by omega)
    have ihT := testR_of hk hL ihf
    have hok := pFc_ok (c := c) hL e
    have hp := atP_le hs.1.2.1
    have hcp := (hs.1.1.2.2 p).1
    have hol := opn_le S
    have hnx := nxP_le (c := c) hp
    rw [pFc_s] at h1 hF
    obtain ⟨kf, rfl⟩ : ∃ q, kfa = q + 2 := ⟨kfa - 2, by omega⟩
    rw [wX12_fact_2]
    refine sw_f (by decide) (m_seeA hs.1.1 hs.1.2.1 _ (fun N1 f1 g1 => ?_))
    have s1 := stT_1 hs f1 g1
    refine m_isWordA s1.1.1 s1.1.2.1 ok_not w_not _ (fun N2 f2 g2 => ?_)
    have s2 := stT_1 s1 f2 g2
    have fr2 := fT_trans hf (fT_1 (fl1_trans f1 f2))
    by_cases eN : lsW c L p = Wnot
    · rw [decide_eq_true eN]
      rw [if_pos eN] at h1 hF
      have pL := ls_lt ok_not eN
      have hgt := nxP_gt (c := c) pL
      refine bw_t (m_opens g2 (by omega) (by omega) s2 (x := 11) (Or.inl rfl) _ (fun _ N3 f3 g3 s3 => bw_t ?_) (fun z => absurd z (by omega)))
      refine m_passA s3.1.1 hp (by rw [g3]; exact g2) ok_not eN _ (fun N4 f4 a4 => ?_)
      have s4 := stT_at s3 f4 a4
      unfold wX12_fact_72
      have okS1 : okS (11 :: S) := fun x hx => by
        rcases List.mem_cons.1 hx with z | z
        · exact Or.inl z
        · exact hS x z
      refine ihf Q B (11 :: S) (nxP c L p) m ts N4 okS1 (by rw [dpt, if_pos (Or.inl rfl)]; omega) (by rw [opn, if_neg (by omega)]; omega) (by rw [List.length_cons]; omega) hm (fT_trans fr2 (fT_trans f3 (fT_1 f4))) s4 (fun p' m' ts' ee N5 f5 s5 => ?_) (fun fl ef N5 f5 g => hF fl (by rw [ef]; rfl) N5 f5 g) kt (kf + 1) (by omega) (by omega)
      rw [stl, if_neg (by decide)] at s5
      exact h1 p' m' (ts' ++ [11]) (by rw [ee]; rfl) N5 f5 s5
    · rw [decide_eq_false eN]
      rw [if_neg eN] at h1 hF
      refine bw_f ?_
      by_cases eB : p < L ∧ c p = 91
      · rw [if_pos eB] at h1 hF
        have hgt := nxP_gt (c := c) eB.1
        refine sw_t ((seV_x (x := 91) hcp (by omega)).2 eB) (m_opens g2 (by omega) (by omega) s2 (x := 91) (Or.inr rfl) _ (fun _ N3 f3 g3 s3 => bw_t (fun x16 h16 M17 h17 => ?_)) (fun z => absurd z (by omega)))
        have f17 : fl1 N3 M17 := by rw [h17]; exact fl1_sg N3 _
        have a17 : atP c L (nxP c L p) M17 := ⟨p + 1, by omega, by rw [h17, mg_sg, if_pos rfl, h16, g3, g2, nI_1], (sgX eB.1 (by omega)).symm⟩
        have s17 := stT_at s3 f17 a17
        have fr17 := fT_trans fr2 (fT_trans f3 (fT_1 f17))
        unfold wX12_fact_72
        have okS1 : okS (91 :: S) := fun x hx => by
          rcases List.mem_cons.1 hx with z | z
          · exact Or.inr (Or.inr (Or.inr z))
          · exact hS x z
        refine ihT Q B (L - nxP c L p + 1) (91 :: S) false false (nxP c L p) m ts M17 (by omega) (Or.inr ⟨S, rfl⟩) okS1 (by rw [dpt, if_pos (Or.inr rfl)]; omega) (by show ts.length + opn (91 :: S) ≤ _; rw [opn, if_pos rfl]; omega) (by show (91 :: S).length ≤ _; rw [List.length_cons]; omega) hm fr17 s17 (fun p1 m1 t1 ee a o t0 et hA hO hb1 hb2 hb3 N5 f5 s5 => ?_) (fun fl ef N5 f5 g => hF fl (by unfold pTst; rw [ef]; rfl) N5 f5 g) kt (kf + 1) (by omega) (by omega)
        have h1 : ∀ p' m' ts', (if p1 < L ∧ c p1 = 93 then Sum.inr (nxP c L p1, m1, t1) else Sum.inl (1 + 8 * p1 + 0) : Sum Nat (Nat × Nat × List Nat)) = .inr (p', m', ts') → ∀ N', fT k B N' → stT c L k p' m' (stl 3 S ts').2 (stl 3 S ts').1 N' → CP Q L p' N' := fun p' m' ts' z => h1 p' m' ts' (by unfold pTst; rw [ee]; exact z)
        have hF : ∀ f, (if p1 < L ∧ c p1 = 93 then Sum.inr (nxP c L p1, m1, t1) else Sum.inl (1 + 8 * p1 + 0) : Sum Nat (Nat × Nat × List Nat)) = .inl f → ∀ N', fT k B N' → mg N' 14 = nI f → Q false N' := fun f z => hF f (by unfold pTst; rw [ee]; exact z)
        have hp1 := atP_le s5.1.2.1
        have hc1 := (s5.1.1.2.2 p1).1
        have e1 := stl_1 (S := 91 :: S) (Or.inr ⟨S, rfl⟩) a o t0
        rw [← et] at e1
        intro kt2 kc hkt2 hkc
        obtain ⟨kc', rfl⟩ : ∃ q, kc = q + 1 := ⟨kc - 1, by omega⟩
        rw [wX12_closes_5]
        refine m_seeA s5.1.1 s5.1.2.1 _ (fun N6 f6 g6 => ?_)
        have s6 := stT_1 s5 f6 g6
        have fr6 := fT_trans f5 (fT_1 f6)
        have okS6 : okS (sgm a o ++ 91 :: S) := sgm_ok okS1
        have ins : (91 : Nat) ∈ sgm a o ++ 91 :: S := by simp
        by_cases e93 : p1 < L ∧ c p1 = 93
        · rw [if_pos e93] at h1
          have hgt1 := nxP_gt (c := c) e93.1
          have hnx1 := nxP_le (c := c) hp1
          refine sw_t ((seV_x (x := 93) hc1 (by omega)).2 e93) (m_isInside okS6 (by omega) s6 _ ?_)
          rw [decide_eq_true ins]
          refine bw_t (m_settles hk (least := 1) (by omega) (by omega) okS6 (by omega) (by omega) s6 _ (fun N7 f7 g7 s7 x10 h10 M11 h11 x12 h12 M13 h13 x14 h14 M15 h15 => ?_))
          rw [e1] at s7
          obtain ⟨t71, t72, t73, t74⟩ := s7
          have lS : (91 :: S).length = S.length + 1 := rfl
          have m13' : mg M13 13 = nI p1 := by rw [h13, h11]; show mg N7 13 = _; rw [g7]; exact g6
          have f15 : fT k N7 M15 := by rw [h15, h13, h11]; exact fT_trans (fT_sg k _ (Or.inr (Or.inr rfl)) _) (fT_trans (fT_sg k _ (Or.inr (Or.inl rfl)) _) (fT_sg k _ (Or.inl rfl) _))
          have a15 : atP c L (nxP c L p1) M15 := ⟨p1 + 1, by omega, by rw [h15, mg_sg, if_pos rfl, h14, m13', nI_1], (sgX e93.1 (by omega)).symm⟩
          have s15 : stT c L k (nxP c L p1) m1 t1 S M15 := by
            obtain ⟨b1, b2, b3, b4, b5, b6⟩ := t71
            refine ⟨⟨by rw [h15, h13, h11]; exact b1, a15, by rw [h15, h13, h11]; exact b3, by rw [h15, h13, h11]; exact b4, by rw [h15, h13, h11]; exact b5, by rw [h15, h13, h11]; exact b6⟩, ?_, by rw [h15, h13, h11]; exact t73.2, ?_⟩
            · have : mg M15 21 = x10 := by rw [h15, h13, h11]; rfl
              rw [this, h10, t72, lS, nI_pred]
            · have : mg M15 18 = x12 := by rw [h15, h13]; rfl
              have q : mg M11 18 = nI (dpt (91 :: S)) := by rw [h11]; exact t74
              rw [this, h12, q, dpt, if_pos (Or.inr rfl), Nat.add_comm 1, nI_pred]
          rw [opn, if_pos rfl] at hb1
          refine m_settles hk (least := 3) (by omega) (by omega) hS (by omega) (by omega) s15 _ (fun N8 f8 _ s8 => ?_)
          exact h1 _ _ _ rfl N8 (fT_trans fr6 (fT_trans f7 (fT_trans f15 f8))) s8 kt2 kc' (by omega) (by omega)
        · rw [if_neg e93] at hF
          refine sw_f (fun z => e93 ((seV_x (x := 93) hc1 (by omega)).1 z)) (m_nojoint s6 hA hO (fun N7 f7 s7 g7 => ?_))
          obtain ⟨kt', rfl⟩ : ∃ q, kt2 = q + 1 := ⟨kt2 - 1, by omega⟩
          rw [wX12_tested_12]
          refine sw_t rfl (m_isInside okS6 (by omega) s7 _ ?_)
          rw [decide_eq_true ins]
          refine bw_t (m_seeA s7.1.1 s7.1.2.1 _ (fun N8 f8 g8 => ?_))
          have s8 := stT_1 s7 f8 g8
          rw [g8]
          exact m_fails s8.1.2.2.1 0 p1 _ (fun N9 f9 _ g => hF _ rfl N9 (fT_trans fr6 (fT_trans f7 (fT_trans (fT_1 f8) (fT_3 f9)))) g)
      · rw [if_neg eB] at h1 hF
        refine sw_f (fun z => eB ((seV_x (x := 91) hcp (by omega)).1 z)) ?_
        unfold wX12_fact_72
        show wX12_fact_2 (KF Q kt) (kf + 1) 0 N2
        rw [wX12_fact_2]
        refine sw_t rfl (m_compare hk s2.1 hm (by omega) _ (fun p' m' ts' ee N3 f3 s3 => bw_t ?_) (fun fl ef N3 f3 g => bw_f (hF fl ef N3 (fT_trans fr2 (fT_S f3)) g)))
        obtain ⟨a1, a2, a3, a4, _⟩ := pCmp_t hp hm ee
        have al := addT_len (pCmp_t hp hm ee)
        unfold wX12_closes
        refine m_settles hk (least := 3) (by omega) (by omega) hS (by omega) (by omega) (stT_S s2 f3 s3) _ (fun N4 f4 _ s4 => ⟨L - p' + 1, ?_⟩)
        exact h1 p' m' ts' ee N4 (fT_trans fr2 (fT_trans (fT_S f3) f4)) s4 kt _ (by omega) (by omega)
/-- a whole test -/
theorem m_tested {c : Nat → Nat} {L k p m : Nat} {ts : List Nat} {M : gS} (hk : k < 6) (hs : stR c L k p m ts M) (hm : m ≤ 60) (hl : ts.length ≤ p) (Q : Bool → gS → Prop) (h1 : ∀ p' m' ts', pTst (pFc c L 10) c L p m ts = .inr (p', m', ts') → ∀ N, fT k M N → stR c L k p' m' ts' N → Q true N) (hF : ∀ f, pTst (pFc c L 10) c L p m ts = .inl f → ∀ N, fT k M N → mg N 14 = nI f → Q false N) : wX12_tested M Q := by
  have hL := hs.1.2.1
  have hp := atP_le hs.2.1
  unfold wX12_tested
  intro M1 e1 M2 e2
  have s2 : stT c L k p m ts [] M2 := ⟨by rw [e2, e1]; exact hs, by rw [e2, e1]; rfl, trivial, by rw [e2]; rfl⟩
  have fr2 : fT k M M2 := by rw [e2, e1]; exact fT_trans (fT_sg k M (Or.inr (Or.inr rfl)) _) (fT_sg k _ (Or.inr (Or.inl rfl)) _)
  have okE : okS [] := fun x hx => absurd hx (by simp)
  have tr := testR_of hk hL (factR_of (c := c) hk hL 10 (by omega)) Q M (L - p + 1) [] false false p m ts M2 (by omega) (Or.inl rfl) okE rfl (by show ts.length + 0 ≤ p; omega) (by show 0 ≤ p; omega) hm fr2 s2
  refine ⟨L - p + 2, tested_1 ⟨L - p + 2, tr (fun p1 m1 t1 ee a o t0 et hA hO hb1 hb2 hb3 N5 f5 s5 => ?_) hF (L - p + 1) (L - p + 2) (by omega) (by omega)⟩⟩
  have okS5 : okS (sgm a o ++ []) := sgm_ok okE
  have nin : ¬ (91 : Nat) ∈ sgm a o ++ [] := by cases a <;> cases o <;> decide
  have hp1 := atP_le s5.1.2.1
  have e1' := stl_1 (S := []) (Or.inl rfl) a o t0
  rw [← et] at e1'
  have fin : ∀ kt N6, L - p1 < kt → fT k M N6 → stT c L k p1 m1 t0 (sgm a o ++ []) N6 → KC Q kt N6 := by
    intro kt N6 hkt f6 s6
    refine m_nojoint s6 hA hO (fun N7 f7 s7 g7 => ?_)
    obtain ⟨kt', rfl⟩ : ∃ q, kt = q + 1 := ⟨kt - 1, by omega⟩
    rw [wX12_tested_12]
    refine sw_t rfl (m_isInside okS5 (by omega) s7 _ ?_)
    rw [decide_eq_false nin]
    refine bw_f (m_settles hk (least := 1) (by omega) (by omega) okS5 (by omega) (by omega) s7 _ (fun N8 f8 _ s8 => ?_))
    rw [e1'] at s8
    exact h1 p1 m1 t1 ee N8 (fT_trans f6 (fT_trans f7 f8)) s8.1
  intro kt2 kc hkt2 hkc
  obtain ⟨kc', rfl⟩ : ∃ q, kc = q + 1 := ⟨kc - 1, by omega⟩
  rw [wX12_closes_5]
  refine m_seeA s5.1.1 s5.1.2.1 _ (fun N6 f6 g6 => ?_)
  have s6 := stT_1 s5 f6 g6
  have fr6 := fT_trans f5 (fT_1 f6)
  refine ⟨fun _ => m_isInside okS5 (by omega) s6 _ ?_, fun _ => fin kt2 N6 hkt2 fr6 s6⟩
  rw [decide_eq_false nin]
  exact bw_f (fin kt2 N6 hkt2 fr6 s6)
