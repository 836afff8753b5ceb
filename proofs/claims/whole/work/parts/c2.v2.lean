-- PURE: sums, the reference
def rkR (k : Nat) (ts : List Nat) (M : gS) : Prop := ma M 4 k = nI ts.length ∧ ∀ i, i < ts.length → ma M 3 (400 * k + i) = nI (ts.getD i 0)
def fS (k : Nat) (M N : gS) : Prop := (∀ j, j ≠ 3 → j ≠ 4 → ma N j = ma M j) ∧ (∀ j, (j < 400 * k ∨ 400 * k + 400 ≤ j) → ma N 3 j = ma M 3 j) ∧ (∀ j, j ≠ 13 → j ≠ 14 → j ≠ 15 → j ≠ 17 → mg N j = mg M j)
theorem fS_refl (k : Nat) (M : gS) : fS k M M := ⟨fun _ _ _ => rfl, fun _ _ => rfl, fun _ _ _ _ _ => rfl⟩
theorem fS_trans {k : Nat} {A B C : gS} (h : fS k A B) (g : fS k B C) : fS k A C := ⟨fun j a b => (g.1 j a b).trans (h.1 j a b), fun j a => (g.2.1 j a).trans (h.2.1 j a), fun j a b c d => (g.2.2 j a b c d).trans (h.2.2 j a b c d)⟩
theorem fS_3 {k : Nat} {M N : gS} (h : fl3 M N) : fS k M N := ⟨fun j _ _ => by rw [h.1], fun j _ => by rw [h.1], fun j a b c _ => h.2 j a b c⟩
theorem fS_1 {k : Nat} {M N : gS} (h : fl1 M N) : fS k M N := fS_3 (fl3_1 h)
theorem fS_sg (k : Nat) (M : gS) {j : Nat} (hj : j = 13 ∨ j = 14 ∨ j = 15 ∨ j = 17) (v : Int32) : fS k M (sg M j v) := ⟨fun _ _ _ => rfl, fun _ _ => rfl, fun i a b c d => by rw [mg_sg, if_neg (by omega)]⟩
theorem txR_S {c : Nat → Nat} {L k : Nat} {M N : gS} (h : txR c L M) (hf : fS k M N) : txR c L N := by
  unfold txR at *
  rw [hf.1 0 (by decide) (by decide), hf.2.2 1 (by decide) (by decide) (by decide) (by decide)]
  exact h
/-- the reference reads rule k's text at p; m nodes and the tokens ts so far -/
def stR (c : Nat → Nat) (L k p m : Nat) (ts : List Nat) (M : gS) : Prop := txR c L M ∧ atP c L p M ∧ mg M 14 = 0 ∧ mg M 16 = nI k ∧ mg M 17 = nI m ∧ rkR k ts M
theorem stR_1 {c : Nat → Nat} {L k p m : Nat} {ts : List Nat} {M N : gS} (h : stR c L k p m ts M) (hf : fl1 M N) (h13 : mg N 13 = nI p) : stR c L k p m ts N := by
  obtain ⟨a1, a2, a3, a4, a5, a6⟩ := h
  refine ⟨txR_fl a1 hf, atP_of a2 h13, by rw [hf.2 14 (by decide)]; exact a3, by rw [hf.2 16 (by decide)]; exact a4, by rw [hf.2 17 (by decide)]; exact a5, ?_⟩
  unfold rkR at *
  rw [hf.1]
  exact a6
theorem stR_at {c : Nat → Nat} {L k p p' m : Nat} {ts : List Nat} {M N : gS} (h : stR c L k p m ts M) (hf : fl1 M N) (ha : atP c L p' N) : stR c L k p' m ts N := by
  obtain ⟨a1, a2, a3, a4, a5, a6⟩ := h
  refine ⟨txR_fl a1 hf, ha, by rw [hf.2 14 (by decide)]; exact a3, by rw [hf.2 16 (by decide)]; exact a4, by rw [hf.2 17 (by decide)]; exact a5, ?_⟩
  unfold rkR at *
  rw [hf.1]
  exact a6
theorem m_puts {c : Nat → Nat} {L k p m : Nat} {ts : List Nat} {M : gS} (hk : k < 6) (hs : stR c L k p m ts M) (hl : ts.length < 400) {s v : Nat} {x y : Int32} (hx : x = nI s) (hy : y = nI v) (Q : gS → Prop) (h : ∀ N, fS k M N → (∀ j, mg N j = mg M j) → (∀ j, j ≠ 3 → j ≠ 4 → ma N j = ma M j) → stR c L k p m (ts ++ [s + 16 * v]) N → Q N) : wX12_puts x y M Q := by
  obtain ⟨a1, a2, a3, a4, a5, r4, r3⟩ := hs
  unfold wX12_puts
  rw [a4, nI_clamp (show k < 2 ^ 31 by omega), r4, show (400 : Int32) * nI k + nI ts.length = nI (400 * k + ts.length) by
    show nI 400 * nI k + nI ts.length = _
    rw [pk_mul, nI_add], nI_clamp (by omega)]
  refine ⟨vp_in_nI (by omega) (by decide), fun x1 h1 => ⟨vp_in_nI (by omega) (by decide), fun M2 h2 => ?_⟩⟩
  have m16 : mg M2 16 = nI k := by rw [h2]; exact a4
  have m4 : ma M2 4 k = nI ts.length := by rw [h2]; exact r4
  rw [m16, nI_clamp (show k < 2 ^ 31 by omega), m4]
  refine ⟨vp_in_nI (by omega) (by decide), fun x3 h3 => ⟨vp_in_nI (by omega) (by decide), fun M4 h4 => ?_⟩⟩
  have e1 : x1 = nI (s + 16 * v) := by
    rw [h1, hx, hy]
    show nI s + nI 16 * nI v = _
    rw [pk_mul, nI_add]
  have em3 : ma M4 3 = upd (ma M 3) (400 * k + ts.length) (nI (s + 16 * v)) := by rw [h4, h2, e1]; rfl
  have em4 : ma M4 4 = upd (ma M 4) k x3 := by rw [h4, h2]; rfl
  have ema : ∀ j, j ≠ 3 → j ≠ 4 → ma M4 j = ma M j := fun j q1 q2 => by rw [h4, ma_sa, if_neg q2, h2, ma_sa, if_neg q1]
  have emg : ∀ j, mg M4 j = mg M j := fun j => by rw [h4, h2]; rfl
  refine h M4 ⟨ema, fun j hj => ?_, fun j _ _ _ _ => emg j⟩ emg ema ⟨?_, ?_, by rw [emg]; exact a3, by rw [emg]; exact a4, by rw [emg]; exact a5, ?_, fun i hi => ?_⟩
  · rw [em3, upd_at, if_neg (by omega)]
  · unfold txR at *
    rw [ema 0 (by decide) (by decide), emg]
    exact a1
  · obtain ⟨q, q1, q2, q3⟩ := a2
    exact ⟨q, q1, by rw [emg]; exact q2, q3⟩
  · rw [em4, upd_at, if_pos rfl, h3, nI_1, List.length_append]
    rfl
  · rw [List.length_append] at hi
    have hi' : i < ts.length + 1 := hi
    rw [em3, upd_at]
    by_cases z : i = ts.length
    · rw [if_pos (by omega), z, getD_last]
    · rw [if_neg (by omega), getD_app (by omega)]
      exact r3 i (by omega)
theorem m_makes {c : Nat → Nat} {L k p m q : Nat} {ts : List Nat} {M : gS} (hs : stR c L k p m ts M) (hm : m ≤ 60) (Q : Bool → gS → Prop) (h : m < 60 → ∀ N, fS k M N → mg N 13 = mg M 13 → mg N 15 = mg M 15 → ma N = ma M → stR c L k p (m + 1) ts N → Q true N) (hF : m = 60 → ∀ N, fS k M N → mg N 14 = nI (1 + 8 * q + 3) → Q false N) : wX12_makes (nI q) M Q := by
  obtain ⟨a1, a2, a3, a4, a5, a6⟩ := hs
  unfold wX12_makes
  rw [a5]
  by_cases z : m = 60
  · exact sw_t (by rw [z]; rfl) (m_fails a3 3 q _ (fun N f _ g => hF z N (fS_3 f) g))
  · refine sw_f (fun y => z ((nI_eq (by omega) (by omega)).1 (show nI m = nI 60 from y))) (fun x2 h2 M3 h3 => ?_)
    refine h (by omega) M3 (by rw [h3]; exact fS_sg k M (Or.inr (Or.inr (Or.inr rfl))) _) (by rw [h3]; rfl) (by rw [h3]; rfl) (by rw [h3]; rfl) ⟨?_, ?_, ?_, ?_, ?_, ?_⟩
    · rw [h3]; exact a1
    · rw [h3]; exact a2
    · rw [h3]; exact a3
    · rw [h3]; exact a4
    · rw [h3, mg_sg, if_pos rfl, h2, nI_1]
    · rw [h3]; exact a6
theorem m_wordHere {c : Nat → Nat} {L p : Nat} {M : gS} (ht : txR c L M) (ha : atP c L p M) (Q : Int32 → gS → Prop) (h : ∀ N, fl1 M N → mg N 13 = nI p → Q (match owN (lsW c L p) with | none => -1 | some w => nI w) N) : wX12_wordHere M Q := by
  have w0 : (1936286821 : Int64) = lN (cdL Wside) := (fa_litL 1936286821).trans (congrArg lN (by decide))
  have w1 : (1818584692 : Int64) = lN (cdL Wleft) := (fa_litL 1818584692).trans (congrArg lN (by decide))
  have w2 : (508508140389 : Int64) = lN (cdL Wverse) := (fa_litL 508508140389).trans (congrArg lN (by decide))
  have w3 : (1835626085 : Int64) = lN (cdL Wmine) := (fa_litL 1835626085).trans (congrArg lN (by decide))
  have w4 : (127991726830195 : Int64) = lN (cdL Wtheirs) := (fa_litL 127991726830195).trans (congrArg lN (by decide))
  have w5 : (1818325876 : Int64) = lN (cdL Wlast) := (fa_litL 1818325876).trans (congrArg lN (by decide))
  have w6 : (448377483876 : Int64) = lN (cdL Wheard) := (fa_litL 448377483876).trans (congrArg lN (by decide))
  have w7 : (1935763812 : Int64) = lN (cdL Wsaid) := (fa_litL 1935763812).trans (congrArg lN (by decide))
  have w8 : (470021465459 : Int64) = lN (cdL Wmoves) := (fa_litL 470021465459).trans (congrArg lN (by decide))
  unfold owN at h
  unfold wX12_wordHere
  refine m_isWordA ht ha ok_side w0 _ (fun N0 f0 e0 => ?_)
  by_cases d0 : lsW c L p = Wside
  · rw [if_pos d0] at h; rw [decide_eq_true d0]; exact bw_t (h N0 f0 e0)
  rw [if_neg d0] at h; rw [decide_eq_false d0]
  refine bw_f (m_isWordA (txR_fl ht f0) (atP_of ha e0) ok_left w1 _ (fun N1 f1 e1 => ?_))
  have g1 := fl1_trans f0 f1
  by_cases d1 : lsW c L p = Wleft
  · rw [if_pos d1] at h; rw [decide_eq_true d1]; exact bw_t (h N1 g1 e1)
  rw [if_neg d1] at h; rw [decide_eq_false d1]
  refine bw_f (m_isWordA (txR_fl ht g1) (atP_of ha e1) ok_verse w2 _ (fun N2 f2 e2 => ?_))
  have g2 := fl1_trans g1 f2
  by_cases d2 : lsW c L p = Wverse
  · rw [if_pos d2] at h; rw [decide_eq_true d2]; exact bw_t (h N2 g2 e2)
  rw [if_neg d2] at h; rw [decide_eq_false d2]
  refine bw_f (m_isWordA (txR_fl ht g2) (atP_of ha e2) ok_mine w3 _ (fun N3 f3 e3 => ?_))
  have g3 := fl1_trans g2 f3
  by_cases d3 : lsW c L p = Wmine
  · rw [if_pos d3] at h; rw [decide_eq_true d3]; exact bw_t (h N3 g3 e3)
  rw [if_neg d3] at h; rw [decide_eq_false d3]
  refine bw_f (m_isWordA (txR_fl ht g3) (atP_of ha e3) ok_theirs w4 _ (fun N4 f4 e4 => ?_))
  have g4 := fl1_trans g3 f4
  by_cases d4 : lsW c L p = Wtheirs
  · rw [if_pos d4] at h; rw [decide_eq_true d4]; exact bw_t (h N4 g4 e4)
  rw [if_neg d4] at h; rw [decide_eq_false d4]
  refine bw_f (m_isWordA (txR_fl ht g4) (atP_of ha e4) ok_last w5 _ (fun N5 f5 e5 => ?_))
  have g5 := fl1_trans g4 f5
  by_cases d5 : lsW c L p = Wlast
  · rw [if_pos d5] at h; rw [decide_eq_true d5]; exact bw_t (h N5 g5 e5)
  rw [if_neg d5] at h; rw [decide_eq_false d5]
  refine bw_f (m_isWordA (txR_fl ht g5) (atP_of ha e5) ok_heard w6 _ (fun N6 f6 e6 => ?_))
  have g6 := fl1_trans g5 f6
  by_cases d6 : lsW c L p = Wheard
  · rw [if_pos d6] at h; rw [decide_eq_true d6]; exact bw_t (h N6 g6 e6)
  rw [if_neg d6] at h; rw [decide_eq_false d6]
  refine bw_f (m_isWordA (txR_fl ht g6) (atP_of ha e6) ok_said w7 _ (fun N7 f7 e7 => ?_))
  have g7 := fl1_trans g6 f7
  by_cases d7 : lsW c L p = Wsaid
  · rw [if_pos d7] at h; rw [decide_eq_true d7]; exact bw_t (h N7 g7 e7)
  rw [if_neg d7] at h; rw [decide_eq_false d7]
  refine bw_f (m_isWordA (txR_fl ht g7) (atP_of ha e7) ok_moves w8 _ (fun N8 f8 e8 => ?_))
  have g8 := fl1_trans g7 f8
  by_cases d8 : lsW c L p = Wmoves
  · rw [if_pos d8] at h; rw [decide_eq_true d8]; exact bw_t (h N8 g8 e8)
  rw [if_neg d8] at h; rw [decide_eq_false d8]
  exact bw_f (h N8 g8 e8)
theorem m_value {c : Nat → Nat} {L k p m : Nat} {ts : List Nat} {M : gS} (hk : k < 6) (hs : stR c L k p m ts M) (hm : m ≤ 60) (hl : ts.length ≤ p) (Q : Bool → gS → Prop) (h1 : ∀ p' m' ts', pVal c L p m ts = .inr (p', m', ts') → ∀ N, fS k M N → stR c L k p' m' ts' N → Q true N) (hF : ∀ f, pVal c L p m ts = .inl f → ∀ N, fS k M N → mg N 14 = nI f → Q false N) : wX12_value M Q := by
  have ht := hs.1
  have ha := hs.2.1
  have hL := ht.2.1
  have hp := atP_le ha
  unfold wX12_value
  refine m_seeA ht ha _ (fun N f e x3 h3 => ?_)
  have sN' := stR_1 hs f e
  rw [h3, e]
  refine m_isDigit sN'.1 (by omega) ?_
  unfold pVal at h1 hF
  cases d : bD c L p with
  | true =>
    rw [if_pos d] at h1 hF
    have hpL := bD_in c L p d
    refine bw_t (m_take (lo := 0) (hi := 99999) sN'.1 sN'.2.1 sN'.2.2.1 (by omega) (by omega) _ (fun a q ea N2 f2 g14 g15 a2 => bw_t ?_) (fun fl ef N2 f2 g14 => bw_f ?_))
    · obtain ⟨o, e1, e2, _, _⟩ := pNum_b ea
      have e5 : eD c L p - p ≤ 5 := by unfold numOK at o; simp only [Bool.and_eq_true, decide_eq_true_eq] at o; exact o.2.1
      rw [if_pos e5] at h1 hF
      have s2 : stR c L k q m ts N2 := by
        obtain ⟨b1, b2, b3, b4, b5, b6⟩ := sN'
        refine ⟨txR_fl3 b1 f2, a2, g14, by rw [f2.2 16 (by decide) (by decide) (by decide)]; exact b4, by rw [f2.2 17 (by decide) (by decide) (by decide)]; exact b5, ?_⟩
        unfold rkR at *
        rw [f2.1]
        exact b6
      refine m_makes s2 hm _ (fun z N3 f3 _ g15' _ s3 => bw_t ?_) (fun z N3 f3 g => bw_f (hF _ (by rw [if_pos z]) N3 (fS_trans (fS_1 f) (fS_trans (fS_3 f2) f3)) g))
      rw [if_neg (by omega)] at h1
      rw [g15', g15]
      refine m_puts hk s3 (by omega) (s := 0) (v := a) rfl rfl _ (fun N4 f4 _ _ s4 => ?_)
      refine h1 _ _ _ rfl N4 (fS_trans (fS_1 f) (fS_trans (fS_3 f2) (fS_trans f3 f4))) ?_
      rw [e1, e2, Nat.zero_add] at s4
      exact s4
    · obtain ⟨o, e1⟩ := pNum_f ef
      have e5 : ¬ eD c L p - p ≤ 5 := by
        intro z
        have n5 := nv5 (c := c) (L := L) (p := p) (eD c L p - p) z (Nat.le_refl _)
        have p5 : (10 : Nat) ^ (eD c L p - p) ≤ 10 ^ 5 := Nat.pow_le_pow_right (by decide) z
        unfold numOK at o
        rw [d, decide_eq_true z, decide_eq_true (Nat.zero_le _), decide_eq_true (show numV c L p ≤ 99999 by unfold numV; omega)] at o
        exact absurd o (by decide)
      rw [if_neg e5] at hF
      refine hF _ rfl N2 (fS_trans (fS_1 f) (fS_3 f2)) ?_
      rw [g14, e1]
      unfold numK
      rw [if_pos d]
  | false =>
    rw [if_neg (by rw [d]; decide)] at h1 hF
    refine bw_f (m_wordHere sN'.1 sN'.2.1 _ (fun N2 f2 e2 => ?_))
    have s2 := stR_1 sN' f2 e2
    have fr2 : fS k M N2 := fS_trans (fS_1 f) (fS_1 f2)
    cases o : owN (lsW c L p) with
    | none =>
      rw [o] at hF
      exact sw_f (by decide) (m_fails s2.2.2.1 0 p _ (fun N3 f3 _ g => hF _ rfl N3 (fS_trans fr2 (fS_3 f3)) g))
    | some w =>
      rw [o] at h1 hF
      obtain ⟨w8, wn⟩ := owN_b o
      have h1' : ∀ p' m' ts', (if m = 60 then Sum.inl (1 + 8 * p + 3) else Sum.inr (nxP c L p, m + 1, ts ++ [16 * w + 1]) : Sum Nat (Nat × Nat × List Nat)) = .inr (p', m', ts') → ∀ N, fS k M N → stR c L k p' m' ts' N → Q true N := h1
      have hF' : ∀ f, (if m = 60 then Sum.inl (1 + 8 * p + 3) else Sum.inr (nxP c L p, m + 1, ts ++ [16 * w + 1]) : Sum Nat (Nat × Nat × List Nat)) = .inl f → ∀ N, fS k M N → mg N 14 = nI f → Q false N := hF
      have hb : bL c L p = true := by
        cases b : bL c L p with
        | true => rfl
        | false => exact absurd (ls_nil b) wn
      have hpL := bL_in c L p hb
      refine sw_t (nI_pos' (by omega)) (m_makes s2 hm _ (fun z N3 f3 e13 _ em3 s3 => bw_t ?_) (fun z N3 f3 g => bw_f (hF' _ (by rw [if_pos z]) N3 (fS_trans fr2 f3) g)))
      refine m_passWord s3.1 hp (by rw [e13]; exact e2) _ (fun N4 f4 e4 => ?_)
      have a4 : atP c L (nxP c L p) N4 := ⟨eL c L p, eo_le _ hp, e4, by unfold nxP; rw [(bL_tk hb).1]⟩
      have s4 := stR_at s3 f4 a4
      refine m_puts hk s4 (by omega) (s := 1) (v := w) rfl rfl _ (fun N5 f5 _ _ s5 => ?_)
      refine h1' _ _ _ (by rw [if_neg (by omega)]) N5 (fS_trans fr2 (fS_trans f3 (fS_trans (fS_1 f4) f5))) ?_
      rw [show 1 + 16 * w = 16 * w + 1 by omega] at s5
      exact s5
theorem seV_x {c : Nat → Nat} {L p x : Nat} (hc : c p < 256) (hx : x < 256) : seV c L p = nI x ↔ p < L ∧ c p = x := by
  unfold seV
  by_cases a : p < L
  · rw [if_pos a, nI_eq (by omega) (by omega)]
    exact ⟨fun z => ⟨a, z⟩, fun z => z.2⟩
  · rw [if_neg a]
    exact ⟨fun z => absurd z.symm (nI_nm1 (by omega)), fun z => absurd z.1 a⟩
/-- behind a term -/
def KT (Qs : Bool → gS → Prop) (po : Option Nat) (kf : Nat) : Bool → gS → Prop := match po with
  | none => fun b M2 => ((bI b = 0 → Qs false M2) ∧ (¬ bI b = 0 → ∃ k9 : Nat, wX12_sum_9 Qs k9 M2))
  | some s => fun b M4 => ((bI b = 0 → Qs false M4) ∧ (¬ bI b = 0 → wX12_puts (nI s) (0 : Int32) M4 (fun (M8 : gS) => wX12_sum_9 Qs kf M8)))
theorem KT_f {Qs : Bool → gS → Prop} {po : Option Nat} {kf : Nat} {M : gS} (h : Qs false M) : KT Qs po kf false M := by
  cases po with
  | none => exact bw_f h
  | some s => exact bw_f h
theorem sgX {c : Nat → Nat} {L p : Nat} (h : p < L) (hx : c p = 42 ∨ c p = 43 ∨ c p = 45 ∨ c p = 47 ∨ c p = 91 ∨ c p = 93) : nxP c L p = sk c L (p + 1) := by
  have b1 : bL c L p = false := by unfold bL; rw [show (decide (97 ≤ c p) && decide (c p ≤ 122)) = false by rcases hx with e | e | e | e | e | e <;> rw [e] <;> decide, Bool.and_false]
  have b2 : bD c L p = false := by unfold bD; rw [show (decide (48 ≤ c p) && decide (c p ≤ 57)) = false by rcases hx with e | e | e | e | e | e <;> rw [e] <;> decide, Bool.and_false]
  have b3 : s2 c L p = false := by unfold s2; rw [decide_eq_false (by omega), Bool.false_and]
  unfold nxP tkE
  rw [if_pos h, if_neg (by rw [b1]; decide), if_neg (by rw [b2]; decide), if_neg (by rw [b3]; decide)]
theorem m_sumH {c : Nat → Nat} {L k : Nat} (hk : k < 6) {B : gS} (Qs : Bool → gS → Prop) : ∀ n po p m ts N kt kf, L - p ≤ n → L - p < kt → L - p < kf → fS k B N → stR c L k p m ts N → m ≤ 60 → oB po → ts.length + oN po ≤ p → (∀ p' m' ts', pSH (pSL c L n) c L po p m ts = .inr (p', m', ts') → ∀ N', fS k B N' → stR c L k p' m' ts' N' → Qs true N') → (∀ f, pSH (pSL c L n) c L po p m ts = .inl f → ∀ N', fS k B N' → mg N' 14 = nI f → Qs false N') → wX12_term_9 (KT Qs po kf) kt N := by
  intro n
  induction n with
  | zero =>
    intro po p m ts N kt kf hn hkt hkf hf hs hm hpo hl h1 hF
    have hp := atP_le hs.2.1
    have hL := hs.1.2.1
    have hcp := (hs.1.2.2 p).1
    have npL : ¬ p < L := by omega
    have ns : ∀ x, x < 256 → ¬ seV c L p = nI x := fun x hx z => npL ((seV_x hcp hx).1 z).1
    have e0 : pSH (pSL c L 0) c L po p m ts = .inr (p, m, ts ++ oL po) := by
      unfold pSH
      rw [if_neg (fun z => npL z.1), if_neg (fun z => npL z.1), if_neg (fun z => npL z.1), if_neg (fun z => npL z.1)]
    obtain ⟨kt', rfl⟩ : ∃ q, kt = q + 1 := ⟨kt - 1, by omega⟩
    obtain ⟨kf', rfl⟩ : ∃ q, kf = q + 1 := ⟨kf - 1, by omega⟩
    rw [wX12_term_9]
    refine m_seeA hs.1 hs.2.1 _ (fun N1 f1 g1 => sw_f (ns 42 (by omega)) ?_)
    have s1 := stR_1 hs f1 g1
    refine m_seeA s1.1 s1.2.1 _ (fun N2 f2 g2 => sw_f (ns 47 (by omega)) ?_)
    have s2 := stR_1 s1 f2 g2
    have fr2 := fS_trans hf (fS_trans (fS_1 f1) (fS_1 f2))
    have head : ∀ kq N3, fS k B N3 → stR c L k p m (ts ++ oL po) N3 → wX12_sum_9 Qs (kq + 1) N3 := by
      intro kq N3 f3 s3
      rw [wX12_sum_9]
      refine m_seeA s3.1 s3.2.1 _ (fun N4 f4 g4 => sw_f (ns 43 (by omega)) ?_)
      have s4 := stR_1 s3 f4 g4
      refine m_seeA s4.1 s4.2.1 _ (fun N5 f5 g5 => sw_f (ns 45 (by omega)) ?_)
      exact h1 _ _ _ e0 N5 (fS_trans f3 (fS_trans (fS_1 f4) (fS_1 f5))) (stR_1 s4 f5 g5)
    cases po with
    | none =>
      refine bw_t ⟨1, head 0 N2 fr2 ?_⟩
      show stR c L k p m (ts ++ []) N2
      rw [List.append_nil]
      exact s2
    | some s =>
      have hl' : ts.length + 1 ≤ p := hl
      refine bw_t (m_puts hk s2 (by omega) (s := s) (v := 0) rfl rfl _ (fun N3 f3 _ _ s3 => head kf' N3 (fS_trans fr2 f3) ?_))
      rw [show s + 16 * 0 = s by omega] at s3
      exact s3
  | succ n ih =>
    intro po p m ts N kt kf hn hkt hkf hf hs hm hpo hl h1 hF
    have hp := atP_le hs.2.1
    have hL := hs.1.2.1
    have hcb : ∀ j, c j < 256 := fun j => (hs.1.2.2 j).1
    have hcp := hcb p
    obtain ⟨kt', rfl⟩ : ∃ q, kt = q + 1 := ⟨kt - 1, by omega⟩
    obtain ⟨kf', rfl⟩ : ∃ q, kf = q + 1 := ⟨kf - 1, by omega⟩
    have sx := fun x hx => seV_x (c := c) (L := L) (p := p) (x := x) hcp hx
    -- a value behind a sign
    have vl : ∀ X, fS k B X → stR c L k p m ts X ∨ stR c L k p m (ts ++ oL po) X → True := fun _ _ _ => trivial
    have tap : ∀ X x, stR c L k p m ts X ∨ stR c L k p m (ts ++ oL po) X → mg X 13 = nI p → p < L → c p = x → x < 128 → ma X 0 (Int32.toNatClampNeg (mg X 13)) = nI x := by
      intro X x hX e hpL ex hx
      rw [e, nI_clamp (by omega)]
      rcases hX with q | q
      · rw [(q.1.2.2 p).2.2.1 (by omega), ex]
      · rw [(q.1.2.2 p).2.2.1 (by omega), ex]
    have t46 : ∀ X x, x = 4 ∨ x = 5 → fS k B X → stR c L k p m ts X → mg X 13 = nI p → p < L → (c p = 42 ∨ c p = 47) → pSH (pSL c L (n + 1)) c L po p m ts = pSL c L (n + 1) (some x) po (nxP c L p) m ts → wX12_term_46 (fun (M : gS) => wX12_term_9 (KT Qs po (kf' + 1)) kt' M) (KT Qs po (kf' + 1)) (nI x) X := by
      intro X x hx fX sX eX hpL hc2 eP
      have hgt := nxP_gt (c := c) hpL
      rw [eP, pSL] at h1 hF
      unfold wX12_term_46
      intro x1 hx1 X2 hX2
      have f2 : fl1 X X2 := by rw [hX2]; exact fl1_sg X _
      have a2 : atP c L (nxP c L p) X2 := ⟨p + 1, by omega, by rw [hX2, mg_sg, if_pos rfl, hx1, eX, nI_1], (sgX hpL (by omega)).symm⟩
      have s2 := stR_at sX f2 a2
      have hnx := nxP_le (c := c) hp
      refine m_value hk s2 hm (by omega) _ (fun p' m' ts' ev X3 f3 s3 => bw_t ?_) (fun fl ev X3 f3 g => bw_f (KT_f (hF fl (by rw [ev]; rfl) X3 (fS_trans fX (fS_trans (fS_1 f2) f3)) g)))
      obtain ⟨q1, q2, q3, q4, t, q5, _, _⟩ := pVal_ok hnx hm ev
      have hgt2 := nxP_gt (c := c) q1
      rw [ev] at h1 hF
      have lt : ts'.length = ts.length + 1 := by rw [q5, List.length_append]; rfl
      refine m_puts hk s3 (by omega) (s := x) (v := 0) rfl rfl _ (fun X4 f4 _ _ s4 => ?_)
      rw [show x + 16 * 0 = x by omega] at s4
      have lt4 : (ts' ++ [x]).length = ts.length + 2 := by rw [List.length_append, lt]; rfl
      exact ih po p' m' (ts' ++ [x]) X4 kt' (kf' + 1) (by omega) (by omega) (by omega) (fS_trans fX (fS_trans (fS_1 f2) (fS_trans f3 f4))) s4 q4 hpo (by rw [lt4]; omega) h1 hF
    have s46 : ∀ kq X x, L - p < kq + 1 → x = 2 ∨ x = 3 → fS k B X → stR c L k p m (ts ++ oL po) X → mg X 13 = nI p → p < L → (c p = 43 ∨ c p = 45) → pSH (pSL c L (n + 1)) c L po p m ts = pSL c L (n + 1) none (some x) (nxP c L p) m (ts ++ oL po) → wX12_sum_46 (fun (M : gS) => wX12_sum_9 Qs kq M) Qs (nI x) X := by
      intro kq X x hq hx fX sX eX hpL hc2 eP
      have hgt := nxP_gt (c := c) hpL
      rw [eP, pSL] at h1 hF
      unfold wX12_sum_46
      intro x1 hx1 X2 hX2
      have f2 : fl1 X X2 := by rw [hX2]; exact fl1_sg X _
      have a2 : atP c L (nxP c L p) X2 := ⟨p + 1, by omega, by rw [hX2, mg_sg, if_pos rfl, hx1, eX, nI_1], (sgX hpL (by omega)).symm⟩
      have s2 := stR_at sX f2 a2
      have hnx := nxP_le (c := c) hp
      have lpo : (ts ++ oL po).length = ts.length + oN po := by rw [List.length_append, oL_len]
      unfold wX12_term
      refine m_value hk s2 hm (by rw [lpo]; omega) _ (fun p' m' ts' ev X3 f3 s3 => bw_t ?_) (fun fl ev X3 f3 g => bw_f (bw_f (hF fl (by rw [ev]; rfl) X3 (fS_trans fX (fS_trans (fS_1 f2) f3)) g)))
      obtain ⟨q1, q2, q3, q4, t, q5, _, _⟩ := pVal_ok hnx hm ev
      have hgt2 := nxP_gt (c := c) q1
      rw [ev] at h1 hF
      have lt : ts'.length = ts.length + oN po + 1 := by rw [q5, List.length_append, lpo]; rfl
      have h1' : ∀ p2 m2 ts2, pSH (pSL c L n) c L (some x) p' m' (ts' ++ oL none) = .inr (p2, m2, ts2) → ∀ N', fS k B N' → stR c L k p2 m2 ts2 N' → Qs true N' := h1
      have hF' : ∀ f, pSH (pSL c L n) c L (some x) p' m' (ts' ++ oL none) = .inl f → ∀ N', fS k B N' → mg N' 14 = nI f → Qs false N' := hF
      rw [show ts' ++ oL none = ts' from List.append_nil ts'] at h1' hF'
      refine ⟨L - p' + 1, ?_⟩
      exact ih (some x) p' m' ts' X3 (L - p' + 1) kq (by omega) (by omega) (by omega) (fS_trans fX (fS_trans (fS_1 f2) f3)) s3 q4 (by show 2 ≤ x ∧ x ≤ 5; omega) (by rw [lt]; show _ + 1 ≤ _; omega) h1' hF'
    rw [wX12_term_9]
    refine m_seeA hs.1 hs.2.1 _ (fun N1 f1 g1 => ?_)
    have s1 := stR_1 hs f1 g1
    have fr1 := fS_trans hf (fS_1 f1)
    by_cases e42 : p < L ∧ c p = 42
    · refine sw_t ((sx 42 (by omega)).2 e42) ?_
      unfold wX12_term_27
      refine ⟨by rw [g1]; exact vp_in_nI (by omega) (by decide), sw_t (tap N1 42 (Or.inl s1) g1 e42.1 e42.2 (by omega)) (t46 N1 4 (Or.inl rfl) fr1 s1 g1 e42.1 (Or.inl e42.2) ?_)⟩
      unfold pSH
      rw [if_pos e42]
    refine sw_f (fun z => e42 ((sx 42 (by omega)).1 z)) (m_seeA s1.1 s1.2.1 _ (fun N2 f2 g2 => ?_))
    have s2 := stR_1 s1 f2 g2
    have fr2 := fS_trans fr1 (fS_1 f2)
    by_cases e47 : p < L ∧ c p = 47
    · refine sw_t ((sx 47 (by omega)).2 e47) ?_
      unfold wX12_term_27
      have hv := tap N2 47 (Or.inl s2) g2 e47.1 e47.2 (by omega)
      refine ⟨by rw [g2]; exact vp_in_nI (by omega) (by decide), sw_f (by rw [hv]; decide) (t46 N2 5 (Or.inr rfl) fr2 s2 g2 e47.1 (Or.inr e47.2) ?_)⟩
      unfold pSH
      rw [if_neg e42, if_pos e47]
    refine sw_f (fun z => e47 ((sx 47 (by omega)).1 z)) ?_
    have head : ∀ kq N3, L - p < kq + 1 → fS k B N3 → stR c L k p m (ts ++ oL po) N3 → wX12_sum_9 Qs (kq + 1) N3 := by
      intro kq N3 hq f3 s3
      rw [wX12_sum_9]
      refine m_seeA s3.1 s3.2.1 _ (fun N4 f4 g4 => ?_)
      have s4 := stR_1 s3 f4 g4
      have fr4 := fS_trans f3 (fS_1 f4)
      by_cases e43 : p < L ∧ c p = 43
      · refine sw_t ((sx 43 (by omega)).2 e43) ?_
        unfold wX12_sum_27
        refine ⟨by rw [g4]; exact vp_in_nI (by omega) (by decide), sw_t (tap N4 43 (Or.inr s4) g4 e43.1 e43.2 (by omega)) (s46 kq N4 2 hq (Or.inl rfl) fr4 s4 g4 e43.1 (Or.inl e43.2) ?_)⟩
        unfold pSH
        rw [if_neg e42, if_neg e47, if_pos e43]
      refine sw_f (fun z => e43 ((sx 43 (by omega)).1 z)) (m_seeA s4.1 s4.2.1 _ (fun N5 f5 g5 => ?_))
      have s5 := stR_1 s4 f5 g5
      have fr5 := fS_trans fr4 (fS_1 f5)
      by_cases e45 : p < L ∧ c p = 45
      · refine sw_t ((sx 45 (by omega)).2 e45) ?_
        unfold wX12_sum_27
        have hv := tap N5 45 (Or.inr s5) g5 e45.1 e45.2 (by omega)
        refine ⟨by rw [g5]; exact vp_in_nI (by omega) (by decide), sw_f (by rw [hv]; decide) (s46 kq N5 3 hq (Or.inr rfl) fr5 s5 g5 e45.1 (Or.inr e45.2) ?_)⟩
        unfold pSH
        rw [if_neg e42, if_neg e47, if_neg e43, if_pos e45]
      refine sw_f (fun z => e45 ((sx 45 (by omega)).1 z)) (h1 _ _ _ ?_ N5 fr5 s5)
      unfold pSH
      rw [if_neg e42, if_neg e47, if_neg e43, if_neg e45]
    cases po with
    | none =>
      refine bw_t ⟨L - p + 1, head (L - p) N2 (by omega) fr2 ?_⟩
      show stR c L k p m (ts ++ []) N2
      rw [List.append_nil]
      exact s2
    | some s =>
      have hl' : ts.length + 1 ≤ p := hl
      refine bw_t (m_puts hk s2 (by omega) (s := s) (v := 0) rfl rfl _ (fun N3 f3 _ _ s3 => head kf' N3 hkf (fS_trans fr2 f3) ?_))
      rw [show s + 16 * 0 = s by omega] at s3
      exact s3
theorem m_sum {c : Nat → Nat} {L k p m : Nat} {ts : List Nat} {M : gS} (hk : k < 6) (hs : stR c L k p m ts M) (hm : m ≤ 60) (hl : ts.length ≤ p) (Q : Bool → gS → Prop) (h1 : ∀ p' m' ts', pSum c L p m ts = .inr (p', m', ts') → ∀ N, fS k M N → stR c L k p' m' ts' N → Q true N) (hF : ∀ f, pSum c L p m ts = .inl f → ∀ N, fS k M N → mg N 14 = nI f → Q false N) : wX12_sum M Q := by
  have hp := atP_le hs.2.1
  unfold pSum at h1 hF
  rw [pSL] at h1 hF
  unfold wX12_sum wX12_term
  refine m_value hk hs hm hl _ (fun p' m' ts' ev X3 f3 s3 => bw_t ?_) (fun fl ev X3 f3 g => bw_f (bw_f (hF fl (by rw [ev]; rfl) X3 f3 g)))
  obtain ⟨q1, q2, q3, q4, t, q5, _, _⟩ := pVal_ok hp hm ev
  have hgt := nxP_gt (c := c) q1
  rw [ev] at h1 hF
  have lt : ts'.length = ts.length + 1 := by rw [q5, List.length_append]; rfl
  have h1' : ∀ p2 m2 ts2, pSH (pSL c L (L - p)) c L none p' m' (ts' ++ oL none) = .inr (p2, m2, ts2) → ∀ N', fS k M N' → stR c L k p2 m2 ts2 N' → Q true N' := h1
  have hF' : ∀ f, pSH (pSL c L (L - p)) c L none p' m' (ts' ++ oL none) = .inl f → ∀ N', fS k M N' → mg N' 14 = nI f → Q false N' := hF
  rw [show ts' ++ oL none = ts' from List.append_nil ts'] at h1' hF'
  exact ⟨L - p' + 1, m_sumH hk Q (L - p) none p' m' ts' X3 (L - p' + 1) (L - p' + 1) (by omega) (by omega) (by omega) f3 s3 q4 trivial (by rw [lt]; show _ + 0 ≤ _; omega) h1' hF'⟩
