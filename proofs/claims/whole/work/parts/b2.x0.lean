-- PURE: texts. wb_*, fb_* are rows of the kit's to-paste texts
theorem wb_tb (n : Nat) : (lN n).toBitVec = BitVec.ofNat 64 n := rfl
theorem wb_inj {a b : Int64} (h : a.toBitVec = b.toBitVec) : a = b := Int64.toBitVec_inj.mp h
theorem wb_c : ∀ k, k < 64 → ((nI k).toInt64 &&& 63) = lN k := by decide +kernel
theorem wb_sm : ∀ k, k < 64 → (BitVec.ofNat 64 k).smod 64 = BitVec.ofNat 64 k := by decide +kernel
theorem wb_shl (n : Nat) {k : Nat} (hk : k < 64) : lN n <<< ((nI k).toInt64 &&& 63) = lN (n * 2 ^ k) := by
  rw [wb_c k hk]
  apply wb_inj
  rw [Int64.toBitVec_shiftLeft, wb_tb, wb_tb, wb_tb, wb_sm k hk]
  apply BitVec.eq_of_toNat_eq
  rw [BitVec.shiftLeft_eq', BitVec.toNat_shiftLeft, BitVec.toNat_ofNat, BitVec.toNat_ofNat, BitVec.toNat_ofNat, Nat.mod_eq_of_lt (show k < 2 ^ 64 by omega), Nat.shiftLeft_eq, Nat.mul_mod, Nat.mod_mod, ← Nat.mul_mod]
theorem fb_orL (a b : Nat) : lN a ||| lN b = lN (a ||| b) := by
  apply Int64.toBitVec_inj.1
  show BitVec.ofNat 64 a ||| BitVec.ofNat 64 b = BitVec.ofNat 64 (a ||| b)
  apply BitVec.eq_of_getLsbD_eq
  intro i hi
  simp [hi]
theorem fb_or_sumL {a k : Nat} (b : Nat) (h : a < 2 ^ k) : lN (2 ^ k * b) ||| lN a = lN (2 ^ k * b + a) := by rw [fb_orL, Nat.two_pow_add_eq_or_of_lt h]
/-- the end of a run -/
def rnP (P : Nat → Bool) : Nat → Nat → Nat
  | 0, p => p
  | n + 1, p => if P p = true then rnP P n (p + 1) else p
def eo (P : Nat → Bool) (L p : Nat) : Nat := rnP P (L - p) p
def inT (P : Nat → Bool) (L : Nat) : Prop := ∀ p, P p = true → p < L
theorem rnP_ge (P : Nat → Bool) : ∀ n p, p ≤ rnP P n p := by
  intro n
  induction n with
  | zero => intro p; exact Nat.le_refl _
  | succ n ih =>
    intro p
    rw [rnP]
    split
    · have := ih (p + 1); omega
    · exact Nat.le_refl _
theorem rnP_le (P : Nat → Bool) : ∀ n p, rnP P n p ≤ p + n := by
  intro n
  induction n with
  | zero => intro p; exact Nat.le_refl _
  | succ n ih =>
    intro p
    rw [rnP]
    split
    · have := ih (p + 1); omega
    · omega
theorem eo_ge (P : Nat → Bool) (L p : Nat) : p ≤ eo P L p := rnP_ge P _ p
theorem eo_le (P : Nat → Bool) {L p : Nat} (h : p ≤ L) : eo P L p ≤ L := by
  have := rnP_le P (L - p) p
  unfold eo
  omega
theorem eo_s {P : Nat → Bool} {L : Nat} (h : inT P L) (p : Nat) : eo P L p = if P p = true then eo P L (p + 1) else p := by
  unfold eo
  by_cases c : P p = true
  · have := h p c
    rw [if_pos c, show L - p = (L - (p + 1)) + 1 by omega, rnP, if_pos c]
  · rw [if_neg c]
    cases L - p with
    | zero => rfl
    | succ n => rw [rnP, if_neg c]
theorem eo_t {P : Nat → Bool} {L p : Nat} (h : inT P L) (c : P p = true) : eo P L p = eo P L (p + 1) := by rw [eo_s h, if_pos c]
theorem eo_f {P : Nat → Bool} {L p : Nat} (h : inT P L) (c : P p = false) : eo P L p = p := by rw [eo_s h, if_neg (by rw [c]; decide)]
theorem eo_n {P : Nat → Bool} {L : Nat} (h : inT P L) : ∀ n p, L - p = n → P (eo P L p) = false := by
  intro n
  induction n with
  | zero =>
    intro p hp
    cases c : P p with
    | false => rw [eo_f h c]; exact c
    | true => have := h p c; omega
  | succ n ih =>
    intro p hp
    cases c : P p with
    | false => rw [eo_f h c]; exact c
    | true => rw [eo_t h c]; exact ih (p + 1) (by omega)
theorem eo_end {P : Nat → Bool} {L : Nat} (h : inT P L) (p : Nat) : P (eo P L p) = false := eo_n h _ p rfl
theorem eo_eo {P : Nat → Bool} {L : Nat} (h : inT P L) (p : Nat) : eo P L (eo P L p) = eo P L p := eo_f h (eo_end h p)
theorem eo_in {P : Nat → Bool} {L : Nat} (h : inT P L) : ∀ n p i, L - p = n → p ≤ i → i < eo P L p → P i = true := by
  intro n
  induction n with
  | zero =>
    intro p i hp h1 h2
    cases c : P p with
    | false => rw [eo_f h c] at h2; omega
    | true => have := h p c; omega
  | succ n ih =>
    intro p i hp h1 h2
    cases c : P p with
    | false => rw [eo_f h c] at h2; omega
    | true =>
      rw [eo_t h c] at h2
      by_cases z : i = p
      · rw [z]; exact c
      · exact ih (p + 1) i (by omega) (by omega) h2
def bB (c : Nat → Nat) (L p : Nat) : Bool := decide (p < L) && decide (c p = 32)
def bL (c : Nat → Nat) (L p : Nat) : Bool := decide (p < L) && (decide (97 ≤ c p) && decide (c p ≤ 122))
def bD (c : Nat → Nat) (L p : Nat) : Bool := decide (p < L) && (decide (48 ≤ c p) && decide (c p ≤ 57))
theorem bB_in (c : Nat → Nat) (L : Nat) : inT (bB c L) L := fun p h => by unfold bB at h; simp only [Bool.and_eq_true, decide_eq_true_eq] at h; exact h.1
theorem bL_in (c : Nat → Nat) (L : Nat) : inT (bL c L) L := fun p h => by unfold bL at h; simp only [Bool.and_eq_true, decide_eq_true_eq] at h; exact h.1
theorem bD_in (c : Nat → Nat) (L : Nat) : inT (bD c L) L := fun p h => by unfold bD at h; simp only [Bool.and_eq_true, decide_eq_true_eq] at h; exact h.1
/-- the blanks are skipped -/
def sk (c : Nat → Nat) (L p : Nat) : Nat := eo (bB c L) L p
def eL (c : Nat → Nat) (L p : Nat) : Nat := eo (bL c L) L p
def eD (c : Nat → Nat) (L p : Nat) : Nat := eo (bD c L) L p
theorem sk_sk (c : Nat → Nat) (L p : Nat) : sk c L (sk c L p) = sk c L p := eo_eo (bB_in c L) p
theorem sk_le {c : Nat → Nat} {L p : Nat} (h : p ≤ L) : sk c L p ≤ L := eo_le _ h
theorem sk_ge (c : Nat → Nat) (L p : Nat) : p ≤ sk c L p := eo_ge _ _ _
/-- the text that the reference reads -/
def txR (c : Nat → Nat) (L : Nat) (M : gS) : Prop := mg M 1 = nI L ∧ L ≤ 400 ∧ ∀ j, c j < 256 ∧ ma M 0 j &&& 255 = nI (c j) ∧ (c j < 128 → ma M 0 j = nI (c j)) ∧ (128 ≤ c j → ma M 0 j < 0)
theorem lt_neg {x : Int32} {n : Nat} (h : x < 0) (hn : n < 2 ^ 31) : x < nI n := by
  rw [Int32.lt_iff_toInt_lt] at h ⊢
  rw [nI_toInt hn]
  rw [show (0 : Int32).toInt = 0 by decide] at h
  omega
theorem m_isLetter {c : Nat → Nat} {L : Nat} {M : gS} (ht : txR c L M) {p : Nat} (hp : p ≤ 1000) {Q : Bool → gS → Prop} (h : Q (bL c L p) M) : wX12_isLetter (nI p) M Q := by
  obtain ⟨h1, hL, hc⟩ := ht
  obtain ⟨c1, c2, c3, c4⟩ := hc p
  unfold wX12_isLetter
  unfold bL at h
  rw [h1, nI_clamp (by omega)]
  by_cases a : p < L
  · rw [decide_eq_true a, Bool.true_and] at h
    refine sw_f (nI_ge a (by omega)) ⟨vp_in_nI (by omega) (by decide), ?_⟩
    by_cases b : c p < 128
    · rw [c3 b]
      by_cases d : 97 ≤ c p
      · rw [decide_eq_true d, Bool.true_and] at h
        refine sw_f (show ¬ nI (c p) < nI 97 from nI_nlt d (by omega)) ⟨vp_in_nI (by omega) (by decide), ?_⟩
        by_cases e : c p ≤ 122
        · rw [decide_eq_true e] at h
          exact sw_f (show ¬ nI 122 < nI (c p) from nI_nlt e (by omega)) h
        · rw [decide_eq_false e] at h
          exact sw_t (show nI 122 < nI (c p) from nI_lt (by omega) (by omega)) h
      · rw [decide_eq_false d, Bool.false_and] at h
        exact sw_t (show nI (c p) < nI 97 from nI_lt (by omega) (by omega)) h
    · rw [decide_eq_false (show ¬ c p ≤ 122 by omega), Bool.and_false] at h
      exact sw_t (show ma M 0 p < nI 97 from lt_neg (c4 (by omega)) (by omega)) h
  · rw [decide_eq_false a, Bool.false_and] at h
    exact sw_t (nI_le (by omega) (by omega)) h
theorem m_isDigit {c : Nat → Nat} {L : Nat} {M : gS} (ht : txR c L M) {p : Nat} (hp : p ≤ 1000) {Q : Bool → gS → Prop} (h : Q (bD c L p) M) : wX12_isDigit (nI p) M Q := by
  obtain ⟨h1, hL, hc⟩ := ht
  obtain ⟨c1, c2, c3, c4⟩ := hc p
  unfold wX12_isDigit
  unfold bD at h
  rw [h1, nI_clamp (by omega)]
  by_cases a : p < L
  · rw [decide_eq_true a, Bool.true_and] at h
    refine sw_f (nI_ge a (by omega)) ⟨vp_in_nI (by omega) (by decide), ?_⟩
    by_cases b : c p < 128
    · rw [c3 b]
      by_cases d : 48 ≤ c p
      · rw [decide_eq_true d, Bool.true_and] at h
        refine sw_f (show ¬ nI (c p) < nI 48 from nI_nlt d (by omega)) ⟨vp_in_nI (by omega) (by decide), ?_⟩
        by_cases e : c p ≤ 57
        · rw [decide_eq_true e] at h
          exact sw_f (show ¬ nI 57 < nI (c p) from nI_nlt e (by omega)) h
        · rw [decide_eq_false e] at h
          exact sw_t (show nI 57 < nI (c p) from nI_lt (by omega) (by omega)) h
      · rw [decide_eq_false d, Bool.false_and] at h
        exact sw_t (show nI (c p) < nI 48 from nI_lt (by omega) (by omega)) h
    · rw [decide_eq_false (show ¬ c p ≤ 57 by omega), Bool.and_false] at h
      exact sw_t (show ma M 0 p < nI 48 from lt_neg (c4 (by omega)) (by omega)) h
  · rw [decide_eq_false a, Bool.false_and] at h
    exact sw_t (nI_le (by omega) (by omega)) h
/-- only 'next' has changed -/
def fl1 (M N : gS) : Prop := ma N = ma M ∧ ∀ k, k ≠ 13 → mg N k = mg M k
theorem fl1_refl (M : gS) : fl1 M M := ⟨rfl, fun _ _ => rfl⟩
theorem fl1_trans {A B C : gS} (h : fl1 A B) (g : fl1 B C) : fl1 A C := ⟨g.1.trans h.1, fun k hk => (g.2 k hk).trans (h.2 k hk)⟩
theorem fl1_sg (M : gS) (v : Int32) : fl1 M (sg M 13 v) := ⟨rfl, fun k hk => by rw [mg_sg, if_neg hk]⟩
theorem txR_fl {c : Nat → Nat} {L : Nat} {M N : gS} (h : txR c L M) (hf : fl1 M N) : txR c L N := by
  unfold txR at *
  rw [hf.1, hf.2 1 (by decide)]
  exact h
/-- what see() answers at p -/
def seV (c : Nat → Nat) (L p : Nat) : Int32 := if p < L then nI (c p) else -1
theorem m_see_l {c : Nat → Nat} {L : Nat} {M : gS} (ht : txR c L M) (Q : Int32 → gS → Prop) : ∀ n q, L - q = n → q ≤ L → ∀ N, fl1 M N → mg N 13 = nI q → (∀ N', fl1 M N' → mg N' 13 = nI (sk c L q) → Q (seV c L (sk c L q)) N') → wX12_see_0 Q (n + 1) N := by
  have hL := ht.2.1
  intro n
  induction n with
  | zero =>
    intro q hq hqL N hf h13 h
    obtain ⟨h1, _, hc⟩ := txR_fl ht hf
    have e : q = L := by omega
    have es : sk c L q = q := eo_f (bB_in c L) (by unfold bB; rw [decide_eq_false (by omega), Bool.false_and])
    rw [es] at h
    rw [wX12_see_0]
    unfold wX12_see_38
    rw [h1, h13]
    have hv := h N hf h13
    unfold seV at hv
    rw [if_neg (by omega)] at hv
    exact sw_t (nI_le (by omega) (by omega)) (sw_t (nI_le (by omega) (by omega)) hv)
  | succ n ih =>
    intro q hq hqL N hf h13 h
    obtain ⟨h1, _, hc⟩ := txR_fl ht hf
    obtain ⟨c1, c2, c3, c4⟩ := hc q
    rw [wX12_see_0, h1, h13, nI_clamp (by omega)]
    refine sw_f (nI_ge (by omega) (by omega)) ⟨vp_in_nI (by omega) (by decide), ?_⟩
    by_cases e : c q = 32
    · refine sw_t (by rw [c3 (by omega), e]; rfl) (fun x3 h3 M4 h4 => ?_)
      have es : sk c L q = sk c L (q + 1) := eo_t (bB_in c L) (by unfold bB; rw [decide_eq_true (show q < L by omega), decide_eq_true e]; rfl)
      rw [es] at h
      refine ih (q + 1) (by omega) (by omega) M4 (by rw [h4]; exact fl1_trans hf (fl1_sg N _)) (by rw [h4, mg_sg, if_pos rfl, h3, nI_1]) h
    · have es : sk c L q = q := eo_f (bB_in c L) (by unfold bB; rw [decide_eq_false e, Bool.and_false])
      rw [es] at h
      have hv := h N hf h13
      unfold seV at hv
      rw [if_pos (by omega)] at hv
      refine sw_f (fun z => ?_) ?_
      · by_cases b : c q < 128
        · rw [c3 b, show (32 : Int32) = nI 32 from rfl, nI_eq (by omega) (by omega)] at z
          exact e z
        · have := c4 (by omega)
          rw [z] at this
          exact absurd this (by decide)
      · unfold wX12_see_38
        rw [h1, h13, nI_clamp (by omega), c2]
        exact sw_f (nI_ge (by omega) (by omega)) ⟨vp_in_nI (by omega) (by decide), hv⟩
theorem m_see {c : Nat → Nat} {L : Nat} {M : gS} (ht : txR c L M) {q : Nat} (hq : q ≤ L) (h13 : mg M 13 = nI q) (Q : Int32 → gS → Prop) (h : ∀ N, fl1 M N → mg N 13 = nI (sk c L q) → Q (seV c L (sk c L q)) N) : wX12_see M Q :=
  ⟨L - q + 1, m_see_l ht Q (L - q) q rfl hq M (fl1_refl M) h13 h⟩
/-- the letters at p -/
def lsW (c : Nat → Nat) (L p : Nat) : List Nat := (List.range (eL c L p - p)).map (fun i => c (p + i))
def cdf (c : Nat → Nat) (p : Nat) : Nat → Nat
  | 0 => 0
  | i + 1 => cdf c p i * 256 + c (p + i)
def cdL (l : List Nat) : Nat := l.foldl (fun a x => a * 256 + x) 0
theorem cdL_snoc (l : List Nat) (x : Nat) : cdL (l ++ [x]) = cdL l * 256 + x := by unfold cdL; rw [List.foldl_append]; rfl
theorem cdL_inj : ∀ n (l m : List Nat), l.length ≤ n → (∀ x, x ∈ l → 1 ≤ x ∧ x < 256) → (∀ x, x ∈ m → 1 ≤ x ∧ x < 256) → cdL l = cdL m → l = m := by
  intro n
  induction n with
  | zero =>
    intro l m hl h1 h2 he
    have el : l = [] := List.eq_nil_of_length_eq_zero (by omega)
    subst el
    rcases List.eq_nil_or_concat m with rfl | ⟨m', b, rfl⟩
    · rfl
    · rw [List.concat_eq_append, cdL_snoc] at he
      have := h2 b (by simp)
      have e0 : cdL [] = 0 := rfl
      omega
  | succ n ih =>
    intro l m hl h1 h2 he
    rcases List.eq_nil_or_concat l with rfl | ⟨l', a, rfl⟩ <;> rcases List.eq_nil_or_concat m with rfl | ⟨m', b, rfl⟩
    · rfl
    · rw [List.concat_eq_append, cdL_snoc] at he
      have := h2 b (by simp)
      have e0 : cdL [] = 0 := rfl
      omega
    · rw [List.concat_eq_append, cdL_snoc] at he
      have := h1 a (by simp)
      have e0 : cdL [] = 0 := rfl
      omega
    · rw [List.concat_eq_append, List.concat_eq_append, cdL_snoc, cdL_snoc] at he
      have ha := h1 a (by simp)
      have hb := h2 b (by simp)
      have e1 : a = b := by omega
      have e2 : cdL l' = cdL m' := by omega
      have := ih l' m' (by simp at hl; omega) (fun x hx => h1 x (by simp [hx])) (fun x hx => h2 x (by simp [hx])) e2
      rw [this, e1]
theorem cdf_L (c : Nat → Nat) (p : Nat) : ∀ n, cdf c p n = cdL ((List.range n).map (fun i => c (p + i))) := by
  intro n
  induction n with
  | zero => rfl
  | succ n ih => rw [cdf, ih, List.range_succ, List.map_append, List.map_singleton, cdL_snoc]
theorem cdf_lt {c : Nat → Nat} (hc : ∀ j, c j < 256) (p : Nat) : ∀ n, cdf c p n < 256 ^ n := by
  intro n
  induction n with
  | zero => show 0 < 1; decide
  | succ n ih =>
    have := hc (p + n)
    rw [cdf, Nat.pow_succ]
    omega
/-- a word of the language: letters, seven at most -/
def okW (W : List Nat) : Prop := 1 ≤ W.length ∧ W.length ≤ 7 ∧ ∀ x, x ∈ W → 97 ≤ x ∧ x ≤ 122
theorem ls_mem {c : Nat → Nat} {L p x : Nat} (h : x ∈ lsW c L p) : 97 ≤ x ∧ x ≤ 122 := by
  unfold lsW at h
  rw [List.mem_map] at h
  obtain ⟨i, hi, rfl⟩ := h
  rw [List.mem_range] at hi
  have := eo_in (bL_in c L) _ p (p + i) rfl (by omega) (show p + i < eL c L p by omega)
  unfold bL at this
  simp only [Bool.and_eq_true, decide_eq_true_eq] at this
  exact this.2
theorem cdL_lt7 {W : List Nat} (hW : ∀ x, x ∈ W → 97 ≤ x ∧ x ≤ 122) : ∀ n, W.length ≤ n → cdL W < 256 ^ n := by
  intro n
  induction n generalizing W with
  | zero =>
    intro h
    have : W = [] := List.eq_nil_of_length_eq_zero (by omega)
    subst this
    decide
  | succ n ih =>
    intro h
    rcases List.eq_nil_or_concat W with rfl | ⟨l, a, rfl⟩
    · show 0 < 256 ^ (n + 1)
      exact Nat.pow_pos (by decide)
    · rw [List.concat_eq_append] at hW ⊢
      rw [cdL_snoc, Nat.pow_succ]
      have := ih (W := l) (fun x hx => hW x (by simp [hx])) (by simp at h; omega)
      have := hW a (by simp)
      omega
theorem m_isWord_l {c : Nat → Nat} {L : Nat} {M : gS} (ht : txR c L M) {p : Nat} (hp : p ≤ L) (h13 : mg M 13 = nI p) {W : List Nat} (hW : okW W) (Q : Bool → gS → Prop) (h : Q (decide (lsW c L p = W)) M) : ∀ n i, eL c L p - (p + i) = n → p + i ≤ eL c L p → ∀ y, (i ≤ 7 → y = lN (cdf c p i)) → wX12_isWord_10 Q (n + 1) (lN (cdL W)) y (nI i) M := by
  have hL := ht.2.1
  have hE := eo_le (bL c L) hp
  have hcb : ∀ j, c j < 256 := fun j => (ht.2.2 j).1
  have hE' : eL c L p ≤ L := hE
  have hlW := cdL_lt7 hW.2.2 7 hW.2.1
  intro n
  induction n with
  | zero =>
    intro i hi hip y hy
    have e : p + i = eL c L p := by omega
    rw [wX12_isWord_10, h13, nI_add]
    refine m_isLetter ht (by omega) ?_
    rw [e]
    have ef : bL c L (eL c L p) = false := eo_end (bL_in c L) p
    rw [ef]
    refine bw_f ?_
    have elen : (lsW c L p).length = i := by unfold lsW; rw [List.length_map, List.length_range]; omega
    by_cases a : i = 0
    · refine sw_t (by rw [a]; decide) ?_
      rw [decide_eq_false (fun z => by rw [z] at elen; have := hW.1; omega)] at h
      exact h
    · refine sw_f (nI_nle (by omega) (by omega)) ?_
      by_cases b : 8 ≤ i
      · refine sw_t (show nI 8 ≤ nI i from nI_le b (by omega)) ?_
        rw [decide_eq_false (fun z => by rw [z] at elen; have := hW.2.1; omega)] at h
        exact h
      · refine sw_f (show ¬ nI 8 ≤ nI i from nI_ge (by omega) (by omega)) ?_
        have el : lsW c L p = (List.range i).map (fun j => c (p + j)) := by unfold lsW; rw [show eL c L p - p = i by omega]
        have hlt := cdf_lt hcb p i
        have hp7 : (256 : Nat) ^ i ≤ 256 ^ 7 := Nat.pow_le_pow_right (by decide) (by omega)
        rw [lgc_eq, hy (by omega), pk_lEQ (by omega) (by omega), cdf_L, ← el]
        by_cases d : lsW c L p = W
        · rw [decide_eq_true d] at h
          exact sw_t (by rw [d]) h
        · rw [decide_eq_false d] at h
          refine sw_f (fun z => d ?_) h
          exact cdL_inj _ _ _ (Nat.le_refl _) (fun x hx => by have := ls_mem hx; omega) (fun x hx => by have := hW.2.2 x hx; omega) z
  | succ n ih =>
    intro i hi hip y hy
    rw [wX12_isWord_10, h13, nI_add]
    refine m_isLetter ht (by omega) ?_
    have et : bL c L (p + i) = true := eo_in (bL_in c L) _ p (p + i) rfl (by omega) (show p + i < eL c L p by omega)
    rw [et]
    refine bw_t ?_
    by_cases b : 8 ≤ i
    · refine sw_t (show nI 8 ≤ nI i from nI_le b (by omega)) ?_
      unfold wX12_isWord_50
      intro x1 h1
      rw [h1, nI_1]
      exact ih (i + 1) (by omega) (by omega) y (fun z => by omega)
    · refine sw_f (show ¬ nI 8 ≤ nI i from nI_ge (by omega) (by omega)) ?_
      rw [h13, nI_add, nI_clamp (by omega)]
      refine ⟨vp_in_nI (by omega) (by decide), fun x9 h9 => ?_⟩
      unfold wX12_isWord_50
      intro x1 h1
      rw [h1, nI_1]
      refine ih (i + 1) (by omega) (by omega) x9 (fun _ => ?_)
      have hbt := et
      unfold bL at hbt
      simp only [Bool.and_eq_true, decide_eq_true_eq] at hbt
      rw [h9, hy (by omega), (ht.2.2 (p + i)).2.2.1 (by omega), nI_l (by omega), show Int32.toInt64 (8 : Int32) = (nI 8).toInt64 from rfl, wb_shl _ (by omega), show cdf c p i * 2 ^ 8 = 2 ^ 8 * cdf c p i from Nat.mul_comm _ _, fb_or_sumL _ (show c (p + i) < 2 ^ 8 by omega), cdf]
      congr 1
      omega
theorem m_isWord {c : Nat → Nat} {L : Nat} {M : gS} (ht : txR c L M) {q : Nat} (hq : q ≤ L) (h13 : mg M 13 = nI q) {W : List Nat} (hW : okW W) {w : Int64} (hw : w = lN (cdL W)) (Q : Bool → gS → Prop) (h : ∀ N, fl1 M N → mg N 13 = nI (sk c L q) → Q (decide (lsW c L (sk c L q) = W)) N) : wX12_isWord w M Q := by
  unfold wX12_isWord
  refine m_see ht hq h13 _ (fun N f e => ⟨eL c L (sk c L q) - (sk c L q + 0) + 1, ?_⟩)
  rw [hw]
  exact m_isWord_l (txR_fl ht f) (sk_le hq) e hW Q (h N f e) _ 0 rfl (eo_ge _ _ _) 0 (fun _ => rfl)
theorem m_passWord_l {c : Nat → Nat} {L : Nat} {M : gS} (ht : txR c L M) (Q : gS → Prop) : ∀ n q, eL c L q - q = n → q ≤ L → ∀ N, fl1 M N → mg N 13 = nI q → (∀ N', fl1 M N' → mg N' 13 = nI (eL c L q) → Q N') → wX12_passWord_0 Q (n + 1) N := by
  have hL := ht.2.1
  intro n
  induction n with
  | zero =>
    intro q hq hqL N hf h13 h
    have hg := eo_ge (bL c L) L q
    have e : eL c L q = q := by unfold eL at hq ⊢; omega
    have ef : bL c L q = false := by have := eo_end (bL_in c L) q; unfold eL at e; rw [e] at this; exact this
    rw [wX12_passWord_0, h13]
    refine m_isLetter (txR_fl ht hf) (by omega) ?_
    rw [ef]
    exact bw_f (h N hf (by rw [e]; exact h13))
  | succ n ih =>
    intro q hq hqL N hf h13 h
    have et : bL c L q = true := eo_in (bL_in c L) _ q q rfl (by omega) (show q < eL c L q by omega)
    have e : eL c L q = eL c L (q + 1) := eo_t (bL_in c L) et
    have hqL2 := bL_in c L q et
    rw [wX12_passWord_0, h13]
    refine m_isLetter (txR_fl ht hf) (by omega) ?_
    rw [et]
    refine bw_t (fun x5 h5 M6 h6 => ?_)
    rw [e] at h
    refine ih (q + 1) (by omega) (by omega) M6 (by rw [h6]; exact fl1_trans hf (fl1_sg N _)) (by rw [h6, mg_sg, if_pos rfl, h5, h13, nI_1]) h
theorem m_passWord {c : Nat → Nat} {L : Nat} {M : gS} (ht : txR c L M) {q : Nat} (hq : q ≤ L) (h13 : mg M 13 = nI q) (Q : gS → Prop) (h : ∀ N, fl1 M N → mg N 13 = nI (eL c L q) → Q N) : wX12_passWord M Q :=
  ⟨eL c L q - q + 1, m_passWord_l ht Q _ q rfl hq M (fl1_refl M) h13 h⟩
