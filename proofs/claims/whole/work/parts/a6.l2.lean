-- PURE: lots by best play
def frY (M N : gS) : Prop := (∀ k, k ≠ 28 → k ≠ 34 → ma N k = ma M k) ∧ mg N = mg M ∧ mx N = mx M
theorem frY_refl (M : gS) : frY M M := ⟨fun _ _ _ => rfl, rfl, rfl⟩
theorem frY_trans {A B C : gS} (h : frY A B) (g : frY B C) : frY A C := ⟨fun k h1 h2 => (g.1 k h1 h2).trans (h.1 k h1 h2), g.2.1.trans h.2.1, g.2.2.trans h.2.2⟩
theorem frY_28 (M : gS) (f : Nat → Int32) : frY M (sF M 28 f) := ⟨fun k h _ => by rw [ma_sF, if_neg h], rfl, rfl⟩
theorem frY_34 (M : gS) (i : Nat) (v : Int32) : frY M (sa M 34 i v) := ⟨fun k _ h => by rw [ma_sa, if_neg h], rfl, rfl⟩
/-- the firsts so far -/
def fsI (s f : Nat → Int32) (t m n : Nat) : Prop := ∀ m' n', m' ≤ 7 → n' ≤ 7 → ∀ t', t' < 32 → bt (f (8 * m' + n')) t' = (decide (t' < t ∨ (t' = t ∧ (m' < m ∨ (m' = m ∧ n' < n)))) && frB s t' m' n')
theorem fsI_cg {s f : Nat → Int32} {t m n a b c : Nat} (h : fsI s f t m n) (he : ∀ m' n' t', m' ≤ 7 → n' ≤ 7 → ((t' < t ∨ (t' = t ∧ (m' < m ∨ (m' = m ∧ n' < n)))) ↔ (t' < a ∨ (t' = a ∧ (m' < b ∨ (m' = b ∧ n' < c)))))) : fsI s f a b c := by
  intro m' n' h1 h2 t' h3
  rw [h m' n' h1 h2 t' h3, decide_eq_decide.2 (he m' n' t' h1 h2)]
theorem fsI_put {s f : Nat → Int32} {t m n : Nat} (ht : t < 32) (hm : m ≤ 7) (hn : n ≤ 7) (h : fsI s f t m n) {x z : Int32} (hx : x = f (8 * m + n) ||| z) (hz : ∀ t', t' < 32 → bt z t' = (decide (t' = t) && frB s t' m n)) : fsI s (upd f (8 * m + n) x) t m (n + 1) := by
  intro m' n' h1 h2 t' h3
  rw [upd_at]
  by_cases e : 8 * m' + n' = 8 * m + n
  · have em : m' = m := by omega
    have en : n' = n := by omega
    subst em en
    rw [if_pos rfl, hx, b_or, h m' n' h1 h2 t' h3, hz t' h3]
    by_cases c1 : t' < t
    · rw [decide_eq_true (Or.inl c1), decide_eq_true (Or.inl c1), decide_eq_false (show ¬ t' = t by omega)]
      simp
    · by_cases c2 : t' = t
      · rw [decide_eq_false (show ¬ (t' < t ∨ t' = t ∧ (m' < m' ∨ m' = m' ∧ n' < n')) by omega), decide_eq_true c2, decide_eq_true (show (t' < t ∨ t' = t ∧ (m' < m' ∨ m' = m' ∧ n' < n' + 1)) by omega)]
        simp
      · rw [decide_eq_false (show ¬ (t' < t ∨ t' = t ∧ (m' < m' ∨ m' = m' ∧ n' < n')) by omega), decide_eq_false c2, decide_eq_false (show ¬ (t' < t ∨ t' = t ∧ (m' < m' ∨ m' = m' ∧ n' < n' + 1)) by omega)]
        simp
  · rw [if_neg e, h m' n' h1 h2 t' h3]
    congr 1
    exact decide_eq_decide.2 (by omega)
theorem bt_shl1 {t t' : Nat} (ht : t < 32) (h : t' < 32) : bt ((1 : Int32) <<< (nI t &&& 31)) t' = decide (t' = t) := by
  rw [b_shl t ht 1 h]
  by_cases c : t ≤ t'
  · rw [decide_eq_true c, Bool.true_and, b_1 _ (by omega)]
    exact decide_eq_decide.2 (by omega)
  · rw [decide_eq_false c, decide_eq_false (show ¬ t' = t by omega)]
    rfl
theorem m_ff52 {M : gS} (hw : wfS (ma M 25)) {t m : Nat} (ht : t < aN (ma M 25) 0) (hm : m ≤ 7) (B23 : Int32 → gS → Prop) (B44 : Int32 → Int32 → gS → Prop) (Q : gS → Prop) (hB : ∀ N, frY M N → tabF (ma M 25) (verseN (ma M 25) t) (ma N 28) → fsI (ma M 25) (ma N 34) t (m + 1) 0 → B44 (nI t) (nI (m + 1)) N) : ∀ c n, n + c = 8 → ∀ N, frY M N → tabF (ma M 25) (verseN (ma M 25) t) (ma N 28) → fsI (ma M 25) (ma N 34) t m n → wX12_fillsFirsts_52 B23 B44 Q (c + 1) (nI t) (nI m) (nI n) N := by
  have b0 : aN (ma M 25) 0 ≤ 4 := hw.b 0 rfl
  have hv := verse_le hw (t := t) (by omega)
  intro c
  induction c with
  | zero =>
    intro n hn N hf hT hs
    rw [wX12_fillsFirsts_52]
    refine sw_t (by rw [show n = 8 by omega]; decide) (fun x2 h2 => ?_)
    rw [h2, nI_1]
    exact hB N hf hT (fsI_cg hs (fun m' n' t' h1 h2 => by omega))
  | succ c ih =>
    intro n hn N hf hT hs
    have r25 : ma N 25 = ma M 25 := hf.1 25 (by decide) (by decide)
    have i8 : (8 : Int32) * nI m + nI n = nI (8 * m + n) := by
      show nI 8 * nI m + nI n = _
      rw [pk_mul, nI_add]
    rw [wX12_fillsFirsts_52, i8, nI_clamp (show 8 * m + n < 2 ^ 31 by omega)]
    refine sw_f (show ¬ nI 7 < nI n from nI_nlt (by omega) (by omega)) ⟨vp_in_nI (by omega) (by decide), ?_⟩
    refine m_verseOf N (by rw [r25]; exact hw) t (by omega) _ ?_
    rw [r25]
    unfold wX12_isFirsts
    refine m_can N (l := 4) (h := 4) (by omega) hm (by omega) (by omega) (by omega) _ ?_
    rw [hT _ _ _ _ _ (by omega) hm (by omega) (by omega) (by omega)]
    have go : ∀ z, (∀ t', t' < 32 → bt z t' = (decide (t' = t) && frB (ma M 25) t' m n)) → wX12_fillsFirsts_91 B23 B44 (fun (y1 : Int32) (y2 : Int32) (y3 : Int32) (M : gS) => wX12_fillsFirsts_52 B23 B44 Q (c + 1) y1 y2 y3 M) Q (nI t) (nI m) (nI n) (nI (8 * m + n)) (ma N 34 (8 * m + n)) z N := by
      intro z hz
      unfold wX12_fillsFirsts_91
      intro x1 h1
      refine ⟨vp_in_nI (by omega) (by decide), fun M2 h2 x3 h3 => ?_⟩
      rw [nI_clamp (by omega)] at h2
      rw [h3, nI_1]
      refine ih (n + 1) (by omega) M2 (by rw [h2]; exact frY_trans hf (frY_34 _ _ _)) (by rw [h2]; exact hT) ?_
      have e34 : ma M2 34 = upd (ma N 34) (8 * m + n) x1 := by rw [h2]; rfl
      rw [e34]
      exact fsI_put (by omega) hm (by omega) hs h1 hz
    cases hb : Can (ma M 25) (verseN (ma M 25) t) (verseN (ma M 25) t) m n 4 4 with
    | false =>
      refine bw_f (go 0 (fun t' h' => ?_))
      rw [b_0]
      by_cases c2 : t' = t
      · rw [c2, decide_eq_true rfl, Bool.true_and]
        exact hb.symm
      · rw [decide_eq_false c2, Bool.false_and]
    | true =>
      refine bw_t (go _ (fun t' h' => ?_))
      rw [bt_shl1 (by omega) h']
      by_cases c2 : t' = t
      · rw [c2, decide_eq_true rfl, Bool.true_and]
        exact hb.symm
      · rw [decide_eq_false c2, Bool.false_and]
theorem m_ff44 {M : gS} (hw : wfS (ma M 25)) {t : Nat} (ht : t < aN (ma M 25) 0) (B23 : Int32 → gS → Prop) (Q : gS → Prop) (hB : ∀ N, frY M N → fsI (ma M 25) (ma N 34) (t + 1) 0 0 → B23 (nI (t + 1)) N) : ∀ c m, m + c = 8 → ∀ N, frY M N → tabF (ma M 25) (verseN (ma M 25) t) (ma N 28) → fsI (ma M 25) (ma N 34) t m 0 → wX12_fillsFirsts_44 B23 Q (c + 1) (nI t) (nI m) N := by
  intro c
  induction c with
  | zero =>
    intro m hm N hf hT hs
    rw [wX12_fillsFirsts_44]
    refine sw_t (by rw [show m = 8 by omega]; decide) (fun x2 h2 => ?_)
    rw [h2, nI_1]
    exact hB N hf (fsI_cg hs (fun m' n' t' h1 h2 => by omega))
  | succ c ih =>
    intro m hm N hf hT hs
    rw [wX12_fillsFirsts_44]
    refine sw_f (show ¬ nI 7 < nI m from nI_nlt (by omega) (by omega)) ⟨9, ?_⟩
    exact m_ff52 hw ht (by omega) B23 _ Q (fun N' f' t' s' => ih (m + 1) (by omega) N' f' t' s') 8 0 (by omega) N hf hT hs
theorem m_ff23 {M : gS} (hw : wfS (ma M 25)) (Q : gS → Prop) (hQ : ∀ N, frY M N → fsI (ma M 25) (ma N 34) (aN (ma M 25) 0) 0 0 → Q N) : ∀ c t, t + c = aN (ma M 25) 0 → ∀ N, frY M N → fsI (ma M 25) (ma N 34) t 0 0 → wX12_fillsFirsts_23 Q (c + 1) (nI t) N := by
  have b0 : aN (ma M 25) 0 ≤ 4 := hw.b 0 rfl
  intro c
  induction c with
  | zero =>
    intro t ht N hf hs
    have r25 : ma N 25 = ma M 25 := hf.1 25 (by decide) (by decide)
    rw [wX12_fillsFirsts_23, r25, hw.n 0 rfl]
    refine sw_t (nI_le (by omega) (by omega)) (hQ N hf ?_)
    rw [show aN (ma M 25) 0 = t by omega]
    exact hs
  | succ c ih =>
    intro t ht N hf hs
    have r25 : ma N 25 = ma M 25 := hf.1 25 (by decide) (by decide)
    have hwN : wfS (ma N 25) := by rw [r25]; exact hw
    have hv := verse_le hw (t := t) (by omega)
    rw [wX12_fillsFirsts_23, r25, hw.n 0 rfl]
    refine sw_f (nI_ge (by omega) (by omega)) (m_verseOf N hwN t (by omega) _ ?_)
    rw [r25]
    refine m_fillsTable N hwN (by omega) _ (fun tb htb => ⟨9, ?_⟩)
    rw [r25] at htb
    refine m_ff44 hw (by omega) _ Q (fun N' f' s' => ih (t + 1) (by omega) N' f' s') 8 0 (by omega) _ (frY_trans hf (frY_28 _ _)) (by rw [ma_sF1]; exact htb) ?_
    rw [ma_sF, if_neg (by decide)]
    exact hs
theorem m_ff2 {M : gS} (hw : wfS (ma M 25)) (Q : gS → Prop) (hQ : ∀ N, frY M N → fsI (ma M 25) (ma N 34) (aN (ma M 25) 0) 0 0 → Q N) : ∀ c i, i + c = 64 → ∀ N, frY M N → (∀ j, j < i → ma N 34 j = 0) → wX12_fillsFirsts_2 Q (c + 1) (nI i) N := by
  intro c
  induction c with
  | zero =>
    intro i hi N hf hz
    rw [wX12_fillsFirsts_2]
    refine sw_t (show nI 64 ≤ nI i from nI_le (by omega) (by omega)) ⟨aN (ma M 25) 0 + 1, m_ff23 hw Q hQ _ 0 (by omega) N hf ?_⟩
    intro m' n' h1 h2 t' h3
    rw [hz _ (by omega), b_0, decide_eq_false (show ¬ (t' < 0 ∨ t' = 0 ∧ (m' < 0 ∨ m' = 0 ∧ n' < 0)) by omega), Bool.false_and]
  | succ c ih =>
    intro i hi N hf hz
    rw [wX12_fillsFirsts_2, nI_clamp (by omega)]
    refine sw_f (nI_ge (b := 64) (by omega) (by omega)) ⟨vp_in_nI (by omega) (by decide), fun M2 h2 x3 h3 => ?_⟩
    rw [h3, nI_1]
    refine ih (i + 1) (by omega) M2 (by rw [h2]; exact frY_trans hf (frY_34 _ _ _)) (fun j hj => ?_)
    have e34 : ma M2 34 = upd (ma N 34) i 0 := by rw [h2]; rfl
    rw [e34, upd_at]
    by_cases e : j = i
    · rw [if_pos e]
    · rw [if_neg e]; exact hz j (by omega)
def fstF (s f : Nat → Int32) : Prop := ∀ m n, m ≤ 7 → n ≤ 7 → ∀ t, t < aN s 0 → bt (f (8 * m + n)) t = frB s t m n
theorem m_fillsFirsts {M : gS} (hw : wfS (ma M 25)) (Q : gS → Prop) (hQ : ∀ N, frY M N → fstF (ma M 25) (ma N 34) → Q N) : wX12_fillsFirsts M Q := by
  have b0 : aN (ma M 25) 0 ≤ 4 := hw.b 0 rfl
  refine ⟨65, m_ff2 hw Q (fun N hf hs => hQ N hf (fun m n h1 h2 t h3 => ?_)) 64 0 (by omega) M (frY_refl M) (fun j hj => absurd hj (by omega))⟩
  rw [hs m n h1 h2 t (by omega), decide_eq_true (Or.inl h3), Bool.true_and]
/-- who has won the quarrel drawn from x, by best play -/
def whoB (s : Nat → Int32) (p x : Nat) : Nat := if frB s (dv (nx x) (aN s 0)) (if dv (nx (nx x)) 2 = 0 then dv (nx (nx (nx x))) (p + 1) else dv (nx4 x) (p + 1)) (if dv (nx (nx x)) 2 = 0 then dv (nx4 x) (p + 1) else dv (nx (nx (nx x))) (p + 1)) = true then dv (nx (nx x)) 2 else 1 - dv (nx (nx x)) 2
def addB (what : Int32) (w : Nat) : Int32 := if what = 2 then 0 else if nI w = what then 1 else 0
def lotsB (s : Nat → Int32) (p : Nat) (what : Int32) : Nat → Nat → Int32 → Int32
  | 0, _, acc => acc
  | m + 1, x, acc => lotsB s p what m (nx4 x) (acc + addB what (whoB s p x))
theorem m_drawnB_end {s : Nat → Int32} (hw : wfS s) {M9 : gS} {T f a b : Nat} {y3 : Int32} (t1 : T < aN s 0) (t2 : f < 2) (t3 : a ≤ 7) (t4 : b ≤ 7) (r9 : ma M9 25 = rowP s a b) (h34 : ∀ m n, m ≤ 7 → n ≤ 7 → bt (ma M9 34 (8 * m + n)) T = frB s T m n) {Q : Int32 → gS → Prop} (hQ : Q (nI (if frB s T (if f = 0 then a else b) (if f = 0 then b else a) = true then f else 1 - f)) M9) : wX12_drawn_22 Q 1 (-1) (-1) y3 (nI T) (nI f) 2 M9 := by
  have b0 : aN s 0 ≤ 4 := hw.b 0 rfl
  rw [wX12_drawn_22]
  refine sw_t (by decide) (sw_f (by decide) (sw_f (by decide) ?_))
  generalize hm : (if f = 0 then a else b) = mine at hQ
  generalize ht : (if f = 0 then b else a) = their at hQ
  have hm7 : mine ≤ 7 := by rw [← hm]; split <;> omega
  have ht7 : their ≤ 7 := by rw [← ht]; split <;> omega
  have c1 : Int32.toNatClampNeg ((12 : Int32) + nI f) = 12 + f := by
    rw [show (12 : Int32) + nI f = nI (12 + f) from nI_add 12 f]
    exact nI_clamp (by omega)
  have c2 : Int32.toNatClampNeg ((13 : Int32) - nI f) = 13 - f := by
    rw [show (13 : Int32) - nI f = nI (13 - f) from pk_sub (show f ≤ 13 by omega)]
    exact nI_clamp (by omega)
  have ev1 : ma M9 25 (12 + f) = nI mine := by
    rw [r9, ← hm]
    rcases (show f = 0 ∨ f = 1 by omega) with rfl | rfl
    · rfl
    · rfl
  have ev2 : ma M9 25 (13 - f) = nI their := by
    rw [r9, ← ht]
    rcases (show f = 0 ∨ f = 1 by omega) with rfl | rfl
    · rfl
    · rfl
  have i8 : (8 : Int32) * nI mine + nI their = nI (8 * mine + their) := by
    show nI 8 * nI mine + nI their = _
    rw [pk_mul, nI_add]
  rw [c1, c2, ev1, ev2, i8, nI_clamp (show 8 * mine + their < 2 ^ 31 by omega)]
  refine ⟨?_, ?_, vp_in_nI (by omega) (by decide), ?_⟩
  · rw [show (12 : Int32) + nI f = nI (12 + f) from nI_add 12 f]
    exact vp_in_nI (by omega) (by decide)
  · rw [show (13 : Int32) - nI f = nI (13 - f) from pk_sub (show f ≤ 13 by omega)]
    exact vp_in_nI (by omega) (by decide)
  · have hbt := h34 mine their hm7 ht7
    have hone := b_one (ma M9 34 (8 * mine + their)) (i := T) (by omega)
    by_cases hB : frB s T mine their = true
    · rw [if_pos hB] at hQ
      exact sw_t (hone.2 (by rw [hbt]; exact hB)) hQ
    · rw [if_neg hB] at hQ
      refine sw_f (fun z => hB (by rw [← hbt]; exact hone.1 z)) ?_
      rw [show (1 : Int32) - nI f = nI (1 - f) from pk_sub (show f ≤ 1 by omega)]
      exact hQ
theorem m_drawnB {M : gS} (hw : wfS (ma M 25)) (h0 : 1 ≤ aN (ma M 25) 0) (h34 : fstF (ma M 25) (ma M 34)) {x p : Nat} (hx : mx M 33 = lN x) (hl : x < 2 ^ 31) (hp : p ≤ 7) (Q : Int32 → gS → Prop) (h : ∀ N, frx M N → mx N 33 = lN (nx4 x) → ma N 25 = rowP (ma M 25) (dv (nx (nx (nx x))) (p + 1)) (dv (nx4 x) (p + 1)) → Q (nI (whoB (ma M 25) p x)) N) : wX12_drawn (-1) (-1) (nI p) M Q := by
  have b0 : aN (ma M 25) 0 ≤ 4 := hw.b 0 rfl
  have e0 := hw.n 0 rfl
  have t1 := dv_lt (nx x) (b := aN (ma M 25) 0) h0
  have t2 := dv_lt (nx (nx x)) (b := 2) (by omega)
  have t3 := dv_lt (nx (nx (nx x))) (b := p + 1) (by omega)
  have t4 := dv_lt (nx4 x) (b := p + 1) (by omega)
  unfold wX12_drawn
  rw [e0]
  refine m_draw hx hl h0 (by omega) _ (m_draw (b := 2) (x := nx x) (mx_sx1 _ _) (nx_lt _) (by omega) (by omega) _ ⟨3, ?_⟩)
  rw [wX12_drawn_22, nI_1]
  refine sw_f (by decide) (m_draw (x := nx (nx x)) (mx_sx1 _ _) (nx_lt _) (by omega) (by omega) _ ⟨show vp_in (nI 12) 44 from vp_in_nI (by omega) (by decide), fun M7 h7 x8 h8 => ?_⟩)
  have e8 : x8 = 1 := by rw [h8]; rfl
  have f7 : frx M M7 := by rw [h7]; exact ⟨fun k hk => by rw [ma_sa, if_neg hk]; rfl, fun k _ _ => rfl⟩
  have x7 : mx M7 33 = lN (nx (nx (nx x))) := by rw [h7, mx_sa, mx_sx1]
  have r7 : ma M7 25 = upd (ma M 25) 12 (nI (dv (nx (nx (nx x))) (p + 1))) := by rw [h7]; rfl
  rw [e8, wX12_drawn_22, nI_1]
  refine sw_f (by decide) (m_draw x7 (nx_lt _) (by omega) (by omega) _ ⟨show vp_in (nI 13) 44 from vp_in_nI (by omega) (by decide), fun M9 h9 x10 h10 => ?_⟩)
  have e10 : x10 = 2 := by rw [h10]; rfl
  have f9 : frx M M9 := frx_trans f7 (by rw [h9]; exact ⟨fun k hk => by rw [ma_sa, if_neg hk]; rfl, fun k _ _ => rfl⟩)
  have x9 : mx M9 33 = lN (nx4 x) := by rw [h9, mx_sa, mx_sx1]; rfl
  have r9 : ma M9 25 = rowP (ma M 25) (dv (nx (nx (nx x))) (p + 1)) (dv (nx4 x) (p + 1)) := by
    rw [h9]
    show upd (ma M7 25) 13 _ = _
    rw [r7]
    rfl
  have e34 : ma M9 34 = ma M 34 := f9.1 34 (by decide)
  rw [e10]
  exact m_drawnB_end hw t1 t2 (by omega) (by omega) r9 (fun m n h1 h2 => by rw [e34]; exact h34 m n h1 h2 _ t1) (h M9 f9 x9 r9)
theorem m_lotsB_l {M : gS} (hw : wfS (ma M 25)) (h0 : 1 ≤ aN (ma M 25) 0) (h34 : fstF (ma M 25) (ma M 34)) (h27 : ∀ j, j < 44 → ma M 27 j = ma M 25 j) {m p : Nat} (hm : m ≤ 50) (hp : p ≤ 7) {what : Int32} (Q : Int32 → gS → Prop) : ∀ n i x acc N, i + n = m → frx M N → ma N 25 = ma M 25 → mx N 33 = lN x → x < 2 ^ 31 → (∀ N', frx M N' → ma N' 25 = ma M 25 → Q (lotsB (ma M 25) p what n x acc) N') → wX12_lots_107 Q (n + 1) (-1) (-1) (nI m) (nI p) what acc (nI i) N := by
  intro n
  induction n with
  | zero =>
    intro i x acc N hi hf h25 hx hl h
    rw [wX12_lots_107]
    exact sw_t (nI_le (by omega) (by omega)) (h N hf h25)
  | succ n ih =>
    intro i x acc N hi hf h25 hx hl h
    rw [wX12_lots_107]
    refine sw_f (nI_ge (by omega) (by omega)) ?_
    refine m_drawnB (by rw [h25]; exact hw) (by rw [h25]; exact h0) (by rw [h25, hf.1 34 (by decide)]; exact h34) hx hl hp _ (fun N1 f1 x1 e1 => ?_)
    rw [h25] at e1 ⊢
    have f2 := frx_trans hf f1
    have e27 : ma N1 27 = ma M 27 := f2.1 27 (by decide)
    have go : ∀ z, z = addB what (whoB (ma M 25) p x) → wX12_lots_161 (fun (y1 : Int32) (y2 : Int32) (y3 : Int32) (y4 : Int32) (y5 : Int32) (y6 : Int32) (y7 : Int32) (M : gS) => wX12_lots_107 Q (n + 1) y1 y2 y3 y4 y5 y6 y7 M) Q (-1) (-1) (nI m) (nI p) what (nI i) acc z N1 := by
      intro z hz
      unfold wX12_lots_161
      intro x2 hx2
      refine m_putsBack _ (fun x4 hx4 => ?_)
      rw [hx2, hz, hx4, nI_1, e1, e27, back_row (s := ma M 25) (fun j hj => rowP_k (by omega) (by omega)) h27]
      refine ih (i + 1) (nx4 x) _ _ (by omega) ⟨fun k hk => ?_, fun k h1 h2 => f2.2 k h1 h2⟩ (ma_sF1 _ _ _) x1 (nx_lt _) h
      rw [ma_sF, if_neg hk]
      exact f2.1 k hk
    unfold addB at go
    by_cases c2 : what = 2
    · refine sw_t c2 (go _ ?_)
      rw [if_pos c2, e1, e27, h27 9 (by omega), rowP_k (by omega) (by omega), Int32.sub_self]
    · refine sw_f c2 ?_
      rw [if_neg c2] at go
      by_cases cw : nI (whoB (ma M 25) p x) = what
      · exact sw_t cw (go _ (by rw [if_pos cw]))
      · exact sw_f cw (go _ (by rw [if_neg cw]))
theorem m_lotsB {M : gS} {n : Nat} (hn : n ≤ 6) (h2 : mg M 2 = nI n) (hw : wfS (ma M 25)) {m p : Nat} {what : Int32} (hs : lotOK (ma M 25) (nI m) (nI p) what) (hm : m ≤ 50) (hp : p ≤ 7) {Q : Int32 → gS → Prop} (h : ∀ N, eqM M N → Q (lotsB (ma M 25) p what m (aN (ma M 25) 11) 0) N) : wX12_lots (-1) (-1) (nI m) (nI p) what M Q := by
  obtain ⟨s0, s3, s4, s5⟩ := hs
  have h0 : 1 ≤ aN (ma M 25) 0 := by
    rw [hw.n 0 rfl, show (0 : Int32) = nI 0 from rfl, nI_leI (by have : aN (ma M 25) 0 ≤ 4 := hw.b 0 rfl; omega) (by omega)] at s0
    omega
  have b11 : aN (ma M 25) 11 ≤ 2147483647 := hw.b 11 rfl
  unfold wX12_lots
  refine m_corner_t s0 (bw_t (m_areRules_t hn h2 (Or.inl rfl) (Or.inl rfl) (bw_t (sw_f (by decide) ?_))))
  unfold wX12_lots_25
  refine sw_f (by decide) ?_
  unfold wX12_lots_34
  refine sw_t rfl (m_in_t (lo := 1) (hi := 50) (by decide) (by decide) s3.1 s3.2 (bw_t (m_in_t (lo := 0) (hi := 7) (by decide) (by decide) s4.1 s4.2 (bw_t (m_in_t (lo := 0) (hi := 2) (by decide) (by decide) s5.1 s5.2 (bw_t (sw_f (by decide) ?_)))))))
  refine m_fillsFirsts hw _ (fun M1 f1 hfst => ?_)
  have r1 : ma M1 25 = ma M 25 := f1.1 25 (by decide) (by decide)
  unfold wX12_lots_85
  refine m_keeps _ (fun x3 h3 M4 h4 => ⟨m + 1, ?_⟩)
  have e3 : x3 = lN (aN (ma M 25) 11) := by
    rw [h3]
    show Int32.toInt64 (ma M1 25 11) = _
    rw [r1, hw.n 11 rfl, nI_l (by omega)]
  rw [h4, e3]
  have key := m_lotsB_l (M := sx (sF M1 27 (fa_fill (ma M1 25) (ma M1 27) 44)) 33 (lN (aN (ma M 25) 11))) (by show wfS (ma M1 25); rw [r1]; exact hw) (by show 1 ≤ aN (ma M1 25) 0; rw [r1]; exact h0) (by show fstF (ma M1 25) (ma M1 34); rw [r1]; exact hfst) (fun j hj => fa_fill_in hj) hm hp (what := what) Q m 0 (aN (ma M 25) 11) 0 _ (by omega) ⟨fun _ _ => rfl, fun _ _ _ => rfl⟩ rfl rfl (by omega)
  refine key (fun N f e => ?_)
  have e' : ma N 25 = ma M1 25 := e
  show Q (lotsB (ma M1 25) p what m (aN (ma M 25) 11) 0) N
  rw [r1]
  have q := eqM_frx f e'
  refine h N (eqM_trans ⟨by rw [f1.2.1], by rw [f1.2.1], f1.1 0 (by decide) (by decide), f1.1 3 (by decide) (by decide), f1.1 5 (by decide) (by decide), f1.1 6 (by decide) (by decide), r1, f1.1 35 (by decide) (by decide), f1.1 36 (by decide) (by decide)⟩ q)
theorem c_bp_end {s : Nat → Int32} {m p sd i T f a b : Nat} {acc : Int32} (hsd : sd ≤ 1) (hT : T < 4) (ha : a ≤ p) (hb : b ≤ p) (t2 : f < 2) {M0 M1 M2 M3 M4 M5 M6 M7 M8 N3 : gS} (hW : ∀ a b, a < 8 → b < 8 → a + b ≤ 2 * p → lb (ml M0 11 T) (8 * b + a) = frB s T a b) (hp : p ≤ 7) (y1 : mg N3 1 = nI T) (y2 : mg N3 2 = nI f) (y3 : mg N3 3 = nI a) (y4 : mg N3 4 = nI b) {B52 : Int32 → Int32 → Int32 → Int32 → Int32 → gS → gS → gS → gS → gS → gS → gS → gS → gS → gS → Prop} {Q : Int32 → gS → gS → gS → gS → gS → gS → gS → gS → gS → gS → Prop} (nxt : ∀ z, z = acc + addB (nI sd) (if frB s T (if f = 0 then a else b) (if f = 0 then b else a) = true then f else 1 - f) → wX11_lotsByBestPlay_198 B52 Q (nI m) (nI p) (nI sd) z (nI i) M0 M1 M2 M3 M4 M5 M6 M7 M8 N3) : ((mg N3 2) = 0 → (wX11_lotsByBestPlay_103 B52 Q (nI m) (nI p) (nI sd) acc (nI i) (mg N3 3) M0 M1 M2 M3 M4 M5 M6 M7 M8 N3)) ∧ (¬ (mg N3 2) = 0 → (wX11_lotsByBestPlay_103 B52 Q (nI m) (nI p) (nI sd) acc (nI i) (mg N3 4) M0 M1 M2 M3 M4 M5 M6 M7 M8 N3)) := by
  have ns2 : ¬ nI sd = 2 := by
    rw [show (2 : Int32) = nI 2 from rfl, nI_eq (by omega) (by omega)]
    omega
  unfold addB at nxt
  rw [if_neg ns2] at nxt
  have k132 : ∀ mine their, mine ≤ 7 → their ≤ 7 → mine + their ≤ 2 * p → (if f = 0 then a else b) = mine → (if f = 0 then b else a) = their → wX11_lotsByBestPlay_132 B52 Q (nI m) (nI p) (nI sd) acc (nI i) (nI mine) (nI their) M0 M1 M2 M3 M4 M5 M6 M7 M8 N3 := by
    intro mine their hm7 ht7 hmt hm1 ht1
    rw [hm1, ht1] at nxt
    unfold wX11_lotsByBestPlay_132 wX11_lotsByBestPlay_171 wX11_lotsByBestPlay_172 wX11_lotsByBestPlay_192
    rw [y1, y2, nI_clamp (by omega)]
    refine sw_f (nI_ge (b := 4) (by omega) (by omega)) ⟨vp_in_nI (by omega) (by decide), c_holds _ (by omega) (by omega) _ ?_⟩
    rw [hW _ _ (by omega) (by omega) hmt]
    by_cases hB : frB s T mine their = true
    · rw [if_pos hB] at nxt
      rw [hB]
      refine bw_t ?_
      by_cases cf : nI f = nI sd
      · rw [if_pos cf] at nxt
        exact sw_t cf (sw_t rfl (fun x2 h2 => nxt _ h2))
      · rw [if_neg cf] at nxt
        exact sw_f cf (sw_f (by decide) (nxt _ (by rw [Int32.add_zero])))
    · rw [if_neg hB] at nxt
      rw [ts_nt hB]
      refine bw_f ?_
      by_cases cf : f = sd
      · rw [if_neg (fun z => by rw [nI_eq (by omega) (by omega)] at z; omega)] at nxt
        exact sw_t (by rw [cf]) (sw_f (by decide) (nxt _ (by rw [Int32.add_zero])))
      · rw [if_pos (by rw [nI_eq (by omega) (by omega)]; omega)] at nxt
        exact sw_f (fun z => by rw [nI_eq (by omega) (by omega)] at z; omega) (sw_t rfl (fun x2 h2 => nxt _ h2))
  unfold wX11_lotsByBestPlay_103
  rw [y2, y3, y4]
  rcases (show f = 0 ∨ f = 1 by omega) with rfl | rfl
  · exact sw_t rfl (sw_t rfl (k132 a b (by omega) (by omega) (by omega) rfl rfl))
  · exact sw_f (by decide) (sw_f (by decide) (k132 b a (by omega) (by omega) (by omega) rfl rfl))
theorem c_bp52 {s : Nat → Int32} (hw : wfS s) (h0 : 1 ≤ aN s 0) {m p sd : Nat} (hm : m ≤ 50) (hp : p ≤ 7) (hsd : sd ≤ 1) {M0 M1 M2 M3 M4 M5 M6 M7 M8 : gS} (hC : relC s M2) (hW : ∀ t, t < aN s 0 → ∀ a b, a < 8 → b < 8 → a + b ≤ 2 * p → lb (ml M0 11 t) (8 * b + a) = frB s t a b) (Q : Int32 → gS → gS → gS → gS → gS → gS → gS → gS → gS → gS → Prop) : ∀ n i x acc M9, i + n = m → mg M9 0 = nI x → x < 2 ^ 31 → (∀ N9, Q (lotsB s p (nI sd) n x acc) M0 M1 M2 M3 M4 M5 M6 M7 M8 N9) → wX11_lotsByBestPlay_52 Q (n + 1) (nI m) (nI p) (nI sd) acc (nI i) M0 M1 M2 M3 M4 M5 M6 M7 M8 M9 := by
  have b0 : aN s 0 ≤ 4 := hw.b 0 rfl
  intro n
  induction n with
  | zero =>
    intro i x acc M9 hi hx hl h
    rw [wX11_lotsByBestPlay_52]
    exact sw_t (nI_le (by omega) (by omega)) (h M9)
  | succ n ih =>
    intro i x acc M9 hi hx hl h
    have t1 := dv_lt (nx x) (b := aN s 0) h0
    have t2 := dv_lt (nx (nx x)) (b := 2) (by omega)
    have t3 := dv_lt (nx (nx (nx x))) (b := p + 1) (by omega)
    have t4 := dv_lt (nx4 x) (b := p + 1) (by omega)
    rw [wX11_lotsByBestPlay_52, hC.1, hw.n 0 rfl]
    refine sw_f (nI_ge (by omega) (by omega)) (c_draw hx hl h0 b0 hp _ (fun N3 y0 y1 y2 y3 y4 => ?_))
    have nxt : ∀ z, z = acc + addB (nI sd) (whoB s p x) → wX11_lotsByBestPlay_198 (fun (y1 : Int32) (y2 : Int32) (y3 : Int32) (y4 : Int32) (y5 : Int32) (M0 : gS) (M1 : gS) (M2 : gS) (M3 : gS) (M4 : gS) (M5 : gS) (M6 : gS) (M7 : gS) (M8 : gS) (M9 : gS) => wX11_lotsByBestPlay_52 Q (n + 1) y1 y2 y3 y4 y5 M0 M1 M2 M3 M4 M5 M6 M7 M8 M9) Q (nI m) (nI p) (nI sd) z (nI i) M0 M1 M2 M3 M4 M5 M6 M7 M8 N3 := by
      intro z hz
      unfold wX11_lotsByBestPlay_198
      intro x1 hx1
      rw [hx1, nI_1, hz]
      exact ih (i + 1) (nx4 x) _ N3 (by omega) y0 (nx_lt _) h
    exact c_bp_end hsd (by omega) (by omega) (by omega) t2 (fun a b h1 h2 h3 => hW _ t1 a b h1 h2 h3) hp y1 y2 y3 y4 (fun z hz => nxt z hz)
theorem c_bp3 {s : Nat → Int32} (hw : wfS s) (h0 : 1 ≤ aN s 0) {m p sd : Nat} (hm : m ≤ 50) (hp : p ≤ 7) (hsd : sd ≤ 1) {M1 M2 M3 M4 M5 M6 M8 M9 : gS} (hC : relC s M2) {x : Nat} (hx : mg M9 0 = nI x) (hl : x < 2 ^ 31) {B0 : gS} (Q : Int32 → gS → gS → gS → gS → gS → gS → gS → gS → gS → gS → Prop) (h : ∀ N0 N7 N9, mg N0 = mg B0 → ma N0 = ma B0 → okB N7 → Q (lotsB s p (nI sd) m x 0) N0 M1 M2 M3 M4 M5 M6 N7 M8 N9) : ∀ n i M0 M7, i + n = aN s 0 → mg M0 = mg B0 → ma M0 = ma B0 → okB M7 → (∀ t, t < i → ∀ a b, a < 8 → b < 8 → a + b ≤ 2 * p → lb (ml M0 11 t) (8 * b + a) = frB s t a b) → wX11_lotsByBestPlay_3 Q (n + 1) (nI m) (nI p) (nI sd) (nI i) M0 M1 M2 M3 M4 M5 M6 M7 M8 M9 := by
  have b0 : aN s 0 ≤ 4 := hw.b 0 rfl
  intro n
  induction n with
  | zero =>
    intro i M0 M7 hi g1 g2 hB hW
    rw [wX11_lotsByBestPlay_3, hC.1, hw.n 0 rfl]
    refine sw_t (nI_le (by omega) (by omega)) ?_
    refine ⟨m + 1, c_bp52 hw h0 hm hp hsd hC (fun t ht => hW t (by omega)) Q m 0 x 0 M9 (by omega) hx hl (fun N9 => h M0 M7 N9 g1 g2 hB)⟩
  | succ n ih =>
    intro i M0 M7 hi g1 g2 hB hW
    rw [wX11_lotsByBestPlay_3, hC.1, hw.n 0 rfl]
    refine sw_f (nI_ge (by omega) (by omega)) (sw_f (nI_ge (b := 4) (by omega) (by omega)) ?_)
    rw [show (2 : Int32) * nI p = nI (2 * p) from pk_mul 2 p]
    refine c_startW hw hC hB (by omega) (by omega) _ (fun r N7 hN7 hr => ⟨vp_in_nI (by omega) (by decide), fun N16 h16 x17 h17 => ?_⟩)
    rw [nI_clamp (by omega)] at h16
    rw [h17, nI_1]
    refine ih (i + 1) N16 N7 (by omega) (by rw [h16]; exact g1) (by rw [h16]; exact g2) hN7 (fun t ht a b ha hb hab => ?_)
    have e : ml N16 11 = vp_updL (ml M0 11) i r := by rw [h16]; rfl
    rw [e]
    show lb (if t = i then r else ml M0 11 t) (8 * b + a) = _
    by_cases c : t = i
    · rw [if_pos c, c]; exact hr a b ha hb hab
    · rw [if_neg c]; exact hW t (by omega) a b ha hb hab
theorem t_lotsnn {M M0 M1 M2 M3 M4 M5 M6 M7 M8 M9 : gS} (hi : inv M M0 M1 M2 M3 M4 M7) {n : Nat} (hn : n ≤ 6) (h2 : mg M 2 = nI n) {F : oF} {m p : Nat} {what : Int32} (hs : lotOK (ma M 25) (nI m) (nI p) what) (hm : m ≤ 50) (hp : p ≤ 7) : tieP M (fun Q => wX12_lots (-1) (-1) (nI m) (nI p) what M Q) (fun Q => wX11_lotsnn (-1) (-1) (nI m) (nI p) what M0 M1 M2 M3 M4 M5 M6 M7 M8 M9 F (fun r N0 N1 N2 N3 N4 N5 N6 N7 N8 N9 F' => F' = F ∧ Q r N0 N1 N2 N3 N4 N5 N6 N7 N8 N9)) := by
  obtain ⟨⟨hw, hsp⟩, ⟨hW, hC, hq, hO⟩, hT, hB⟩ := id hi
  have b11 : aN (ma M 25) 11 ≤ 2147483647 := hw.b 11 rfl
  obtain ⟨s0, s3, s4, s5⟩ := id hs
  have h0 : 1 ≤ aN (ma M 25) 0 := by
    rw [hw.n 0 rfl, show (0 : Int32) = nI 0 from rfl, nI_leI (by have : aN (ma M 25) 0 ≤ 4 := hw.b 0 rfl; omega) (by omega)] at s0
    omega
  refine ⟨lotsB (ma M 25) p what m (aN (ma M 25) 11) 0, M, keepR_refl M, fun Q h => m_lotsB hn h2 hw hs hm hp h, fun Q h => ?_⟩
  show wX11_lotsnn (-1) (-1) (nI m) (nI p) what M0 M1 M2 M3 M4 M5 M6 M7 M8 M9 F _
  unfold wX11_lotsnn wX11_lotsnn_15
  refine sw_t rfl (sw_t rfl (sw_f (by decide) ?_))
  unfold wX11_lotsnn_40
  refine sw_f (nlt_le.2 s3.1) (sw_f (nlt_le.2 s3.2) (c_purse_t s4 (bw_t (sw_f (nlt_le.2 s5.1) (sw_f (nlt_le.2 s5.2) (c_corner_t hC s0 (bw_t (fun x23 h23 N24 h24 => sw_f (by decide) ?_))))))))
  have e9 : mg N24 0 = nI (aN (ma M 25) 11) := by
    rw [h24, h23, hW.2, hw.n 11 rfl]
    rfl
  by_cases c2 : what = 2
  · refine sw_t c2 ⟨rfl, ?_⟩
    have z : ∀ k y acc, lotsB (ma M 25) p what k y acc = acc := by
      intro k
      induction k with
      | zero => intro y acc; rfl
      | succ k ih => intro y acc; rw [lotsB, ih]; unfold addB; rw [if_pos c2, Int32.add_zero]
    rw [z] at h
    exact h _ _ _ _ _ _ _ _ _ _ hi
  · refine sw_f c2 ?_
    obtain ⟨sd, hsd, rfl⟩ := rng_n (b := 2) (by decide) s5.1 s5.2
    have hsd1 : sd ≤ 1 := by
      rcases (show sd ≤ 1 ∨ sd = 2 by omega) with z | z
      · exact z
      · exact absurd (by rw [z]; rfl) c2
    refine ⟨aN (ma M 25) 0 + 1, c_bp3 hw h0 hm hp hsd1 hC e9 (by omega) (B0 := M0) _ (fun N0 N7 N9 g1 g2 hB' => ⟨rfl, h _ _ _ _ _ _ _ _ _ _ ⟨hi.1, hi.2.1, ?_, hB'⟩⟩) (aN (ma M 25) 0) 0 M0 M7 (by omega) rfl rfl hB (fun t ht => absurd ht (by omega))⟩
    unfold relT
    rw [g1, g2]
    exact hT
