-- PURE: enough, hidden
theorem ite_le1 {c : Prop} [Decidable c] {a b : Nat} (ha : a ≤ 1) (hb : b ≤ 1) : (if c then a else b) ≤ 1 := by split <;> assumption
theorem hav_le {s : Nat → Int32} (hw : wfS s) (v left one other : Nat) : hav s v left one other ≤ 1 := by
  have b6 : aN s 6 ≤ 1 := hw.b 6 rfl
  exact ite_le1 b6 (by omega)
def hasN (s : Nat → Int32) (v left side own oth : Nat) : Bool := if side = aN s 6 then Can s v left own oth (LA s (aN s 6)) (LA s (1 - aN s 6)) else !Can s v left oth own (LA s (aN s 6)) (LA s (1 - aN s 6))
theorem hav_has {s : Nat → Int32} (hw : wfS s) {v left side own oth : Nat} (hs : side ≤ 1) : hav s v left (if side = 0 then own else oth) (if side = 0 then oth else own) = side ↔ hasN s v left side own oth = true := by
  have b6 : aN s 6 ≤ 1 := hw.b 6 rfl
  unfold hav hasN
  rcases (show aN s 6 = 0 ∨ aN s 6 = 1 by omega) with c | c <;> rcases (show side = 0 ∨ side = 1 by omega) with d | d <;> rw [c, d] <;> simp
theorem c_hasWith {s : Nat → Int32} (hw : wfS s) {M0 M1 M2 M3 M4 M5 M6 M7 M8 M9 : gS} (hq : relQ s M3) (hg : s 3 = 1) {v left pen : Nat} {r : Int64} (hr : ∀ m t, m < 8 → t < 8 → m + t ≤ pen → lb r (8 * t + m) = Can s v left m t (LA s (aN s 6)) (LA s (1 - aN s 6))) {side own oth : Nat} (h1 : side ≤ 1) (h2 : own ≤ 7) (h3 : oth ≤ 7) (h4 : own + oth ≤ pen) (Q : Bool → gS → gS → gS → gS → gS → gS → gS → gS → gS → gS → Prop) (h : Q (hasN s v left side own oth) M0 M1 M2 M3 M4 M5 M6 M7 M8 M9) : wX11_hasWith r (nI side) (nI own) (nI oth) M0 M1 M2 M3 M4 M5 M6 M7 M8 M9 Q := by
  have b6 : aN s 6 ≤ 1 := hw.b 6 rfl
  unfold wX11_hasWith
  rw [(hq.2.1 hg).2.2.1, hw.n 6 rfl, nI_eq (by omega) (by omega)]
  unfold hasN at h
  by_cases c : side = aN s 6
  · rw [if_pos c] at h
    refine sw_t c (c_holds r (by omega) (by omega) _ ?_)
    rw [hr _ _ (by omega) (by omega) h4]
    exact h
  · rw [if_neg c] at h
    refine sw_f c (c_holds r (by omega) (by omega) _ ?_)
    rw [hr _ _ (by omega) (by omega) (by omega)]
    cases hb : Can s v left oth own (LA s (aN s 6)) (LA s (1 - aN s 6)) with
    | true => rw [hb] at h; exact bw_t h
    | false => rw [hb] at h; exact bw_f h
theorem m_haverIf {M : gS} (hw : wfS (ma M 25)) {v : Nat} (ht : tabF (ma M 25) v (ma M 28)) {side n : Nat} (h1 : side ≤ 1) (h2 : n ≤ 7) (Q : Int32 → gS → Prop) (h : Q (nI (hav (ma M 25) v (aN (ma M 25) 5) (if side = 0 then n else aN (ma M 25) 12) (if side = 1 then n else aN (ma M 25) 13))) M) : wX12_haverIf (nI side) (nI n) M Q := by
  have b5 : aN (ma M 25) 5 ≤ 200 := hw.b 5 rfl
  have p0 : aN (ma M 25) 12 ≤ 7 := hw.b 12 rfl
  have p1 : aN (ma M 25) 13 ≤ 7 := hw.b 13 rfl
  unfold wX12_haverIf
  rw [hw.n 5 rfl, hw.n 12 rfl]
  rcases (show side = 0 ∨ side = 1 by omega) with c | c
  · subst c
    refine sw_t rfl ?_
    unfold wX12_haverIf_22
    rw [hw.n 13 rfl]
    exact sw_f (by decide) (m_haver hw ht b5 h2 p1 _ h)
  · subst c
    refine sw_f (by decide) ?_
    unfold wX12_haverIf_22
    exact sw_t rfl (m_haver hw ht b5 p0 h2 _ h)
def enS (s : Nat → Int32) (side : Nat) : Nat → Nat → Int32
  | 0, _ => -1
  | n + 1, i => if hasN s (aN s 4) (aN s 5) side i (aN s (12 + (1 - side))) = true then nI i else enS s side n (i + 1)
theorem m_enough_l {M : gS} (hw : wfS (ma M 25)) (ht : tabF (ma M 25) (aN (ma M 25) 4) (ma M 28)) {side : Nat} (hs : side ≤ 1) (Q : Int32 → gS → Prop) : ∀ n i, i + n = 8 → Q (enS (ma M 25) side n i) M → wX12_enough_29 Q (n + 1) (nI side) (nI i) M := by
  intro n
  induction n with
  | zero =>
    intro i hi hQ
    rw [wX12_enough_29]
    exact sw_t (nI_lt (a := 7) (by omega) (by omega)) hQ
  | succ n ih =>
    intro i hi hQ
    rw [wX12_enough_29]
    refine sw_f (nI_nlt (a := 7) (by omega) (by omega)) (m_haverIf hw ht hs (by omega) _ ?_)
    have b6 : aN (ma M 25) 6 ≤ 1 := hw.b 6 rfl
    have e : hav (ma M 25) (aN (ma M 25) 4) (aN (ma M 25) 5) (if side = 0 then i else aN (ma M 25) 12) (if side = 1 then i else aN (ma M 25) 13) = hav (ma M 25) (aN (ma M 25) 4) (aN (ma M 25) 5) (if side = 0 then i else aN (ma M 25) (12 + (1 - side))) (if side = 0 then aN (ma M 25) (12 + (1 - side)) else i) := by
      rcases (show side = 0 ∨ side = 1 by omega) with c | c <;> rw [c] <;> simp
    have hl : hav (ma M 25) (aN (ma M 25) 4) (aN (ma M 25) 5) (if side = 0 then i else aN (ma M 25) (12 + (1 - side))) (if side = 0 then aN (ma M 25) (12 + (1 - side)) else i) ≤ 1 := by
      exact hav_le hw _ _ _ _
    rw [e, nI_eq (by omega) (by omega), hav_has hw hs]
    rw [enS] at hQ
    by_cases c : hasN (ma M 25) (aN (ma M 25) 4) (aN (ma M 25) 5) side i (aN (ma M 25) (12 + (1 - side))) = true
    · rw [if_pos c] at hQ
      exact sw_t c hQ
    · rw [if_neg c] at hQ
      refine sw_f c (fun x hx => ?_)
      rw [hx, nI_1]
      exact ih (i + 1) (by omega) hQ
theorem c_enough_l {s : Nat → Int32} (hw : wfS s) {M0 M1 M2 M3 M4 M5 M6 M7 M8 M9 : gS} (hq : relQ s M3) (hg : s 3 = 1) {pen : Nat} {r : Int64} (hr : ∀ m t, m < 8 → t < 8 → m + t ≤ pen → lb r (8 * t + m) = Can s (aN s 4) (aN s 5) m t (LA s (aN s 6)) (LA s (1 - aN s 6))) {side : Nat} (hs : side ≤ 1) (hp : aN s (12 + (1 - side)) + 7 ≤ pen) (Q : Int32 → gS → gS → gS → gS → gS → gS → gS → gS → gS → gS → Prop) : ∀ n i, i + n = 8 → Q (enS s side n i) M0 M1 M2 M3 M4 M5 M6 M7 M8 M9 → wX11_enough_69 Q (n + 1) (nI side) (nI (aN s (12 + (1 - side)))) r (nI i) M0 M1 M2 M3 M4 M5 M6 M7 M8 M9 := by
  have p2 := purse_le hw (show 1 - side < 2 by omega)
  intro n
  induction n with
  | zero =>
    intro i hi hQ
    rw [wX11_enough_69]
    exact sw_t (nI_lt (a := 7) (by omega) (by omega)) hQ
  | succ n ih =>
    intro i hi hQ
    rw [wX11_enough_69]
    refine sw_f (nI_nlt (a := 7) (by omega) (by omega)) (c_hasWith hw hq hg hr hs (by omega) p2 (by omega) _ ?_)
    rw [enS] at hQ
    cases c : hasN s (aN s 4) (aN s 5) side i (aN s (12 + (1 - side))) with
    | true => rw [c, if_pos rfl] at hQ; exact bw_t hQ
    | false =>
      rw [c, if_neg (by decide)] at hQ
      refine bw_f (fun x hx => ?_)
      rw [hx, nI_1]
      exact ih (i + 1) (by omega) hQ
theorem t_enough {M M0 M1 M2 M3 M4 M5 M6 M7 M8 M9 : gS} (hi : inv M M0 M1 M2 M3 M4 M7) (p1 : Int32) : tieP M (fun Q => wX12_enough p1 M Q) (fun Q => wX11_enough p1 M0 M1 M2 M3 M4 M5 M6 M7 M8 M9 Q) := by
  obtain ⟨⟨hw, hsp⟩, ⟨hW, hC, hq, hO⟩, hT, hB⟩ := id hi
  have b4 : aN (ma M 25) 4 ≤ 72 := hw.b 4 rfl
  have b5 : aN (ma M 25) 5 ≤ 200 := hw.b 5 rfl
  have b6 : aN (ma M 25) 6 ≤ 1 := hw.b 6 rfl
  by_cases g : ma M 25 3 = 1
  rotate_left
  · refine tieP_same (M5 := M5) (M6 := M6) (M8 := M8) (M9 := M9) hi (-2) (fun Q h => m_goes_f g (bw_f (h _ (eqM_refl _)))) (fun Q h => ?_)
    by_cases c : p1 = 0 ∨ p1 = 1
    · exact c_side_t c (bw_t (sw_t (by rw [hq.1]; exact goes_n hw g) h))
    · exact c_side_f c (bw_f h)
  by_cases c : p1 = 0 ∨ p1 = 1
  rotate_left
  · exact tieP_same (M5 := M5) (M6 := M6) (M8 := M8) (M9 := M9) hi (-2) (fun Q h => m_goes_t g (bw_t (m_side_f c (bw_f (h _ (eqM_refl _)))))) (fun Q h => c_side_f c (bw_f h))
  have ho := hsp g
  obtain ⟨side, hs, rfl⟩ := side_nat c
  have pl := purse_le hw (show 1 - side < 2 by omega)
  refine tieP_7 (M5 := M5) (M6 := M6) (M8 := M8) (M9 := M9) hi (enS (ma M 25) side 8 0) (fun Q h => m_goes_t g (bw_t (m_side_t c (bw_t ?_)))) (fun Q h => c_side_t c (bw_t (sw_f (by rw [hq.1, g]; decide) ?_)))
  · rw [hw.n 4 rfl]
    refine m_fillsTable M hw (by omega) _ (fun tb htb => ⟨9, ?_⟩)
    exact m_enough_l (M := sF M 28 tb) hw (by rw [ma_sF1]; exact htb) hs Q 8 0 (by omega) (h _ (eq_28 _ _))
  · rw [show (1 : Int32) - nI side = nI (1 - side) from pk_sub hs, nI_clamp (by omega)]
    refine ⟨vp_in_nI (by omega) (by decide), fun x5 h5 => c_lasts hw hq g ?_⟩
    rw [hq.2.2.2.1 _ (by omega), hw.n _ (isB_12 _ (show 1 - side < 2 by omega))] at h5
    rw [h5, (hq.2.1 g).1, (hq.2.1 g).2.1, hw.n 4 rfl, hw.n 5 rfl, show (7 : Int32) = nI 7 from rfl, nI_add]
    refine c_winners hw hC ho.2.2.2 (by omega) (kj_le ho (by omega)) (kj_le ho (by omega)) b5 (by omega) hB _ (fun r N hN hr => ⟨9, ?_⟩)
    exact c_enough_l hw hq g hr hs (by omega) Q 8 0 (by omega) (h N hN)
-- the common divisor
theorem m_divisor_l {M : gS} {Q : Int32 → gS → Prop} : ∀ k y x, y < k → x < 1000 → y < 1000 → Q (nI (Nat.gcd x y)) M → wX12_divisor_4 Q k (nI x) (nI y) M := by
  intro k
  induction k with
  | zero => intro y x h; exact absurd h (Nat.not_lt_zero _)
  | succ k ih =>
    intro y x h hx hy hQ
    rw [wX12_divisor_4]
    by_cases c : y = 0
    · subst c
      rw [Nat.gcd_zero_right] at hQ
      exact sw_t rfl hQ
    · have n0 : ¬ nI y = 0 := nI_ne0 (by omega) (by omega)
      refine sw_f n0 ⟨n0, fun x2 h2 => ?_⟩
      rw [h2, pk_rem (by omega) (by omega) (by omega)]
      have hm := Nat.mod_lt x (show y > 0 by omega)
      refine ih (x % y) y (by omega) (by omega) (by omega) ?_
      rw [Nat.gcd_comm y (x % y), ← Nat.gcd_rec y x, Nat.gcd_comm y x]
      exact hQ
theorem m_divisor {M : gS} {x y : Nat} (hx : x < 1000) (hy : y < 1000) (Q : Int32 → gS → Prop) (hQ : Q (nI (Nat.gcd x y)) M) : wX12_divisor (nI x) (nI y) M Q := ⟨y + 1, m_divisor_l (y + 1) y x (by omega) hx hy hQ⟩
theorem c_div_l {a b : Nat} (ha : a < 1000) (hb : 1 ≤ b) (hb2 : b < 1000) (Q : Int32 → Prop) (hQ : Q (nI (Nat.gcd a b))) : ∀ k d found, d + k = b + 1 → 2 ≤ d → 1 ≤ found → found < 1000 → found ∣ a → found ∣ b → (∀ e, e < d → e ∣ a → e ∣ b → e ≤ found) → wX11_commonDivisor_4 Q (k + 1) (nI a) (nI b) (nI found) (nI d) := by
  intro k
  induction k with
  | zero =>
    intro d found hd hd2 h1 h2 ha' hb' hall
    rw [wX11_commonDivisor_4]
    refine sw_t (nI_lt (by omega) (by omega)) ?_
    have e : found = Nat.gcd a b := by
      apply Nat.le_antisymm
      · exact Nat.le_of_dvd (Nat.gcd_pos_of_pos_right a (by omega)) (Nat.dvd_gcd ha' hb')
      · refine hall _ ?_ (Nat.gcd_dvd_left a b) (Nat.gcd_dvd_right a b)
        have := Nat.le_of_dvd (by omega) (Nat.gcd_dvd_right a b)
        omega
    rw [e]; exact hQ
  | succ k ih =>
    intro d found hd hd2 h1 h2 ha' hb' hall
    have n0 : ¬ nI d = 0 := nI_ne0 (by omega) (by omega)
    rw [wX11_commonDivisor_4, pk_rem (by omega) (by omega) (by omega), pk_rem (by omega) (by omega) (by omega)]
    have m1 := Nat.mod_lt a (show d > 0 by omega)
    have m2 := Nat.mod_lt b (show d > 0 by omega)
    refine sw_f (nI_nlt (by omega) (by omega)) ⟨n0, ?_⟩
    have skip : ¬ (d ∣ a ∧ d ∣ b) → wX11_commonDivisor_23 (fun y0 y1 y2 y3 => wX11_commonDivisor_4 Q (k + 1) y0 y1 y2 y3) Q (nI a) (nI b) (nI found) (nI d) := by
      intro hn
      unfold wX11_commonDivisor_23
      intro x hx
      rw [hx, nI_1]
      refine ih (d + 1) found (by omega) (by omega) h1 h2 ha' hb' (fun e he e1 e2 => ?_)
      by_cases c : e = d
      · subst c; exact absurd ⟨e1, e2⟩ hn
      · exact hall e (by omega) e1 e2
    by_cases c1 : a % d = 0
    · refine sw_t (by rw [c1]; rfl) ⟨n0, ?_⟩
      by_cases c2 : b % d = 0
      · refine sw_t (by rw [c2]; rfl) ?_
        unfold wX11_commonDivisor_23
        intro x hx
        rw [hx, nI_1]
        exact ih (d + 1) d (by omega) (by omega) (by omega) (by omega) (Nat.dvd_of_mod_eq_zero c1) (Nat.dvd_of_mod_eq_zero c2) (fun e he _ _ => by omega)
      · refine sw_f (by rw [show (0 : Int32) = nI 0 from rfl, nI_eq (by omega) (by omega)]; exact c2) (skip (fun z => c2 (Nat.mod_eq_zero_of_dvd z.2)))
    · refine sw_f (by rw [show (0 : Int32) = nI 0 from rfl, nI_eq (by omega) (by omega)]; exact c1) (skip (fun z => c1 (Nat.mod_eq_zero_of_dvd z.1)))
theorem c_commonDivisor {a b : Nat} (ha : a < 1000) (hb : 1 ≤ b) (hb2 : b < 1000) (Q : Int32 → Prop) (hQ : Q (nI (Nat.gcd a b))) : wX11_commonDivisor (nI a) (nI b) Q := by
  refine ⟨b - 1 + 1, c_div_l ha hb hb2 Q hQ (b - 1) 2 1 (by omega) (by omega) (by omega) (by omega) (Nat.one_dvd a) (Nat.one_dvd b) (fun e he e1 e2 => by omega)⟩
def cH (s : Nat → Int32) (side : Nat) : Nat → Nat → Nat → Nat
  | 0, _, acc => acc
  | n + 1, i, acc => cH s side n (i + 1) (acc + if hasN s (aN s 4) (aN s 5) side (aN s (12 + side)) i = true then 1 else 0)
theorem cH_le (s : Nat → Int32) (side : Nat) : ∀ n i acc, cH s side n i acc ≤ acc + n := by
  intro n
  induction n with
  | zero => intro i acc; exact Nat.le_refl _
  | succ n ih =>
    intro i acc
    rw [cH]
    have := ih (i + 1) (acc + if hasN s (aN s 4) (aN s 5) side (aN s (12 + side)) i = true then 1 else 0)
    have h1 : (if hasN s (aN s 4) (aN s 5) side (aN s (12 + side)) i = true then 1 else 0) ≤ 1 := ite_le1 (by omega) (by omega)
    omega
/-- the answer of hidden -/
def hidR (part m many : Nat) : Int32 := (if part = 0 then nI many else nI (m + 1)) / nI (Nat.gcd many (m + 1))
theorem m_hidden_l {M : gS} (hw : wfS (ma M 25)) (ht : tabF (ma M 25) (aN (ma M 25) 4) (ma M 28)) {side m part : Nat} (hs : side ≤ 1) (hm : m ≤ 7) (hp : part ≤ 1) (Q : Int32 → gS → Prop) : ∀ n i acc, i + n = m + 1 → acc ≤ i → Q (hidR part m (cH (ma M 25) side n i acc)) M → wX12_hidden_55 Q (n + 1) (nI side) (nI m) (nI part) (nI acc) (nI i) M := by
  have b6 : aN (ma M 25) 6 ≤ 1 := hw.b 6 rfl
  intro n
  induction n with
  | zero =>
    intro i acc hi ha hQ
    rw [wX12_hidden_55]
    refine sw_t (nI_lt (by omega) (by omega)) ?_
    rw [cH] at hQ
    have g0 : 0 < Nat.gcd acc (m + 1) := Nat.gcd_pos_of_pos_right acc (by omega)
    have g1 : Nat.gcd acc (m + 1) ≤ m + 1 := Nat.le_of_dvd (by omega) (Nat.gcd_dvd_right acc (m + 1))
    unfold hidR at hQ
    by_cases c : part = 0
    · rw [if_pos c] at hQ
      refine sw_t (by rw [c]; rfl) ?_
      unfold wX12_hidden_102
      rw [nI_1]
      exact m_divisor (by omega) (by omega) _ ⟨nI_ne0 g0 (by omega), hQ⟩
    · rw [if_neg c] at hQ
      refine sw_f (nI_ne0 (by omega) (by omega)) ?_
      unfold wX12_hidden_102
      rw [nI_1]
      exact m_divisor (by omega) (by omega) _ ⟨nI_ne0 g0 (by omega), hQ⟩
  | succ n ih =>
    intro i acc hi ha hQ
    rw [wX12_hidden_55]
    rw [show (1 : Int32) - nI side = nI (1 - side) from pk_sub hs]
    refine sw_f (nI_nlt (by omega) (by omega)) (m_haverIf hw ht (by omega) (by omega) _ ?_)
    have e : hav (ma M 25) (aN (ma M 25) 4) (aN (ma M 25) 5) (if 1 - side = 0 then i else aN (ma M 25) 12) (if 1 - side = 1 then i else aN (ma M 25) 13) = hav (ma M 25) (aN (ma M 25) 4) (aN (ma M 25) 5) (if side = 0 then aN (ma M 25) (12 + side) else i) (if side = 0 then i else aN (ma M 25) (12 + side)) := by
      rcases (show side = 0 ∨ side = 1 by omega) with c | c <;> rw [c] <;> simp
    have hl : hav (ma M 25) (aN (ma M 25) 4) (aN (ma M 25) 5) (if side = 0 then aN (ma M 25) (12 + side) else i) (if side = 0 then i else aN (ma M 25) (12 + side)) ≤ 1 := by
      exact hav_le hw _ _ _ _
    rw [e, nI_eq (by omega) (by omega), hav_has hw hs]
    rw [cH] at hQ
    by_cases c : hasN (ma M 25) (aN (ma M 25) 4) (aN (ma M 25) 5) side (aN (ma M 25) (12 + side)) i = true
    · rw [if_pos c] at hQ
      refine sw_t c ?_
      unfold wX12_hidden_81
      intro x1 h1 x2 h2
      rw [h1, h2, nI_1, nI_1]
      exact ih (i + 1) (acc + 1) (by omega) (by omega) hQ
    · rw [if_neg c] at hQ
      refine sw_f c ?_
      unfold wX12_hidden_81
      intro x1 h1 x2 h2
      rw [h1, h2, nI_1, Int32.add_zero]
      exact ih (i + 1) acc (by omega) (by omega) hQ
theorem c_hidden_l {s : Nat → Int32} (hw : wfS s) {M0 M1 M2 M3 M4 M5 M6 M7 M8 M9 : gS} (hq : relQ s M3) (hg : s 3 = 1) {pen : Nat} {r : Int64} (hr : ∀ m t, m < 8 → t < 8 → m + t ≤ pen → lb r (8 * t + m) = Can s (aN s 4) (aN s 5) m t (LA s (aN s 6)) (LA s (1 - aN s 6))) {side m part : Nat} (hs : side ≤ 1) (hm : m ≤ 7) (hp : part ≤ 1) (hpn : aN s (12 + side) + m ≤ pen) (Q : Int32 → gS → gS → gS → gS → gS → gS → gS → gS → gS → gS → Prop) : ∀ n i acc, i + n = m + 1 → acc ≤ i → Q (hidR part m (cH s side n i acc)) M0 M1 M2 M3 M4 M5 M6 M7 M8 M9 → wX11_hidden_93 Q (n + 1) (nI side) (nI m) (nI part) (nI (aN s (12 + side))) r (nI acc) (nI i) M0 M1 M2 M3 M4 M5 M6 M7 M8 M9 := by
  have p2 := purse_le hw (show side < 2 by omega)
  intro n
  induction n with
  | zero =>
    intro i acc hi ha hQ
    rw [wX11_hidden_93]
    refine sw_t (nI_lt (by omega) (by omega)) ?_
    rw [cH] at hQ
    have g0 : 0 < Nat.gcd acc (m + 1) := Nat.gcd_pos_of_pos_right acc (by omega)
    have g1 : Nat.gcd acc (m + 1) ≤ m + 1 := Nat.le_of_dvd (by omega) (Nat.gcd_dvd_right acc (m + 1))
    rw [nI_1]
    refine c_commonDivisor (by omega) (by omega) (by omega) _ ?_
    unfold hidR at hQ
    by_cases c : part = 0
    · rw [if_pos c] at hQ
      refine sw_t (by rw [c]; rfl) ?_
      unfold wX11_hidden_144
      exact sw_f (nI_nle g0 (by omega)) ⟨nI_ne0 g0 (by omega), hQ⟩
    · rw [if_neg c] at hQ
      refine sw_f (nI_ne0 (by omega) (by omega)) ?_
      unfold wX11_hidden_144
      exact sw_f (nI_nle g0 (by omega)) ⟨nI_ne0 g0 (by omega), hQ⟩
  | succ n ih =>
    intro i acc hi ha hQ
    rw [wX11_hidden_93]
    refine sw_f (nI_nlt (by omega) (by omega)) (c_hasWith hw hq hg hr hs p2 (by omega) (by omega) _ ?_)
    rw [cH] at hQ
    cases c : hasN s (aN s 4) (aN s 5) side (aN s (12 + side)) i with
    | true =>
      rw [c, if_pos rfl] at hQ
      refine bw_t (fun x hx => ?_)
      unfold wX11_hidden_116
      intro x1 h1
      rw [h1, hx, nI_1, nI_1]
      exact ih (i + 1) (acc + 1) (by omega) (by omega) hQ
    | false =>
      rw [c, if_neg (by decide)] at hQ
      refine bw_f ?_
      unfold wX11_hidden_116
      intro x1 h1
      rw [h1, nI_1]
      exact ih (i + 1) acc (by omega) (by omega) hQ
theorem t_hidden {M M0 M1 M2 M3 M4 M5 M6 M7 M8 M9 : gS} (hi : inv M M0 M1 M2 M3 M4 M7) (p1 p2 p3 : Int32) : tieP M (fun Q => wX12_hidden p1 p2 p3 M Q) (fun Q => wX11_hidden p1 p2 p3 M0 M1 M2 M3 M4 M5 M6 M7 M8 M9 Q) := by
  obtain ⟨⟨hw, hsp⟩, ⟨hW, hC, hq, hO⟩, hT, hB⟩ := id hi
  have b4 : aN (ma M 25) 4 ≤ 72 := hw.b 4 rfl
  have b5 : aN (ma M 25) 5 ≤ 200 := hw.b 5 rfl
  have b6 : aN (ma M 25) 6 ≤ 1 := hw.b 6 rfl
  by_cases ok : ma M 25 3 = 1 ∧ (p1 = 0 ∨ p1 = 1) ∧ (0 ≤ p2 ∧ p2 ≤ 7) ∧ (0 ≤ p3 ∧ p3 ≤ 1)
  rotate_left
  · refine tieP_same (M5 := M5) (M6 := M6) (M8 := M8) (M9 := M9) hi (-2) (fun Q h => ?_) (fun Q h => ?_)
    · by_cases g : ma M 25 3 = 1
      · refine m_goes_t g (bw_t ?_)
        by_cases c : p1 = 0 ∨ p1 = 1
        · refine m_side_t c (bw_t ?_)
          by_cases d : 0 ≤ p2 ∧ p2 ≤ 7
          · refine m_in_t (lo := 0) (hi := 7) (by decide) (by decide) d.1 d.2 (bw_t ?_)
            exact m_in_f (lo := 0) (hi := 1) (by decide) (by decide) (fun z => ok ⟨g, c, d, z⟩) (bw_f (h _ (eqM_refl _)))
          · exact m_in_f (lo := 0) (hi := 7) (by decide) (by decide) d (bw_f (h _ (eqM_refl _)))
        · exact m_side_f c (bw_f (h _ (eqM_refl _)))
      · exact m_goes_f g (bw_f (h _ (eqM_refl _)))
    · by_cases c : p1 = 0 ∨ p1 = 1
      · refine c_side_t c (bw_t ?_)
        by_cases d : 0 ≤ p2 ∧ p2 ≤ 7
        · refine c_purse_t d (bw_t ?_)
          by_cases e : p3 < 0
          · exact sw_t e h
          · refine sw_f e ?_
            by_cases e2 : 1 < p3
            · exact sw_t e2 h
            · refine sw_f e2 (sw_t ?_ h)
              rw [hq.1]
              exact goes_n hw (fun g => ok ⟨g, c, d, nlt_le.1 e, nlt_le.1 e2⟩)
        · exact c_purse_f d (bw_f h)
      · exact c_side_f c (bw_f h)
  obtain ⟨g, c, d, e⟩ := ok
  have ho := hsp g
  obtain ⟨side, hs, rfl⟩ := side_nat c
  obtain ⟨m, hm, rfl⟩ := rng_n (b := 7) (by omega) d.1 d.2
  obtain ⟨part, hp, rfl⟩ := rng_n (b := 1) (by omega) e.1 e.2
  have pl := purse_le hw (show side < 2 by omega)
  refine tieP_7 (M5 := M5) (M6 := M6) (M8 := M8) (M9 := M9) hi (hidR part m (cH (ma M 25) side (m + 1) 0 0)) (fun Q h => m_goes_t g (bw_t (m_side_t c (bw_t (m_in_t (lo := 0) (hi := 7) (by decide) (by decide) d.1 d.2 (bw_t (m_in_t (lo := 0) (hi := 1) (by decide) (by decide) e.1 e.2 (bw_t ?_)))))))) (fun Q h => c_side_t c (bw_t (c_purse_t d (bw_t (sw_f (nlt_le.2 e.1) (sw_f (nlt_le.2 e.2) (sw_f (by rw [hq.1, g]; decide) ?_)))))))
  · rw [hw.n 4 rfl]
    refine m_fillsTable M hw (by omega) _ (fun tb htb => ⟨m + 1 + 1, ?_⟩)
    exact m_hidden_l (M := sF M 28 tb) hw (by rw [ma_sF1]; exact htb) hs hm hp Q (m + 1) 0 0 (by omega) (by omega) (h _ (eq_28 _ _))
  · rw [nI_clamp (by omega)]
    refine ⟨vp_in_nI (by omega) (by decide), fun x5 h5 => c_lasts hw hq g ?_⟩
    rw [hq.2.2.2.1 _ (by omega), hw.n _ (isB_12 _ (show side < 2 by omega))] at h5
    rw [h5, (hq.2.1 g).1, (hq.2.1 g).2.1, hw.n 4 rfl, hw.n 5 rfl, nI_add]
    refine c_winners hw hC ho.2.2.2 (by omega) (kj_le ho (by omega)) (kj_le ho (by omega)) b5 (by omega) hB _ (fun r N hN hr => ⟨m + 1 + 1, ?_⟩)
    exact c_hidden_l hw hq g hr hs hm hp (Nat.le_refl _) Q (m + 1) 0 0 (by omega) (by omega) (h N hN)
