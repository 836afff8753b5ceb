-- PURE: have, move
def kj (s : Nat → Int32) (j : Nat) : Nat := if aN s (14 + j) = 9 then 0 else aN s (14 + j) + 1
def LA (s : Nat → Int32) (j : Nat) : Nat := lk (kj s j)
theorem LA_eq {s : Nat → Int32} (j : Nat) : LA s j = if aN s (14 + j) = 9 then 4 else aN s (14 + j) := by
  unfold LA kj lk
  split
  · rw [if_pos rfl]
  · rw [if_neg (by omega), Nat.add_sub_cancel]
theorem LA_le {s : Nat → Int32} (hw : wfS s) {j : Nat} (hj : j < 2) : LA s j ≤ 4 := by
  have := hw.2.1 j hj
  rw [LA_eq]
  split <;> omega
theorem m_lastAs {M : gS} (hw : wfS (ma M 25)) {j : Nat} (hj : j < 2) {Q : Int32 → gS → Prop} (h : Q (nI (LA (ma M 25) j)) M) : wX12_lastAs (ma M 25 (14 + j)) M Q := by
  have b := hw.b (14 + j) (isB_14 _ hj); rw [bnd_14 _ hj] at b
  have e := hw.n (14 + j) (isB_14 _ hj)
  unfold wX12_lastAs
  rw [LA_eq] at h
  rw [e]
  by_cases c : aN (ma M 25) (14 + j) = 9
  · rw [if_pos c] at h
    exact sw_t (by rw [c]; rfl) h
  · rw [if_neg c] at h
    exact sw_f (by rw [show (9 : Int32) = nI 9 from rfl, nI_eq (by omega) (by omega)]; exact c) h
def hav (s : Nat → Int32) (v left one other : Nat) : Nat := if Can s v left (if aN s 6 = 0 then one else other) (if aN s 6 = 0 then other else one) (LA s (aN s 6)) (LA s (1 - aN s 6)) = true then aN s 6 else 1 - aN s 6
theorem m_haver {M : gS} (hw : wfS (ma M 25)) {v : Nat} (ht : tabF (ma M 25) v (ma M 28)) {left one other : Nat} (h1 : left ≤ 200) (h2 : one ≤ 7) (h3 : other ≤ 7) (Q : Int32 → gS → Prop) (h : Q (nI (hav (ma M 25) v left one other)) M) : wX12_haver (nI left) (nI one) (nI other) M Q := by
  have b6 : aN (ma M 25) 6 ≤ 1 := hw.b 6 rfl
  have e6 := hw.n 6 rfl
  have key : ∀ m t, m ≤ 7 → t ≤ 7 → hav (ma M 25) v left one other = (if Can (ma M 25) v left m t (LA (ma M 25) (aN (ma M 25) 6)) (LA (ma M 25) (1 - aN (ma M 25) 6)) = true then aN (ma M 25) 6 else 1 - aN (ma M 25) 6) → wX12_haver_31 Q (nI (aN (ma M 25) 6)) (nI left) (nI m) (nI t) M := by
    intro m t hm hT hh
    unfold wX12_haver_31
    rw [show (14 : Int32) + nI (aN (ma M 25) 6) = nI (14 + aN (ma M 25) 6) from nI_add 14 _, show (15 : Int32) - nI (aN (ma M 25) 6) = nI (15 - aN (ma M 25) 6) from pk_sub (show aN (ma M 25) 6 ≤ 15 by omega), nI_clamp (by omega), nI_clamp (by omega)]
    refine ⟨vp_in_nI (by omega) (by decide), m_lastAs hw (by omega) ⟨vp_in_nI (by omega) (by decide), ?_⟩⟩
    rw [show 15 - aN (ma M 25) 6 = 14 + (1 - aN (ma M 25) 6) by omega]
    refine m_lastAs hw (by omega) (m_can M h1 hm hT (LA_le hw (by omega)) (LA_le hw (by omega)) _ ?_)
    rw [ht left m t _ _ h1 hm hT (LA_le hw (by omega)) (LA_le hw (by omega))]
    rw [hh] at h
    cases hb : Can (ma M 25) v left m t (LA (ma M 25) (aN (ma M 25) 6)) (LA (ma M 25) (1 - aN (ma M 25) 6)) with
    | true => rw [hb, if_pos rfl] at h; exact bw_t h
    | false =>
      rw [hb, if_neg (by decide)] at h
      rw [show (1 : Int32) = nI 1 from rfl, pk_sub b6]
      exact bw_f h
  unfold wX12_haver
  intro x1 hx1
  rw [hx1, e6]
  rcases (show aN (ma M 25) 6 = 0 ∨ aN (ma M 25) 6 = 1 by omega) with c | c
  · refine sw_t (by rw [c]; rfl) ?_
    unfold wX12_haver_21
    refine sw_t (by rw [c]; rfl) (key one other h2 h3 ?_)
    unfold hav
    rw [if_pos c, if_pos c]
  · have n0 : ¬ nI (aN (ma M 25) 6) = 0 := by rw [c]; decide
    refine sw_f n0 ?_
    unfold wX12_haver_21
    refine sw_f n0 (key other one h3 h2 ?_)
    unfold hav
    rw [if_neg (show ¬ aN (ma M 25) 6 = 0 by omega), if_neg (show ¬ aN (ma M 25) 6 = 0 by omega)]
theorem c_my {s : Nat → Int32} (hw : wfS s) {M3 : gS} (hq : relQ s M3) (hg : s 3 = 1) {Q : Int32 → gS → Prop} (h : Q (nI (aN s (12 + aN s 6))) M3) : wX6_myPurse M3 Q := by
  have b6 : aN s 6 ≤ 1 := hw.b 6 rfl
  unfold wX6_myPurse
  rw [(hq.2.1 hg).2.2.1, hw.n 6 rfl, nI_clamp (by omega), hq.2.2.2.1 _ (by omega), hw.n _ (isB_12 _ (show aN s 6 < 2 by omega))]
  exact ⟨vp_in_nI (by omega) (by decide), h⟩
theorem c_their {s : Nat → Int32} (hw : wfS s) {M3 : gS} (hq : relQ s M3) (hg : s 3 = 1) {Q : Int32 → gS → Prop} (h : Q (nI (aN s (12 + (1 - aN s 6)))) M3) : wX6_theirPurse M3 Q := by
  have b6 : aN s 6 ≤ 1 := hw.b 6 rfl
  unfold wX6_theirPurse
  rw [(hq.2.1 hg).2.2.1, hw.n 6 rfl, show (1 : Int32) = nI 1 from rfl, pk_sub b6, nI_clamp (by omega), hq.2.2.2.1 _ (by omega), hw.n _ (isB_12 _ (show 1 - aN s 6 < 2 by omega))]
  exact ⟨vp_in_nI (by omega) (by decide), h⟩
theorem last_k {s : Nat → Int32} (hw : wfS s) {j : Nat} (hj : j < 2) : lastC (s (14 + j)) + 1 = nI (kj s j) := by
  have b := hw.b (14 + j) (isB_14 _ hj); rw [bnd_14 _ hj] at b
  have e := hw.n (14 + j) (isB_14 _ hj)
  unfold lastC kj
  by_cases c : aN s (14 + j) = 9
  · rw [if_pos c, if_pos (by rw [e, c]; rfl)]; decide
  · rw [if_neg c, if_neg (by rw [e, show (9 : Int32) = nI 9 from rfl, nI_eq (by omega) (by omega)]; exact c), e, nI_1]
theorem c_lasts {s : Nat → Int32} (hw : wfS s) {M3 : gS} (hq : relQ s M3) (hg : s 3 = 1) {Q : Int32 → gS → Prop} (h : Q (nI (8 * kj s (aN s 6) + kj s (1 - aN s 6))) M3) : wX6_lasts M3 Q := by
  have b6 : aN s 6 ≤ 1 := hw.b 6 rfl
  unfold wX6_lasts
  rw [(hq.2.1 hg).2.2.1, hw.n 6 rfl, show (1 : Int32) - nI (aN s 6) = nI (1 - aN s 6) from pk_sub b6, nI_clamp (by omega), nI_clamp (by omega), hq.2.2.2.2.1 (Or.inl hg) _ (by omega), hq.2.2.2.2.1 (Or.inl hg) _ (by omega), Int32.add_assoc, last_k hw (by omega), last_k hw (by omega), show (8 : Int32) = nI 8 from rfl, pk_mul, nI_add]
  exact ⟨vp_in_nI (by omega) (by decide), vp_in_nI (by omega) (by decide), h⟩
theorem kj_le {s : Nat → Int32} (ho : onS s) {j : Nat} (hj : j < 2) : kj s j ≤ aN s 1 := by
  have := ho.2.2.1 j hj
  unfold kj
  split <;> omega
theorem purse_le {s : Nat → Int32} (hw : wfS s) {j : Nat} (hj : j < 2) : aN s (12 + j) ≤ 7 := by
  have b := hw.b (12 + j) (isB_12 _ hj); rw [bnd_12 _ hj] at b; exact b
theorem c_turnHas {s : Nat → Int32} (hw : wfS s) (ho : onS s) {M0 M1 M2 M3 M4 M5 M6 M7 M8 M9 : gS} (hC : relC s M2) (hq : relQ s M3) (hg : s 3 = 1) (hB : okB M7) {v left : Nat} (hv : 1 ≤ v) (hv2 : v ≤ 100) (hl : left ≤ 200) (Q : Bool → gS → gS → gS → gS → gS → gS → gS → gS → gS → gS → Prop) (h : ∀ N7, okB N7 → Q (Can s v left (aN s (12 + aN s 6)) (aN s (12 + (1 - aN s 6))) (LA s (aN s 6)) (LA s (1 - aN s 6))) M0 M1 M2 M3 M4 M5 M6 N7 M8 M9) : wX11_turnHas (nI v) (nI left) M0 M1 M2 M3 M4 M5 M6 M7 M8 M9 Q := by
  have b6 : aN s 6 ≤ 1 := hw.b 6 rfl
  have p1 := purse_le hw (show aN s 6 < 2 by omega)
  have p2 := purse_le hw (show 1 - aN s 6 < 2 by omega)
  unfold wX11_turnHas
  refine c_my hw hq hg (c_their hw hq hg (c_lasts hw hq hg ?_))
  rw [nI_add]
  refine c_winners hw hC hv hv2 (kj_le ho (by omega)) (kj_le ho (by omega)) hl (by omega) hB _ (fun r N hN hr => c_holds r (by omega) (by omega) _ ?_)
  rw [hr _ _ (by omega) (by omega) (Nat.le_refl _)]
  exact h N hN
theorem tieP_7 {M M0 M1 M2 M3 M4 M5 M6 M7 M8 M9 : gS} {wr : (Int32 → gS → Prop) → Prop} {wc : (Int32 → gS → gS → gS → gS → gS → gS → gS → gS → gS → gS → Prop) → Prop} (hi : inv M M0 M1 M2 M3 M4 M7) (r : Int32) (hr : ∀ Q : Int32 → gS → Prop, (∀ N, eqM M N → Q r N) → wr Q) (hc : ∀ Q : Int32 → gS → gS → gS → gS → gS → gS → gS → gS → gS → gS → Prop, (∀ N7, okB N7 → Q r M0 M1 M2 M3 M4 M5 M6 N7 M8 M9) → wc Q) : tieP M wr wc :=
  ⟨r, M, keepR_refl M, hr, fun Q h => hc Q (fun N7 h7 => h _ _ _ _ _ _ _ _ _ _ ⟨hi.1, hi.2.1, hi.2.2.1, h7⟩)⟩
theorem eq_28 (M : gS) (tb : Nat → Int32) : eqM M (sF M 28 tb) := ⟨rfl, rfl, rfl, rfl, rfl, rfl, rfl, rfl, rfl⟩
theorem t_have {M M0 M1 M2 M3 M4 M5 M6 M7 M8 M9 : gS} (hi : inv M M0 M1 M2 M3 M4 M7) : tieP M (fun Q => wX12_have M Q) (fun Q => wX11_have M0 M1 M2 M3 M4 M5 M6 M7 M8 M9 Q) := by
  obtain ⟨⟨hw, hsp⟩, ⟨hW, hC, hq, hO⟩, hT, hB⟩ := id hi
  have b4 : aN (ma M 25) 4 ≤ 72 := hw.b 4 rfl
  have b5 : aN (ma M 25) 5 ≤ 200 := hw.b 5 rfl
  have b6 : aN (ma M 25) 6 ≤ 1 := hw.b 6 rfl
  by_cases g : ma M 25 3 = 1
  rotate_left
  · refine tieP_same (M5 := M5) (M6 := M6) (M8 := M8) (M9 := M9) hi (-2) (fun Q h => m_goes_f g (bw_f (h _ (eqM_refl _)))) (fun Q h => sw_t (by rw [hq.1]; exact goes_n hw g) h)
  have ho := hsp g
  refine tieP_7 (M5 := M5) (M6 := M6) (M8 := M8) (M9 := M9) hi (nI (hav (ma M 25) (aN (ma M 25) 4) (aN (ma M 25) 5) (aN (ma M 25) 12) (aN (ma M 25) 13))) (fun Q h => m_goes_t g (bw_t ?_)) (fun Q h => sw_f (by rw [hq.1, g]; decide) ?_)
  · rw [hw.n 4 rfl]
    refine m_fillsTable M hw (by omega) _ (fun tb htb => ?_)
    show wX12_haver (ma M 25 5) (ma M 25 12) (ma M 25 13) (sF M 28 tb) _
    rw [hw.n 5 rfl, hw.n 12 rfl, hw.n 13 rfl]
    exact m_haver (M := sF M 28 tb) hw (v := aN (ma M 25) 4) (by rw [ma_sF1]; exact htb) b5 (purse_le hw (j := 0) (by omega)) (purse_le hw (j := 1) (by omega)) _ (h _ (eq_28 _ _))
  · rw [(hq.2.1 g).1, (hq.2.1 g).2.1, hw.n 4 rfl, hw.n 5 rfl]
    refine c_turnHas hw ho hC hq g hB ho.2.2.2 (by omega) b5 _ (fun N7 h7 => ?_)
    rw [(hq.2.1 g).2.2.1]
    have hh := h N7 h7
    have e : hav (ma M 25) (aN (ma M 25) 4) (aN (ma M 25) 5) (aN (ma M 25) 12) (aN (ma M 25) 13) = if Can (ma M 25) (aN (ma M 25) 4) (aN (ma M 25) 5) (aN (ma M 25) (12 + aN (ma M 25) 6)) (aN (ma M 25) (12 + (1 - aN (ma M 25) 6))) (LA (ma M 25) (aN (ma M 25) 6)) (LA (ma M 25) (1 - aN (ma M 25) 6)) = true then aN (ma M 25) 6 else 1 - aN (ma M 25) 6 := by
      unfold hav
      rcases (show aN (ma M 25) 6 = 0 ∨ aN (ma M 25) 6 = 1 by omega) with c | c <;> rw [c] <;> rfl
    rw [e] at hh
    rw [hw.n 6 rfl, show (1 : Int32) = nI 1 from rfl, pk_sub b6]
    cases hb : Can (ma M 25) (aN (ma M 25) 4) (aN (ma M 25) 5) (aN (ma M 25) (12 + aN (ma M 25) 6)) (aN (ma M 25) (12 + (1 - aN (ma M 25) 6))) (LA (ma M 25) (aN (ma M 25) 6)) (LA (ma M 25) (1 - aN (ma M 25) 6)) with
    | true => rw [hb, if_pos rfl] at hh; exact bw_t hh
    | false => rw [hb, if_neg (by decide)] at hh; exact bw_f hh
