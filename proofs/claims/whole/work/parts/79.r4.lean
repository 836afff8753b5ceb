-- PURE: the tape
def byt (v k : Int32) : Int32 := vp_nar .byte (Int8.toInt32 (Int32.toInt8 (v >>> (k &&& 31))))
def cby (v : Int32) (n : Nat) : Int32 := ((v.toUInt32 >>> ((nI n).toUInt32 &&& Int32.toUInt32 31)).toInt32) &&& 255
theorem byt_byte (v k : Int32) : isByte (byt v k) := by
  unfold byt isByte
  rw [vp_nar_byte, Int8.toInt_toInt32]
  have h1 := Int8.le_toInt (Int8.toInt32 (Int32.toInt8 (v >>> (k &&& 31)))).toInt8
  have h2 := Int8.toInt_lt (Int8.toInt32 (Int32.toInt8 (v >>> (k &&& 31)))).toInt8
  omega
theorem byt_c (v : Int32) (n : Nat) (hn : n ≤ 24) : cby v n = byt v (nI n) &&& 255 := by
  unfold byt cby
  rw [vp_nar_byte, bp_b, bp_b]
  apply b_ext
  intro i hi
  rw [b_and, b_and, b_255, b_sshr n (by omega) v hi, b_ushr n (by omega) v i]
  by_cases h : i < 8
  · rw [if_pos (by omega)]
  · simp [h]
def putB (M : gS) (b : Int32) : gS := sg (sa M 0 (Int32.toNatClampNeg (mg M 1)) b) 1 (mg M 1 + 1)
def four4 (M : gS) (f : Nat → Int32) : gS := putB (putB (putB (putB M (f 24)) (f 16)) (f 8)) (f 0)
theorem put_1 {M : gS} {b : Int32} {n : Nat} (h : mg M 1 = nI n) : mg (putB M b) 1 = nI (n + 1) := by
  show mg M 1 + 1 = _
  rw [h, nI_1]
theorem m_four_s {v : Int32} {M : gS} {n : Nat} (hn : n < 400) (h1 : mg M 1 = nI n) {k : Nat} (hk : k ≤ 24) {f : Nat} {Q : gS → Prop} (h : wX12_four_3 Q f v (nI k + (-8)) (putB M (byt v (nI k)))) : wX12_four_3 Q (f + 1) v (nI k) M := by
  rw [wX12_four_3]
  refine sw_f (nI_pos (by omega)) (fun x2 h2 => ⟨by rw [h1]; exact vp_in_nI hn (by decide), fun M3 h3 x4 h4 M5 h5 x6 h6 => ?_⟩)
  have e : M5 = putB M (byt v (nI k)) := by subst h5 h4 h3 h2; rfl
  rw [e, h6]
  exact h
theorem m_four {v : Int32} {M : gS} {n : Nat} (hn : n + 4 ≤ 400) (h1 : mg M 1 = nI n) {Q : gS → Prop} (h : Q (four4 M (fun k => byt v (nI k)))) : wX12_four v M Q := by
  refine ⟨5, ?_⟩
  refine m_four_s (k := 24) (by omega) h1 (by omega) ?_
  refine m_four_s (k := 16) (n := n + 1) (by omega) (put_1 h1) (by omega) ?_
  refine m_four_s (k := 8) (n := n + 2) (by omega) (put_1 (put_1 h1)) (by omega) ?_
  refine m_four_s (k := 0) (n := n + 3) (by omega) (put_1 (put_1 (put_1 h1))) (by omega) ?_
  rw [wX12_four_3]
  exact sw_t (by decide) h
theorem c_four_s {v : Int32} {M0 M1 M2 M3 M4 M5 M6 M7 M8 M9 : gS} {n : Nat} (hn : n < 400) (h1 : mg M0 1 = nI n) {k : Nat} (hk : k ≤ 24) {f : Nat} {Q : gS → gS → gS → gS → gS → gS → gS → gS → gS → gS → Prop} (h : wX11_putBytes_3 Q f v (nI k + (-8)) (putB M0 (cby v k)) M1 M2 M3 M4 M5 M6 M7 M8 M9) : wX11_putBytes_3 Q (f + 1) v (nI k) M0 M1 M2 M3 M4 M5 M6 M7 M8 M9 := by
  rw [wX11_putBytes_3]
  refine sw_f (nI_pos (by omega)) (sw_f (by rw [h1]; exact nI_ge hn (by decide)) (fun x3 h3 => ⟨by rw [h1]; exact vp_in_nI hn (by decide), fun N4 h4 x5 h5 N6 h6 => ?_⟩))
  unfold wX11_putBytes_43
  intro x hx
  have e : N6 = putB M0 (cby v k) := by subst h6 h5 h4 h3; rfl
  rw [e, hx]
  exact h
theorem c_four {v : Int32} {M0 M1 M2 M3 M4 M5 M6 M7 M8 M9 : gS} {n : Nat} (hn : n + 4 ≤ 400) (h1 : mg M0 1 = nI n) {Q : gS → gS → gS → gS → gS → gS → gS → gS → gS → gS → Prop} (h : Q (four4 M0 (cby v)) M1 M2 M3 M4 M5 M6 M7 M8 M9) : wX11_putBytes v M0 M1 M2 M3 M4 M5 M6 M7 M8 M9 Q := by
  refine ⟨5, ?_⟩
  refine c_four_s (k := 24) (by omega) h1 (by omega) ?_
  refine c_four_s (k := 16) (n := n + 1) (by omega) (put_1 h1) (by omega) ?_
  refine c_four_s (k := 8) (n := n + 2) (by omega) (put_1 (put_1 h1)) (by omega) ?_
  refine c_four_s (k := 0) (n := n + 3) (by omega) (put_1 (put_1 (put_1 h1))) (by omega) ?_
  rw [wX11_putBytes_3]
  exact sw_t (by decide) h
theorem relT_put {M M0 : gS} (h : relT M M0) {n : Nat} (hn : n < 400) (h1 : mg M 1 = nI n) {b c : Int32} (hc : c = b &&& 255) (hb : isByte b) : relT (putB M b) (putB M0 c) := by
  obtain ⟨t1, t2, t3, t4, t5⟩ := h
  refine ⟨?_, ⟨n + 1, by omega, put_1 h1⟩, fun j => ?_, t4, t5⟩
  · show mg M0 1 + 1 = mg M 1 + 1
    rw [t1]
  · show upd (ma M0 0) (Int32.toNatClampNeg (mg M0 1)) c j = upd (ma M 0) (Int32.toNatClampNeg (mg M 1)) b j &&& 255 ∧ isByte (upd (ma M 0) (Int32.toNatClampNeg (mg M 1)) b j)
    rw [t1, upd_at, upd_at]
    split
    · exact ⟨hc, hb⟩
    · exact t3 j
theorem relT_four {M M0 : gS} (h : relT M M0) {n : Nat} (hn : n + 4 ≤ 400) (h1 : mg M 1 = nI n) (v : Int32) : relT (four4 M (fun k => byt v (nI k))) (four4 M0 (cby v)) := by
  unfold four4
  refine relT_put (n := n + 3) (relT_put (n := n + 2) (relT_put (n := n + 1) (relT_put (n := n) h (by omega) h1 (byt_c v 24 (by omega)) (byt_byte _ _)) (by omega) (put_1 h1) (byt_c v 16 (by omega)) (byt_byte _ _)) (by omega) (put_1 (put_1 h1)) (byt_c v 8 (by omega)) (byt_byte _ _)) (by omega) (put_1 (put_1 (put_1 h1))) (byt_c v 0 (by omega)) (byt_byte _ _)
theorem four_1 {M : gS} {f : Nat → Int32} {n : Nat} (h1 : mg M 1 = nI n) : mg (four4 M f) 1 = nI (n + 4) := put_1 (put_1 (put_1 (put_1 h1)))
theorem four_k (M : gS) (f : Nat → Int32) : keepR M (four4 M f) ∧ ma (four4 M f) 25 = ma M 25 := ⟨⟨rfl, rfl, rfl, rfl, rfl, rfl⟩, rfl⟩
theorem keepR_trans {A B C : gS} (h : keepR A B) (g : keepR B C) : keepR A C := by
  obtain ⟨a1, a2, a3, a4, a5, a6⟩ := h
  obtain ⟨b1, b2, b3, b4, b5, b6⟩ := g
  exact ⟨b1.trans a1, b2.trans a2, b3.trans a3, b4.trans a4, b5.trans a5, b6.trans a6⟩
theorem t_feed {M M0 M1 M2 M3 M4 M5 M6 M7 M8 M9 : gS} (hi : inv M M0 M1 M2 M3 M4 M7) (p1 p2 p3 p4 p5 : Int32) : tieP M (fun Q => wX12_feed p1 p2 p3 p4 p5 M Q) (fun Q => wX11_feed p1 p2 p3 p4 p5 M0 M1 M2 M3 M4 M5 M6 M7 M8 M9 Q) := by
  obtain ⟨hg, hS, hT, hB⟩ := id hi
  obtain ⟨n, hn, t2⟩ := hT.2.1
  have t1 := hT.1
  by_cases c : mg M 1 + 20 ≤ 400
  rotate_left
  · exact tieP_same (M5 := M5) (M6 := M6) (M8 := M8) (M9 := M9) hi (-1) (fun Q h => sw_f c (h _ (eqM_refl _))) (fun Q h => sw_f (by rw [t1]; exact c) h)
  have hn2 : n + 20 ≤ 400 := by
    rw [t2, show (20 : Int32) = nI 20 from rfl, nI_add, show (400 : Int32) = nI 400 from rfl, nI_leI (by omega) (by omega)] at c
    exact c
  have g1 := relT_four hT (n := n) (by omega) t2 p1
  have n1 := four_1 (f := fun k => byt p1 (nI k)) t2
  have g2 := relT_four g1 (n := n + 4) (by omega) n1 p2
  have n2 := four_1 (f := fun k => byt p2 (nI k)) n1
  have g3 := relT_four g2 (n := n + 8) (by omega) n2 p3
  have n3 := four_1 (f := fun k => byt p3 (nI k)) n2
  have g4 := relT_four g3 (n := n + 12) (by omega) n3 p4
  have n4 := four_1 (f := fun k => byt p4 (nI k)) n3
  have g5 := relT_four g4 (n := n + 16) (by omega) n4 p5
  have n5 := four_1 (f := fun k => byt p5 (nI k)) n4
  refine ⟨nI (n + 20), four4 (four4 (four4 (four4 (four4 M (fun k => byt p1 (nI k))) (fun k => byt p2 (nI k))) (fun k => byt p3 (nI k))) (fun k => byt p4 (nI k))) (fun k => byt p5 (nI k)), keepR_trans (keepR_trans (keepR_trans (keepR_trans (four_k _ _).1 (four_k _ _).1) (four_k _ _).1) (four_k _ _).1) (four_k _ _).1, fun Q h => ?_, fun Q h => ?_⟩
  · refine sw_t c (m_four (n := n) (by omega) t2 (m_four (n := n + 4) (by omega) n1 (m_four (n := n + 8) (by omega) n2 (m_four (n := n + 12) (by omega) n3 (m_four (n := n + 16) (by omega) n4 ?_)))))
    show Q (mg _ 1) _
    rw [n5]
    exact h _ (eqM_refl _)
  · have c1 := g1.1.trans n1
    have c2 := g2.1.trans n2
    have c3 := g3.1.trans n3
    have c4 := g4.1.trans n4
    have c5 := g5.1.trans n5
    refine sw_t (by rw [t1]; exact c) (c_four (n := n) (by omega) (t1.trans t2) (c_four (n := n + 4) (by omega) c1 (c_four (n := n + 8) (by omega) c2 (c_four (n := n + 12) (by omega) c3 (c_four (n := n + 16) (by omega) c4 ?_)))))
    show Q (mg _ 1) _ _ _ _ _ _ _ _ _ _
    rw [c5]
    refine h _ _ _ _ _ _ _ _ _ _ ⟨?_, ?_, g5, hB⟩
    · rw [(four_k _ _).2, (four_k _ _).2, (four_k _ _).2, (four_k _ _).2, (four_k _ _).2]; exact hg
    · rw [(four_k _ _).2, (four_k _ _).2, (four_k _ _).2, (four_k _ _).2, (four_k _ _).2]; exact hS
