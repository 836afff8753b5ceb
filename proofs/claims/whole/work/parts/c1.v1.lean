-- PURE: sums, the class
theorem oL_len (o : Option Nat) : (oL o).length = oN o := by cases o <;> rfl
theorem c_putO {ts : List Nat} {R : gS} (hr : rkC ts R) {o : Option Nat} (ho : oB o) (hl : oN o = 1 → ts.length < 400) (Q : gS → Prop) (h : ∀ N, rcF R N → rkC (ts ++ oL o) N → Q N) : (cDs o = -100 → Q R) ∧ (¬ cDs o = -100 → wX8_put (cDs o) R Q) := by
  cases o with
  | none =>
    refine sw_t rfl (h R (rcF_refl R) ?_)
    show rkC (ts ++ []) R
    rw [List.append_nil]
    exact hr
  | some t => exact sw_f (cDs_n ho) (c_put hr (hl rfl) rfl Q h)
theorem c_sum_over {Q : gS → gS → gS → gS → Prop} {c : Nat → Nat} {L f : Nat} (hf : 1 ≤ f) (hf2 : f < 10000) {B Mt : gS} (ht : txC c L B Mt) (h : ∀ N0 N R, flC c L f B N → Q N0 N Mt R) (n : Nat) {y2 y3 : Int32} {M0 M R : gS} (hr : flC c L f B M) : wX9_readSum_57 (fun (y1 : Int32) (y2 : Int32) (y3 : Int32) (M0 : gS) (M1 : gS) (M2 : gS) (M3 : gS) => wX9_readSum_8 Q (n + 1) y1 y2 y3 M0 M1 M2 M3) Q y2 y3 M0 M Mt R := by
  have l8 : ∀ y1 y2 y3 M0 M R, flC c L f B M → wX9_readSum_8 Q (n + 1) y1 y2 y3 M0 M Mt R := by
    intro y1 y2 y3 M0 M R hM
    rw [wX9_readSum_8]
    exact ⟨fun _ => h _ _ _ hM, fun _ => sw_f (by rw [hM.2.1]; exact nI_ne0 (by omega) (by omega)) (h _ _ _ hM)⟩
  have l103 : ∀ y1 y2 y3 M0 M R, flC c L f B M → wX9_readSum_103 (fun (y1 : Int32) (y2 : Int32) (y3 : Int32) (M0 : gS) (M1 : gS) (M2 : gS) (M3 : gS) => wX9_readSum_8 Q (n + 1) y1 y2 y3 M0 M1 M2 M3) Q y1 y2 y3 M0 M Mt R := by
    intro y1 y2 y3 M0 M R hM
    unfold wX9_readSum_103 wX9_readSum_116
    have go : ∀ y1 y2, wX7_advance M Mt (fun (N2 : gS) (N3 : gS) => (∀ x4 : Int32, x4 = y3 + (1 : Int32) → ((fun (y1 : Int32) (y2 : Int32) (y3 : Int32) (M0 : gS) (M1 : gS) (M2 : gS) (M3 : gS) => wX9_readSum_8 Q (n + 1) y1 y2 y3 M0 M1 M2 M3) y1 y2 x4 M0 N2 N3 R))) := fun y1 y2 => c_next_f ht hM _ (fun N hN x4 _ => l8 _ _ _ _ _ _ hN)
    exact ⟨fun _ => ⟨fun _ => h _ _ _ hM, fun _ => go _ _⟩, fun _ => go _ _⟩
  have l90 : ∀ y1 y3 M0 M R, flC c L f B M → wX9_readSum_90 (fun (y1 : Int32) (y2 : Int32) (y3 : Int32) (M0 : gS) (M1 : gS) (M2 : gS) (M3 : gS) => wX9_readSum_8 Q (n + 1) y1 y2 y3 M0 M1 M2 M3) Q y1 y3 M0 M Mt R := by
    intro y1 y3 M0 M R hM
    unfold wX9_readSum_90
    exact c_code_any _ (fun r => l103 _ _ _ _ _ _ hM)
  unfold wX9_readSum_57
  refine c_code_any _ (fun r => ⟨fun _ => ⟨fun _ => l90 _ _ _ _ _ hr, fun _ => c_put_any _ (fun N => l90 _ _ _ _ _ hr)⟩, fun _ => l103 _ _ _ _ _ _ hr⟩)
theorem c_sumL {c : Nat → Nat} {L : Nat} {B Mt : gS} (ht : txC c L B Mt) (Q : gS → gS → gS → gS → Prop) : ∀ n i to po p m ts M0 Mr R, L - p < n → 2 * i ≤ p → ts.length + oN to + oN po ≤ p → oB to → oB po → frF B Mr → mg Mr 7 = 0 → rdC c L p Mr → mg M0 2 = nI m → m ≤ 60 → rkC ts R → (∀ p' m' ts', pSL c L n to po p m ts = .inr (p', m', ts') → ∀ N0 N R', rcF R R' → frF B N → mg N 7 = 0 → rdC c L p' N → mg N0 2 = nI m' → rkC ts' R' → Q N0 N Mt R') → (∀ f, pSL c L n to po p m ts = .inl f → 1 ≤ f → f < 10000 → ∀ N0 N R', flC c L f B N → Q N0 N Mt R') → wX9_readSum_8 Q (n + 1) (cDs to) (cDs po) (nI i) M0 Mr Mt R := by
  have hL := ht.2.1
  intro n
  induction n with
  | zero => intro i to po p m ts M0 Mr R h; omega
  | succ n ih =>
    intro i to po p m ts M0 Mr R hn hi hlen hto hpo hf h7 hr h2 hm hk h1 hF
    have tM := txC_F ht hf
    have hp := hr.1
    have hcb : ∀ j, c j < 256 := fun j => (ht.2.2 j).1
    rw [pSL] at h1 hF
    rw [wX9_readSum_8]
    refine sw_f (nI_ge (b := 400) (by omega) (by omega)) (sw_t h7 (c_value (ts := ts) tM hr h7 hm h2 _ (fun t et N0 g2 => ?_) (fun f ef N0 N hN => ?_)))
    · obtain ⟨hpL, _, _, hm1, _⟩ := pVal_ok hp hm et
      rw [et] at h1 hF
      have hgt := nxP_gt (c := c) hpL
      have hnx := nxP_le (c := c) hp
      refine c_put hk (by omega) rfl _ (fun R1 c1 k1 => c_next tM hr _ (fun N f r => ?_))
      have g7 : mg N 7 = 0 := by rw [f.2.1]; exact h7
      have hfN := frF_trans hf (frF_7 f)
      have tN := txC_F ht hfN
      have l1 : (ts ++ [t]).length = ts.length + 1 := by rw [List.length_append]; rfl
      refine c_putO k1 hto (fun z => by rw [l1]; omega) _ (fun R2 c2 k2 => ?_)
      have l2 : (ts ++ [t] ++ oL to).length = ts.length + 1 + oN to := by rw [List.length_append, l1, oL_len]
      unfold wX9_readSum_57
      have goL : ∀ to' po' R3 ts3, oB to' → oB po' → (to' ≠ none ∨ po' ≠ none) → rcF R R3 → rkC ts3 R3 → ts3.length + oN to' + oN po' ≤ nxP c L (nxP c L p) → nxP c L p < L → (∀ p' m' ts', pSL c L n to' po' (nxP c L (nxP c L p)) (m + 1) ts3 = .inr (p', m', ts') → ∀ N0 N R', rcF R R' → frF B N → mg N 7 = 0 → rdC c L p' N → mg N0 2 = nI m' → rkC ts' R' → Q N0 N Mt R') → (∀ f, pSL c L n to' po' (nxP c L (nxP c L p)) (m + 1) ts3 = .inl f → 1 ≤ f → f < 10000 → ∀ N0 N R', flC c L f B N → Q N0 N Mt R') → wX9_readSum_103 (fun (y1 : Int32) (y2 : Int32) (y3 : Int32) (M0 : gS) (M1 : gS) (M2 : gS) (M3 : gS) => wX9_readSum_8 Q (n + 1) y1 y2 y3 M0 M1 M2 M3) Q (cDs to') (cDs po') (nI i) N0 N Mt R3 := by
        intro to' po' R3 ts3 q1 q2 q3 q4 q5 q6 q7 q8 q9
        have hgt2 := nxP_gt (c := c) q7
        unfold wX9_readSum_103 wX9_readSum_116
        have adv : wX7_advance N Mt (fun (N2 : gS) (N3 : gS) => (∀ x4 : Int32, x4 = nI i + (1 : Int32) → ((fun (y1 : Int32) (y2 : Int32) (y3 : Int32) (M0 : gS) (M1 : gS) (M2 : gS) (M3 : gS) => wX9_readSum_8 Q (n + 1) y1 y2 y3 M0 M1 M2 M3) (cDs to') (cDs po') x4 N0 N2 N3 R3))) := by
          refine c_next tN r _ (fun N4 f4 r4 x4 h4 => ?_)
          rw [h4, nI_1]
          exact ih (i + 1) to' po' _ (m + 1) ts3 N0 N4 R3 (by omega) (by omega) q6 q1 q2 (frF_trans hfN (frF_7 f4)) (by rw [f4.2.1]; exact g7) r4 g2 (by omega) q5 (fun p' m' ts' e N0' N' R' z1 z2 z3 z4 z5 z6 => q8 p' m' ts' e N0' N' R' (rcF_trans q4 z1) z2 z3 z4 z5 z6) q9
        cases to' with
        | some t' => exact sw_f (cDs_n q1) adv
        | none =>
          cases po' with
          | some t' => exact sw_t rfl (sw_f (cDs_n q2) adv)
          | none => rcases q3 with z | z <;> exact absurd rfl z
      have rc2 := rcF_trans c1 c2
      refine c_code (a := 42) (b := 47) tN r (by omega) (by omega) _ ?_
      have h1' : ∀ p' m' ts', pSH (pSL c L n) c L po (nxP c L p) (m + 1) (ts ++ [t] ++ oL to) = .inr (p', m', ts') → ∀ N0 N R', rcF R R' → frF B N → mg N 7 = 0 → rdC c L p' N → mg N0 2 = nI m' → rkC ts' R' → Q N0 N Mt R' := h1
      have hF' : ∀ f, pSH (pSL c L n) c L po (nxP c L p) (m + 1) (ts ++ [t] ++ oL to) = .inl f → 1 ≤ f → f < 10000 → ∀ N0 N R', flC c L f B N → Q N0 N Mt R' := hF
      unfold pSH at h1' hF'
      by_cases e42 : nxP c L p < L ∧ c (nxP c L p) = 42
      · rw [if_pos e42] at h1' hF' ⊢
        have := nxP_gt (c := c) e42.1
        exact sw_f (by decide) (goL (some 4) po R2 _ ⟨by omega, by omega⟩ hpo (Or.inl (by simp)) rc2 k2 (by rw [l2]; show _ + 1 + _ ≤ _; omega) e42.1 h1' hF')
      rw [if_neg e42] at h1' hF' ⊢
      by_cases e47 : nxP c L p < L ∧ c (nxP c L p) = 47
      · rw [if_pos e47] at h1' hF' ⊢
        have := nxP_gt (c := c) e47.1
        exact sw_f (by decide) (goL (some 5) po R2 _ ⟨by omega, by omega⟩ hpo (Or.inl (by simp)) rc2 k2 (by rw [l2]; show _ + 1 + _ ≤ _; omega) e47.1 h1' hF')
      rw [if_neg e47] at h1' hF' ⊢
      refine sw_t rfl ?_
      refine c_putO k2 hpo (fun z => by rw [l2]; omega) _ (fun R4 c4 k4 => ?_)
      have l4 : (ts ++ [t] ++ oL to ++ oL po).length = ts.length + 1 + oN to + oN po := by rw [List.length_append, l2, oL_len]
      have rc4 := rcF_trans rc2 c4
      unfold wX9_readSum_90
      refine c_code (a := 43) (b := 45) tN r (by omega) (by omega) _ ?_
      by_cases e43 : nxP c L p < L ∧ c (nxP c L p) = 43
      · rw [if_pos e43] at h1' hF' ⊢
        have := nxP_gt (c := c) e43.1
        exact goL none (some 2) R4 _ trivial ⟨by omega, by omega⟩ (Or.inr (by simp)) rc4 k4 (by rw [l4]; show _ + 0 + 1 ≤ _; omega) e43.1 h1' hF'
      rw [if_neg e43] at h1' hF' ⊢
      by_cases e45 : nxP c L p < L ∧ c (nxP c L p) = 45
      · rw [if_pos e45] at h1' hF' ⊢
        have := nxP_gt (c := c) e45.1
        exact goL none (some 3) R4 _ trivial ⟨by omega, by omega⟩ (Or.inr (by simp)) rc4 k4 (by rw [l4]; show _ + 0 + 1 ≤ _; omega) e45.1 h1' hF'
      rw [if_neg e45] at h1' hF' ⊢
      unfold wX9_readSum_103
      exact sw_t rfl (sw_t rfl (h1' _ _ _ rfl N0 N R4 rc4 hfN g7 r g2 k4))
    · obtain ⟨b1, b2⟩ := pVal_f hp hL ef
      rw [ef] at hF
      have hN' : flC c L f B N := ⟨frF_trans hf hN.1, hN.2⟩
      refine c_put_any _ (fun R1 => c_next_f ht hN' _ (fun N2 hN2 => ?_))
      have ov : ∀ R2, wX9_readSum_57 (fun (y1 : Int32) (y2 : Int32) (y3 : Int32) (M0 : gS) (M1 : gS) (M2 : gS) (M3 : gS) => wX9_readSum_8 Q (n + 1) y1 y2 y3 M0 M1 M2 M3) Q (cDs po) (nI i) N0 N2 Mt R2 := fun R2 => c_sum_over b1 b2 ht (fun N0 N R hN => hF f rfl b1 b2 N0 N R hN) n hN2
      exact ⟨fun _ => ov R1, fun _ => c_put_any _ (fun R2 => ov R2)⟩
/-- a SUM: fault, or where it ends -/
def pSum (c : Nat → Nat) (L p m : Nat) (ts : List Nat) : Sum Nat (Nat × Nat × List Nat) := pSL c L (L - p + 1) none none p m ts
theorem c_sum {c : Nat → Nat} {L : Nat} {B Mt : gS} (ht : txC c L B Mt) {p m : Nat} {ts : List Nat} {M0 Mr R : gS} (hlen : ts.length ≤ p) (hf : frF B Mr) (h7 : mg Mr 7 = 0) (hr : rdC c L p Mr) (h2 : mg M0 2 = nI m) (hm : m ≤ 60) (hk : rkC ts R) (Q : gS → gS → gS → gS → Prop) (h1 : ∀ p' m' ts', pSum c L p m ts = .inr (p', m', ts') → ∀ N0 N R', rcF R R' → frF B N → mg N 7 = 0 → rdC c L p' N → mg N0 2 = nI m' → rkC ts' R' → Q N0 N Mt R') (hF : ∀ f, pSum c L p m ts = .inl f → 1 ≤ f → f < 10000 → ∀ N0 N R', flC c L f B N → Q N0 N Mt R') : wX9_readSum M0 Mr Mt R Q :=
  ⟨L - p + 1 + 1, c_sumL ht Q (L - p + 1) 0 none none p m ts M0 Mr R (by omega) (by omega) (by show _ + 0 + 0 ≤ _; omega) trivial trivial hf h7 hr h2 hm hk h1 hF⟩
theorem c_sum_f {c : Nat → Nat} {L f : Nat} (hf : 1 ≤ f) (hf2 : f < 10000) {B Mt M0 Mr R : gS} (hr : flC c L f B Mr) (Q : gS → gS → gS → gS → Prop) (h : Q M0 Mr Mt R) : wX9_readSum M0 Mr Mt R Q := by
  refine ⟨1, ?_⟩
  rw [wX9_readSum_8]
  exact sw_f (by decide) (sw_f (by rw [hr.2.1]; exact nI_ne0 (by omega) (by omega)) h)
/-- what a sum that is read has done -/
theorem pSL_ok {c : Nat → Nat} {L : Nat} : ∀ n to po p m ts p' m' ts', oB to → oB po → p ≤ L → m ≤ 60 → ts.length + oN to + oN po ≤ p → pSL c L n to po p m ts = .inr (p', m', ts') → p < p' ∧ p' ≤ L ∧ m < m' ∧ m' ≤ 60 ∧ ts'.length ≤ p' := by
  intro n
  induction n with
  | zero => intro to po p m ts p' m' ts' _ _ _ _ _ h; exact absurd h (by simp [pSL])
  | succ n ih =>
    intro to po p m ts p' m' ts' hto hpo hp hm hlen h
    rw [pSL] at h
    obtain ⟨a, ea, h⟩ := bnd2_r h
    obtain ⟨a1, a2, a3⟩ := a
    obtain ⟨hpL, e1, e2, e3, t, e4, _, _⟩ := pVal_ok hp hm ea
    have hgt := nxP_gt (c := c) hpL
    have hnx := nxP_le (c := c) hp
    have l2 : (a3 ++ oL to).length = ts.length + 1 + oN to := by rw [e4, List.length_append, List.length_append, oL_len]; rfl
    have l4 : (a3 ++ oL to ++ oL po).length = ts.length + 1 + oN to + oN po := by rw [List.length_append, l2, oL_len]
    have h' : pSH (pSL c L n) c L po a1 a2 (a3 ++ oL to) = .inr (p', m', ts') := h
    unfold pSH at h'
    rw [e1, e2] at h'
    have fin : ∀ to' po' tt, oB to' → oB po' → nxP c L p < L → tt.length + oN to' + oN po' ≤ nxP c L (nxP c L p) → pSL c L n to' po' (nxP c L (nxP c L p)) (m + 1) tt = .inr (p', m', ts') → p < p' ∧ p' ≤ L ∧ m < m' ∧ m' ≤ 60 ∧ ts'.length ≤ p' := by
      intro to' po' tt q1 q2 q3 q4 q5
      have hgt2 := nxP_gt (c := c) q3
      obtain ⟨r1, r2, r3, r4, r5⟩ := ih to' po' _ _ _ _ _ _ q1 q2 (nxP_le hnx) (by omega) q4 q5
      exact ⟨by omega, r2, by omega, r4, r5⟩
    split at h'
    · rename_i z
      have := nxP_gt (c := c) z.1
      exact fin (some 4) po _ ⟨by omega, by omega⟩ hpo z.1 (by rw [l2]; show _ + 1 + _ ≤ _; omega) h'
    split at h'
    · rename_i z
      have := nxP_gt (c := c) z.1
      exact fin (some 5) po _ ⟨by omega, by omega⟩ hpo z.1 (by rw [l2]; show _ + 1 + _ ≤ _; omega) h'
    split at h'
    · rename_i z
      have := nxP_gt (c := c) z.1
      exact fin none (some 2) _ trivial ⟨by omega, by omega⟩ z.1 (by rw [l4]; show _ + 0 + 1 ≤ _; omega) h'
    split at h'
    · rename_i z
      have := nxP_gt (c := c) z.1
      exact fin none (some 3) _ trivial ⟨by omega, by omega⟩ z.1 (by rw [l4]; show _ + 0 + 1 ≤ _; omega) h'
    · have q := Sum.inr.inj h'
      have q1 : nxP c L p = p' := congrArg Prod.fst q
      have q2 : m + 1 = m' := congrArg (fun x => x.2.1) q
      have q3 : a3 ++ oL to ++ oL po = ts' := congrArg (fun x => x.2.2) q
      rw [← q3, l4]
      omega
theorem pSum_ok {c : Nat → Nat} {L p m p' m' : Nat} {ts ts' : List Nat} (hp : p ≤ L) (hm : m ≤ 60) (hl : ts.length ≤ p) (h : pSum c L p m ts = .inr (p', m', ts')) : p < p' ∧ p' ≤ L ∧ m < m' ∧ m' ≤ 60 ∧ ts'.length ≤ p' :=
  pSL_ok _ none none p m ts p' m' ts' trivial trivial hp hm (by show _ + 0 + 0 ≤ _; omega) h
