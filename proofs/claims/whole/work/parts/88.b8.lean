-- PURE: move
def mvB (s : Nat → Int32) (i : Nat) : Bool := decide (costW s i (LA s (aN s 6)) ≤ aN s 5) && !Can s (aN s 4) (aN s 5 - costW s i (LA s (aN s 6))) (aN s (12 + (1 - aN s 6))) (aN s (12 + aN s 6)) (LA s (1 - aN s 6)) i
def thB (s : Nat → Int32) : Bool := canThrowN s && Can s (aN s 4) (aN s 5 + aN s 4) (aN s (12 + aN s 6) - 1) (aN s (12 + (1 - aN s 6))) (LA s (aN s 6)) (LA s (1 - aN s 6))
def fmS (s : Nat → Int32) : Nat → Nat → Int32
  | 0, _ => if thB s = true then 4 else -1
  | n + 1, i => if mvB s i = true then nI i else fmS s n (i + 1)
theorem m_move_l {M : gS} (hw : wfS (ma M 25)) (ht : tabF (ma M 25) (aN (ma M 25) 4) (ma M 28)) (Q : Int32 → gS → Prop) : ∀ n i, i + n = aN (ma M 25) 1 → Q (fmS (ma M 25) n i) M → wX12_move_79 Q (n + 1) (nI (aN (ma M 25) (12 + aN (ma M 25) 6))) (nI (aN (ma M 25) (12 + (1 - aN (ma M 25) 6)))) (nI (LA (ma M 25) (aN (ma M 25) 6))) (nI (LA (ma M 25) (1 - aN (ma M 25) 6))) (nI i) M := by
  have e1 := hw.n 1 rfl; have e2 := hw.n 2 rfl; have e4 := hw.n 4 rfl; have e5 := hw.n 5 rfl
  have b1 : aN (ma M 25) 1 ≤ 4 := hw.b 1 rfl
  have b2 : aN (ma M 25) 2 ≤ 9 := hw.b 2 rfl
  have b4 : aN (ma M 25) 4 ≤ 72 := hw.b 4 rfl
  have b5 : aN (ma M 25) 5 ≤ 200 := hw.b 5 rfl
  have b6 : aN (ma M 25) 6 ≤ 1 := hw.b 6 rfl
  have p1 := purse_le hw (show aN (ma M 25) 6 < 2 by omega)
  have p2 := purse_le hw (show 1 - aN (ma M 25) 6 < 2 by omega)
  have l1 := LA_le hw (show aN (ma M 25) 6 < 2 by omega)
  have l2 := LA_le hw (show 1 - aN (ma M 25) 6 < 2 by omega)
  intro n
  induction n with
  | zero =>
    intro i hi hQ
    rw [wX12_move_79, e1]
    refine sw_t (nI_le (by omega) (by omega)) (m_canThrow M hw _ ?_)
    rw [fmS] at hQ
    unfold thB at hQ
    cases hc : canThrowN (ma M 25) with
    | false => rw [hc, Bool.false_and, if_neg (by decide)] at hQ; exact bw_f hQ
    | true =>
      rw [hc, Bool.true_and] at hQ
      refine bw_t ?_
      unfold canThrowN at hc
      simp only [Bool.and_eq_true, decide_eq_true_eq] at hc
      rw [e4, e5, nI_add, show (1 : Int32) = nI 1 from rfl, pk_sub (by omega)]
      refine m_can M (by omega) (by omega) p2 l1 l2 _ ?_
      rw [ht _ _ _ _ _ (by omega) (by omega) p2 l1 l2]
      cases hb : Can (ma M 25) (aN (ma M 25) 4) (aN (ma M 25) 5 + aN (ma M 25) 4) (aN (ma M 25) (12 + aN (ma M 25) 6) - 1) (aN (ma M 25) (12 + (1 - aN (ma M 25) 6))) (LA (ma M 25) (aN (ma M 25) 6)) (LA (ma M 25) (1 - aN (ma M 25) 6)) with
      | true => rw [hb, if_pos rfl] at hQ; exact bw_t hQ
      | false => rw [hb, if_neg (by decide)] at hQ; exact bw_f hQ
  | succ n ih =>
    intro i hi hQ
    have bw := hw.b (28 + i) (isB_28 i (by omega)); rw [bnd_28 i (by omega)] at bw
    have ew := hw.n (28 + i) (isB_28 i (by omega))
    have i28 : (28 : Int32) + nI i = nI (28 + i) := nI_add 28 i
    have go : Q (fmS (ma M 25) n (i + 1)) M → wX12_move_150 (fun y2 y3 y4 y5 y6 M => wX12_move_79 Q (n + 1) y2 y3 y4 y5 y6 M) Q (nI (aN (ma M 25) (12 + aN (ma M 25) 6))) (nI (aN (ma M 25) (12 + (1 - aN (ma M 25) 6)))) (nI (LA (ma M 25) (aN (ma M 25) 6))) (nI (LA (ma M 25) (1 - aN (ma M 25) 6))) (nI i) M := by
      intro hq
      unfold wX12_move_150
      intro x hx
      rw [hx, nI_1]
      exact ih (i + 1) (by omega) hq
    have key : ∀ z : Nat, z ≤ 9 → costW (ma M 25) i (LA (ma M 25) (aN (ma M 25) 6)) = aN (ma M 25) (28 + i) + z → wX12_move_124 (fun y2 y3 y4 y5 y6 M => wX12_move_79 Q (n + 1) y2 y3 y4 y5 y6 M) Q (nI (aN (ma M 25) (12 + aN (ma M 25) 6))) (nI (aN (ma M 25) (12 + (1 - aN (ma M 25) 6)))) (nI (LA (ma M 25) (aN (ma M 25) 6))) (nI (LA (ma M 25) (1 - aN (ma M 25) 6))) (nI i) (ma M 25 5 - ma M 25 (28 + i)) (nI z) M := by
      intro z hz hc
      unfold wX12_move_124
      intro x1 hx1
      have ti : x1.toInt = (aN (ma M 25) 5 : Int) - (aN (ma M 25) (28 + i) : Int) - (z : Int) := by
        have q1 : (ma M 25 5).toInt = (aN (ma M 25) 5 : Int) := by rw [e5]; exact nI_toInt (by omega)
        have q2 : (ma M 25 (28 + i)).toInt = (aN (ma M 25) (28 + i) : Int) := by rw [ew]; exact nI_toInt (by omega)
        have q3 : (nI z).toInt = (z : Int) := nI_toInt (by omega)
        have q4 : (ma M 25 5 - ma M 25 (28 + i)).toInt = (aN (ma M 25) 5 : Int) - (aN (ma M 25) (28 + i) : Int) := by
          rw [isub (by omega) (by omega), q1, q2]
        rw [hx1, isub (by omega) (by omega), q4, q3]
      rw [fmS] at hQ
      unfold mvB at hQ
      rw [hc] at hQ
      by_cases c : aN (ma M 25) (28 + i) + z ≤ aN (ma M 25) 5
      · have ex : x1 = nI (aN (ma M 25) 5 - (aN (ma M 25) (28 + i) + z)) := by
          apply Int32.toInt_inj.1
          rw [ti, nI_toInt (by omega)]
          omega
        refine sw_f (by rw [ex]; exact nI_pos (by omega)) ?_
        rw [ex]
        refine m_can M (by omega) p2 p1 l2 (by omega) _ ?_
        rw [ht _ _ _ _ _ (by omega) p2 p1 l2 (by omega)]
        rw [decide_eq_true c, Bool.true_and] at hQ
        cases hb : Can (ma M 25) (aN (ma M 25) 4) (aN (ma M 25) 5 - (aN (ma M 25) (28 + i) + z)) (aN (ma M 25) (12 + (1 - aN (ma M 25) 6))) (aN (ma M 25) (12 + aN (ma M 25) 6)) (LA (ma M 25) (1 - aN (ma M 25) 6)) i with
        | true => rw [hb, Bool.not_true, if_neg (by decide)] at hQ; exact bw_t (go hQ)
        | false => rw [hb, Bool.not_false, if_pos rfl] at hQ; exact bw_f hQ
      · refine sw_t (by rw [Int32.lt_iff_toInt_lt, ti, show (0 : Int32).toInt = 0 by decide]; omega) ?_
        rw [decide_eq_false c, Bool.false_and, if_neg (by decide)] at hQ
        exact go hQ
    rw [wX12_move_79, e1, i28, nI_clamp (by omega)]
    refine sw_f (nI_ge (by omega) (by omega)) ⟨vp_in_nI (by omega) (by decide), ?_⟩
    by_cases c : i = LA (ma M 25) (aN (ma M 25) 6)
    · refine sw_t (by rw [← c]) ?_
      rw [e2]
      exact key _ b2 (by unfold costW; rw [if_pos c])
    · refine sw_f (by rw [nI_eq (by omega) (by omega)]; exact c) ?_
      exact key 0 (by omega) (by unfold costW; rw [if_neg c])
theorem costK_min {s : Nat → Int32} {K : Nat} (hK : kOK s K) {k : Nat} (hk : k ≤ aN s 1) (w : Nat) : costK s w (min k (K - 1)) = costK s w k := by
  rcases hK with h | h
  · unfold costK; rw [h.1]; split <;> split <;> rfl
  · rw [Nat.min_eq_left (by omega)]
theorem Can_min1 {s : Nat → Int32} {K : Nat} (hK : kOK s K) {k : Nat} (hk : k ≤ aN s 1) (v left m t h : Nat) : Can s v left m t (lk (min k (K - 1))) h = Can s v left m t (lk k) h := by
  rcases hK with q | q
  · exact Can_ag q.1 v left m t _ _ _ _
  · rw [Nat.min_eq_left (by omega)]
theorem costN_W {s : Nat → Int32} {i : Nat} (hi : i < 4) : costN s i = costW s i (LA s (aN s 6)) := by
  unfold costN costW
  rw [LA_eq]
  by_cases c : aN s (14 + aN s 6) = i
  · rw [if_pos c, if_neg (show ¬ aN s (14 + aN s 6) = 9 by omega), if_pos c.symm]
  · rw [if_neg c]
    by_cases d : aN s (14 + aN s 6) = 9
    · rw [if_pos d, if_neg (by omega)]
    · rw [if_neg d, if_neg (by omega)]
theorem c_fm65 {s : Nat → Int32} (hw : wfS s) (ho : onS s) {Mc Mq : gS} (hC : relC s Mc) (hq : relQ s Mq) (hg : s 3 = 1) {f K : Nat} (hK : kOK s K) (hf : f ≤ 1) (hf1 : f ≤ min (kj s (aN s 6)) (K - 1)) (hf2 : f ≤ min (kj s (1 - aN s 6)) (K - 1)) (hfK : f < K) {N : gS} (hN : bpI (aN s 4) (min (kj s (aN s 6)) (K - 1)) (min (kj s (1 - aN s 6)) (K - 1)) f K N) (hl : losI s (aN s 4) f K N (aN s 5 + aN s 4 * (aN s (12 + aN s 6) + aN s (12 + (1 - aN s 6))) + 1)) (Q : Int32 → gS → gS → gS → Prop) : ∀ n i, i + n = aN s 1 → Q (fmS s n i) N Mc Mq → wX0_firstMove_65 Q (n + 1) (nI (aN s (12 + aN s 6))) (nI (aN s (12 + (1 - aN s 6)))) (nI (aN s 5 + aN s 4 * (aN s (12 + aN s 6) + aN s (12 + (1 - aN s 6))))) (nI i) N Mc Mq := by
  have b1 : aN s 1 ≤ 4 := hw.b 1 rfl
  have b4 : aN s 4 ≤ 72 := hw.b 4 rfl
  have b5 : aN s 5 ≤ 200 := hw.b 5 rfl
  have b6 : aN s 6 ≤ 1 := hw.b 6 rfl
  have e1 := hw.n 1 rfl
  have p1 := purse_le hw (show aN s 6 < 2 by omega)
  have p2 := purse_le hw (show 1 - aN s 6 < 2 by omega)
  have k1 := kj_le ho (show aN s 6 < 2 by omega)
  have k2 := kj_le ho (show 1 - aN s 6 < 2 by omega)
  have m1 := Nat.min_le_right (kj s (aN s 6)) (K - 1)
  have m2 := Nat.min_le_right (kj s (1 - aN s 6)) (K - 1)
  obtain ⟨kin, hK5⟩ := kw_in hw hK hf hfK
  have hvp : aN s 4 * (aN s (12 + aN s 6) + aN s (12 + (1 - aN s 6))) ≤ 1008 := Nat.le_trans (Nat.mul_le_mul b4 (show aN s (12 + aN s 6) + aN s (12 + (1 - aN s 6)) ≤ 14 by omega)) (by decide)
  obtain ⟨n6, n7, n8, n9, n10, nB⟩ := id hN
  intro n
  induction n with
  | zero =>
    intro i hi hQ
    rw [wX0_firstMove_65, hC.2.1, e1]
    refine sw_t (nI_le (by omega) (by omega)) (q_mayThrow s hw Mq hq _ ?_)
    rw [fmS] at hQ
    unfold thB at hQ
    rw [decide_eq_true hg, Bool.true_and]
    cases hc : canThrowN s with
    | false => rw [hc, Bool.false_and, if_neg (by decide)] at hQ; exact bw_f hQ
    | true =>
      rw [hc, Bool.true_and] at hQ
      refine bw_t (c_winnersOf hf1 (by omega) hf2 (by omega) hK5 (by omega) hN hl _ (fun r hr => ?_))
      unfold canThrowN at hc
      simp only [Bool.and_eq_true, decide_eq_true_eq] at hc
      rw [show (1 : Int32) = nI 1 from rfl, pk_sub (by omega)]
      refine c_holds r (by omega) (by omega) _ ?_
      rw [hr _ _ (by omega) (by omega)]
      have e : aN s 4 * (aN s (12 + aN s 6) + aN s (12 + (1 - aN s 6))) = aN s 4 * (aN s (12 + aN s 6) - 1 + aN s (12 + (1 - aN s 6))) + aN s 4 := by
        rw [show aN s (12 + aN s 6) + aN s (12 + (1 - aN s 6)) = (aN s (12 + aN s 6) - 1 + aN s (12 + (1 - aN s 6))) + 1 by omega, Nat.mul_succ]
      unfold wB
      rw [stG_iff.2 (by omega), Bool.true_and, show aN s 5 + aN s 4 * (aN s (12 + aN s 6) + aN s (12 + (1 - aN s 6))) - aN s 4 * (aN s (12 + aN s 6) - 1 + aN s (12 + (1 - aN s 6))) = aN s 5 + aN s 4 by omega, Can_min hK k1 k2]
      change Q (if Can s (aN s 4) (aN s 5 + aN s 4) (aN s (12 + aN s 6) - 1) (aN s (12 + (1 - aN s 6))) (lk (kj s (aN s 6))) (lk (kj s (1 - aN s 6))) = true then 4 else -1) N Mc Mq at hQ
      cases hb : Can s (aN s 4) (aN s 5 + aN s 4) (aN s (12 + aN s 6) - 1) (aN s (12 + (1 - aN s 6))) (lk (kj s (aN s 6))) (lk (kj s (1 - aN s 6))) with
      | true => rw [hb, if_pos rfl] at hQ; exact bw_t hQ
      | false => rw [hb, if_neg (by decide)] at hQ; exact bw_f hQ
  | succ n ih =>
    intro i hi hQ
    have hcb := costK_b hw (k := kj s (aN s 6)) (show i < aN s 1 by omega)
    have go : Q (fmS s n (i + 1)) N Mc Mq → wX0_firstMove_142 (fun y3 y4 y5 y6 M0 M1 M2 => wX0_firstMove_65 Q (n + 1) y3 y4 y5 y6 M0 M1 M2) Q (nI (aN s (12 + aN s 6))) (nI (aN s (12 + (1 - aN s 6)))) (nI (aN s 5 + aN s 4 * (aN s (12 + aN s 6) + aN s (12 + (1 - aN s 6))))) (nI i) N Mc Mq := by
      intro h2
      unfold wX0_firstMove_142
      intro x hx
      rw [hx, nI_1]
      exact ih (i + 1) (by omega) h2
    rw [wX0_firstMove_65, hC.2.1, e1]
    refine sw_f (nI_ge (by omega) (by omega)) (q_maySay s hw Mq Mc hq hC i (by omega) _ ?_)
    have ec : costW s i (LA s (aN s 6)) = costK s i (kj s (aN s 6)) := (costK_eq (by omega)).symm
    rw [fmS] at hQ
    unfold mvB at hQ
    rw [ec] at hQ
    have cs : canSayN s i = decide (costK s i (kj s (aN s 6)) ≤ aN s 5) := by
      unfold canSayN
      rw [decide_eq_true (show i < aN s 1 by omega), Bool.true_and, costN_W (by omega), ec]
    rw [decide_eq_true hg, Bool.true_and, cs]
    by_cases c : costK s i (kj s (aN s 6)) ≤ aN s 5
    · rw [decide_eq_true c] at hQ ⊢
      rw [Bool.true_and] at hQ
      refine bw_t ?_
      rw [n7, n8]
      refine c_cost hw hC (by omega) (by omega) _ (c_kindOf n10 hK5 _ ?_)
      rw [costK_min hK k1, pk_sub (show costK s i (kj s (aN s 6)) ≤ aN s 5 + aN s 4 * (aN s (12 + aN s 6) + aN s (12 + (1 - aN s 6))) by omega)]
      have plt := plN_lt (σ := aN s 5 + aN s 4 * (aN s (12 + aN s 6) + aN s (12 + (1 - aN s 6))) - costK s i (kj s (aN s 6))) (a := min (kj s (1 - aN s 6)) (K - 1)) (b := kw K i) (by omega) (by have := (kin i (by omega)).1; omega)
      refine c_placeOf _ ⟨vp_in_nI plt (by decide), ?_⟩
      rw [nI_clamp (by omega)]
      refine c_holds _ (by omega) (by omega) _ ?_
      rw [hl _ _ _ hf2 (by omega) (kin i (by omega)).2 (kin i (by omega)).1 (by omega) (by omega) _ _ (by omega) (by omega)]
      unfold wB
      rw [Nat.add_comm (aN s (12 + (1 - aN s 6))) (aN s (12 + aN s 6)), stG_iff.2 (by rw [Nat.add_comm (aN s (12 + (1 - aN s 6))) (aN s (12 + aN s 6))]; omega), Bool.true_and, show aN s 5 + aN s 4 * (aN s (12 + aN s 6) + aN s (12 + (1 - aN s 6))) - costK s i (kj s (aN s 6)) - aN s 4 * (aN s (12 + aN s 6) + aN s (12 + (1 - aN s 6))) = aN s 5 - costK s i (kj s (aN s 6)) by omega, Can_kw hK _ _ _ _ _ _ (by omega), Can_min1 hK k2]
      change Q (if (!Can s (aN s 4) (aN s 5 - costK s i (kj s (aN s 6))) (aN s (12 + (1 - aN s 6))) (aN s (12 + aN s 6)) (lk (kj s (1 - aN s 6))) i) = true then nI i else fmS s n (i + 1)) N Mc Mq at hQ
      cases hb : Can s (aN s 4) (aN s 5 - costK s i (kj s (aN s 6))) (aN s (12 + (1 - aN s 6))) (aN s (12 + aN s 6)) (lk (kj s (1 - aN s 6))) i with
      | true => rw [hb, Bool.not_true, if_neg (by decide)] at hQ; exact bw_f (go hQ)
      | false => rw [hb, Bool.not_false, if_pos rfl] at hQ; exact bw_t hQ
    · rw [decide_eq_false c] at hQ ⊢
      rw [Bool.false_and, if_neg (by decide)] at hQ
      exact bw_f (go hQ)
theorem c_fm43 {s : Nat → Int32} (hw : wfS s) {Mc Mq : gS} (hC : relC s Mc) {v A B f K top : Nat} (hv : 1 ≤ v) (hv2 : v ≤ 100) (hK : kOK s K) (hf : f ≤ 1) (hfK : f < K) (ht : top < 9000) (y3 y4 : Int32) (Q : Int32 → gS → gS → gS → Prop) (hQ : ∀ N, bpI v A B f K N → losI s v f K N (top + 1) → ∃ k, wX0_firstMove_65 Q k y3 y4 (nI top) 0 N Mc Mq) : ∀ c σ, σ + c = top + 1 → ∀ N, bpI v A B f K N → losI s v f K N σ → wX0_firstMove_43 Q (c + 1) y3 y4 (nI top) (nI σ) N Mc Mq := by
  intro c
  induction c with
  | zero =>
    intro σ hσ N hN hl
    rw [wX0_firstMove_43]
    refine sw_t (nI_lt (by omega) (by omega)) (hQ N hN ?_)
    rw [show top + 1 = σ by omega]; exact hl
  | succ c ih =>
    intro σ hσ N hN hl
    rw [wX0_firstMove_43]
    refine sw_f (nI_nlt (by omega) (by omega)) (c_fillSum hw hC hv hv2 hK hf hfK (by omega) hN hl _ (fun N2 hN2 hl2 x hx => ?_))
    rw [hx, nI_1]
    exact ih (σ + 1) (by omega) N2 hN2 hl2
theorem c_firstMove {s : Nat → Int32} (hw : wfS s) (ho : onS s) {M7 Mc Mq : gS} (hC : relC s Mc) (hq : relQ s Mq) (hg : s 3 = 1) (hB : okB M7) (Q : Int32 → gS → gS → gS → Prop) (hQ : ∀ N7, okB N7 → Q (fmS s (aN s 1) 0) N7 Mc Mq) : wX0_firstMove M7 Mc Mq Q := by
  have b1 : aN s 1 ≤ 4 := hw.b 1 rfl
  have b4 : aN s 4 ≤ 72 := hw.b 4 rfl
  have b5 : aN s 5 ≤ 200 := hw.b 5 rfl
  have b6 : aN s 6 ≤ 1 := hw.b 6 rfl
  have p1 := purse_le hw (show aN s 6 < 2 by omega)
  have p2 := purse_le hw (show 1 - aN s 6 < 2 by omega)
  have k1 := kj_le ho (show aN s 6 < 2 by omega)
  have k2 := kj_le ho (show 1 - aN s 6 < 2 by omega)
  have hvp : aN s 4 * (aN s (12 + aN s 6) + aN s (12 + (1 - aN s 6))) ≤ 1008 := Nat.le_trans (Nat.mul_le_mul b4 (show aN s (12 + aN s 6) + aN s (12 + (1 - aN s 6)) ≤ 14 by omega)) (by decide)
  unfold wX0_firstMove
  refine c_lasts hw hq hg ?_
  rw [(hq.2.1 hg).1, hw.n 4 rfl]
  refine c_prepare hw hC ho.2.2.2 (by omega) (by omega) (by omega) hB _ (fun N f K hK hf hf1 hf2 hfK hN => c_my hw hq hg (c_their hw hq hg (fun x10 h10 => ?_)))
  rw [(hq.2.1 hg).2.1, hw.n 5 rfl, hN.1, nI_add, pk_mul, nI_add] at h10
  rw [h10]
  refine ⟨aN s 5 + aN s 4 * (aN s (12 + aN s 6) + aN s (12 + (1 - aN s 6))) + 1 + 1, ?_⟩
  refine c_fm43 hw hC ho.2.2.2 (by omega) hK hf hfK (by omega) _ _ Q (fun N2 hN2 hl2 => ⟨aN s 1 + 1, ?_⟩) (aN s 5 + aN s 4 * (aN s (12 + aN s 6) + aN s (12 + (1 - aN s 6))) + 1) 0 (by omega) N hN (fun σ' a' b' _ _ _ _ q => by omega)
  exact c_fm65 hw ho hC hq hg hK hf hf1 hf2 hfK hN2 hl2 Q (aN s 1) 0 (by omega) (hQ N2 hN2.2.2.2.2.2)
theorem t_move {M M0 M1 M2 M3 M4 M5 M6 M7 M8 M9 : gS} (hi : inv M M0 M1 M2 M3 M4 M7) : tieP M (fun Q => wX12_move M Q) (fun Q => wX11_move M0 M1 M2 M3 M4 M5 M6 M7 M8 M9 Q) := by
  obtain ⟨⟨hw, hsp⟩, ⟨hW, hC, hq, hO⟩, hT, hB⟩ := id hi
  have b4 : aN (ma M 25) 4 ≤ 72 := hw.b 4 rfl
  have b6 : aN (ma M 25) 6 ≤ 1 := hw.b 6 rfl
  by_cases g : ma M 25 3 = 1
  rotate_left
  · refine tieP_same (M5 := M5) (M6 := M6) (M8 := M8) (M9 := M9) hi (-2) (fun Q h => m_goes_f g (bw_f (h _ (eqM_refl _)))) (fun Q h => sw_t (by rw [hq.1]; exact goes_n hw g) h)
  have ho := hsp g
  refine tieP_7 (M5 := M5) (M6 := M6) (M8 := M8) (M9 := M9) hi (fmS (ma M 25) (aN (ma M 25) 1) 0) (fun Q h => m_goes_t g (bw_t ?_)) (fun Q h => sw_f (by rw [hq.1, g]; decide) ?_)
  · rw [hw.n 4 rfl]
    refine m_fillsTable M hw (by omega) _ (fun tb htb => ?_)
    intro x7 h7
    have e7 : x7 = nI (aN (ma M 25) 6) := by rw [h7]; exact hw.n 6 rfl
    rw [e7, show (12 : Int32) + nI (aN (ma M 25) 6) = nI (12 + aN (ma M 25) 6) from nI_add 12 _, show (13 : Int32) - nI (aN (ma M 25) 6) = nI (13 - aN (ma M 25) 6) from pk_sub (show aN (ma M 25) 6 ≤ 13 by omega), show (14 : Int32) + nI (aN (ma M 25) 6) = nI (14 + aN (ma M 25) 6) from nI_add 14 _, show (15 : Int32) - nI (aN (ma M 25) 6) = nI (15 - aN (ma M 25) 6) from pk_sub (show aN (ma M 25) 6 ≤ 15 by omega), nI_clamp (by omega), nI_clamp (by omega), nI_clamp (by omega), nI_clamp (by omega)]
    refine ⟨vp_in_nI (by omega) (by decide), fun x8 h8 => ⟨vp_in_nI (by omega) (by decide), fun x9 h9 => ⟨vp_in_nI (by omega) (by decide), m_lastAs (M := sF M 28 tb) hw (by omega) ⟨vp_in_nI (by omega) (by decide), ?_⟩⟩⟩⟩
    rw [show 15 - aN (ma M 25) 6 = 14 + (1 - aN (ma M 25) 6) by omega]
    refine m_lastAs (M := sF M 28 tb) hw (by omega) ⟨aN (ma M 25) 1 + 1, ?_⟩
    have e8 : x8 = nI (aN (ma M 25) (12 + aN (ma M 25) 6)) := by rw [h8]; exact hw.n _ (isB_12 _ (by omega))
    have e9 : x9 = nI (aN (ma M 25) (12 + (1 - aN (ma M 25) 6))) := by
      rw [h9, show 13 - aN (ma M 25) 6 = 12 + (1 - aN (ma M 25) 6) by omega]; exact hw.n _ (isB_12 _ (by omega))
    rw [e8, e9]
    exact m_move_l (M := sF M 28 tb) hw (by rw [ma_sF1]; exact htb) Q (aN (ma M 25) 1) 0 (by show 0 + aN (ma M 25) 1 = aN (ma M 25) 1; omega) (h _ (eq_28 _ _))
  · exact c_firstMove hw ho hC hq g hB _ (fun N7 h7 => h N7 h7)
