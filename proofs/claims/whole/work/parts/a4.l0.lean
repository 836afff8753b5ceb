-- PURE: draws, and rows that differ in the hat alone
theorem fb_andL (a b : Nat) : lN a &&& lN b = lN (a &&& b) := by
  apply Int64.toBitVec_inj.1
  show BitVec.ofNat 64 a &&& BitVec.ofNat 64 b = BitVec.ofNat 64 (a &&& b)
  apply BitVec.eq_of_getLsbD_eq
  intro i hi
  simp [hi]
theorem fb_maskL (n k : Nat) : lN n &&& lN (2 ^ k - 1) = lN (n % 2 ^ k) := by rw [fb_andL, Nat.and_two_pow_sub_one_eq_mod]
def nx (x : Nat) : Nat := (x * 1103515245 + 12345) % 2147483648
def dv (x b : Nat) : Nat := x / 65536 % b
theorem nx_lt (x : Nat) : nx x < 2 ^ 31 := Nat.mod_lt _ (by omega)
theorem dv_lt (x : Nat) {b : Nat} (h : 1 ≤ b) : dv x b < b := Nat.mod_lt _ (by omega)
theorem m_draw {M : gS} {x b : Nat} (hx : mx M 33 = lN x) (hl : x < 2 ^ 31) (hb : 1 ≤ b) (hb2 : b < 1000) (Q : Int32 → gS → Prop) (h : Q (nI (dv (nx x) b)) (sx M 33 (lN (nx x)))) : wX12_draw (nI b) M Q := by
  have hn := nx_lt x
  unfold wX12_draw
  intro x1 h1 M2 h2
  have e1 : x1 = lN (nx x) := by
    rw [h1, hx]
    show lN x * lN 1103515245 + lN 12345 - (lN x * lN 1103515245 + lN 12345) / lN 2147483648 * lN 2147483648 = _
    rw [lN_mul, lN_add, pk_lRem (by omega) (by omega) (by omega)]
    rfl
  have e2 : M2 = sx M 33 (lN (nx x)) := by rw [h2, e1]
  have e3 : mx M2 33 = lN (nx x) := by rw [e2, mx_sx, if_pos rfl]
  rw [e3, nI_l (by omega)]
  refine ⟨fun z => ?_, ?_⟩
  · rw [show (0 : Int64) = lN 0 from rfl, pk_lEQ (by omega) (by omega)] at z
    omega
  · show Q (Int64.toInt32 (lN (nx x) / lN 65536 - lN (nx x) / lN 65536 / lN b * lN b)) M2
    rw [pk_lDiv (by omega) (by omega) (by omega), pk_lRem (by omega) (by omega) (by omega), lN_i, e2]
    exact h
theorem c_drawB {M0 : gS} {x b : Nat} (hx : mg M0 0 = nI x) (hl : x < 2 ^ 31) (hb : 1 ≤ b) (hb2 : b < 1000) (Q : Int32 → gS → Prop) (h : Q (nI (dv (nx x) b)) (sg M0 0 (nI (nx x)))) : wX3_drawBelow (nI b) M0 Q := by
  have hn := nx_lt x
  unfold wX3_drawBelow
  intro x1 h1 N2 h2
  have e1 : x1 = nI (nx x) := by
    rw [h1, hx, nI_l hl, fa_litL 1103515245, fa_litL 12345, show (2147483647 : Int64) = lN (2 ^ 31 - 1) from (fa_litL 2147483647).trans (congrArg lN (by decide)), lN_mul, lN_add, fb_maskL, lN_i]
    unfold nx
    rw [show (2147483648 : Nat) = 2 ^ 31 by decide]
  have e2 : N2 = sg M0 0 (nI (nx x)) := by rw [h2, e1]
  have e3 : mg N2 0 = nI (nx x) := by rw [e2, mg_sg, if_pos rfl]
  rw [e3]
  refine sw_f (nI_nle (by omega) (by omega)) ⟨nI_ne0 (by omega) (by omega), ?_⟩
  show Q (nI (nx x) / nI 65536 - nI (nx x) / nI 65536 / nI b * nI b) N2
  rw [pk_div (by omega) (by omega) (by omega), pk_rem (by omega) (by omega) (by omega), e2]
  exact h
def nx4 (x : Nat) : Nat := nx (nx (nx (nx x)))
theorem c_draw {M9 : gS} {x T p : Nat} (hx : mg M9 0 = nI x) (hl : x < 2 ^ 31) (hT : 1 ≤ T) (hT2 : T ≤ 4) (hp : p ≤ 7) (Q : gS → Prop) (h : ∀ N, mg N 0 = nI (nx4 x) → mg N 1 = nI (dv (nx x) T) → mg N 2 = nI (dv (nx (nx x)) 2) → mg N 3 = nI (dv (nx (nx (nx x))) (p + 1)) → mg N 4 = nI (dv (nx4 x) (p + 1)) → Q N) : wX3_draw (nI T) (nI p) M9 Q := by
  unfold wX3_draw
  rw [show nI p + 1 = nI (p + 1) from nI_1 p]
  refine c_drawB hx hl hT (by omega) _ (fun N3 h3 => ?_)
  refine c_drawB (x := nx x) (b := 2) (by rw [h3]; rfl) (nx_lt _) (by omega) (by omega) _ (fun N6 h6 => ?_)
  refine c_drawB (x := nx (nx x)) (b := p + 1) (by rw [h6]; rfl) (nx_lt _) (by omega) (by omega) _ (fun N9 h9 => ?_)
  refine c_drawB (x := nx (nx (nx x))) (b := p + 1) (by rw [h9]; rfl) (nx_lt _) (by omega) (by omega) _ (fun N12 h12 => ?_)
  subst h12 h9 h6 h3
  exact h _ rfl rfl rfl rfl rfl
/-- the hat is shifted -/
def sh (c : Int32) (s : Nat → Int32) : Nat → Int32 := upd s 9 (s 9 + c)
theorem sh_k {c : Int32} {s : Nat → Int32} {k : Nat} (h : k ≠ 9) : sh c s k = s k := by unfold sh; rw [upd_at, if_neg h]
theorem sh_9 {c : Int32} {s : Nat → Int32} : sh c s 9 = s 9 + c := by unfold sh; rw [upd_at, if_pos rfl]
theorem sh_a {c : Int32} {s : Nat → Int32} {k : Nat} (h : k ≠ 9) : aN (sh c s) k = aN s k := by unfold aN; rw [sh_k h]
theorem sh_canSay (c : Int32) (s : Nat → Int32) : canSayN (sh c s) = canSayN s := by
  funext w
  unfold canSayN costN
  rw [sh_a (show 6 ≠ 9 by omega), sh_a (show 1 ≠ 9 by omega), sh_a (show 28 + w ≠ 9 by omega), sh_a (show 14 + aN s 6 ≠ 9 by omega), sh_a (show 2 ≠ 9 by omega), sh_a (show 5 ≠ 9 by omega)]
theorem sh_cost (c : Int32) (s : Nat → Int32) (w : Nat) : costN (sh c s) w = costN s w := by
  unfold costN
  rw [sh_a (show 6 ≠ 9 by omega), sh_a (show 28 + w ≠ 9 by omega), sh_a (show 14 + aN s 6 ≠ 9 by omega), sh_a (show 2 ≠ 9 by omega)]
theorem sh_canThrow (c : Int32) (s : Nat → Int32) : canThrowN (sh c s) = canThrowN s := by
  unfold canThrowN
  rw [sh_a (show 6 ≠ 9 by omega), sh_a (show 12 + aN s 6 ≠ 9 by omega), sh_a (show 5 ≠ 9 by omega), sh_a (show 4 ≠ 9 by omega)]
theorem sh_canDo (c : Int32) (s : Nat → Int32) : canDoN (sh c s) = canDoN s := by
  unfold canDoN
  rw [sh_canSay, sh_canThrow, sh_a (show 1 ≠ 9 by omega)]
theorem sh_own (c : Int32) (s : Nat → Int32) (k : Nat) : ownI (sh c s) k = ownI s k := by
  unfold ownI
  rw [sh_a (show 6 ≠ 9 by omega), sh_k (show 6 ≠ 9 by omega), sh_k (show 5 ≠ 9 by omega), sh_k (show 4 ≠ 9 by omega), sh_k (show 12 + aN s 6 ≠ 9 by omega), sh_k (show 12 + (1 - aN s 6) ≠ 9 by omega), sh_k (show 14 + aN s 6 ≠ 9 by omega), sh_k (show 14 + (1 - aN s 6) ≠ 9 by omega), sh_k (show 16 + aN s 6 ≠ 9 by omega), sh_k (show 7 ≠ 9 by omega)]
theorem sh_evT (c : Int32) (s : Nat → Int32) (st : List Int64) (t : Nat) : evT (sh c s) st t = evT s st t := by
  unfold evT
  rw [sh_own]
theorem sh_evN (c : Int32) (s : Nat → Int32) (τ : Nat → Nat) : ∀ n i st, evN (sh c s) τ n i st = evN s τ n i st := by
  intro n
  induction n with
  | zero => intro i st; rfl
  | succ n ih => intro i st; rw [evN, evN, sh_evT, ih]
theorem sh_chN (c : Int32) (s D : Nat → Int32) (τ b : Nat → Nat) : ∀ m i, chN (sh c s) D τ b m i = chN s D τ b m i := by
  intro m
  induction m with
  | zero => intro i; rfl
  | succ m ih =>
    intro i
    rw [chN, chN, ih]
    have e1 : canD (sh c s) (D i) = canD s (D i) := by unfold canD; rw [sh_canSay, sh_canThrow]
    have e2 : tstN (sh c s) τ b i = tstN s τ b i := by unfold tstN; rw [sh_evN]
    rw [e1, e2]
/-- a choice that does not look into the hat -/
def blD (d : (Nat → Int32) → Int32) : Prop := ∀ c s, d (sh c s) = d s
theorem chC_bl {R : gS} {d : (Nat → Int32) → Int32} (h : chC R d) : blD d := by
  obtain ⟨M, k, n, b, τ, hR, hd⟩ := h
  intro c s
  rw [hd, hd, sh_chN]
theorem bl_dd {d1 d2 : (Nat → Int32) → Int32} (h1 : blD d1) (h2 : blD d2) : blD (dd_r d1 d2) := by
  intro c s
  unfold dd_r
  rw [sh_a (show 6 ≠ 9 by omega), h1, h2]
theorem sh_upd (c : Int32) (s : Nat → Int32) {k : Nat} (h : k ≠ 9) (v : Int32) : upd (sh c s) k v = sh c (upd s k v) := by
  unfold sh
  rw [show upd s k v 9 = s 9 by rw [upd_at, if_neg (fun z => h z.symm)], fa_upd_swap s (fun z => h z.symm)]
theorem sh_still (c : Int32) (s : Nat → Int32) : stillS (sh c s) = sh c (stillS s) := by
  unfold stillS
  rw [sh_k (show 7 ≠ 9 by omega), sh_upd c s (by omega)]
theorem sh_say (c : Int32) (s : Nat → Int32) (w : Nat) : sayS (sh c s) w = sh c (sayS s w) := by
  unfold sayS
  rw [sh_cost, sh_a (show 5 ≠ 9 by omega), sh_a (show 6 ≠ 9 by omega), sh_k (show 16 + aN s 6 ≠ 9 by omega), sh_k (show 7 ≠ 9 by omega), sh_upd c _ (show 5 ≠ 9 by omega), sh_upd c _ (show 14 + aN s 6 ≠ 9 by omega), sh_upd c _ (show 16 + aN s 6 ≠ 9 by omega), sh_upd c _ (show 8 ≠ 9 by omega), sh_upd c _ (show 6 ≠ 9 by omega), sh_upd c _ (show 7 ≠ 9 by omega)]
theorem sh_throw (c : Int32) (s : Nat → Int32) : throwS (sh c s) = sh c (throwS s) := by
  unfold throwS
  rw [sh_a (show 6 ≠ 9 by omega), sh_k (show 12 + aN s 6 ≠ 9 by omega), sh_k (show 5 ≠ 9 by omega), sh_k (show 4 ≠ 9 by omega), sh_k (show 7 ≠ 9 by omega), sh_9, ← sh_upd c _ (show 7 ≠ 9 by omega), ← sh_upd c _ (show 5 ≠ 9 by omega)]
  congr 2
  unfold sh
  rw [fa_upd_twice, fa_upd_swap s (show (9 : Nat) ≠ 12 + aN s 6 by omega), fa_upd_twice, upd_at, if_pos rfl, Int32.add_assoc, Int32.add_assoc, Int32.add_comm c 1]
theorem sh_step (c d : Int32) (s : Nat → Int32) : stepS d (sh c s) = sh c (stepS d s) := by
  unfold stepS
  by_cases z : d = 4
  · rw [if_pos z, if_pos z, sh_throw]
  · rw [if_neg z, if_neg z, sh_say]
theorem sh_runU {d : (Nat → Int32) → Int32} (hb : blD d) (c : Int32) : ∀ n s, runU d n (sh c s) = sh c (runU d n s) := by
  intro n
  induction n with
  | zero => intro s; rfl
  | succ n ih =>
    intro s
    rw [runU, runU, hb, sh_step, sh_canDo, sh_still]
    by_cases z : d s = -1
    · rw [if_pos z, if_pos z]
    · rw [if_neg z, if_neg z]
      by_cases y : canDoN (stepS (d s) s) = true
      · rw [if_pos y, if_pos y, ih]
      · rw [if_neg y, if_neg y]
theorem sh_begin (c : Int32) (s : Nat → Int32) (v f : Nat) : beginS (sh c s) v f = sh c (beginS s v f) := by
  unfold beginS
  rw [sh_upd c _ (show 3 ≠ 9 by omega), sh_upd c _ (show 4 ≠ 9 by omega), sh_upd c _ (show 5 ≠ 9 by omega), sh_upd c _ (show 6 ≠ 9 by omega), sh_upd c _ (show 7 ≠ 9 by omega), sh_upd c _ (show 8 ≠ 9 by omega), sh_upd c _ (show 14 ≠ 9 by omega), sh_upd c _ (show 16 ≠ 9 by omega), sh_upd c _ (show 15 ≠ 9 by omega), sh_upd c _ (show 17 ≠ 9 by omega)]
theorem sh_win (c : Int32) (s : Nat → Int32) : winN (sh c s) = winN s := by
  unfold winN
  rw [sh_a (show 8 ≠ 9 by omega), sh_a (show 6 ≠ 9 by omega)]
theorem sh_wf {c : Int32} {s : Nat → Int32} (h : wfS s) : wfS (sh c s) := wfS_upd h (fun z => absurd z (by decide)) (by omega) (by omega) (by omega) (by omega) (by omega)
/-- a drawn quarrel: from its first row to that before its end -/
def lotU (d1 d2 : (Nat → Int32) → Int32) (u : Nat → Int32) : Nat → Int32 := if canDoN u = true then runN d1 d2 u else u
theorem sh_lotU {d1 d2 : (Nat → Int32) → Int32} (h1 : blD d1) (h2 : blD d2) (c : Int32) (u : Nat → Int32) : lotU d1 d2 (sh c u) = sh c (lotU d1 d2 u) := by
  unfold lotU runN
  rw [sh_canDo, sh_runU (bl_dd h1 h2)]
  by_cases z : canDoN u = true
  · rw [if_pos z, if_pos z]
  · rw [if_neg z, if_neg z]
theorem lotU_ok {d1 d2 : (Nat → Int32) → Int32} (hok : okD (dd_r d1 d2)) {u : Nat → Int32} (hw : wfS u) (ho : onS u) : wfS (lotU d1 d2 u) ∧ kp_r (lotU d1 d2 u) u := by
  unfold lotU
  by_cases z : canDoN u = true
  · rw [if_pos z]
    obtain ⟨a1, a2, a3⟩ := runU_ok hok 2000 u (mu_le hw) hw ho
    exact ⟨a1, a3⟩
  · rw [if_neg z]
    exact ⟨hw, fun _ _ => rfl⟩
def rowP (s : Nat → Int32) (a b : Nat) : Nat → Int32 := upd (upd s 12 (nI a)) 13 (nI b)
theorem rowP_k {s : Nat → Int32} {a b k : Nat} (h1 : k ≠ 12) (h2 : k ≠ 13) : rowP s a b k = s k := by unfold rowP; rw [upd_at, if_neg h2, upd_at, if_neg h1]
theorem rowP_wf {s : Nat → Int32} (hw : wfS s) {a b : Nat} (ha : a ≤ 7) (hb : b ≤ 7) : wfS (rowP s a b) :=
  wfS_upd (wfS_upd hw (fun _ => nI_ok (b := 7) ha (by decide)) (by omega) (by omega) (by omega) (by omega) (by omega)) (fun _ => nI_ok (b := 7) hb (by decide)) (by omega) (by omega) (by omega) (by omega) (by omega)
theorem rowP_v {s : Nat → Int32} {a b t : Nat} : verseN (rowP s a b) t = verseN s t := by
  unfold verseN aN
  rw [rowP_k (by omega) (by omega), rowP_k (by omega) (by omega)]
/-- the first row of the quarrel drawn from x -/
def lotS (s : Nat → Int32) (p x : Nat) : Nat → Int32 := beginS (rowP s (dv (nx (nx (nx x))) (p + 1)) (dv (nx4 x) (p + 1))) (verseN s (dv (nx x) (aN s 0))) (dv (nx (nx x)) 2)
theorem lotS_ok {s : Nat → Int32} (hw : wfS s) (h0 : 1 ≤ aN s 0) {p x : Nat} (hp : p ≤ 7) : wfS (lotS s p x) ∧ onS (lotS s p x) ∧ lotS s p x 3 = 1 ∧ ∀ k, (k ≤ 2 ∨ k = 9 ∨ k = 10 ∨ k = 11 ∨ 18 ≤ k) → lotS s p x k = s k := by
  have b0 : aN s 0 ≤ 4 := hw.b 0 rfl
  have d1 := dv_lt (nx x) (b := aN s 0) h0
  have d2 := dv_lt (nx (nx x)) (b := 2) (by omega)
  have d3 := dv_lt (nx (nx (nx x))) (b := p + 1) (by omega)
  have d4 := dv_lt (nx4 x) (b := p + 1) (by omega)
  have hv := verse_le hw (t := dv (nx x) (aN s 0)) (by omega)
  have hv1 := verse_pos hw d1
  have a0 : aN (rowP s (dv (nx (nx (nx x))) (p + 1)) (dv (nx4 x) (p + 1))) 0 = aN s 0 := by unfold aN; rw [rowP_k (by omega) (by omega)]
  refine ⟨begin_wf (rowP_wf hw (by omega) (by omega)) hv (by omega), on_begin (by omega) hv1 hv, rfl, fun k hk => ?_⟩
  unfold lotS
  rw [begin_keep (by omega), rowP_k (by omega) (by omega)]
def addR (what : Int32) (U s : Nat → Int32) : Int32 := if what = 2 then U 9 - s 9 else if nI (winN U) = what then 1 else 0
def lotsN (d1 d2 : (Nat → Int32) → Int32) (s : Nat → Int32) (p : Nat) (what : Int32) : Nat → Nat → Int32 → Int32
  | 0, _, acc => acc
  | m + 1, x, acc => lotsN d1 d2 s p what m (nx4 x) (acc + addR what (lotU d1 d2 (lotS s p x)) s)
