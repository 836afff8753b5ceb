-- PURE: what a rule chooses
def canD (s : Nat → Int32) (d : Int32) : Bool := if d = -1 then true else if d = 4 then canThrowN s else canSayN s d.toNatClampNeg
def tstN (s : Nat → Int32) (τ b : Nat → Nat) (c : Nat) : Bool := decide (b (c + 1) = b c) || decide (evN s τ (b (c + 1) - b c) (b c) [] = [1])
def chN (s : Nat → Int32) (D : Nat → Int32) (τ b : Nat → Nat) : Nat → Nat → Option Nat
  | 0, _ => none
  | m + 1, c => if (canD s (D c) && tstN s τ b c) = true then some c else chN s D τ b m (c + 1)
def chR (D : Nat → Int32) (o : Option Nat) : Int32 := match o with | none => -1 | some c => D c
def clR (k : Nat) (o : Option Nat) : Int32 := match o with | none => -1 | some c => nI (48 * k + 4 * c)
/-- rule k of the reference and a Rule of the class: n clauses, clause c's test from b c to b (c + 1) in the tokens τ -/
def relRd (M : gS) (k : Nat) (R : gS) (n : Nat) (b τ : Nat → Nat) : Prop := n ≤ 12 ∧ b 0 = 0 ∧ b n ≤ 400 ∧ ma M 6 k = nI n ∧ mg R 0 = nI n ∧ (∀ i, i < b n → tokOK (τ i) ∧ ma M 3 (400 * k + i) = nI (τ i) ∧ ma R 3 i = cod (τ i)) ∧ (∀ c, c < n → b c ≤ b (c + 1) ∧ b (c + 1) ≤ b n ∧ ma R 2 c = nI (b (c + 1)) ∧ ma M 5 (48 * k + 4 * c + 3) = nI (b (c + 1)) ∧ ((ma M 5 (48 * k + 4 * c) = 0 ∧ ∃ w, w < 4 ∧ ma M 5 (48 * k + 4 * c + 1) = nI w ∧ ma R 1 c = nI w) ∨ (ma M 5 (48 * k + 4 * c) = 1 ∧ ma R 1 c = 4) ∨ (ma M 5 (48 * k + 4 * c) = 2 ∧ ma R 1 c = -1)) ∧ ((ma M 5 (48 * k + 4 * c + 2) = -1 ∧ b (c + 1) = b c) ∨ (ma M 5 (48 * k + 4 * c + 2) = nI (b c) ∧ b c < b (c + 1) ∧ tyN τ (b (c + 1) - b c) (b c) [] = some [true])))
theorem relRd_keep {M N : gS} {k : Nat} {R S : gS} {n : Nat} {b τ : Nat → Nat} (h : relRd M k R n b τ) (h3 : ma N 3 = ma M 3) (h5 : ma N 5 = ma M 5) (h6 : ma N 6 = ma M 6) (hf : frC R S) : relRd N k S n b τ := by
  unfold relRd at *
  rw [h3, h5, h6, hf.1, hf.2]
  exact h
theorem nI_nm1 {w : Nat} (h : w < 2 ^ 31) : ¬ nI w = -1 := by
  intro z
  have z1 : (nI w).toInt = (-1 : Int32).toInt := by rw [z]
  rw [nI_toInt h, show (-1 : Int32).toInt = -1 by decide] at z1
  omega
theorem nI_n4 {w : Nat} (h : w < 4) : ¬ nI w = 4 := by
  intro z
  rw [show (4 : Int32) = nI 4 from rfl, nI_eq (by omega) (by omega)] at z
  omega
theorem canD_w (s : Nat → Int32) {w : Nat} (h : w < 4) : canD s (nI w) = canSayN s w := by
  unfold canD
  rw [if_neg (nI_nm1 (by omega)), if_neg (nI_n4 h), nI_clamp (by omega)]
theorem canD_4 (s : Nat → Int32) : canD s 4 = canThrowN s := by
  unfold canD
  rw [if_neg (by decide), if_pos rfl]
theorem canD_m (s : Nat → Int32) : canD s (-1) = true := by
  unfold canD
  rw [if_pos rfl]
theorem chN_some {s : Nat → Int32} {D : Nat → Int32} {τ b : Nat → Nat} {c : Nat} : ∀ m c0, chN s D τ b m c0 = some c → c0 ≤ c ∧ c < c0 + m ∧ canD s (D c) = true := by
  intro m
  induction m with
  | zero => intro c0 h; exact absurd h (by simp [chN])
  | succ m ih =>
    intro c0 h
    rw [chN] at h
    by_cases z : (canD s (D c0) && tstN s τ b c0) = true
    · rw [if_pos z] at h
      have e : c0 = c := Option.some.inj h
      subst e
      rw [Bool.and_eq_true] at z
      exact ⟨Nat.le_refl _, by omega, z.1⟩
    · rw [if_neg z] at h
      obtain ⟨a1, a2, a3⟩ := ih (c0 + 1) h
      exact ⟨by omega, by omega, a3⟩
theorem c_mayDo {s : Nat → Int32} (hw : wfS s) {Mc Mq : gS} (hq : relQ s Mq) (hc : relC s Mc) (hg : s 3 = 1) {d : Int32} (hd : (∃ w, w < 4 ∧ d = nI w) ∨ d = 4 ∨ d = -1) (Q : Bool → gS → gS → Prop) (h : Q (canD s d) Mc Mq) : wX8_mayDo d Mc Mq Q := by
  unfold wX8_mayDo
  rcases hd with ⟨w, h4, rfl⟩ | rfl | rfl
  · refine sw_f (nI_nm1 (by omega)) (sw_f (nI_n4 h4) (q_maySay s hw Mq Mc hq hc w h4 _ ?_))
    rw [decide_eq_true hg, Bool.true_and, ← canD_w s h4]
    exact h
  · refine sw_f (by decide) (sw_t rfl (q_mayThrow s hw Mq hq _ ?_))
    rw [decide_eq_true hg, Bool.true_and, ← canD_4]
    exact h
  · rw [canD_m] at h
    exact sw_t rfl h
theorem c_holdsT {s : Nat → Int32} (hw : wfS s) {R0 R Mq : gS} (hq : relQ s Mq) (hg : s 3 = 1) {a e : Nat} (he : e ≤ 400) (ha : a ≤ e) (τ : Nat → Nat) (hτ : ∀ i, i < e → tokOK (τ i) ∧ ma R0 3 i = cod (τ i)) (hf : frC R0 R) (hty : tyN τ (e - a) a [] = some [true]) (Q : Bool → gS → gS → Prop) (hQ : ∀ v N', frC R0 N' → evN s τ (e - a) a [] = [v] → (v = 0 ∨ v = 1) → Q (decide (v = 1)) N' Mq) : wX8_holds (nI a) (nI e) R Mq Q :=
  ⟨e - a + 1, c_holds6 hw hq hg he τ hτ Q (e - a) a (by omega) R [] [] hf trivial trivial (by decide) hty hQ⟩
theorem c_choose5 {s : Nat → Int32} (hw : wfS s) {M : gS} {k n : Nat} {b τ : Nat → Nat} {R : gS} (hR : relRd M k R n b τ) {Mc Mq : gS} (hq : relQ s Mq) (hc : relC s Mc) (hg : s 3 = 1) (Q : Int32 → gS → gS → gS → Prop) : ∀ m c, c + m = n → ∀ N, frC R N → (∀ N', frC R N' → Q (chR (ma R 1) (chN s (ma R 1) τ b m c)) N' Mc Mq) → wX8_choose_5 Q (m + 1) (nI (b c)) (nI c) N Mc Mq := by
  obtain ⟨hn, hb0, hbn, h6, h0, hτ, hcl⟩ := hR
  intro m
  induction m with
  | zero =>
    intro c hcm N hf h
    rw [wX8_choose_5, hf.2, h0]
    exact sw_t (nI_le (by omega) (by omega)) (h N hf)
  | succ m ih =>
    intro c hcm N hf h
    obtain ⟨g1, g2, g3, g4, g5, g6⟩ := hcl c (by omega)
    have nxt : ∀ N', frC R N' → ¬ (canD s (ma R 1 c) && tstN s τ b c) = true → wX8_choose_60 (fun (y3 : Int32) (y4 : Int32) (M0 : gS) (M1 : gS) (M2 : gS) => wX8_choose_5 Q (m + 1) y3 y4 M0 M1 M2) Q (nI c) N' Mc Mq := by
      intro N' hf' hno
      unfold wX8_choose_60
      rw [hf'.1, nI_clamp (show c < 2 ^ 31 by omega), g3]
      refine ⟨vp_in_nI (by omega) (by decide), fun x1 h1 x2 h2 => ?_⟩
      rw [h1, h2, nI_1]
      refine ih (c + 1) (by omega) N' hf' (fun N'' hf'' => ?_)
      have := h N'' hf''
      rw [chN, if_neg hno] at this
      exact this
    have tak : ∀ N', frC R N' → (canD s (ma R 1 c) && tstN s τ b c) = true → Q (ma N' 1 c) N' Mc Mq := by
      intro N' hf' hy
      have := h N' hf'
      rw [chN, if_pos hy] at this
      rw [hf'.1]
      exact this
    rw [wX8_choose_5, hf.2, hf.1, h0, nI_clamp (show c < 2 ^ 31 by omega)]
    refine sw_f (nI_ge (by omega) (by omega)) (sw_f (nI_ge (b := 12) (by omega) (by omega)) ⟨vp_in_nI (by omega) (by decide), ?_⟩)
    refine c_mayDo hw hq hc hg ?_ _ ?_
    · rcases g5 with ⟨_, w, h4, _, e⟩ | ⟨_, e⟩ | ⟨_, e⟩
      · exact Or.inl ⟨w, h4, e⟩
      · exact Or.inr (Or.inl e)
      · exact Or.inr (Or.inr e)
    · refine ⟨fun z => nxt N hf (fun y => ?_), fun z => ⟨vp_in_nI (by omega) (by decide), ?_⟩⟩
      · rw [bI_0] at z
        rw [z] at y
        exact absurd y (by simp)
      · have zt := bI_n0 z
        rw [g3]
        rcases g6 with ⟨_, hbb⟩ | ⟨_, hlt, hty⟩
        · refine ⟨1, ?_⟩
          rw [wX8_holds_6]
          refine sw_t (by rw [hbb]; exact nI_le (Nat.le_refl _) (by omega)) ?_
          unfold wX8_holds_153 wX8_holds_169
          refine sw_t rfl (sw_f (by decide) ⟨vp_in_nI (by omega) (by decide), ?_⟩)
          exact tak N hf (by rw [zt]; unfold tstN; rw [decide_eq_true hbb]; rfl)
        · refine c_holdsT hw hq hg (by omega) (by omega) τ (fun i hi => ⟨(hτ i (by omega)).1, (hτ i (by omega)).2.2⟩) hf hty _ (fun v N' hf' hev hv => ?_)
          have hts : tstN s τ b c = decide (v = 1) := by
            unfold tstN
            rw [hev, decide_eq_false (show ¬ b (c + 1) = b c by omega), Bool.false_or]
            rcases hv with rfl | rfl <;> rfl
          by_cases v1 : v = 1
          · rw [decide_eq_true v1]
            exact sw_f (by decide) ⟨vp_in_nI (by omega) (by decide), tak N' hf' (by rw [zt, hts, decide_eq_true v1]; rfl)⟩
          · rw [decide_eq_false v1]
            exact sw_t rfl (nxt N' hf' (by rw [zt, hts, decide_eq_false v1]; decide))
/-- a Rule of the class that chooses so -/
def chC (R : gS) (d : (Nat → Int32) → Int32) : Prop := ∃ (M : gS) (k n : Nat) (b τ : Nat → Nat), relRd M k R n b τ ∧ ∀ s, d s = chR (ma R 1) (chN s (ma R 1) τ b n 0)
theorem chC_fr {R S : gS} {d : (Nat → Int32) → Int32} (h : chC R d) (hf : frC R S) : chC S d := by
  obtain ⟨M, k, n, b, τ, hR, hd⟩ := h
  refine ⟨M, k, n, b, τ, relRd_keep hR rfl rfl rfl hf, fun s => ?_⟩
  rw [hf.1]
  exact hd s
theorem c_choose {s : Nat → Int32} (hw : wfS s) {R Mc Mq : gS} (hq : relQ s Mq) (hc : relC s Mc) (hg : s 3 = 1) {d : (Nat → Int32) → Int32} (hR : chC R d) (Q : Int32 → gS → gS → gS → Prop) (h : ∀ N', frC R N' → Q (d s) N' Mc Mq) : wX8_choose R Mc Mq Q := by
  obtain ⟨M, k, n, b, τ, hR, hd⟩ := hR
  refine ⟨n + 1, ?_⟩
  have hb0 := hR.2.1
  have := c_choose5 hw hR hq hc hg Q n 0 (by omega) R ⟨rfl, rfl⟩ (fun N' hf => by rw [← hd]; exact h N' hf)
  rw [hb0] at this
  exact this
theorem d_ok {s : Nat → Int32} {R M : gS} {k n : Nat} {b τ : Nat → Nat} (hR : relRd M k R n b τ) : chR (ma R 1) (chN s (ma R 1) τ b n 0) = -1 ∨ (chR (ma R 1) (chN s (ma R 1) τ b n 0) = 4 ∧ canThrowN s = true) ∨ ∃ w, w < 4 ∧ chR (ma R 1) (chN s (ma R 1) τ b n 0) = nI w ∧ canSayN s w = true := by
  cases ho : chN s (ma R 1) τ b n 0 with
  | none => exact Or.inl rfl
  | some c =>
    obtain ⟨_, a2, a3⟩ := chN_some _ _ ho
    obtain ⟨_, _, _, _, _, _, hcl⟩ := hR
    obtain ⟨g1, g2, g3, g4, g5, g6⟩ := hcl c (by omega)
    show ma R 1 c = -1 ∨ (ma R 1 c = 4 ∧ _) ∨ _
    rcases g5 with ⟨_, w, h4, _, e⟩ | ⟨_, e⟩ | ⟨_, e⟩
    · rw [e, canD_w s h4] at a3
      exact Or.inr (Or.inr ⟨w, h4, e, a3⟩)
    · rw [e, canD_4] at a3
      exact Or.inr (Or.inl ⟨e, a3⟩)
    · exact Or.inl e
theorem m_clause_l {M : gS} (hw : wfS (ma M 25)) {k n : Nat} {b τ : Nat → Nat} {R : gS} (hk : k < 6) (hR : relRd M k R n b τ) (Q : Int32 → gS → Prop) : ∀ m c, c + m = n → ∀ N, frm M N → ma N = ma M → (∀ j, j < 9 → ml N 24 j = (ownI (ma M 25) j).toInt64) → (∀ N', frm M N' → ma N' = ma M → Q (clR k (chN (ma M 25) (ma R 1) τ b m c)) N') → wX12_clauseFor_12 Q (m + 1) (nI k) (nI c) N := by
  obtain ⟨hn, hb0, hbn, h6, h0, hτ, hcl⟩ := hR
  intro m
  induction m with
  | zero =>
    intro c hcm N hf hm hwd h
    rw [wX12_clauseFor_12, hm, nI_clamp (show k < 2 ^ 31 by omega), h6]
    exact ⟨vp_in_nI hk (by decide), sw_t (nI_le (by omega) (by omega)) (h N hf hm)⟩
  | succ m ih =>
    intro c hcm N hf hm hwd h
    obtain ⟨g1, g2, g3, g4, g5, g6⟩ := hcl c (by omega)
    have nxt : ∀ N', frm M N' → ma N' = ma M → (∀ j, j < 9 → ml N' 24 j = (ownI (ma M 25) j).toInt64) → ¬ (canD (ma M 25) (ma R 1 c) && tstN (ma M 25) τ b c) = true → wX12_clauseFor_123 (fun (y1 : Int32) (y2 : Int32) (M : gS) => wX12_clauseFor_12 Q (m + 1) y1 y2 M) Q (nI k) (nI c) N' := by
      intro N' hf' hm' hwd' hno
      unfold wX12_clauseFor_123
      intro x1 h1
      rw [h1, nI_1]
      refine ih (c + 1) (by omega) N' hf' hm' hwd' (fun N'' hf'' hm'' => ?_)
      have := h N'' hf'' hm''
      rw [chN, if_neg hno] at this
      exact this
    have tak : ∀ N', frm M N' → ma N' = ma M → (canD (ma M 25) (ma R 1 c) && tstN (ma M 25) τ b c) = true → Q (nI (48 * k + 4 * c)) N' := by
      intro N' hf' hm' hy
      have := h N' hf' hm'
      rw [chN, if_pos hy] at this
      exact this
    have i1 : nI (48 * k + 4 * c) + 1 = nI (48 * k + 4 * c + 1) := nI_1 _
    have i2 : nI (48 * k + 4 * c) + 2 = nI (48 * k + 4 * c + 2) := nI_add _ 2
    have i3 : nI (48 * k + 4 * c) + 3 = nI (48 * k + 4 * c + 3) := nI_add _ 3
    have t77 : ∀ N', frm M N' → ma N' = ma M → (∀ j, j < 9 → ml N' 24 j = (ownI (ma M 25) j).toInt64) → ∀ cb : Bool, cb = canD (ma M 25) (ma R 1 c) → wX12_clauseFor_77 (fun (y1 : Int32) (y2 : Int32) (M : gS) => wX12_clauseFor_12 Q (m + 1) y1 y2 M) Q (nI k) (nI c) (nI (48 * k + 4 * c)) (bI cb) N' := by
      intro N' hf' hm' hwd' cb hcb
      unfold wX12_clauseFor_77
      refine ⟨fun z => nxt N' hf' hm' hwd' (fun y => ?_), fun z => ?_⟩
      · rw [bI_0] at z
        rw [← hcb, z] at y
        exact absurd y (by simp)
      · have zt := bI_n0 z
        rw [i2, i3, hm', nI_clamp (show 48 * k + 4 * c + 2 < 2 ^ 31 by omega), nI_clamp (show 48 * k + 4 * c + 3 < 2 ^ 31 by omega)]
        refine ⟨vp_in_nI (by omega) (by decide), ?_⟩
        rcases g6 with ⟨e, hbb⟩ | ⟨e, hlt, hty⟩
        · rw [e]
          exact sw_t (by decide) (tak N' hf' hm' (by rw [← hcb, zt]; unfold tstN; rw [decide_eq_true hbb]; rfl))
        · rw [e, g4]
          refine sw_f (nI_pos (by omega)) ⟨vp_in_nI (by omega) (by decide), vp_in_nI (by omega) (by decide), ?_⟩
          refine m_reckons hk (by omega) (by omega) τ (fun i hi => ⟨(hτ i (by omega)).1, by rw [hm']; exact (hτ i (by omega)).2.1⟩) (fun j hj => by rw [hm']; exact hwd' j hj) hty _ (fun v N2 f2 m2 w2 hev hv => ?_)
          rw [hm'] at hev
          have hts : tstN (ma M 25) τ b c = decide (v = 1) := by
            unfold tstN
            rw [hev, decide_eq_false (show ¬ b (c + 1) = b c by omega), Bool.false_or]
            rcases hv with rfl | rfl <;> rfl
          rw [lgc_eq]
          by_cases v1 : v = 1
          · exact sw_t v1 (tak N2 (frm_trans hf' f2) (m2.trans hm') (by rw [← hcb, zt, hts, decide_eq_true v1]; rfl))
          · exact sw_f v1 (nxt N2 (frm_trans hf' f2) (m2.trans hm') (fun j hj => by rw [w2 j hj, hm']) (by rw [← hcb, zt, hts, decide_eq_false v1]; decide))
    rw [wX12_clauseFor_12, hm, nI_clamp (show k < 2 ^ 31 by omega), h6]
    refine ⟨vp_in_nI hk (by decide), sw_f (nI_ge (by omega) (by omega)) (fun x2 h2 => ?_)⟩
    have e2 : x2 = nI (48 * k + 4 * c) := by
      rw [h2]
      show nI 48 * nI k + nI 4 * nI c = _
      rw [pk_mul, pk_mul, nI_add]
    rw [e2, i1, nI_clamp (show 48 * k + 4 * c < 2 ^ 31 by omega), nI_clamp (show 48 * k + 4 * c + 1 < 2 ^ 31 by omega)]
    refine ⟨vp_in_nI (by omega) (by decide), ?_⟩
    have hwN : wfS (ma N 25) := by rw [hm]; exact hw
    rcases g5 with ⟨e0, w, h4, e1, er⟩ | ⟨e0, er⟩ | ⟨e0, er⟩
    · rw [e0, e1]
      refine sw_t rfl ⟨vp_in_nI (by omega) (by decide), m_canSay N hwN w h4 _ ?_⟩
      exact t77 N hf hm hwd _ (by rw [er, canD_w _ h4, hm])
    · rw [e0]
      refine sw_f (by decide) ⟨vp_in_nI (by omega) (by decide), sw_f (by decide) (m_canThrow N hwN _ ?_)⟩
      refine ⟨fun z => ?_, fun z => ?_⟩
      · rw [bI_0] at z
        exact t77 N hf hm hwd false (by rw [er, canD_4, ← z, hm])
      · exact t77 N hf hm hwd true (by rw [er, canD_4, ← bI_n0 z, hm])
    · rw [e0]
      exact sw_f (by decide) ⟨vp_in_nI (by omega) (by decide), sw_t rfl (t77 N hf hm hwd true (by rw [er, canD_m]))⟩
