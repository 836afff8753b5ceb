def wX11_lotsByRulesaa_151 (B6 : Int32 → Int32 → Int32 → Int32 → Int32 → gS → gS → gS → gS → gS → gS → gS → gS → gS → gS → oF → gS → Prop) (Q : Int32 → gS → gS → gS → gS → gS → gS → gS → gS → gS → gS → oF → gS → Prop) (y3 : Int32) (y4 : Int32) (y5 : Int32) (y6 : Int32) (y7 : Int32) (M0 : gS) (M1 : gS) (M2 : gS) (M3 : gS) (M4 : gS) (M5 : gS) (M6 : gS) (M7 : gS) (M8 : gS) (M9 : gS) (F10 : oF) (M11 : gS) : Prop :=
 (∀ x1 : Int32, x1 = y7 + (1 : Int32) → (B6 y3 y4 y5 y6 x1 M0 M1 M2 M3 M4 M5 M6 M7 M8 M9 F10 M11))
def wX11_lotsByRulesaa_6  (Q : Int32 → gS → gS → gS → gS → gS → gS → gS → gS → gS → gS → oF → gS → Prop) : Nat → Int32 → Int32 → Int32 → Int32 → Int32 → gS → gS → gS → gS → gS → gS → gS → gS → gS → gS → oF → gS → Prop
 | 0, _, _, _, _, _, _, _, _, _, _, _, _, _, _, _, _, _ => False
 | n + 1, y3, y4, y5, y6, y7, M0, M1, M2, M3, M4, M5, M6, M7, M8, M9, F10, M11 => ((y3 ≤ y7 → (Q y6 M0 M1 M2 M3 M4 M5 M6 M7 M8 M9 F10 M11))
 ∧ (¬ y3 ≤ y7 → (wX3_draw (mg M2 0) y4 M9 (fun (N3 : gS) => (∀ N4 : gS, N4 = sg M6 5 (0 : Int32) → (∀ x5 : Int32, x5 = (mg N3 3) → (∀ N6 : gS, N6 = sa N4 7 0 x5 → (∀ x7 : Int32, x7 = (mg N3 4) → (∀ N8 : gS, N8 = sa N6 7 1 x7 → (wX6_start (mg N3 1) (mg N3 2) N8 M2 (fun (N10 : gS) (N11 : gS) => (wX6_goByRulesaa  N10 N11 M11 (fun (N13 : gS) (N14 : gS) (N15 : gS) => ((y5 = (2 : Int32) → (∀ x19 : Int32, x19 = (y6 + (mg N13 5)) → (wX11_lotsByRulesaa_151 (fun (y3 : Int32) (y4 : Int32) (y5 : Int32) (y6 : Int32) (y7 : Int32) (M0 : gS) (M1 : gS) (M2 : gS) (M3 : gS) (M4 : gS) (M5 : gS) (M6 : gS) (M7 : gS) (M8 : gS) (M9 : gS) (F10 : oF) (M11 : gS) => wX11_lotsByRulesaa_6  Q n y3 y4 y5 y6 y7 M0 M1 M2 M3 M4 M5 M6 M7 M8 M9 F10 M11) Q y3 y4 y5 x19 y7 M0 M1 N14 M3 M4 M5 N13 M7 M8 N3 F10 N15)))
 ∧ (¬ y5 = (2 : Int32) → (((mg N13 6) = y5 → (∀ x18 : Int32, x18 = y6 + (1 : Int32) → (wX11_lotsByRulesaa_151 (fun (y3 : Int32) (y4 : Int32) (y5 : Int32) (y6 : Int32) (y7 : Int32) (M0 : gS) (M1 : gS) (M2 : gS) (M3 : gS) (M4 : gS) (M5 : gS) (M6 : gS) (M7 : gS) (M8 : gS) (M9 : gS) (F10 : oF) (M11 : gS) => wX11_lotsByRulesaa_6  Q n y3 y4 y5 y6 y7 M0 M1 M2 M3 M4 M5 M6 M7 M8 M9 F10 M11) Q y3 y4 y5 x18 y7 M0 M1 N14 M3 M4 M5 N13 M7 M8 N3 F10 N15)))
 ∧ (¬ (mg N13 6) = y5 → (wX11_lotsByRulesaa_151 (fun (y3 : Int32) (y4 : Int32) (y5 : Int32) (y6 : Int32) (y7 : Int32) (M0 : gS) (M1 : gS) (M2 : gS) (M3 : gS) (M4 : gS) (M5 : gS) (M6 : gS) (M7 : gS) (M8 : gS) (M9 : gS) (F10 : oF) (M11 : gS) => wX11_lotsByRulesaa_6  Q n y3 y4 y5 y6 y7 M0 M1 M2 M3 M4 M5 M6 M7 M8 M9 F10 M11) Q y3 y4 y5 y6 y7 M0 M1 N14 M3 M4 M5 N13 M7 M8 N3 F10 N15))))))))))))))))))
def wX11_lotsByRulesaa (p3 : Int32) (p4 : Int32) (p5 : Int32) (M0 : gS) (M1 : gS) (M2 : gS) (M3 : gS) (M4 : gS) (M5 : gS) (M6 : gS) (M7 : gS) (M8 : gS) (M9 : gS) (F10 : oF) (M11 : gS) (Q : Int32 → gS → gS → gS → gS → gS → gS → gS → gS → gS → gS → oF → gS → Prop) : Prop :=
 (∃ k6 : Nat, wX11_lotsByRulesaa_6  Q k6 p3 p4 p5 (0 : Int32) (0 : Int32) M0 M1 M2 M3 M4 M5 M6 M7 M8 M9 F10 M11)
def rmX11_lotsByRulesaa : Room := { frames := 5, cells := 0, slots := 0, locals := 124 }
set_option maxHeartbeats 4000000 in
set_option maxRecDepth 100000 in
theorem kX11_lotsByRulesaa (l : Launch) (dC : Nat → ClassId) (dI : Nat → Nat → Nat) (cB cI cJ cZ cR cS : ClassId) (h0 : Nat) (a0 : Nat → Nat) (a1 : Nat → Nat) (a2 : Nat → Nat) (a3 : Nat → Nat) (a4 : Nat → Nat) (a5 : Nat → Nat) (a6 : Nat → Nat) (a7 : Nat → Nat) (o7 : Option Nat) (a8 : Nat → Nat) (o8 : Option Nat) (a9 : Nat → Nat) (h11 : Nat) (a11 : Nat → Nat) (sz : Nat) (p3 : Int32) (p4 : Int32) (p5 : Int32) (M0 : gS) (M1 : gS) (M2 : gS) (M3 : gS) (M4 : gS) (M5 : gS) (M6 : gS) (M7 : gS) (M8 : gS) (M9 : gS) (F10 : oF) (M11 : gS) (Q : Int32 → gS → gS → gS → gS → gS → gS → gS → gS → gS → gS → oF → gS → Prop) (h : wX11_lotsByRulesaa p3 p4 p5 M0 M1 M2 M3 M4 M5 M6 M7 M8 M9 F10 M11 Q) : Met l yX11_lotsByRules wsX11_lotsByRules rmX11_lotsByRulesaa (va_Pc [.ref h0, .ref h11, .ref h11, .int p3, .int p4, .int p5] (x1I dC dI cB cI cJ cZ cR cS h0 a0 a1 a2 a3 a4 a5 a6 a7 o7 a8 o8 a9 h11 a11 M0 M1 M2 M3 M4 M5 M6 M7 M8 M9 F10 M11 sz)) (va_Qi (fun (r : Int32) (u : gS × gS × gS × gS × gS × gS × gS × gS × gS × gS × oF × gS) => Q r u.1 u.2.1 u.2.2.1 u.2.2.2.1 u.2.2.2.2.1 u.2.2.2.2.2.1 u.2.2.2.2.2.2.1 u.2.2.2.2.2.2.2.1 u.2.2.2.2.2.2.2.2.1 u.2.2.2.2.2.2.2.2.2.1 u.2.2.2.2.2.2.2.2.2.2.1 u.2.2.2.2.2.2.2.2.2.2.2) (x1B dC dI cB cI cJ cZ cR cS h0 a0 a1 a2 a3 a4 a5 a6 a7 a8 a9 h11 a11 (va_A (x1W cB cI cJ cZ cR cS h0 a0 a1 a2 a3 a4 a5 a6 a7 o7 a8 o8 a9 h11 a11 M0 M1 M2 M3 M4 M5 M6 M7 M8 M9 F10 M11) sz)) (va_A (x1W cB cI cJ cZ cR cS h0 a0 a1 a2 a3 a4 a5 a6 a7 o7 a8 o8 a9 h11 a11 M0 M1 M2 M3 M4 M5 M6 M7 M8 M9 F10 M11) sz)) 0 0 (va_A (x1W cB cI cJ cZ cR cS h0 a0 a1 a2 a3 a4 a5 a6 a7 o7 a8 o8 a9 h11 a11 M0 M1 M2 M3 M4 M5 M6 M7 M8 M9 F10 M11) sz) := by
  refine Met.ofW (cc := cX11_lotsByRules) (maxL := 8) (ret := (some .int)) (by decide) rfl ?_
  intro p e s m args below meth c s₁ B hml hv
  obtain ⟨rfl, hsz, hP, hK, hD0⟩ := hv
  have hx := B.exec
  have hb := B.bytes
  have hr := B.returns
  have hts := atoms_spec (ws := wsX11_lotsByRules) B.pre
  have hown : s.vm.findClass RX11 = some m.cls := findClass_of_methodNamed B.named
  have hlocks := B.notSynchronized
  subst hsz
  have hD := hD0.self (sz := s.heap.size)
  generalize hAe : va_A (x1W cB cI cJ cZ cR cS h0 a0 a1 a2 a3 a4 a5 a6 a7 o7 a8 o8 a9 h11 a11 M0 M1 M2 M3 M4 M5 M6 M7 M8 M9 F10 M11) s.heap.size = A at hD ⊢
  have hA : ∀ q : Nat, s.heap.size ≤ q → A q := fun q h => by rw [← hAe]; exact Or.inr h
  have hS : va_S A s.heap s.heap [] := va_S.rf
  have hK0 : va_K (dC, dI) vwCl (gT cB cI cJ cZ) s := hK.sub (tys' := gT cB cI cJ cZ) [0, 1, 2, 3] rfl
  have hinX1 : ∀ w ∈ wsX10, w ∈ wsX11_lotsByRules := by decide +kernel
  have hinX10 : ∀ w ∈ wsX100, w ∈ wsX11_lotsByRules := by decide +kernel
  have hinX11 : ∀ w ∈ wsX110, w ∈ wsX11_lotsByRules := by decide +kernel
  have hinX3 : ∀ w ∈ wsX30, w ∈ wsX11_lotsByRules := by decide +kernel
  have hinX6 : ∀ w ∈ wsX60, w ∈ wsX11_lotsByRules := by decide +kernel
  have f1 := hts (.fieldLink RX11 61 "LastWords" "lot" "LLastWords$Lot;") (by decide +kernel)
  have f2 := hts (.fieldLink RX11 22 "LastWords" "now" "LLastWords$State;") (by decide +kernel)
  have f3 := hts (.fieldLink RX11 108 "LastWords$State" "corner" "LLastWords$Corner;") (by decide +kernel)
  have f4 := hts (.fieldLink RX11 95 "LastWords$Corner" "tunes" "I") (by decide +kernel)
  have f5 := hts (.fieldLink RX11 40 "LastWords" "trial" "LLastWords$Quarrel;") (by decide +kernel)
  have f6 := hts (.fieldLink RX11 177 "LastWords$Quarrel" "hat" "I") (by decide +kernel)
  have f7 := hts (.fieldLink RX11 183 "LastWords$Quarrel" "purse" "[I") (by decide +kernel)
  have f8 := hts (.fieldLink RX11 307 "LastWords$Lot" "purseOfZero" "I") (by decide +kernel)
  have f9 := hts (.fieldLink RX11 310 "LastWords$Lot" "purseOfOne" "I") (by decide +kernel)
  have f10 := hts (.fieldLink RX11 313 "LastWords$Lot" "tune" "I") (by decide +kernel)
  have f11 := hts (.fieldLink RX11 304 "LastWords$Lot" "first" "I") (by decide +kernel)
  have f12 := hts (.fieldLink RX11 156 "LastWords$Quarrel" "winner" "I") (by decide +kernel)
  have b151 : ∀ (B6 : Int32 → Int32 → Int32 → Int32 → Int32 → gS → gS → gS → gS → gS → gS → gS → gS → gS → gS → oF → gS → Prop) (hB6 : ∀ (y3 : Int32) (y4 : Int32) (y5 : Int32) (y6 : Int32) (y7 : Int32) (o7 o8 : Option Nat) (M0 : gS) (M1 : gS) (M2 : gS) (M3 : gS) (M4 : gS) (M5 : gS) (M6 : gS) (M7 : gS) (M8 : gS) (M9 : gS) (F10 : oF) (M11 : gS) (H : Heap) (locs : List Loc) (ls : Array Slot), va_P (dC, dI) vwCl (x1W cB cI cJ cZ cR cS h0 a0 a1 a2 a3 a4 a5 a6 a7 o7 a8 o8 a9 h11 a11 M0 M1 M2 M3 M4 M5 M6 M7 M8 M9 F10 M11) H → va_D A (x1W cB cI cJ cZ cR cS h0 a0 a1 a2 a3 a4 a5 a6 a7 o7 a8 o8 a9 h11 a11 M0 M1 M2 M3 M4 M5 M6 M7 M8 M9 F10 M11) → va_S A s.heap H locs → lv_has ls 8 [(0, .ref h0), (1, .ref h11), (2, .ref h11), (3, .int y3), (4, .int y4), (5, .int y5), (6, .int y6), (7, .int y7)] → B6 y3 y4 y5 y6 y7 M0 M1 M2 M3 M4 M5 M6 M7 M8 M9 F10 M11 → W p l e (headSpec wsX11_lotsByRules rmX11_lotsByRulesaa).room s m ([.ref h0, .ref h11, .ref h11, .int p3, .int p4, .int p5] : List Value).toArray below meth c H locs 0 0 (MQ below (va_Qi (fun (r : Int32) (u : gS × gS × gS × gS × gS × gS × gS × gS × gS × gS × oF × gS) => Q r u.1 u.2.1 u.2.2.1 u.2.2.2.1 u.2.2.2.2.1 u.2.2.2.2.2.1 u.2.2.2.2.2.2.1 u.2.2.2.2.2.2.2.1 u.2.2.2.2.2.2.2.2.1 u.2.2.2.2.2.2.2.2.2.1 u.2.2.2.2.2.2.2.2.2.2.1 u.2.2.2.2.2.2.2.2.2.2.2) (x1B dC dI cB cI cJ cZ cR cS h0 a0 a1 a2 a3 a4 a5 a6 a7 a8 a9 h11 a11 A) A) ([.ref h0, .ref h11, .ref h11, .int p3, .int p4, .int p5] : List Value).toArray s 0 0 A) (F0 m 6 ls [])) (y3 : Int32) (y4 : Int32) (y5 : Int32) (y6 : Int32) (y7 : Int32) (o7 o8 : Option Nat) (M0 : gS) (M1 : gS) (M2 : gS) (M3 : gS) (M4 : gS) (M5 : gS) (M6 : gS) (M7 : gS) (M8 : gS) (M9 : gS) (F10 : oF) (M11 : gS) (H : Heap) (locs : List Loc) (ls : Array Slot), va_P (dC, dI) vwCl (x1W cB cI cJ cZ cR cS h0 a0 a1 a2 a3 a4 a5 a6 a7 o7 a8 o8 a9 h11 a11 M0 M1 M2 M3 M4 M5 M6 M7 M8 M9 F10 M11) H → va_D A (x1W cB cI cJ cZ cR cS h0 a0 a1 a2 a3 a4 a5 a6 a7 o7 a8 o8 a9 h11 a11 M0 M1 M2 M3 M4 M5 M6 M7 M8 M9 F10 M11) → va_S A s.heap H locs → lv_has ls 8 [(0, .ref h0), (1, .ref h11), (2, .ref h11), (3, .int y3), (4, .int y4), (5, .int y5), (6, .int y6), (7, .int y7)] → wX11_lotsByRulesaa_151 B6 Q y3 y4 y5 y6 y7 M0 M1 M2 M3 M4 M5 M6 M7 M8 M9 F10 M11 → W p l e (headSpec wsX11_lotsByRules rmX11_lotsByRulesaa).room s m ([.ref h0, .ref h11, .ref h11, .int p3, .int p4, .int p5] : List Value).toArray below meth c H locs 0 0 (MQ below (va_Qi (fun (r : Int32) (u : gS × gS × gS × gS × gS × gS × gS × gS × gS × gS × oF × gS) => Q r u.1 u.2.1 u.2.2.1 u.2.2.2.1 u.2.2.2.2.1 u.2.2.2.2.2.1 u.2.2.2.2.2.2.1 u.2.2.2.2.2.2.2.1 u.2.2.2.2.2.2.2.2.1 u.2.2.2.2.2.2.2.2.2.1 u.2.2.2.2.2.2.2.2.2.2.1 u.2.2.2.2.2.2.2.2.2.2.2) (x1B dC dI cB cI cJ cZ cR cS h0 a0 a1 a2 a3 a4 a5 a6 a7 a8 a9 h11 a11 A) A) ([.ref h0, .ref h11, .ref h11, .int p3, .int p4, .int p5] : List Value).toArray s 0 0 A) (F0 m 151 ls []) := by
    intro B6 hB6 y3 y4 y5 y6 y7 o7 o8  M0 M1 M2 M3 M4 M5 M6 M7 M8 M9 F10 M11 H locs ls hP hD hS hl h
    unfold wX11_lotsByRulesaa_151 at h
    obtain ⟨x1, ex1⟩ : ∃ y : Int32, y = y7 + (1 : Int32) := ⟨_, rfl⟩
    have h := h x1 ex1
    refine lv_iinc (v := x1) (lv' := [(7, .int x1), (0, .ref h0), (1, .ref h11), (2, .ref h11), (3, .int y3), (4, .int y4), (5, .int y5), (6, .int y6)]) hx hb dX11_lotsByRules_151 hl (k := 7) rfl (by rw [ex1]; rfl) (by decide) rfl (fun ls hl => ?_)
    refine lv_goto (tgt := 6) hx hb dX11_lotsByRules_154 (by decide) ?_
    exact hB6 y3 y4 y5 y6 x1 o7 o8 M0 M1 M2 M3 M4 M5 M6 M7 M8 M9 F10 M11 H locs ls hP hD hS (lv_sub hl [1, 2, 3, 4, 5, 6, 7, 0] rfl) h
  have b6 : ∀ (n : Nat) (y3 : Int32) (y4 : Int32) (y5 : Int32) (y6 : Int32) (y7 : Int32) (o7 o8 : Option Nat) (M0 : gS) (M1 : gS) (M2 : gS) (M3 : gS) (M4 : gS) (M5 : gS) (M6 : gS) (M7 : gS) (M8 : gS) (M9 : gS) (F10 : oF) (M11 : gS) (H : Heap) (locs : List Loc) (ls : Array Slot), va_P (dC, dI) vwCl (x1W cB cI cJ cZ cR cS h0 a0 a1 a2 a3 a4 a5 a6 a7 o7 a8 o8 a9 h11 a11 M0 M1 M2 M3 M4 M5 M6 M7 M8 M9 F10 M11) H → va_D A (x1W cB cI cJ cZ cR cS h0 a0 a1 a2 a3 a4 a5 a6 a7 o7 a8 o8 a9 h11 a11 M0 M1 M2 M3 M4 M5 M6 M7 M8 M9 F10 M11) → va_S A s.heap H locs → lv_has ls 8 [(0, .ref h0), (1, .ref h11), (2, .ref h11), (3, .int y3), (4, .int y4), (5, .int y5), (6, .int y6), (7, .int y7)] → wX11_lotsByRulesaa_6  Q n y3 y4 y5 y6 y7 M0 M1 M2 M3 M4 M5 M6 M7 M8 M9 F10 M11 → W p l e (headSpec wsX11_lotsByRules rmX11_lotsByRulesaa).room s m ([.ref h0, .ref h11, .ref h11, .int p3, .int p4, .int p5] : List Value).toArray below meth c H locs 0 0 (MQ below (va_Qi (fun (r : Int32) (u : gS × gS × gS × gS × gS × gS × gS × gS × gS × gS × oF × gS) => Q r u.1 u.2.1 u.2.2.1 u.2.2.2.1 u.2.2.2.2.1 u.2.2.2.2.2.1 u.2.2.2.2.2.2.1 u.2.2.2.2.2.2.2.1 u.2.2.2.2.2.2.2.2.1 u.2.2.2.2.2.2.2.2.2.1 u.2.2.2.2.2.2.2.2.2.2.1 u.2.2.2.2.2.2.2.2.2.2.2) (x1B dC dI cB cI cJ cZ cR cS h0 a0 a1 a2 a3 a4 a5 a6 a7 a8 a9 h11 a11 A) A) ([.ref h0, .ref h11, .ref h11, .int p3, .int p4, .int p5] : List Value).toArray s 0 0 A) (F0 m 6 ls []) := by
    intro  n
    induction n with
    | zero => intro y3 y4 y5 y6 y7 o7 o8  M0 M1 M2 M3 M4 M5 M6 M7 M8 M9 F10 M11 H locs ls hP hD hS hl h; exact absurd h (by simp [wX11_lotsByRulesaa_6])
    | succ n hB60 =>
      intro y3 y4 y5 y6 y7 o7 o8  M0 M1 M2 M3 M4 M5 M6 M7 M8 M9 F10 M11 H locs ls hP hD hS hl h
      have hB6 := hB60
      rw [wX11_lotsByRulesaa_6] at h
      refine lv_iload hx hb dX11_lotsByRules_6 (lv_at hl 7 rfl) ?_
      refine lv_iload_n hx hb dX11_lotsByRules_8 rfl (lv_at hl 3 rfl) ?_
      refine lv_icmp_ge (tgt := 157) hx hb dX11_lotsByRules_9 (by decide) (fun c1 => ?_) (fun c1 => ?_)
      · have h := h.1 c1
        refine lv_iload hx hb dX11_lotsByRules_157 (lv_at hl 6 rfl) ?_
        exact W.iret (v := y6) hx hb hr (fun t ht hW => ⟨⟨_, (M0, M1, M2, M3, M4, M5, M6, M7, M8, M9, F10, M11), rfl, h, o7, o8, by rw [ht]; exact hP, va_K.moved hW.alike hK, hD⟩, hS.F ht⟩) hS.2.2 dX11_lotsByRules_159
      · have h := h.2 c1
        refine lv_aload_n hx hb dX11_lotsByRules_12 rfl (lv_at hl 0 rfl) ?_
        refine va_get (D := (dC, dI)) (ci := 11) (v := .ref (a0 10)) (C := RX11) (T := TX11) (N := 12) hx hb hts hinX11 hown hK hP 0 rfl rfl 10 (by decide) f1 (fun _ h9 => h9) rfl dX11_lotsByRules_13 ?_
        refine lv_aload_n hx hb dX11_lotsByRules_16 rfl (lv_at hl 0 rfl) ?_
        refine va_get (D := (dC, dI)) (ci := 11) (v := .ref (a0 4)) (C := RX11) (T := TX11) (N := 12) hx hb hts hinX11 hown hK hP 0 rfl rfl 4 (by decide) f2 (fun _ h9 => h9) rfl dX11_lotsByRules_17 ?_
        refine va_get (D := (dC, dI)) (ci := 10) (v := .ref (a1 0)) (C := RX10) (T := TX10) (N := 5) hx hb hts hinX10 hown hK hP 3 rfl rfl 0 (by decide) f3 (fun _ h9 => h9) rfl dX11_lotsByRules_20 ?_
        refine va_get (D := (dC, dI)) (ci := 1) (v := .int (mg M2 0)) (C := RX1) (T := TX1) (N := 6) hx hb hts hinX1 hown hK hP 5 rfl rfl 0 (by decide) f4 (fun _ h9 => h9) rfl dX11_lotsByRules_23 ?_
        refine lv_iload hx hb dX11_lotsByRules_26 (lv_at hl 4 rfl) ?_
        have hPc := hP.sub (ws' := (loW cB cI cJ cZ (a0 10) a9 M9)) [33] rfl
        have hDc := hD.sub (ws' := (loW cB cI cJ cZ (a0 10) a9 M9)) [33] (by decide) rfl
        have hFc := va_free (wc := (loW cB cI cJ cZ (a0 10) a9 M9)) hD hS hA [33] rfl
        refine va_callv (va_runV (As := [.int (mg M2 0), .int y4]) (rest := []) ⟨hx, hb, hml, hown, hts⟩ (kX3_draw l dC dI cB cI cJ cZ (a0 10) a9 H.size (mg M2 0) y4 M9 _ h) (cwV 2 hts gX11_lotsByRules_X3_draw rfl rfl rfl (by decide +kernel) ⟨Nat.le_of_ble_eq_true rfl, Nat.le_of_ble_eq_true rfl⟩) (lopV hK0 hPc hDc) rfl rfl hl.1 rfl (lv_room (Nat.le_of_ble_eq_true rfl)) dX11_lotsByRules_28 ⟨Nat.le_of_ble_eq_true rfl, Nat.le_of_ble_eq_true rfl⟩) hS (fun q _ z => hFc q z) hFc (fun u t H1 locs ht hvm hw hB hz1 hk1 hS => ?_)
        obtain ⟨N3, rfl⟩ : ∃ z, z = u := ⟨_, rfl⟩
        obtain ⟨hP1, hK1, hD1⟩ := hB
        rw [ht] at hP1
        obtain ⟨hP, hD⟩ := va_join (wr := [(h0, .inr (11, [.ref (a0 0), .int (mg M0 1), .ref (a0 2), .int (mg M0 3), .ref (a0 4), .ref (a0 5), .ref (a0 6), .ref (a0 7), .ref (a0 8), .ref (a0 9), .ref (a0 10), .ref (a0 11)])), (a0 0, .inl (cI, 400, .inl (ma M0 0))), (a0 11, .inl (cJ, 4, .inr (.inl (ml M0 11)))), (a0 4, .inr (10, [.ref (a1 0), .ref (a1 1), .ref (a1 2), .ref (a1 3), .int (mg M1 4)])), (a1 3, .inl (cI, 2, .inl (ma M1 3))), (a1 0, .inr (1, [.int (mg M2 0), .ref (a2 1), .int (mg M2 2), .ref (a2 3), .int (mg M2 4), .ref (a2 5)])), (a2 1, .inl (cI, 4, .inl (ma M2 1))), (a2 3, .inl (cI, 4, .inl (ma M2 3))), (a2 5, .inl (cI, 2, .inl (ma M2 5))), (a1 1, .inr (6, [.int (mg M3 0), .int (mg M3 1), .int (mg M3 2), .int (mg M3 3), .int (mg M3 4), .int (mg M3 5), .int (mg M3 6), .ref (a3 7), .ref (a3 8), .ref (a3 9)])), (a3 7, .inl (cI, 2, .inl (ma M3 7))), (a3 8, .inl (cI, 2, .inl (ma M3 8))), (a3 9, .inl (cI, 2, .inl (ma M3 9))), (a1 2, .inr (4, [.int (mg M4 0), .ref (a4 1), .ref (a4 2), .ref (a4 3)])), (a4 1, .inl (cI, 6, .inl (ma M4 1))), (a4 2, .inl (cI, 6, .inl (ma M4 2))), (a4 3, .inl (cI, 6, .inl (ma M4 3))), (a0 6, .inr (1, [.int (mg M5 0), .ref (a5 1), .int (mg M5 2), .ref (a5 3), .int (mg M5 4), .ref (a5 5)])), (a5 1, .inl (cI, 4, .inl (ma M5 1))), (a5 3, .inl (cI, 4, .inl (ma M5 3))), (a5 5, .inl (cI, 2, .inl (ma M5 5))), (a0 7, .inr (6, [.int (mg M6 0), .int (mg M6 1), .int (mg M6 2), .int (mg M6 3), .int (mg M6 4), .int (mg M6 5), .int (mg M6 6), .ref (a6 7), .ref (a6 8), .ref (a6 9)])), (a6 7, .inl (cI, 2, .inl (ma M6 7))), (a6 8, .inl (cI, 2, .inl (ma M6 8))), (a6 9, .inl (cI, 2, .inl (ma M6 9))), (a0 8, .inr (0, [.ref (a7 0), .ref (a7 1), .ref (a7 2), .ref (a7 3), .int (mg M7 4), va_rf o7, .int (mg M7 6), .int (mg M7 7), .int (mg M7 8), .int (mg M7 9), .int (mg M7 10)])), (a7 0, .inl (cJ, 15, .inr (.inl (ml M7 0)))), (a7 1, .inl (cJ, 800, .inr (.inl (ml M7 1)))), (a7 2, .inl (cI, 4, .inl (ma M7 2))), (a7 3, .inl (cJ, 4, .inr (.inl (ml M7 3)))), (a0 9, .inr (5, [.ref (a8 0), .ref (a8 1), va_rf o8, .int (mg M8 3)])), (a8 0, .inl (cI, 2048, .inl (ma M8 0))), (a8 1, .inl (cI, 2048, .inl (ma M8 1))), (a0 2, .inl (cR, 6, .inr (.inr (.inr (.inr F10))))), (h11, .inr (8, [.int (mg M11 0), .ref (a11 1), .ref (a11 2), .ref (a11 3), .int (mg M11 4), .ref (a11 5)])), (a11 1, .inl (cI, 12, .inl (ma M11 1))), (a11 2, .inl (cI, 12, .inl (ma M11 2))), (a11 3, .inl (cI, 400, .inl (ma M11 3))), (a11 5, .inl (cJ, 60, .inr (.inl (ml M11 5))))]) (w1 := (loW cB cI cJ cZ (a0 10) a9 N3)) hP hD [33] [0, 1, 2, 3, 4, 5, 6, 7, 8, 9, 10, 11, 12, 13, 14, 15, 16, 17, 18, 19, 20, 21, 22, 23, 24, 25, 26, 27, 28, 29, 30, 31, 32, 34, 35, 36, 37, 38, 39] rfl rfl (by decide) (by decide) hk1 hFc hP1 hD1
        have hP := hP.sub (ws' := (x1W cB cI cJ cZ cR cS h0 a0 a1 a2 a3 a4 a5 a6 a7 o7 a8 o8 a9 h11 a11 M0 M1 M2 M3 M4 M5 M6 M7 M8 N3 F10 M11)) [0, 1, 2, 3, 4, 5, 6, 7, 8, 9, 10, 11, 12, 13, 14, 15, 16, 17, 18, 19, 20, 21, 22, 23, 24, 25, 26, 27, 28, 29, 30, 31, 32, 39, 33, 34, 35, 36, 37, 38] rfl
        have hD := hD.sub (ws' := (x1W cB cI cJ cZ cR cS h0 a0 a1 a2 a3 a4 a5 a6 a7 o7 a8 o8 a9 h11 a11 M0 M1 M2 M3 M4 M5 M6 M7 M8 N3 F10 M11)) [0, 1, 2, 3, 4, 5, 6, 7, 8, 9, 10, 11, 12, 13, 14, 15, 16, 17, 18, 19, 20, 21, 22, 23, 24, 25, 26, 27, 28, 29, 30, 31, 32, 39, 33, 34, 35, 36, 37, 38] (by decide) rfl
        generalize H1 = H at hP hS ⊢
        have h := hw
        try dsimp only at h
        refine lv_aload_n hx hb dX11_lotsByRules_31 rfl (lv_at hl 0 rfl) ?_
        refine va_get (D := (dC, dI)) (ci := 11) (v := .ref (a0 7)) (C := RX11) (T := TX11) (N := 12) hx hb hts hinX11 hown hK hP 0 rfl rfl 7 (by decide) f5 (fun _ h9 => h9) rfl dX11_lotsByRules_32 ?_
        refine lv_iconst (v := 0) hx hb dX11_lotsByRules_35 (by decide) ?_
        refine va_put (D := (dC, dI)) (ci := 6) (v := .int (0 : Int32)) (ty := .int) (C := RX6) (T := TX6) (N := 10) hx hb hts hinX6 tyX6 tyX6_ok nmX6 hown hK hP hD hS 21 rfl rfl 5 (by decide) f6 (fun _ h9 => h9) rfl (by decide +kernel) rfl rfl (Nat.le_of_ble_eq_true rfl) dX11_lotsByRules_36 (fun H locs hP hD hS => ?_)
        have hP := x1P_6_f5 hP
        have hD := x1D_6_f5 hD
        have h := h _ rfl
        generalize sg M6 5 (0 : Int32) = N4 at hP hD h
        refine lv_aload_n hx hb dX11_lotsByRules_39 rfl (lv_at hl 0 rfl) ?_
        refine va_get (D := (dC, dI)) (ci := 11) (v := .ref (a0 7)) (C := RX11) (T := TX11) (N := 12) hx hb hts hinX11 hown hK hP 0 rfl rfl 7 (by decide) f5 (fun _ h9 => h9) rfl dX11_lotsByRules_40 ?_
        refine va_get (D := (dC, dI)) (ci := 6) (v := .ref (a6 7)) (C := RX6) (T := TX6) (N := 10) hx hb hts hinX6 hown hK hP 21 rfl rfl 7 (by decide) f7 (fun _ h9 => h9) rfl dX11_lotsByRules_43 ?_
        refine lv_iconst (v := 0) hx hb dX11_lotsByRules_46 (by decide) ?_
        refine lv_aload_n hx hb dX11_lotsByRules_47 rfl (lv_at hl 0 rfl) ?_
        refine va_get (D := (dC, dI)) (ci := 11) (v := .ref (a0 10)) (C := RX11) (T := TX11) (N := 12) hx hb hts hinX11 hown hK hP 0 rfl rfl 10 (by decide) f1 (fun _ h9 => h9) rfl dX11_lotsByRules_48 ?_
        refine va_get (D := (dC, dI)) (ci := 3) (v := .int (mg N3 3)) (C := RX3) (T := TX3) (N := 5) hx hb hts hinX3 hown hK hP 33 rfl rfl 3 (by decide) f8 (fun _ h9 => h9) rfl dX11_lotsByRules_51 ?_
        refine lv_topi (fun x5 ex5 => ?_)
        have h := h x5 ex5
        refine wc_iast (j := 0) hx hb hK hP hD hS 22 1 (f := ma N4 7) rfl rfl (by decide) (by decide) (by decide) dX11_lotsByRules_54 (fun H locs hP hD hS => ?_)
        have hP := x1P_6_a7 hP
        have hD := x1D_6_a7 hD
        have h := h _ rfl
        generalize sa N4 7 0 x5 = N6 at hP hD h
        refine lv_aload_n hx hb dX11_lotsByRules_55 rfl (lv_at hl 0 rfl) ?_
        refine va_get (D := (dC, dI)) (ci := 11) (v := .ref (a0 7)) (C := RX11) (T := TX11) (N := 12) hx hb hts hinX11 hown hK hP 0 rfl rfl 7 (by decide) f5 (fun _ h9 => h9) rfl dX11_lotsByRules_56 ?_
        refine va_get (D := (dC, dI)) (ci := 6) (v := .ref (a6 7)) (C := RX6) (T := TX6) (N := 10) hx hb hts hinX6 hown hK hP 21 rfl rfl 7 (by decide) f7 (fun _ h9 => h9) rfl dX11_lotsByRules_59 ?_
        refine lv_iconst (v := 1) hx hb dX11_lotsByRules_62 (by decide) ?_
        refine lv_aload_n hx hb dX11_lotsByRules_63 rfl (lv_at hl 0 rfl) ?_
        refine va_get (D := (dC, dI)) (ci := 11) (v := .ref (a0 10)) (C := RX11) (T := TX11) (N := 12) hx hb hts hinX11 hown hK hP 0 rfl rfl 10 (by decide) f1 (fun _ h9 => h9) rfl dX11_lotsByRules_64 ?_
        refine va_get (D := (dC, dI)) (ci := 3) (v := .int (mg N3 4)) (C := RX3) (T := TX3) (N := 5) hx hb hts hinX3 hown hK hP 33 rfl rfl 4 (by decide) f9 (fun _ h9 => h9) rfl dX11_lotsByRules_67 ?_
        refine lv_topi (fun x7 ex7 => ?_)
        have h := h x7 ex7
        refine wc_iast (j := 1) hx hb hK hP hD hS 22 1 (f := ma N6 7) rfl rfl (by decide) (by decide) (by decide) dX11_lotsByRules_70 (fun H locs hP hD hS => ?_)
        have hP := x1P_6_a7 hP
        have hD := x1D_6_a7 hD
        have h := h _ rfl
        generalize sa N6 7 1 x7 = N8 at hP hD h
        refine lv_aload_n hx hb dX11_lotsByRules_71 rfl (lv_at hl 0 rfl) ?_
        refine va_get (D := (dC, dI)) (ci := 11) (v := .ref (a0 7)) (C := RX11) (T := TX11) (N := 12) hx hb hts hinX11 hown hK hP 0 rfl rfl 7 (by decide) f5 (fun _ h9 => h9) rfl dX11_lotsByRules_72 ?_
        refine lv_aload_n hx hb dX11_lotsByRules_75 rfl (lv_at hl 0 rfl) ?_
        refine va_get (D := (dC, dI)) (ci := 11) (v := .ref (a0 4)) (C := RX11) (T := TX11) (N := 12) hx hb hts hinX11 hown hK hP 0 rfl rfl 4 (by decide) f2 (fun _ h9 => h9) rfl dX11_lotsByRules_76 ?_
        refine va_get (D := (dC, dI)) (ci := 10) (v := .ref (a1 0)) (C := RX10) (T := TX10) (N := 5) hx hb hts hinX10 hown hK hP 3 rfl rfl 0 (by decide) f3 (fun _ h9 => h9) rfl dX11_lotsByRules_79 ?_
        refine lv_aload_n hx hb dX11_lotsByRules_82 rfl (lv_at hl 0 rfl) ?_
        refine va_get (D := (dC, dI)) (ci := 11) (v := .ref (a0 10)) (C := RX11) (T := TX11) (N := 12) hx hb hts hinX11 hown hK hP 0 rfl rfl 10 (by decide) f1 (fun _ h9 => h9) rfl dX11_lotsByRules_83 ?_
        refine va_get (D := (dC, dI)) (ci := 3) (v := .int (mg N3 1)) (C := RX3) (T := TX3) (N := 5) hx hb hts hinX3 hown hK hP 33 rfl rfl 1 (by decide) f10 (fun _ h9 => h9) rfl dX11_lotsByRules_86 ?_
        refine lv_aload_n hx hb dX11_lotsByRules_89 rfl (lv_at hl 0 rfl) ?_
        refine va_get (D := (dC, dI)) (ci := 11) (v := .ref (a0 10)) (C := RX11) (T := TX11) (N := 12) hx hb hts hinX11 hown hK hP 0 rfl rfl 10 (by decide) f1 (fun _ h9 => h9) rfl dX11_lotsByRules_90 ?_
        refine va_get (D := (dC, dI)) (ci := 3) (v := .int (mg N3 2)) (C := RX3) (T := TX3) (N := 5) hx hb hts hinX3 hown hK hP 33 rfl rfl 2 (by decide) f11 (fun _ h9 => h9) rfl dX11_lotsByRules_93 ?_
        have hPc := hP.sub (ws' := (qcW cB cI cJ cZ (a0 7) a6 (a1 0) a2 N8 M2)) [21, 22, 23, 24, 5, 6, 7, 8] rfl
        have hDc := hD.sub (ws' := (qcW cB cI cJ cZ (a0 7) a6 (a1 0) a2 N8 M2)) [21, 22, 23, 24, 5, 6, 7, 8] (by decide) rfl
        have hFc := va_free (wc := (qcW cB cI cJ cZ (a0 7) a6 (a1 0) a2 N8 M2)) hD hS hA [21, 22, 23, 24, 5, 6, 7, 8] rfl
        refine va_callv (va_runV (As := [.ref (a1 0), .int (mg N3 1), .int (mg N3 2)]) (rest := []) ⟨hx, hb, hml, hown, hts⟩ (kX6_start l dC dI cB cI cJ cZ (a0 7) a6 (a1 0) a2 H.size (mg N3 1) (mg N3 2) N8 M2 _ h) (cwV 3 hts gX11_lotsByRules_X6_start rfl rfl rfl (by decide +kernel) ⟨Nat.le_of_ble_eq_true rfl, Nat.le_of_ble_eq_true rfl⟩) (qcpV hK0 hPc hDc) rfl rfl hl.1 rfl (lv_room (Nat.le_of_ble_eq_true rfl)) dX11_lotsByRules_96 ⟨Nat.le_of_ble_eq_true rfl, Nat.le_of_ble_eq_true rfl⟩) hS (fun q _ z => hFc q z) hFc (fun u t H1 locs ht hvm hw hB hz1 hk1 hS => ?_)
        obtain ⟨N10, N11⟩ := u
        obtain ⟨hP1, hK1, hD1⟩ := hB
        rw [ht] at hP1
        obtain ⟨hP, hD⟩ := va_join (wr := [(h0, .inr (11, [.ref (a0 0), .int (mg M0 1), .ref (a0 2), .int (mg M0 3), .ref (a0 4), .ref (a0 5), .ref (a0 6), .ref (a0 7), .ref (a0 8), .ref (a0 9), .ref (a0 10), .ref (a0 11)])), (a0 0, .inl (cI, 400, .inl (ma M0 0))), (a0 11, .inl (cJ, 4, .inr (.inl (ml M0 11)))), (a0 4, .inr (10, [.ref (a1 0), .ref (a1 1), .ref (a1 2), .ref (a1 3), .int (mg M1 4)])), (a1 3, .inl (cI, 2, .inl (ma M1 3))), (a1 1, .inr (6, [.int (mg M3 0), .int (mg M3 1), .int (mg M3 2), .int (mg M3 3), .int (mg M3 4), .int (mg M3 5), .int (mg M3 6), .ref (a3 7), .ref (a3 8), .ref (a3 9)])), (a3 7, .inl (cI, 2, .inl (ma M3 7))), (a3 8, .inl (cI, 2, .inl (ma M3 8))), (a3 9, .inl (cI, 2, .inl (ma M3 9))), (a1 2, .inr (4, [.int (mg M4 0), .ref (a4 1), .ref (a4 2), .ref (a4 3)])), (a4 1, .inl (cI, 6, .inl (ma M4 1))), (a4 2, .inl (cI, 6, .inl (ma M4 2))), (a4 3, .inl (cI, 6, .inl (ma M4 3))), (a0 6, .inr (1, [.int (mg M5 0), .ref (a5 1), .int (mg M5 2), .ref (a5 3), .int (mg M5 4), .ref (a5 5)])), (a5 1, .inl (cI, 4, .inl (ma M5 1))), (a5 3, .inl (cI, 4, .inl (ma M5 3))), (a5 5, .inl (cI, 2, .inl (ma M5 5))), (a0 8, .inr (0, [.ref (a7 0), .ref (a7 1), .ref (a7 2), .ref (a7 3), .int (mg M7 4), va_rf o7, .int (mg M7 6), .int (mg M7 7), .int (mg M7 8), .int (mg M7 9), .int (mg M7 10)])), (a7 0, .inl (cJ, 15, .inr (.inl (ml M7 0)))), (a7 1, .inl (cJ, 800, .inr (.inl (ml M7 1)))), (a7 2, .inl (cI, 4, .inl (ma M7 2))), (a7 3, .inl (cJ, 4, .inr (.inl (ml M7 3)))), (a0 9, .inr (5, [.ref (a8 0), .ref (a8 1), va_rf o8, .int (mg M8 3)])), (a8 0, .inl (cI, 2048, .inl (ma M8 0))), (a8 1, .inl (cI, 2048, .inl (ma M8 1))), (a0 10, .inr (3, [.int (mg N3 0), .int (mg N3 1), .int (mg N3 2), .int (mg N3 3), .int (mg N3 4)])), (a0 2, .inl (cR, 6, .inr (.inr (.inr (.inr F10))))), (h11, .inr (8, [.int (mg M11 0), .ref (a11 1), .ref (a11 2), .ref (a11 3), .int (mg M11 4), .ref (a11 5)])), (a11 1, .inl (cI, 12, .inl (ma M11 1))), (a11 2, .inl (cI, 12, .inl (ma M11 2))), (a11 3, .inl (cI, 400, .inl (ma M11 3))), (a11 5, .inl (cJ, 60, .inr (.inl (ml M11 5))))]) (w1 := (qcW cB cI cJ cZ (a0 7) a6 (a1 0) a2 N10 N11)) hP hD [21, 22, 23, 24, 5, 6, 7, 8] [0, 1, 2, 3, 4, 9, 10, 11, 12, 13, 14, 15, 16, 17, 18, 19, 20, 25, 26, 27, 28, 29, 30, 31, 32, 33, 34, 35, 36, 37, 38, 39] rfl rfl (by decide) (by decide) hk1 hFc hP1 hD1
        have hP := hP.sub (ws' := (x1W cB cI cJ cZ cR cS h0 a0 a1 a2 a3 a4 a5 a6 a7 o7 a8 o8 a9 h11 a11 M0 M1 N11 M3 M4 M5 N10 M7 M8 N3 F10 M11)) [0, 1, 2, 3, 4, 36, 37, 38, 39, 5, 6, 7, 8, 9, 10, 11, 12, 13, 14, 15, 16, 32, 33, 34, 35, 17, 18, 19, 20, 21, 22, 23, 24, 25, 26, 27, 28, 29, 30, 31] rfl
        have hD := hD.sub (ws' := (x1W cB cI cJ cZ cR cS h0 a0 a1 a2 a3 a4 a5 a6 a7 o7 a8 o8 a9 h11 a11 M0 M1 N11 M3 M4 M5 N10 M7 M8 N3 F10 M11)) [0, 1, 2, 3, 4, 36, 37, 38, 39, 5, 6, 7, 8, 9, 10, 11, 12, 13, 14, 15, 16, 32, 33, 34, 35, 17, 18, 19, 20, 21, 22, 23, 24, 25, 26, 27, 28, 29, 30, 31] (by decide) rfl
        generalize H1 = H at hP hS ⊢
        have h := hw
        try dsimp only at h
        refine lv_aload_n hx hb dX11_lotsByRules_99 rfl (lv_at hl 0 rfl) ?_
        refine va_get (D := (dC, dI)) (ci := 11) (v := .ref (a0 7)) (C := RX11) (T := TX11) (N := 12) hx hb hts hinX11 hown hK hP 0 rfl rfl 7 (by decide) f5 (fun _ h9 => h9) rfl dX11_lotsByRules_100 ?_
        refine lv_aload_n hx hb dX11_lotsByRules_103 rfl (lv_at hl 0 rfl) ?_
        refine va_get (D := (dC, dI)) (ci := 11) (v := .ref (a0 4)) (C := RX11) (T := TX11) (N := 12) hx hb hts hinX11 hown hK hP 0 rfl rfl 4 (by decide) f2 (fun _ h9 => h9) rfl dX11_lotsByRules_104 ?_
        refine va_get (D := (dC, dI)) (ci := 10) (v := .ref (a1 0)) (C := RX10) (T := TX10) (N := 5) hx hb hts hinX10 hown hK hP 3 rfl rfl 0 (by decide) f3 (fun _ h9 => h9) rfl dX11_lotsByRules_107 ?_
        refine lv_aload_n hx hb dX11_lotsByRules_110 rfl (lv_at hl 1 rfl) ?_
        refine lv_aload_n hx hb dX11_lotsByRules_111 rfl (lv_at hl 2 rfl) ?_
        have hPc := hP.sub (ws' := (q1W cB cI cJ cZ (a0 7) a6 (a1 0) a2 h11 a11 N10 N11 M11)) [21, 22, 23, 24, 5, 6, 7, 8, 35, 36, 37, 38, 39] rfl
        have hDc := hD.sub (ws' := (q1W cB cI cJ cZ (a0 7) a6 (a1 0) a2 h11 a11 N10 N11 M11)) [21, 22, 23, 24, 5, 6, 7, 8, 35, 36, 37, 38, 39] (by decide) rfl
        have hFc := va_free (wc := (q1W cB cI cJ cZ (a0 7) a6 (a1 0) a2 h11 a11 N10 N11 M11)) hD hS hA [21, 22, 23, 24, 5, 6, 7, 8, 35, 36, 37, 38, 39] rfl
        refine va_callv (va_runV (As := [.ref (a1 0), .ref h11, .ref h11]) (rest := []) ⟨hx, hb, hml, hown, hts⟩ (kX6_goByRulesaa l dC dI cB cI cJ cZ (a0 7) a6 (a1 0) a2 h11 a11 H.size  N10 N11 M11 _ h) (cwV 3 hts gX11_lotsByRules_X6_goByRules rfl rfl rfl (by decide +kernel) ⟨Nat.le_of_ble_eq_true rfl, Nat.le_of_ble_eq_true rfl⟩) (q1pV hK0 hPc hDc) rfl rfl hl.1 rfl (lv_room (Nat.le_of_ble_eq_true rfl)) dX11_lotsByRules_112 ⟨Nat.le_of_ble_eq_true rfl, Nat.le_of_ble_eq_true rfl⟩) hS (fun q _ z => hFc q z) hFc (fun u t H1 locs ht hvm hw hB hz1 hk1 hS => ?_)
        obtain ⟨N13, N14, N15⟩ := u
        obtain ⟨hP1, hK1, hD1⟩ := hB
        rw [ht] at hP1
        obtain ⟨hP, hD⟩ := va_join (wr := [(h0, .inr (11, [.ref (a0 0), .int (mg M0 1), .ref (a0 2), .int (mg M0 3), .ref (a0 4), .ref (a0 5), .ref (a0 6), .ref (a0 7), .ref (a0 8), .ref (a0 9), .ref (a0 10), .ref (a0 11)])), (a0 0, .inl (cI, 400, .inl (ma M0 0))), (a0 11, .inl (cJ, 4, .inr (.inl (ml M0 11)))), (a0 4, .inr (10, [.ref (a1 0), .ref (a1 1), .ref (a1 2), .ref (a1 3), .int (mg M1 4)])), (a1 3, .inl (cI, 2, .inl (ma M1 3))), (a1 1, .inr (6, [.int (mg M3 0), .int (mg M3 1), .int (mg M3 2), .int (mg M3 3), .int (mg M3 4), .int (mg M3 5), .int (mg M3 6), .ref (a3 7), .ref (a3 8), .ref (a3 9)])), (a3 7, .inl (cI, 2, .inl (ma M3 7))), (a3 8, .inl (cI, 2, .inl (ma M3 8))), (a3 9, .inl (cI, 2, .inl (ma M3 9))), (a1 2, .inr (4, [.int (mg M4 0), .ref (a4 1), .ref (a4 2), .ref (a4 3)])), (a4 1, .inl (cI, 6, .inl (ma M4 1))), (a4 2, .inl (cI, 6, .inl (ma M4 2))), (a4 3, .inl (cI, 6, .inl (ma M4 3))), (a0 6, .inr (1, [.int (mg M5 0), .ref (a5 1), .int (mg M5 2), .ref (a5 3), .int (mg M5 4), .ref (a5 5)])), (a5 1, .inl (cI, 4, .inl (ma M5 1))), (a5 3, .inl (cI, 4, .inl (ma M5 3))), (a5 5, .inl (cI, 2, .inl (ma M5 5))), (a0 8, .inr (0, [.ref (a7 0), .ref (a7 1), .ref (a7 2), .ref (a7 3), .int (mg M7 4), va_rf o7, .int (mg M7 6), .int (mg M7 7), .int (mg M7 8), .int (mg M7 9), .int (mg M7 10)])), (a7 0, .inl (cJ, 15, .inr (.inl (ml M7 0)))), (a7 1, .inl (cJ, 800, .inr (.inl (ml M7 1)))), (a7 2, .inl (cI, 4, .inl (ma M7 2))), (a7 3, .inl (cJ, 4, .inr (.inl (ml M7 3)))), (a0 9, .inr (5, [.ref (a8 0), .ref (a8 1), va_rf o8, .int (mg M8 3)])), (a8 0, .inl (cI, 2048, .inl (ma M8 0))), (a8 1, .inl (cI, 2048, .inl (ma M8 1))), (a0 10, .inr (3, [.int (mg N3 0), .int (mg N3 1), .int (mg N3 2), .int (mg N3 3), .int (mg N3 4)])), (a0 2, .inl (cR, 6, .inr (.inr (.inr (.inr F10)))))]) (w1 := (q1W cB cI cJ cZ (a0 7) a6 (a1 0) a2 h11 a11 N13 N14 N15)) hP hD [21, 22, 23, 24, 5, 6, 7, 8, 35, 36, 37, 38, 39] [0, 1, 2, 3, 4, 9, 10, 11, 12, 13, 14, 15, 16, 17, 18, 19, 20, 25, 26, 27, 28, 29, 30, 31, 32, 33, 34] rfl rfl (by decide) (by decide) hk1 hFc hP1 hD1
        have hP := hP.sub (ws' := (x1W cB cI cJ cZ cR cS h0 a0 a1 a2 a3 a4 a5 a6 a7 o7 a8 o8 a9 h11 a11 M0 M1 N14 M3 M4 M5 N13 M7 M8 N3 F10 N15)) [0, 1, 2, 3, 4, 31, 32, 33, 34, 5, 6, 7, 8, 9, 10, 11, 12, 13, 14, 15, 16, 27, 28, 29, 30, 17, 18, 19, 20, 21, 22, 23, 24, 25, 26, 35, 36, 37, 38, 39] rfl
        have hD := hD.sub (ws' := (x1W cB cI cJ cZ cR cS h0 a0 a1 a2 a3 a4 a5 a6 a7 o7 a8 o8 a9 h11 a11 M0 M1 N14 M3 M4 M5 N13 M7 M8 N3 F10 N15)) [0, 1, 2, 3, 4, 31, 32, 33, 34, 5, 6, 7, 8, 9, 10, 11, 12, 13, 14, 15, 16, 27, 28, 29, 30, 17, 18, 19, 20, 21, 22, 23, 24, 25, 26, 35, 36, 37, 38, 39] (by decide) rfl
        generalize H1 = H at hP hS ⊢
        have h := hw
        try dsimp only at h
        refine lv_iload hx hb dX11_lotsByRules_115 (lv_at hl 5 rfl) ?_
        refine lv_iconst (v := 2) hx hb dX11_lotsByRules_117 (by decide) ?_
        refine lv_icmp_ne (tgt := 136) hx hb dX11_lotsByRules_118 (by decide) (fun c16 => ?_) (fun c16 => ?_)
        · have h := h.2 c16
          refine lv_aload_n hx hb dX11_lotsByRules_136 rfl (lv_at hl 0 rfl) ?_
          refine va_get (D := (dC, dI)) (ci := 11) (v := .ref (a0 7)) (C := RX11) (T := TX11) (N := 12) hx hb hts hinX11 hown hK hP 0 rfl rfl 7 (by decide) f5 (fun _ h9 => h9) rfl dX11_lotsByRules_137 ?_
          refine va_get (D := (dC, dI)) (ci := 6) (v := .int (mg N13 6)) (C := RX6) (T := TX6) (N := 10) hx hb hts hinX6 hown hK hP 21 rfl rfl 6 (by decide) f12 (fun _ h9 => h9) rfl dX11_lotsByRules_140 ?_
          refine lv_iload hx hb dX11_lotsByRules_143 (lv_at hl 5 rfl) ?_
          refine lv_icmp_ne (tgt := 151) hx hb dX11_lotsByRules_145 (by decide) (fun c17 => ?_) (fun c17 => ?_)
          · have h := h.2 c17
            exact b151 _ hB6 y3 y4 y5 y6 y7 o7 o8 M0 M1 N14 M3 M4 M5 N13 M7 M8 N3 F10 N15 H locs ls hP hD hS (lv_sub hl [0, 1, 2, 3, 4, 5, 6, 7] rfl) h
          · have h := h.1 c17
            obtain ⟨x18, ex18⟩ : ∃ y : Int32, y = y6 + (1 : Int32) := ⟨_, rfl⟩
            have h := h x18 ex18
            refine lv_iinc (v := x18) (lv' := [(6, .int x18), (0, .ref h0), (1, .ref h11), (2, .ref h11), (3, .int y3), (4, .int y4), (5, .int y5), (7, .int y7)]) hx hb dX11_lotsByRules_148 hl (k := 6) rfl (by rw [ex18]; rfl) (by decide) rfl (fun ls hl => ?_)
            exact b151 _ hB6 y3 y4 y5 x18 y7 o7 o8 M0 M1 N14 M3 M4 M5 N13 M7 M8 N3 F10 N15 H locs ls hP hD hS (lv_sub hl [1, 2, 3, 4, 5, 6, 0, 7] rfl) h
        · have h := h.1 c16
          refine lv_iload hx hb dX11_lotsByRules_121 (lv_at hl 6 rfl) ?_
          refine lv_aload_n hx hb dX11_lotsByRules_123 rfl (lv_at hl 0 rfl) ?_
          refine va_get (D := (dC, dI)) (ci := 11) (v := .ref (a0 7)) (C := RX11) (T := TX11) (N := 12) hx hb hts hinX11 hown hK hP 0 rfl rfl 7 (by decide) f5 (fun _ h9 => h9) rfl dX11_lotsByRules_124 ?_
          refine va_get (D := (dC, dI)) (ci := 6) (v := .int (mg N13 5)) (C := RX6) (T := TX6) (N := 10) hx hb hts hinX6 hown hK hP 21 rfl rfl 5 (by decide) f6 (fun _ h9 => h9) rfl dX11_lotsByRules_127 ?_
          refine lv_iadd hx hb dX11_lotsByRules_130 ?_
          refine lv_topi (fun x19 ex19 => ?_)
          have h := h x19 ex19
          refine lv_istore (lv' := [(6, .int x19), (0, .ref h0), (1, .ref h11), (2, .ref h11), (3, .int y3), (4, .int y4), (5, .int y5), (7, .int y7)]) hx hb dX11_lotsByRules_131 hl (by decide) rfl (fun ls hl => ?_)
          refine lv_goto (tgt := 151) hx hb dX11_lotsByRules_133 (by decide) ?_
          exact b151 _ hB6 y3 y4 y5 x19 y7 o7 o8 M0 M1 N14 M3 M4 M5 N13 M7 M8 N3 F10 N15 H locs ls hP hD hS (lv_sub hl [1, 2, 3, 4, 5, 6, 0, 7] rfl) h
  have bE : ∀ (M0 : gS) (M1 : gS) (M2 : gS) (M3 : gS) (M4 : gS) (M5 : gS) (M6 : gS) (M7 : gS) (M8 : gS) (M9 : gS) (F10 : oF) (M11 : gS) (H : Heap) (locs : List Loc) (ls : Array Slot), va_P (dC, dI) vwCl (x1W cB cI cJ cZ cR cS h0 a0 a1 a2 a3 a4 a5 a6 a7 o7 a8 o8 a9 h11 a11 M0 M1 M2 M3 M4 M5 M6 M7 M8 M9 F10 M11) H → va_D A (x1W cB cI cJ cZ cR cS h0 a0 a1 a2 a3 a4 a5 a6 a7 o7 a8 o8 a9 h11 a11 M0 M1 M2 M3 M4 M5 M6 M7 M8 M9 F10 M11) → va_S A s.heap H locs → lv_has ls 8 [(0, .ref h0), (1, .ref h11), (2, .ref h11), (3, .int p3), (4, .int p4), (5, .int p5)] → wX11_lotsByRulesaa p3 p4 p5 M0 M1 M2 M3 M4 M5 M6 M7 M8 M9 F10 M11 Q → W p l e (headSpec wsX11_lotsByRules rmX11_lotsByRulesaa).room s m ([.ref h0, .ref h11, .ref h11, .int p3, .int p4, .int p5] : List Value).toArray below meth c H locs 0 0 (MQ below (va_Qi (fun (r : Int32) (u : gS × gS × gS × gS × gS × gS × gS × gS × gS × gS × oF × gS) => Q r u.1 u.2.1 u.2.2.1 u.2.2.2.1 u.2.2.2.2.1 u.2.2.2.2.2.1 u.2.2.2.2.2.2.1 u.2.2.2.2.2.2.2.1 u.2.2.2.2.2.2.2.2.1 u.2.2.2.2.2.2.2.2.2.1 u.2.2.2.2.2.2.2.2.2.2.1 u.2.2.2.2.2.2.2.2.2.2.2) (x1B dC dI cB cI cJ cZ cR cS h0 a0 a1 a2 a3 a4 a5 a6 a7 a8 a9 h11 a11 A) A) ([.ref h0, .ref h11, .ref h11, .int p3, .int p4, .int p5] : List Value).toArray s 0 0 A) (F0 m 0 ls []) := by
    intro M0 M1 M2 M3 M4 M5 M6 M7 M8 M9 F10 M11 H locs ls hP hD hS hl h
    unfold wX11_lotsByRulesaa at h
    refine lv_iconst (v := 0) hx hb dX11_lotsByRules_0 (by decide) ?_
    refine lv_istore (lv' := [(6, .int (0 : Int32)), (0, .ref h0), (1, .ref h11), (2, .ref h11), (3, .int p3), (4, .int p4), (5, .int p5)]) hx hb dX11_lotsByRules_1 hl (by decide) rfl (fun ls hl => ?_)
    refine lv_iconst (v := 0) hx hb dX11_lotsByRules_3 (by decide) ?_
    refine lv_istore (lv' := [(7, .int (0 : Int32)), (6, .int (0 : Int32)), (0, .ref h0), (1, .ref h11), (2, .ref h11), (3, .int p3), (4, .int p4), (5, .int p5)]) hx hb dX11_lotsByRules_4 hl (by decide) rfl (fun ls hl => ?_)
    obtain ⟨n9, h⟩ := h
    exact b6  n9 p3 p4 p5 (0 : Int32) (0 : Int32) o7 o8 M0 M1 M2 M3 M4 M5 M6 M7 M8 M9 F10 M11 H locs ls hP hD hS (lv_sub hl [2, 3, 4, 5, 6, 7, 1, 0] rfl) h
  have hl := lv_entry ([.ref h0, .ref h11, .ref h11, .int p3, .int p4, .int p5]) (n := 8) (Nat.le_of_ble_eq_true rfl)
  rw [lg_entry_eq]
  generalize (lg_sl ([.ref h0, .ref h11, .ref h11, .int p3, .int p4, .int p5]) ++ List.replicate (8 - (lg_sl ([.ref h0, .ref h11, .ref h11, .int p3, .int p4, .int p5])).length) Slot.unset).toArray = ls at hl ⊢
  have hl : lv_has ls 8 [(0, .ref h0), (1, .ref h11), (2, .ref h11), (3, .int p3), (4, .int p4), (5, .int p5)] := hl
  exact bE M0 M1 M2 M3 M4 M5 M6 M7 M8 M9 F10 M11 s.heap [] ls hP hD hS hl h
def wX11_lotsaa_40 (h11 : Nat)  (Q : Int32 → gS → gS → gS → gS → gS → gS → gS → gS → gS → gS → oF → gS → Prop) (y1 : Int32) (y2 : Int32) (y3 : Int32) (y4 : Int32) (y5 : Int32) (y6 : Int32) (M0 : gS) (M1 : gS) (M2 : gS) (M3 : gS) (M4 : gS) (M5 : gS) (M6 : gS) (M7 : gS) (M8 : gS) (M9 : gS) (F10 : oF) (M11 : gS) : Prop :=
 ((y3 < (1 : Int32) → (Q (-1 : Int32) M0 M1 M2 M3 M4 M5 M6 M7 M8 M9 F10 M11))
 ∧ (¬ y3 < (1 : Int32) → (((50 : Int32) < y3 → (Q (-1 : Int32) M0 M1 M2 M3 M4 M5 M6 M7 M8 M9 F10 M11))
 ∧ (¬ (50 : Int32) < y3 → (wX11_isPurse y4  (fun (b4 : Bool)  => (((bI b4) = 0 → (Q (-1 : Int32) M0 M1 M2 M3 M4 M5 M6 M7 M8 M9 F10 M11))
 ∧ (¬ (bI b4) = 0 → ((y5 < 0 → (Q (-1 : Int32) M0 M1 M2 M3 M4 M5 M6 M7 M8 M9 F10 M11))
 ∧ (¬ y5 < 0 → (((2 : Int32) < y5 → (Q (-1 : Int32) M0 M1 M2 M3 M4 M5 M6 M7 M8 M9 F10 M11))
 ∧ (¬ (2 : Int32) < y5 → (wX11_hasCorner  M0 M1 M2 M3 M4 M5 M6 M7 M8 M9 (fun (b21 : Bool) (N9 : gS) (N10 : gS) (N11 : gS) (N12 : gS) (N13 : gS) (N14 : gS) (N15 : gS) (N16 : gS) (N17 : gS) (N18 : gS) => (((bI b21) = 0 → (Q (-1 : Int32) N9 N10 N11 N12 N13 N14 N15 N16 N17 N18 F10 M11))
 ∧ (¬ (bI b21) = 0 → (∀ x23 : Int32, x23 = (mg N10 4) → (∀ N24 : gS, N24 = sg N18 0 x23 → ((y6 = 0 → (wX11_ruleAt y1 N9 F10 (fun (r26 : Option Nat) (N27 : gS) (v28 : oF) => (wX11_ruleAt y2 N27 v28 (fun (r29 : Option Nat) (N30 : gS) (v31 : oF) => (r26 = some h11 ∧ (r29 = some h11 ∧ (wX11_lotsByRulesaa y3 y4 y5 N30 N10 N11 N12 N13 N14 N15 N16 N17 N24 v31 M11 (fun (r34 : Int32) (N35 : gS) (N36 : gS) (N37 : gS) (N38 : gS) (N39 : gS) (N40 : gS) (N41 : gS) (N42 : gS) (N43 : gS) (N44 : gS) (v45 : oF) (N46 : gS) => (Q r34 N35 N36 N37 N38 N39 N40 N41 N42 N43 N44 v45 N46))))))))))
 ∧ (¬ y6 = 0 → ((y5 = (2 : Int32) → (Q (0 : Int32) N9 N10 N11 N12 N13 N14 N15 N16 N17 N24 F10 M11))
 ∧ (¬ y5 = (2 : Int32) → (wX11_lotsByBestPlay y3 y4 y5 N9 N10 N11 N12 N13 N14 N15 N16 N17 N24 (fun (r50 : Int32) (N51 : gS) (N52 : gS) (N53 : gS) (N54 : gS) (N55 : gS) (N56 : gS) (N57 : gS) (N58 : gS) (N59 : gS) (N60 : gS) => (Q r50 N51 N52 N53 N54 N55 N56 N57 N58 N59 N60 F10 M11)))))))))))))))))))))))))
def wX11_lotsaa_15 (h11 : Nat)  (Q : Int32 → gS → gS → gS → gS → gS → gS → gS → gS → gS → gS → oF → gS → Prop) (y1 : Int32) (y2 : Int32) (y3 : Int32) (y4 : Int32) (y5 : Int32) (z0 : Int32) (M0 : gS) (M1 : gS) (M2 : gS) (M3 : gS) (M4 : gS) (M5 : gS) (M6 : gS) (M7 : gS) (M8 : gS) (M9 : gS) (F10 : oF) (M11 : gS) : Prop :=
 ((z0 = 0 → (wX11_ruleAt y1 M0 F10 (fun (r2 : Option Nat) (N3 : gS) (v4 : oF) => ((r2 = none → (Q (-1 : Int32) N3 M1 M2 M3 M4 M5 M6 M7 M8 M9 v4 M11))
 ∧ (∀ ia6 : Nat, r2 = some ia6 → (wX11_ruleAt y2 N3 v4 (fun (r7 : Option Nat) (N8 : gS) (v9 : oF) => ((r7 = none → (Q (-1 : Int32) N8 M1 M2 M3 M4 M5 M6 M7 M8 M9 v9 M11))
 ∧ (∀ ia11 : Nat, r7 = some ia11 → (wX11_lotsaa_40 h11  Q y1 y2 y3 y4 y5 z0 N8 M1 M2 M3 M4 M5 M6 M7 M8 M9 v9 M11))))))))))
 ∧ (¬ z0 = 0 → (wX11_lotsaa_40 h11  Q y1 y2 y3 y4 y5 z0 M0 M1 M2 M3 M4 M5 M6 M7 M8 M9 F10 M11)))
def wX11_lotsaa_14 (h11 : Nat)  (Q : Int32 → gS → gS → gS → gS → gS → gS → gS → gS → gS → gS → oF → gS → Prop) (y1 : Int32) (y2 : Int32) (y3 : Int32) (y4 : Int32) (y5 : Int32) (M0 : gS) (M1 : gS) (M2 : gS) (M3 : gS) (M4 : gS) (M5 : gS) (M6 : gS) (M7 : gS) (M8 : gS) (M9 : gS) (F10 : oF) (M11 : gS) : Prop :=
 (wX11_lotsaa_15 h11  Q y1 y2 y3 y4 y5 (0 : Int32) M0 M1 M2 M3 M4 M5 M6 M7 M8 M9 F10 M11)
def wX11_lotsaa (h11 : Nat) (p1 : Int32) (p2 : Int32) (p3 : Int32) (p4 : Int32) (p5 : Int32) (M0 : gS) (M1 : gS) (M2 : gS) (M3 : gS) (M4 : gS) (M5 : gS) (M6 : gS) (M7 : gS) (M8 : gS) (M9 : gS) (F10 : oF) (M11 : gS) (Q : Int32 → gS → gS → gS → gS → gS → gS → gS → gS → gS → gS → oF → gS → Prop) : Prop :=
 ((p1 = (-1 : Int32) → ((p2 = (-1 : Int32) → (wX11_lotsaa_15 h11  Q p1 p2 p3 p4 p5 (1 : Int32) M0 M1 M2 M3 M4 M5 M6 M7 M8 M9 F10 M11))
 ∧ (¬ p2 = (-1 : Int32) → (wX11_lotsaa_14 h11  Q p1 p2 p3 p4 p5 M0 M1 M2 M3 M4 M5 M6 M7 M8 M9 F10 M11))))
 ∧ (¬ p1 = (-1 : Int32) → (wX11_lotsaa_14 h11  Q p1 p2 p3 p4 p5 M0 M1 M2 M3 M4 M5 M6 M7 M8 M9 F10 M11)))
def rmX11_lotsaa : Room := { frames := 6, cells := 0, slots := 0, locals := 153 }
set_option maxHeartbeats 4000000 in
set_option maxRecDepth 100000 in
theorem kX11_lotsaa (l : Launch) (dC : Nat → ClassId) (dI : Nat → Nat → Nat) (cB cI cJ cZ cR cS : ClassId) (h0 : Nat) (a0 : Nat → Nat) (a1 : Nat → Nat) (a2 : Nat → Nat) (a3 : Nat → Nat) (a4 : Nat → Nat) (a5 : Nat → Nat) (a6 : Nat → Nat) (a7 : Nat → Nat) (o7 : Option Nat) (a8 : Nat → Nat) (o8 : Option Nat) (a9 : Nat → Nat) (h11 : Nat) (a11 : Nat → Nat) (sz : Nat) (p1 : Int32) (p2 : Int32) (p3 : Int32) (p4 : Int32) (p5 : Int32) (M0 : gS) (M1 : gS) (M2 : gS) (M3 : gS) (M4 : gS) (M5 : gS) (M6 : gS) (M7 : gS) (M8 : gS) (M9 : gS) (F10 : oF) (M11 : gS) (Q : Int32 → gS → gS → gS → gS → gS → gS → gS → gS → gS → gS → oF → gS → Prop) (h : wX11_lotsaa h11 p1 p2 p3 p4 p5 M0 M1 M2 M3 M4 M5 M6 M7 M8 M9 F10 M11 Q) : Met l yX11_lots wsX11_lots rmX11_lotsaa (va_Pc [.ref h0, .int p1, .int p2, .int p3, .int p4, .int p5] (x1I dC dI cB cI cJ cZ cR cS h0 a0 a1 a2 a3 a4 a5 a6 a7 o7 a8 o8 a9 h11 a11 M0 M1 M2 M3 M4 M5 M6 M7 M8 M9 F10 M11 sz)) (va_Qi (fun (r : Int32) (u : gS × gS × gS × gS × gS × gS × gS × gS × gS × gS × oF × gS) => Q r u.1 u.2.1 u.2.2.1 u.2.2.2.1 u.2.2.2.2.1 u.2.2.2.2.2.1 u.2.2.2.2.2.2.1 u.2.2.2.2.2.2.2.1 u.2.2.2.2.2.2.2.2.1 u.2.2.2.2.2.2.2.2.2.1 u.2.2.2.2.2.2.2.2.2.2.1 u.2.2.2.2.2.2.2.2.2.2.2) (x1B dC dI cB cI cJ cZ cR cS h0 a0 a1 a2 a3 a4 a5 a6 a7 a8 a9 h11 a11 (va_A (x1W cB cI cJ cZ cR cS h0 a0 a1 a2 a3 a4 a5 a6 a7 o7 a8 o8 a9 h11 a11 M0 M1 M2 M3 M4 M5 M6 M7 M8 M9 F10 M11) sz)) (va_A (x1W cB cI cJ cZ cR cS h0 a0 a1 a2 a3 a4 a5 a6 a7 o7 a8 o8 a9 h11 a11 M0 M1 M2 M3 M4 M5 M6 M7 M8 M9 F10 M11) sz)) 0 0 (va_A (x1W cB cI cJ cZ cR cS h0 a0 a1 a2 a3 a4 a5 a6 a7 o7 a8 o8 a9 h11 a11 M0 M1 M2 M3 M4 M5 M6 M7 M8 M9 F10 M11) sz) := by
  refine Met.ofW (cc := cX11_lots) (maxL := 7) (ret := (some .int)) (by decide) rfl ?_
  intro p e s m args below meth c s₁ B hml hv
  obtain ⟨rfl, hsz, hP, hK, hD0⟩ := hv
  have hx := B.exec
  have hb := B.bytes
  have hr := B.returns
  have hts := atoms_spec (ws := wsX11_lots) B.pre
  have hown : s.vm.findClass RX11 = some m.cls := findClass_of_methodNamed B.named
  have hlocks := B.notSynchronized
  subst hsz
  have hD := hD0.self (sz := s.heap.size)
  generalize hAe : va_A (x1W cB cI cJ cZ cR cS h0 a0 a1 a2 a3 a4 a5 a6 a7 o7 a8 o8 a9 h11 a11 M0 M1 M2 M3 M4 M5 M6 M7 M8 M9 F10 M11) s.heap.size = A at hD ⊢
  have hA : ∀ q : Nat, s.heap.size ≤ q → A q := fun q h => by rw [← hAe]; exact Or.inr h
  have hS : va_S A s.heap s.heap [] := va_S.rf
  have hK0 : va_K (dC, dI) vwCl (gT cB cI cJ cZ) s := hK.sub (tys' := gT cB cI cJ cZ) [0, 1, 2, 3] rfl
  have hinX10 : ∀ w ∈ wsX100, w ∈ wsX11_lots := by decide +kernel
  have hinX11 : ∀ w ∈ wsX110, w ∈ wsX11_lots := by decide +kernel
  have hinX3 : ∀ w ∈ wsX30, w ∈ wsX11_lots := by decide +kernel
  have f1 := hts (.fieldLink RX11 61 "LastWords" "lot" "LLastWords$Lot;") (by decide +kernel)
  have f2 := hts (.fieldLink RX11 22 "LastWords" "now" "LLastWords$State;") (by decide +kernel)
  have f3 := hts (.fieldLink RX11 288 "LastWords$State" "x" "I") (by decide +kernel)
  have f4 := hts (.fieldLink RX11 291 "LastWords$Lot" "x" "I") (by decide +kernel)
  have b40 : ∀ (y1 : Int32) (y2 : Int32) (y3 : Int32) (y4 : Int32) (y5 : Int32) (y6 : Int32) (o7 o8 : Option Nat) (M0 : gS) (M1 : gS) (M2 : gS) (M3 : gS) (M4 : gS) (M5 : gS) (M6 : gS) (M7 : gS) (M8 : gS) (M9 : gS) (F10 : oF) (M11 : gS) (H : Heap) (locs : List Loc) (ls : Array Slot), va_P (dC, dI) vwCl (x1W cB cI cJ cZ cR cS h0 a0 a1 a2 a3 a4 a5 a6 a7 o7 a8 o8 a9 h11 a11 M0 M1 M2 M3 M4 M5 M6 M7 M8 M9 F10 M11) H → va_D A (x1W cB cI cJ cZ cR cS h0 a0 a1 a2 a3 a4 a5 a6 a7 o7 a8 o8 a9 h11 a11 M0 M1 M2 M3 M4 M5 M6 M7 M8 M9 F10 M11) → va_S A s.heap H locs → lv_has ls 7 [(0, .ref h0), (1, .int y1), (2, .int y2), (3, .int y3), (4, .int y4), (5, .int y5), (6, .int y6)] → wX11_lotsaa_40 h11  Q y1 y2 y3 y4 y5 y6 M0 M1 M2 M3 M4 M5 M6 M7 M8 M9 F10 M11 → W p l e (headSpec wsX11_lots rmX11_lotsaa).room s m ([.ref h0, .int p1, .int p2, .int p3, .int p4, .int p5] : List Value).toArray below meth c H locs 0 0 (MQ below (va_Qi (fun (r : Int32) (u : gS × gS × gS × gS × gS × gS × gS × gS × gS × gS × oF × gS) => Q r u.1 u.2.1 u.2.2.1 u.2.2.2.1 u.2.2.2.2.1 u.2.2.2.2.2.1 u.2.2.2.2.2.2.1 u.2.2.2.2.2.2.2.1 u.2.2.2.2.2.2.2.2.1 u.2.2.2.2.2.2.2.2.2.1 u.2.2.2.2.2.2.2.2.2.2.1 u.2.2.2.2.2.2.2.2.2.2.2) (x1B dC dI cB cI cJ cZ cR cS h0 a0 a1 a2 a3 a4 a5 a6 a7 a8 a9 h11 a11 A) A) ([.ref h0, .int p1, .int p2, .int p3, .int p4, .int p5] : List Value).toArray s 0 0 A) (F0 m 40 ls []) := by
    intro  y1 y2 y3 y4 y5 y6 o7 o8  M0 M1 M2 M3 M4 M5 M6 M7 M8 M9 F10 M11 H locs ls hP hD hS hl h
    unfold wX11_lotsaa_40 at h
    refine lv_iload_n hx hb dX11_lots_40 rfl (lv_at hl 3 rfl) ?_
    refine lv_iconst (v := 1) hx hb dX11_lots_41 (by decide) ?_
    refine lv_icmp_lt (tgt := 77) hx hb dX11_lots_42 (by decide) (fun c1 => ?_) (fun c1 => ?_)
    · have h := h.1 c1
      refine lv_iconst (v := (-1)) hx hb dX11_lots_77 (by decide) ?_
      exact W.iret (v := (-1 : Int32)) hx hb hr (fun t ht hW => ⟨⟨_, (M0, M1, M2, M3, M4, M5, M6, M7, M8, M9, F10, M11), rfl, h, o7, o8, by rw [ht]; exact hP, va_K.moved hW.alike hK, hD⟩, hS.F ht⟩) hS.2.2 dX11_lots_78
    · have h := h.2 c1
      refine lv_iload_n hx hb dX11_lots_45 rfl (lv_at hl 3 rfl) ?_
      refine lv_bipush (v := (50)) hx hb dX11_lots_46 (by decide) ?_
      refine lv_icmp_gt (tgt := 77) hx hb dX11_lots_48 (by decide) (fun c2 => ?_) (fun c2 => ?_)
      · have h := h.1 c2
        refine lv_iconst (v := (-1)) hx hb dX11_lots_77 (by decide) ?_
        exact W.iret (v := (-1 : Int32)) hx hb hr (fun t ht hW => ⟨⟨_, (M0, M1, M2, M3, M4, M5, M6, M7, M8, M9, F10, M11), rfl, h, o7, o8, by rw [ht]; exact hP, va_K.moved hW.alike hK, hD⟩, hS.F ht⟩) hS.2.2 dX11_lots_78
      · have h := h.2 c2
        refine lv_iload hx hb dX11_lots_51 (lv_at hl 4 rfl) ?_
        have hPc := hP.sub (ws' := (e0W cB cI cJ cZ  )) [] rfl
        have hDc := hD.sub (ws' := (e0W cB cI cJ cZ  )) [] (by decide) rfl
        have hFc := va_free (wc := (e0W cB cI cJ cZ  )) hD hS hA [] rfl
        refine va_calli (va_runS (As := [.int y4]) (rest := []) ⟨hx, hb, hml, hown, hts⟩ (kX11_isPurse l dC dI cB cI cJ cZ  H.size y4  _ h) (cwS 1 hts gX11_lots_X11_isPurse rfl rfl rfl (by decide +kernel) ⟨Nat.le_of_ble_eq_true rfl, Nat.le_of_ble_eq_true rfl⟩) (e0pS hK0 hPc hDc) rfl rfl hl.1 rfl (lv_room (Nat.le_of_ble_eq_true rfl)) dX11_lots_53 ⟨Nat.le_of_ble_eq_true rfl, Nat.le_of_ble_eq_true rfl⟩) hS (fun q _ z => hFc q z) hFc (fun r3 u t H1 locs ht hvm hw hB hz1 hk1 hS => ?_)
        obtain ⟨hP1, hK1, hD1⟩ := hB
        rw [ht] at hP1
        obtain ⟨hP, hD⟩ := va_join (wr := [(h0, .inr (11, [.ref (a0 0), .int (mg M0 1), .ref (a0 2), .int (mg M0 3), .ref (a0 4), .ref (a0 5), .ref (a0 6), .ref (a0 7), .ref (a0 8), .ref (a0 9), .ref (a0 10), .ref (a0 11)])), (a0 0, .inl (cI, 400, .inl (ma M0 0))), (a0 11, .inl (cJ, 4, .inr (.inl (ml M0 11)))), (a0 4, .inr (10, [.ref (a1 0), .ref (a1 1), .ref (a1 2), .ref (a1 3), .int (mg M1 4)])), (a1 3, .inl (cI, 2, .inl (ma M1 3))), (a1 0, .inr (1, [.int (mg M2 0), .ref (a2 1), .int (mg M2 2), .ref (a2 3), .int (mg M2 4), .ref (a2 5)])), (a2 1, .inl (cI, 4, .inl (ma M2 1))), (a2 3, .inl (cI, 4, .inl (ma M2 3))), (a2 5, .inl (cI, 2, .inl (ma M2 5))), (a1 1, .inr (6, [.int (mg M3 0), .int (mg M3 1), .int (mg M3 2), .int (mg M3 3), .int (mg M3 4), .int (mg M3 5), .int (mg M3 6), .ref (a3 7), .ref (a3 8), .ref (a3 9)])), (a3 7, .inl (cI, 2, .inl (ma M3 7))), (a3 8, .inl (cI, 2, .inl (ma M3 8))), (a3 9, .inl (cI, 2, .inl (ma M3 9))), (a1 2, .inr (4, [.int (mg M4 0), .ref (a4 1), .ref (a4 2), .ref (a4 3)])), (a4 1, .inl (cI, 6, .inl (ma M4 1))), (a4 2, .inl (cI, 6, .inl (ma M4 2))), (a4 3, .inl (cI, 6, .inl (ma M4 3))), (a0 6, .inr (1, [.int (mg M5 0), .ref (a5 1), .int (mg M5 2), .ref (a5 3), .int (mg M5 4), .ref (a5 5)])), (a5 1, .inl (cI, 4, .inl (ma M5 1))), (a5 3, .inl (cI, 4, .inl (ma M5 3))), (a5 5, .inl (cI, 2, .inl (ma M5 5))), (a0 7, .inr (6, [.int (mg M6 0), .int (mg M6 1), .int (mg M6 2), .int (mg M6 3), .int (mg M6 4), .int (mg M6 5), .int (mg M6 6), .ref (a6 7), .ref (a6 8), .ref (a6 9)])), (a6 7, .inl (cI, 2, .inl (ma M6 7))), (a6 8, .inl (cI, 2, .inl (ma M6 8))), (a6 9, .inl (cI, 2, .inl (ma M6 9))), (a0 8, .inr (0, [.ref (a7 0), .ref (a7 1), .ref (a7 2), .ref (a7 3), .int (mg M7 4), va_rf o7, .int (mg M7 6), .int (mg M7 7), .int (mg M7 8), .int (mg M7 9), .int (mg M7 10)])), (a7 0, .inl (cJ, 15, .inr (.inl (ml M7 0)))), (a7 1, .inl (cJ, 800, .inr (.inl (ml M7 1)))), (a7 2, .inl (cI, 4, .inl (ma M7 2))), (a7 3, .inl (cJ, 4, .inr (.inl (ml M7 3)))), (a0 9, .inr (5, [.ref (a8 0), .ref (a8 1), va_rf o8, .int (mg M8 3)])), (a8 0, .inl (cI, 2048, .inl (ma M8 0))), (a8 1, .inl (cI, 2048, .inl (ma M8 1))), (a0 10, .inr (3, [.int (mg M9 0), .int (mg M9 1), .int (mg M9 2), .int (mg M9 3), .int (mg M9 4)])), (a0 2, .inl (cR, 6, .inr (.inr (.inr (.inr F10))))), (h11, .inr (8, [.int (mg M11 0), .ref (a11 1), .ref (a11 2), .ref (a11 3), .int (mg M11 4), .ref (a11 5)])), (a11 1, .inl (cI, 12, .inl (ma M11 1))), (a11 2, .inl (cI, 12, .inl (ma M11 2))), (a11 3, .inl (cI, 400, .inl (ma M11 3))), (a11 5, .inl (cJ, 60, .inr (.inl (ml M11 5))))]) (w1 := (e0W cB cI cJ cZ  )) hP hD [] [0, 1, 2, 3, 4, 5, 6, 7, 8, 9, 10, 11, 12, 13, 14, 15, 16, 17, 18, 19, 20, 21, 22, 23, 24, 25, 26, 27, 28, 29, 30, 31, 32, 33, 34, 35, 36, 37, 38, 39] rfl rfl (by decide) (by decide) hk1 hFc hP1 hD1
        have hP := hP.sub (ws' := (x1W cB cI cJ cZ cR cS h0 a0 a1 a2 a3 a4 a5 a6 a7 o7 a8 o8 a9 h11 a11 M0 M1 M2 M3 M4 M5 M6 M7 M8 M9 F10 M11)) [0, 1, 2, 3, 4, 5, 6, 7, 8, 9, 10, 11, 12, 13, 14, 15, 16, 17, 18, 19, 20, 21, 22, 23, 24, 25, 26, 27, 28, 29, 30, 31, 32, 33, 34, 35, 36, 37, 38, 39] rfl
        have hD := hD.sub (ws' := (x1W cB cI cJ cZ cR cS h0 a0 a1 a2 a3 a4 a5 a6 a7 o7 a8 o8 a9 h11 a11 M0 M1 M2 M3 M4 M5 M6 M7 M8 M9 F10 M11)) [0, 1, 2, 3, 4, 5, 6, 7, 8, 9, 10, 11, 12, 13, 14, 15, 16, 17, 18, 19, 20, 21, 22, 23, 24, 25, 26, 27, 28, 29, 30, 31, 32, 33, 34, 35, 36, 37, 38, 39] (by decide) rfl
        generalize H1 = H at hP hS ⊢
        obtain ⟨b4, rfl, h⟩ := hw
        try dsimp only at h
        refine lv_if_eq (tgt := 77) hx hb dX11_lots_56 (by decide) (fun c5 => ?_) (fun c5 => ?_)
        · have h := h.1 c5
          refine lv_iconst (v := (-1)) hx hb dX11_lots_77 (by decide) ?_
          exact W.iret (v := (-1 : Int32)) hx hb hr (fun t ht hW => ⟨⟨_, (M0, M1, M2, M3, M4, M5, M6, M7, M8, M9, F10, M11), rfl, h, o7, o8, by rw [ht]; exact hP, va_K.moved hW.alike hK, hD⟩, hS.F ht⟩) hS.2.2 dX11_lots_78
        · have h := h.2 c5
          refine lv_iload hx hb dX11_lots_59 (lv_at hl 5 rfl) ?_
          refine lv_if_lt (tgt := 77) hx hb dX11_lots_61 (by decide) (fun c6 => ?_) (fun c6 => ?_)
          · have h := h.1 c6
            refine lv_iconst (v := (-1)) hx hb dX11_lots_77 (by decide) ?_
            exact W.iret (v := (-1 : Int32)) hx hb hr (fun t ht hW => ⟨⟨_, (M0, M1, M2, M3, M4, M5, M6, M7, M8, M9, F10, M11), rfl, h, o7, o8, by rw [ht]; exact hP, va_K.moved hW.alike hK, hD⟩, hS.F ht⟩) hS.2.2 dX11_lots_78
          · have h := h.2 c6
            refine lv_iload hx hb dX11_lots_64 (lv_at hl 5 rfl) ?_
            refine lv_iconst (v := 2) hx hb dX11_lots_66 (by decide) ?_
            refine lv_icmp_gt (tgt := 77) hx hb dX11_lots_67 (by decide) (fun c7 => ?_) (fun c7 => ?_)
            · have h := h.1 c7
              refine lv_iconst (v := (-1)) hx hb dX11_lots_77 (by decide) ?_
              exact W.iret (v := (-1 : Int32)) hx hb hr (fun t ht hW => ⟨⟨_, (M0, M1, M2, M3, M4, M5, M6, M7, M8, M9, F10, M11), rfl, h, o7, o8, by rw [ht]; exact hP, va_K.moved hW.alike hK, hD⟩, hS.F ht⟩) hS.2.2 dX11_lots_78
            · have h := h.2 c7
              refine lv_aload_n hx hb dX11_lots_70 rfl (lv_at hl 0 rfl) ?_
              have hPc := hP.sub (ws' := (lwW cB cI cJ cZ h0 a0 a1 a2 a3 a4 a5 a6 a7 o7 a8 o8 a9 M0 M1 M2 M3 M4 M5 M6 M7 M8 M9)) [0, 1, 2, 3, 4, 5, 6, 7, 8, 9, 10, 11, 12, 13, 14, 15, 16, 17, 18, 19, 20, 21, 22, 23, 24, 25, 26, 27, 28, 29, 30, 31, 32, 33] rfl
              have hDc := hD.sub (ws' := (lwW cB cI cJ cZ h0 a0 a1 a2 a3 a4 a5 a6 a7 o7 a8 o8 a9 M0 M1 M2 M3 M4 M5 M6 M7 M8 M9)) [0, 1, 2, 3, 4, 5, 6, 7, 8, 9, 10, 11, 12, 13, 14, 15, 16, 17, 18, 19, 20, 21, 22, 23, 24, 25, 26, 27, 28, 29, 30, 31, 32, 33] (by decide) rfl
              have hFc := va_free (wc := (lwW cB cI cJ cZ h0 a0 a1 a2 a3 a4 a5 a6 a7 o7 a8 o8 a9 M0 M1 M2 M3 M4 M5 M6 M7 M8 M9)) hD hS hA [0, 1, 2, 3, 4, 5, 6, 7, 8, 9, 10, 11, 12, 13, 14, 15, 16, 17, 18, 19, 20, 21, 22, 23, 24, 25, 26, 27, 28, 29, 30, 31, 32, 33] rfl
              refine va_calli (va_runV (As := []) (rest := []) ⟨hx, hb, hml, hown, hts⟩ (kX11_hasCorner l dC dI cB cI cJ cZ h0 a0 a1 a2 a3 a4 a5 a6 a7 o7 a8 o8 a9 H.size  M0 M1 M2 M3 M4 M5 M6 M7 M8 M9 _ h) (cwV 0 hts gX11_lots_X11_hasCorner rfl rfl rfl (by decide +kernel) ⟨Nat.le_of_ble_eq_true rfl, Nat.le_of_ble_eq_true rfl⟩) (lwpV hK0 hPc hDc) rfl rfl hl.1 rfl (lv_room (Nat.le_of_ble_eq_true rfl)) dX11_lots_71 ⟨Nat.le_of_ble_eq_true rfl, Nat.le_of_ble_eq_true rfl⟩) hS (fun q _ z => hFc q z) hFc (fun r8 u t H1 locs ht hvm hw hB hz1 hk1 hS => ?_)
              obtain ⟨N9, N10, N11, N12, N13, N14, N15, N16, N17, N18⟩ := u
              obtain ⟨v19, v20, hP1, hK1, hD1⟩ := hB
              rw [ht] at hP1
              obtain ⟨hP, hD⟩ := va_join (wr := [(a0 2, .inl (cR, 6, .inr (.inr (.inr (.inr F10))))), (h11, .inr (8, [.int (mg M11 0), .ref (a11 1), .ref (a11 2), .ref (a11 3), .int (mg M11 4), .ref (a11 5)])), (a11 1, .inl (cI, 12, .inl (ma M11 1))), (a11 2, .inl (cI, 12, .inl (ma M11 2))), (a11 3, .inl (cI, 400, .inl (ma M11 3))), (a11 5, .inl (cJ, 60, .inr (.inl (ml M11 5))))]) (w1 := (lwW cB cI cJ cZ h0 a0 a1 a2 a3 a4 a5 a6 a7 v19 a8 v20 a9 N9 N10 N11 N12 N13 N14 N15 N16 N17 N18)) hP hD [0, 1, 2, 3, 4, 5, 6, 7, 8, 9, 10, 11, 12, 13, 14, 15, 16, 17, 18, 19, 20, 21, 22, 23, 24, 25, 26, 27, 28, 29, 30, 31, 32, 33] [34, 35, 36, 37, 38, 39] rfl rfl (by decide) (by decide) hk1 hFc hP1 hD1
              have hP := hP.sub (ws' := (x1W cB cI cJ cZ cR cS h0 a0 a1 a2 a3 a4 a5 a6 a7 v19 a8 v20 a9 h11 a11 N9 N10 N11 N12 N13 N14 N15 N16 N17 N18 F10 M11)) [6, 7, 8, 9, 10, 11, 12, 13, 14, 15, 16, 17, 18, 19, 20, 21, 22, 23, 24, 25, 26, 27, 28, 29, 30, 31, 32, 33, 34, 35, 36, 37, 38, 39, 0, 1, 2, 3, 4, 5] rfl
              have hD := hD.sub (ws' := (x1W cB cI cJ cZ cR cS h0 a0 a1 a2 a3 a4 a5 a6 a7 v19 a8 v20 a9 h11 a11 N9 N10 N11 N12 N13 N14 N15 N16 N17 N18 F10 M11)) [6, 7, 8, 9, 10, 11, 12, 13, 14, 15, 16, 17, 18, 19, 20, 21, 22, 23, 24, 25, 26, 27, 28, 29, 30, 31, 32, 33, 34, 35, 36, 37, 38, 39, 0, 1, 2, 3, 4, 5] (by decide) rfl
              generalize H1 = H at hP hS ⊢
              obtain ⟨b21, rfl, h⟩ := hw
              try dsimp only at h
              refine lv_if_ne (tgt := 79) hx hb dX11_lots_74 (by decide) (fun c22 => ?_) (fun c22 => ?_)
              · have h := h.2 c22
                refine lv_aload_n hx hb dX11_lots_79 rfl (lv_at hl 0 rfl) ?_
                refine va_get (D := (dC, dI)) (ci := 11) (v := .ref (a0 10)) (C := RX11) (T := TX11) (N := 12) hx hb hts hinX11 hown hK hP 0 rfl rfl 10 (by decide) f1 (fun _ h9 => h9) rfl dX11_lots_80 ?_
                refine lv_aload_n hx hb dX11_lots_83 rfl (lv_at hl 0 rfl) ?_
                refine va_get (D := (dC, dI)) (ci := 11) (v := .ref (a0 4)) (C := RX11) (T := TX11) (N := 12) hx hb hts hinX11 hown hK hP 0 rfl rfl 4 (by decide) f2 (fun _ h9 => h9) rfl dX11_lots_84 ?_
                refine va_get (D := (dC, dI)) (ci := 10) (v := .int (mg N10 4)) (C := RX10) (T := TX10) (N := 5) hx hb hts hinX10 hown hK hP 3 rfl rfl 4 (by decide) f3 (fun _ h9 => h9) rfl dX11_lots_87 ?_
                refine lv_topi (fun x23 ex23 => ?_)
                have h := h x23 ex23
                refine va_put (D := (dC, dI)) (ci := 3) (v := .int x23) (ty := .int) (C := RX3) (T := TX3) (N := 5) hx hb hts hinX3 tyX3 tyX3_ok nmX3 hown hK hP hD hS 33 rfl rfl 0 (by decide) f4 (fun _ h9 => h9) rfl (by decide +kernel) rfl rfl (Nat.le_of_ble_eq_true rfl) dX11_lots_90 (fun H locs hP hD hS => ?_)
                have hP := x1P_9_f0 hP
                have hD := x1D_9_f0 hD
                have h := h _ rfl
                generalize sg N18 0 x23 = N24 at hP hD h
                refine lv_iload hx hb dX11_lots_93 (lv_at hl 6 rfl) ?_
                refine lv_if_eq (tgt := 118) hx hb dX11_lots_95 (by decide) (fun c25 => ?_) (fun c25 => ?_)
                · have h := h.1 c25
                  refine lv_aload_n hx hb dX11_lots_118 rfl (lv_at hl 0 rfl) ?_
                  refine lv_aload_n hx hb dX11_lots_119 rfl (lv_at hl 0 rfl) ?_
                  refine lv_iload_n hx hb dX11_lots_120 rfl (lv_at hl 1 rfl) ?_
                  have hPc := hP.sub (ws' := (rlW cB cI cJ cZ cR cS h0 a0 N9 F10)) [0, 1, 2, 34] rfl
                  have hDc := hD.sub (ws' := (rlW cB cI cJ cZ cR cS h0 a0 N9 F10)) [0, 1, 2, 34] (by decide) rfl
                  have hFc := va_free (wc := (rlW cB cI cJ cZ cR cS h0 a0 N9 F10)) hD hS hA [0, 1, 2, 34] rfl
                  refine va_callq (va_runV (As := [.int y1]) (rest := [.ref h0]) ⟨hx, hb, hml, hown, hts⟩ (kX11_ruleAt l dC dI cB cI cJ cZ cR cS h0 a0 H.size y1 N9 F10 _ h) (cwV 1 hts gX11_lots_X11_ruleAt rfl rfl rfl (by decide +kernel) ⟨Nat.le_of_ble_eq_true rfl, Nat.le_of_ble_eq_true rfl⟩) (rlpV hK hPc hDc) rfl rfl hl.1 rfl (lv_room (Nat.le_of_ble_eq_true rfl)) dX11_lots_121 ⟨Nat.le_of_ble_eq_true rfl, Nat.le_of_ble_eq_true rfl⟩) hS (fun q _ z => hFc q z) hFc (fun r26 u t H1 locs ht hvm hw hB hz1 hk1 hS => ?_)
                  obtain ⟨N27, v28⟩ := u
                  obtain ⟨hP1, hK1, hD1⟩ := hB
                  rw [ht] at hP1
                  obtain ⟨hP, hD⟩ := va_join (wr := [(a0 4, .inr (10, [.ref (a1 0), .ref (a1 1), .ref (a1 2), .ref (a1 3), .int (mg N10 4)])), (a1 3, .inl (cI, 2, .inl (ma N10 3))), (a1 0, .inr (1, [.int (mg N11 0), .ref (a2 1), .int (mg N11 2), .ref (a2 3), .int (mg N11 4), .ref (a2 5)])), (a2 1, .inl (cI, 4, .inl (ma N11 1))), (a2 3, .inl (cI, 4, .inl (ma N11 3))), (a2 5, .inl (cI, 2, .inl (ma N11 5))), (a1 1, .inr (6, [.int (mg N12 0), .int (mg N12 1), .int (mg N12 2), .int (mg N12 3), .int (mg N12 4), .int (mg N12 5), .int (mg N12 6), .ref (a3 7), .ref (a3 8), .ref (a3 9)])), (a3 7, .inl (cI, 2, .inl (ma N12 7))), (a3 8, .inl (cI, 2, .inl (ma N12 8))), (a3 9, .inl (cI, 2, .inl (ma N12 9))), (a1 2, .inr (4, [.int (mg N13 0), .ref (a4 1), .ref (a4 2), .ref (a4 3)])), (a4 1, .inl (cI, 6, .inl (ma N13 1))), (a4 2, .inl (cI, 6, .inl (ma N13 2))), (a4 3, .inl (cI, 6, .inl (ma N13 3))), (a0 6, .inr (1, [.int (mg N14 0), .ref (a5 1), .int (mg N14 2), .ref (a5 3), .int (mg N14 4), .ref (a5 5)])), (a5 1, .inl (cI, 4, .inl (ma N14 1))), (a5 3, .inl (cI, 4, .inl (ma N14 3))), (a5 5, .inl (cI, 2, .inl (ma N14 5))), (a0 7, .inr (6, [.int (mg N15 0), .int (mg N15 1), .int (mg N15 2), .int (mg N15 3), .int (mg N15 4), .int (mg N15 5), .int (mg N15 6), .ref (a6 7), .ref (a6 8), .ref (a6 9)])), (a6 7, .inl (cI, 2, .inl (ma N15 7))), (a6 8, .inl (cI, 2, .inl (ma N15 8))), (a6 9, .inl (cI, 2, .inl (ma N15 9))), (a0 8, .inr (0, [.ref (a7 0), .ref (a7 1), .ref (a7 2), .ref (a7 3), .int (mg N16 4), va_rf v19, .int (mg N16 6), .int (mg N16 7), .int (mg N16 8), .int (mg N16 9), .int (mg N16 10)])), (a7 0, .inl (cJ, 15, .inr (.inl (ml N16 0)))), (a7 1, .inl (cJ, 800, .inr (.inl (ml N16 1)))), (a7 2, .inl (cI, 4, .inl (ma N16 2))), (a7 3, .inl (cJ, 4, .inr (.inl (ml N16 3)))), (a0 9, .inr (5, [.ref (a8 0), .ref (a8 1), va_rf v20, .int (mg N17 3)])), (a8 0, .inl (cI, 2048, .inl (ma N17 0))), (a8 1, .inl (cI, 2048, .inl (ma N17 1))), (a0 10, .inr (3, [.int (mg N24 0), .int (mg N24 1), .int (mg N24 2), .int (mg N24 3), .int (mg N24 4)])), (h11, .inr (8, [.int (mg M11 0), .ref (a11 1), .ref (a11 2), .ref (a11 3), .int (mg M11 4), .ref (a11 5)])), (a11 1, .inl (cI, 12, .inl (ma M11 1))), (a11 2, .inl (cI, 12, .inl (ma M11 2))), (a11 3, .inl (cI, 400, .inl (ma M11 3))), (a11 5, .inl (cJ, 60, .inr (.inl (ml M11 5))))]) (w1 := (rlW cB cI cJ cZ cR cS h0 a0 N27 v28)) hP hD [0, 1, 2, 34] [3, 4, 5, 6, 7, 8, 9, 10, 11, 12, 13, 14, 15, 16, 17, 18, 19, 20, 21, 22, 23, 24, 25, 26, 27, 28, 29, 30, 31, 32, 33, 35, 36, 37, 38, 39] rfl rfl (by decide) (by decide) hk1 hFc hP1 hD1
                  have hP := hP.sub (ws' := (x1W cB cI cJ cZ cR cS h0 a0 a1 a2 a3 a4 a5 a6 a7 v19 a8 v20 a9 h11 a11 N27 N10 N11 N12 N13 N14 N15 N16 N17 N24 v28 M11)) [36, 37, 38, 0, 1, 2, 3, 4, 5, 6, 7, 8, 9, 10, 11, 12, 13, 14, 15, 16, 17, 18, 19, 20, 21, 22, 23, 24, 25, 26, 27, 28, 29, 30, 39, 31, 32, 33, 34, 35] rfl
                  have hD := hD.sub (ws' := (x1W cB cI cJ cZ cR cS h0 a0 a1 a2 a3 a4 a5 a6 a7 v19 a8 v20 a9 h11 a11 N27 N10 N11 N12 N13 N14 N15 N16 N17 N24 v28 M11)) [36, 37, 38, 0, 1, 2, 3, 4, 5, 6, 7, 8, 9, 10, 11, 12, 13, 14, 15, 16, 17, 18, 19, 20, 21, 22, 23, 24, 25, 26, 27, 28, 29, 30, 39, 31, 32, 33, 34, 35] (by decide) rfl
                  generalize H1 = H at hP hS ⊢
                  have h := hw
                  try dsimp only at h
                  refine lv_aload_n hx hb dX11_lots_124 rfl (lv_at hl 0 rfl) ?_
                  refine lv_iload_n hx hb dX11_lots_125 rfl (lv_at hl 2 rfl) ?_
                  have hPc := hP.sub (ws' := (rlW cB cI cJ cZ cR cS h0 a0 N27 v28)) [0, 1, 2, 34] rfl
                  have hDc := hD.sub (ws' := (rlW cB cI cJ cZ cR cS h0 a0 N27 v28)) [0, 1, 2, 34] (by decide) rfl
                  have hFc := va_free (wc := (rlW cB cI cJ cZ cR cS h0 a0 N27 v28)) hD hS hA [0, 1, 2, 34] rfl
                  refine va_callq (va_runV (As := [.int y2]) (rest := [va_rf r26, .ref h0]) ⟨hx, hb, hml, hown, hts⟩ (kX11_ruleAt l dC dI cB cI cJ cZ cR cS h0 a0 H.size y2 N27 v28 _ h) (cwV 1 hts gX11_lots_X11_ruleAt rfl rfl rfl (by decide +kernel) ⟨Nat.le_of_ble_eq_true rfl, Nat.le_of_ble_eq_true rfl⟩) (rlpV hK hPc hDc) rfl rfl hl.1 rfl (lv_room (by cases r26 <;> exact Nat.le_of_ble_eq_true rfl)) dX11_lots_126 ⟨Nat.le_of_ble_eq_true rfl, Nat.le_of_ble_eq_true rfl⟩) hS (fun q _ z => hFc q z) hFc (fun r29 u t H1 locs ht hvm hw hB hz1 hk1 hS => ?_)
                  obtain ⟨N30, v31⟩ := u
                  obtain ⟨hP1, hK1, hD1⟩ := hB
                  rw [ht] at hP1
                  obtain ⟨hP, hD⟩ := va_join (wr := [(a0 4, .inr (10, [.ref (a1 0), .ref (a1 1), .ref (a1 2), .ref (a1 3), .int (mg N10 4)])), (a1 3, .inl (cI, 2, .inl (ma N10 3))), (a1 0, .inr (1, [.int (mg N11 0), .ref (a2 1), .int (mg N11 2), .ref (a2 3), .int (mg N11 4), .ref (a2 5)])), (a2 1, .inl (cI, 4, .inl (ma N11 1))), (a2 3, .inl (cI, 4, .inl (ma N11 3))), (a2 5, .inl (cI, 2, .inl (ma N11 5))), (a1 1, .inr (6, [.int (mg N12 0), .int (mg N12 1), .int (mg N12 2), .int (mg N12 3), .int (mg N12 4), .int (mg N12 5), .int (mg N12 6), .ref (a3 7), .ref (a3 8), .ref (a3 9)])), (a3 7, .inl (cI, 2, .inl (ma N12 7))), (a3 8, .inl (cI, 2, .inl (ma N12 8))), (a3 9, .inl (cI, 2, .inl (ma N12 9))), (a1 2, .inr (4, [.int (mg N13 0), .ref (a4 1), .ref (a4 2), .ref (a4 3)])), (a4 1, .inl (cI, 6, .inl (ma N13 1))), (a4 2, .inl (cI, 6, .inl (ma N13 2))), (a4 3, .inl (cI, 6, .inl (ma N13 3))), (a0 6, .inr (1, [.int (mg N14 0), .ref (a5 1), .int (mg N14 2), .ref (a5 3), .int (mg N14 4), .ref (a5 5)])), (a5 1, .inl (cI, 4, .inl (ma N14 1))), (a5 3, .inl (cI, 4, .inl (ma N14 3))), (a5 5, .inl (cI, 2, .inl (ma N14 5))), (a0 7, .inr (6, [.int (mg N15 0), .int (mg N15 1), .int (mg N15 2), .int (mg N15 3), .int (mg N15 4), .int (mg N15 5), .int (mg N15 6), .ref (a6 7), .ref (a6 8), .ref (a6 9)])), (a6 7, .inl (cI, 2, .inl (ma N15 7))), (a6 8, .inl (cI, 2, .inl (ma N15 8))), (a6 9, .inl (cI, 2, .inl (ma N15 9))), (a0 8, .inr (0, [.ref (a7 0), .ref (a7 1), .ref (a7 2), .ref (a7 3), .int (mg N16 4), va_rf v19, .int (mg N16 6), .int (mg N16 7), .int (mg N16 8), .int (mg N16 9), .int (mg N16 10)])), (a7 0, .inl (cJ, 15, .inr (.inl (ml N16 0)))), (a7 1, .inl (cJ, 800, .inr (.inl (ml N16 1)))), (a7 2, .inl (cI, 4, .inl (ma N16 2))), (a7 3, .inl (cJ, 4, .inr (.inl (ml N16 3)))), (a0 9, .inr (5, [.ref (a8 0), .ref (a8 1), va_rf v20, .int (mg N17 3)])), (a8 0, .inl (cI, 2048, .inl (ma N17 0))), (a8 1, .inl (cI, 2048, .inl (ma N17 1))), (a0 10, .inr (3, [.int (mg N24 0), .int (mg N24 1), .int (mg N24 2), .int (mg N24 3), .int (mg N24 4)])), (h11, .inr (8, [.int (mg M11 0), .ref (a11 1), .ref (a11 2), .ref (a11 3), .int (mg M11 4), .ref (a11 5)])), (a11 1, .inl (cI, 12, .inl (ma M11 1))), (a11 2, .inl (cI, 12, .inl (ma M11 2))), (a11 3, .inl (cI, 400, .inl (ma M11 3))), (a11 5, .inl (cJ, 60, .inr (.inl (ml M11 5))))]) (w1 := (rlW cB cI cJ cZ cR cS h0 a0 N30 v31)) hP hD [0, 1, 2, 34] [3, 4, 5, 6, 7, 8, 9, 10, 11, 12, 13, 14, 15, 16, 17, 18, 19, 20, 21, 22, 23, 24, 25, 26, 27, 28, 29, 30, 31, 32, 33, 35, 36, 37, 38, 39] rfl rfl (by decide) (by decide) hk1 hFc hP1 hD1
                  have hP := hP.sub (ws' := (x1W cB cI cJ cZ cR cS h0 a0 a1 a2 a3 a4 a5 a6 a7 v19 a8 v20 a9 h11 a11 N30 N10 N11 N12 N13 N14 N15 N16 N17 N24 v31 M11)) [36, 37, 38, 0, 1, 2, 3, 4, 5, 6, 7, 8, 9, 10, 11, 12, 13, 14, 15, 16, 17, 18, 19, 20, 21, 22, 23, 24, 25, 26, 27, 28, 29, 30, 39, 31, 32, 33, 34, 35] rfl
                  have hD := hD.sub (ws' := (x1W cB cI cJ cZ cR cS h0 a0 a1 a2 a3 a4 a5 a6 a7 v19 a8 v20 a9 h11 a11 N30 N10 N11 N12 N13 N14 N15 N16 N17 N24 v31 M11)) [36, 37, 38, 0, 1, 2, 3, 4, 5, 6, 7, 8, 9, 10, 11, 12, 13, 14, 15, 16, 17, 18, 19, 20, 21, 22, 23, 24, 25, 26, 27, 28, 29, 30, 39, 31, 32, 33, 34, 35] (by decide) rfl
                  generalize H1 = H at hP hS ⊢
                  have h := hw
                  try dsimp only at h
                  refine lv_iload_n hx hb dX11_lots_129 rfl (lv_at hl 3 rfl) ?_
                  refine lv_iload hx hb dX11_lots_130 (lv_at hl 4 rfl) ?_
                  refine lv_iload hx hb dX11_lots_132 (lv_at hl 5 rfl) ?_
                  obtain ⟨ehQ32, hQ32⟩ := h
                  subst ehQ32
                  have h := hQ32
                  obtain ⟨ehQ33, hQ33⟩ := h
                  subst ehQ33
                  have h := hQ33
                  have hFc := gs_free hD hS hA
                  refine va_calli (va_runV (As := [.ref h11, .ref h11, .int y3, .int y4, .int y5]) (rest := []) ⟨hx, hb, hml, hown, hts⟩ (kX11_lotsByRulesaa l dC dI cB cI cJ cZ cR cS h0 a0 a1 a2 a3 a4 a5 a6 a7 v19 a8 v20 a9 h11 a11 H.size y3 y4 y5 N30 N10 N11 N12 N13 N14 N15 N16 N17 N24 v31 M11 _ h) (cwV 5 hts gX11_lots_X11_lotsByRules rfl rfl rfl (by decide +kernel) ⟨Nat.le_of_ble_eq_true rfl, Nat.le_of_ble_eq_true rfl⟩) (x1pV hK hP hD) rfl rfl hl.1 rfl (lv_room (Nat.le_of_ble_eq_true rfl)) dX11_lots_134 ⟨Nat.le_of_ble_eq_true rfl, Nat.le_of_ble_eq_true rfl⟩) hS (fun q _ z => hFc q z) hFc (fun r34 u t H1 locs ht hvm hw hB hz1 hk1 hS => ?_)
                  obtain ⟨N35, N36, N37, N38, N39, N40, N41, N42, N43, N44, v45, N46⟩ := u
                  obtain ⟨v47, v48, hP, hK1, hD1⟩ := hB
                  rw [ht] at hP
                  have hD := hD1.weaken (fun _ _ _ z => hFc _ z)
                  generalize H1 = H at hP hS ⊢
                  have h := hw
                  try dsimp only at h
                  exact W.iret (v := r34) hx hb hr (fun t ht hW => ⟨⟨_, (N35, N36, N37, N38, N39, N40, N41, N42, N43, N44, v45, N46), rfl, h, v47, v48, by rw [ht]; exact hP, va_K.moved hW.alike hK, hD⟩, hS.F ht⟩) hS.2.2 dX11_lots_137
                · have h := h.2 c25
                  refine lv_iload hx hb dX11_lots_98 (lv_at hl 5 rfl) ?_
                  refine lv_iconst (v := 2) hx hb dX11_lots_100 (by decide) ?_
                  refine lv_icmp_ne (tgt := 108) hx hb dX11_lots_101 (by decide) (fun c49 => ?_) (fun c49 => ?_)
                  · have h := h.2 c49
                    refine lv_aload_n hx hb dX11_lots_108 rfl (lv_at hl 0 rfl) ?_
                    refine lv_iload_n hx hb dX11_lots_109 rfl (lv_at hl 3 rfl) ?_
                    refine lv_iload hx hb dX11_lots_110 (lv_at hl 4 rfl) ?_
                    refine lv_iload hx hb dX11_lots_112 (lv_at hl 5 rfl) ?_
                    have hPc := hP.sub (ws' := (lwW cB cI cJ cZ h0 a0 a1 a2 a3 a4 a5 a6 a7 v19 a8 v20 a9 N9 N10 N11 N12 N13 N14 N15 N16 N17 N24)) [0, 1, 2, 3, 4, 5, 6, 7, 8, 9, 10, 11, 12, 13, 14, 15, 16, 17, 18, 19, 20, 21, 22, 23, 24, 25, 26, 27, 28, 29, 30, 31, 32, 33] rfl
                    have hDc := hD.sub (ws' := (lwW cB cI cJ cZ h0 a0 a1 a2 a3 a4 a5 a6 a7 v19 a8 v20 a9 N9 N10 N11 N12 N13 N14 N15 N16 N17 N24)) [0, 1, 2, 3, 4, 5, 6, 7, 8, 9, 10, 11, 12, 13, 14, 15, 16, 17, 18, 19, 20, 21, 22, 23, 24, 25, 26, 27, 28, 29, 30, 31, 32, 33] (by decide) rfl
                    have hFc := va_free (wc := (lwW cB cI cJ cZ h0 a0 a1 a2 a3 a4 a5 a6 a7 v19 a8 v20 a9 N9 N10 N11 N12 N13 N14 N15 N16 N17 N24)) hD hS hA [0, 1, 2, 3, 4, 5, 6, 7, 8, 9, 10, 11, 12, 13, 14, 15, 16, 17, 18, 19, 20, 21, 22, 23, 24, 25, 26, 27, 28, 29, 30, 31, 32, 33] rfl
                    refine va_calli (va_runV (As := [.int y3, .int y4, .int y5]) (rest := []) ⟨hx, hb, hml, hown, hts⟩ (kX11_lotsByBestPlay l dC dI cB cI cJ cZ h0 a0 a1 a2 a3 a4 a5 a6 a7 v19 a8 v20 a9 H.size y3 y4 y5 N9 N10 N11 N12 N13 N14 N15 N16 N17 N24 _ h) (cwV 3 hts gX11_lots_X11_lotsByBestPlay rfl rfl rfl (by decide +kernel) ⟨Nat.le_of_ble_eq_true rfl, Nat.le_of_ble_eq_true rfl⟩) (lwpV hK0 hPc hDc) rfl rfl hl.1 rfl (lv_room (Nat.le_of_ble_eq_true rfl)) dX11_lots_114 ⟨Nat.le_of_ble_eq_true rfl, Nat.le_of_ble_eq_true rfl⟩) hS (fun q _ z => hFc q z) hFc (fun r50 u t H1 locs ht hvm hw hB hz1 hk1 hS => ?_)
                    obtain ⟨N51, N52, N53, N54, N55, N56, N57, N58, N59, N60⟩ := u
                    obtain ⟨v61, v62, hP1, hK1, hD1⟩ := hB
                    rw [ht] at hP1
                    obtain ⟨hP, hD⟩ := va_join (wr := [(a0 2, .inl (cR, 6, .inr (.inr (.inr (.inr F10))))), (h11, .inr (8, [.int (mg M11 0), .ref (a11 1), .ref (a11 2), .ref (a11 3), .int (mg M11 4), .ref (a11 5)])), (a11 1, .inl (cI, 12, .inl (ma M11 1))), (a11 2, .inl (cI, 12, .inl (ma M11 2))), (a11 3, .inl (cI, 400, .inl (ma M11 3))), (a11 5, .inl (cJ, 60, .inr (.inl (ml M11 5))))]) (w1 := (lwW cB cI cJ cZ h0 a0 a1 a2 a3 a4 a5 a6 a7 v61 a8 v62 a9 N51 N52 N53 N54 N55 N56 N57 N58 N59 N60)) hP hD [0, 1, 2, 3, 4, 5, 6, 7, 8, 9, 10, 11, 12, 13, 14, 15, 16, 17, 18, 19, 20, 21, 22, 23, 24, 25, 26, 27, 28, 29, 30, 31, 32, 33] [34, 35, 36, 37, 38, 39] rfl rfl (by decide) (by decide) hk1 hFc hP1 hD1
                    have hP := hP.sub (ws' := (x1W cB cI cJ cZ cR cS h0 a0 a1 a2 a3 a4 a5 a6 a7 v61 a8 v62 a9 h11 a11 N51 N52 N53 N54 N55 N56 N57 N58 N59 N60 F10 M11)) [6, 7, 8, 9, 10, 11, 12, 13, 14, 15, 16, 17, 18, 19, 20, 21, 22, 23, 24, 25, 26, 27, 28, 29, 30, 31, 32, 33, 34, 35, 36, 37, 38, 39, 0, 1, 2, 3, 4, 5] rfl
                    have hD := hD.sub (ws' := (x1W cB cI cJ cZ cR cS h0 a0 a1 a2 a3 a4 a5 a6 a7 v61 a8 v62 a9 h11 a11 N51 N52 N53 N54 N55 N56 N57 N58 N59 N60 F10 M11)) [6, 7, 8, 9, 10, 11, 12, 13, 14, 15, 16, 17, 18, 19, 20, 21, 22, 23, 24, 25, 26, 27, 28, 29, 30, 31, 32, 33, 34, 35, 36, 37, 38, 39, 0, 1, 2, 3, 4, 5] (by decide) rfl
                    generalize H1 = H at hP hS ⊢
                    have h := hw
                    try dsimp only at h
                    exact W.iret (v := r50) hx hb hr (fun t ht hW => ⟨⟨_, (N51, N52, N53, N54, N55, N56, N57, N58, N59, N60, F10, M11), rfl, h, v61, v62, by rw [ht]; exact hP, va_K.moved hW.alike hK, hD⟩, hS.F ht⟩) hS.2.2 dX11_lots_117
                  · have h := h.1 c49
                    refine lv_iconst (v := 0) hx hb dX11_lots_104 (by decide) ?_
                    refine lv_goto (tgt := 117) hx hb dX11_lots_105 (by decide) ?_
                    exact W.iret (v := (0 : Int32)) hx hb hr (fun t ht hW => ⟨⟨_, (N9, N10, N11, N12, N13, N14, N15, N16, N17, N24, F10, M11), rfl, h, v19, v20, by rw [ht]; exact hP, va_K.moved hW.alike hK, hD⟩, hS.F ht⟩) hS.2.2 dX11_lots_117
              · have h := h.1 c22
                refine lv_iconst (v := (-1)) hx hb dX11_lots_77 (by decide) ?_
                exact W.iret (v := (-1 : Int32)) hx hb hr (fun t ht hW => ⟨⟨_, (N9, N10, N11, N12, N13, N14, N15, N16, N17, N18, F10, M11), rfl, h, v19, v20, by rw [ht]; exact hP, va_K.moved hW.alike hK, hD⟩, hS.F ht⟩) hS.2.2 dX11_lots_78
  have b15 : ∀ (y1 : Int32) (y2 : Int32) (y3 : Int32) (y4 : Int32) (y5 : Int32) (z0 : Int32) (o7 o8 : Option Nat) (M0 : gS) (M1 : gS) (M2 : gS) (M3 : gS) (M4 : gS) (M5 : gS) (M6 : gS) (M7 : gS) (M8 : gS) (M9 : gS) (F10 : oF) (M11 : gS) (H : Heap) (locs : List Loc) (ls : Array Slot), va_P (dC, dI) vwCl (x1W cB cI cJ cZ cR cS h0 a0 a1 a2 a3 a4 a5 a6 a7 o7 a8 o8 a9 h11 a11 M0 M1 M2 M3 M4 M5 M6 M7 M8 M9 F10 M11) H → va_D A (x1W cB cI cJ cZ cR cS h0 a0 a1 a2 a3 a4 a5 a6 a7 o7 a8 o8 a9 h11 a11 M0 M1 M2 M3 M4 M5 M6 M7 M8 M9 F10 M11) → va_S A s.heap H locs → lv_has ls 7 [(0, .ref h0), (1, .int y1), (2, .int y2), (3, .int y3), (4, .int y4), (5, .int y5)] → wX11_lotsaa_15 h11  Q y1 y2 y3 y4 y5 z0 M0 M1 M2 M3 M4 M5 M6 M7 M8 M9 F10 M11 → W p l e (headSpec wsX11_lots rmX11_lotsaa).room s m ([.ref h0, .int p1, .int p2, .int p3, .int p4, .int p5] : List Value).toArray below meth c H locs 0 0 (MQ below (va_Qi (fun (r : Int32) (u : gS × gS × gS × gS × gS × gS × gS × gS × gS × gS × oF × gS) => Q r u.1 u.2.1 u.2.2.1 u.2.2.2.1 u.2.2.2.2.1 u.2.2.2.2.2.1 u.2.2.2.2.2.2.1 u.2.2.2.2.2.2.2.1 u.2.2.2.2.2.2.2.2.1 u.2.2.2.2.2.2.2.2.2.1 u.2.2.2.2.2.2.2.2.2.2.1 u.2.2.2.2.2.2.2.2.2.2.2) (x1B dC dI cB cI cJ cZ cR cS h0 a0 a1 a2 a3 a4 a5 a6 a7 a8 a9 h11 a11 A) A) ([.ref h0, .int p1, .int p2, .int p3, .int p4, .int p5] : List Value).toArray s 0 0 A) (F0 m 15 ls [.int z0]) := by
    intro  y1 y2 y3 y4 y5 z0 o7 o8  M0 M1 M2 M3 M4 M5 M6 M7 M8 M9 F10 M11 H locs ls hP hD hS hl h
    unfold wX11_lotsaa_15 at h
    refine lv_istore (lv' := [(6, .int z0), (0, .ref h0), (1, .int y1), (2, .int y2), (3, .int y3), (4, .int y4), (5, .int y5)]) hx hb dX11_lots_15 hl (by decide) rfl (fun ls hl => ?_)
    refine lv_iload hx hb dX11_lots_17 (lv_at hl 0 rfl) ?_
    refine lv_if_ne (tgt := 40) hx hb dX11_lots_19 (by decide) (fun c1 => ?_) (fun c1 => ?_)
    · have h := h.2 c1
      exact b40  y1 y2 y3 y4 y5 z0 o7 o8 M0 M1 M2 M3 M4 M5 M6 M7 M8 M9 F10 M11 H locs ls hP hD hS (lv_sub hl [1, 2, 3, 4, 5, 6, 0] rfl) h
    · have h := h.1 c1
      refine lv_aload_n hx hb dX11_lots_22 rfl (lv_at hl 1 rfl) ?_
      refine lv_iload_n hx hb dX11_lots_23 rfl (lv_at hl 2 rfl) ?_
      have hPc := hP.sub (ws' := (rlW cB cI cJ cZ cR cS h0 a0 M0 F10)) [0, 1, 2, 34] rfl
      have hDc := hD.sub (ws' := (rlW cB cI cJ cZ cR cS h0 a0 M0 F10)) [0, 1, 2, 34] (by decide) rfl
      have hFc := va_free (wc := (rlW cB cI cJ cZ cR cS h0 a0 M0 F10)) hD hS hA [0, 1, 2, 34] rfl
      refine va_callq (va_runV (As := [.int y1]) (rest := []) ⟨hx, hb, hml, hown, hts⟩ (kX11_ruleAt l dC dI cB cI cJ cZ cR cS h0 a0 H.size y1 M0 F10 _ h) (cwV 1 hts gX11_lots_X11_ruleAt rfl rfl rfl (by decide +kernel) ⟨Nat.le_of_ble_eq_true rfl, Nat.le_of_ble_eq_true rfl⟩) (rlpV hK hPc hDc) rfl rfl hl.1 rfl (lv_room (Nat.le_of_ble_eq_true rfl)) dX11_lots_24 ⟨Nat.le_of_ble_eq_true rfl, Nat.le_of_ble_eq_true rfl⟩) hS (fun q _ z => hFc q z) hFc (fun r2 u t H1 locs ht hvm hw hB hz1 hk1 hS => ?_)
      obtain ⟨N3, v4⟩ := u
      obtain ⟨hP1, hK1, hD1⟩ := hB
      rw [ht] at hP1
      obtain ⟨hP, hD⟩ := va_join (wr := [(a0 4, .inr (10, [.ref (a1 0), .ref (a1 1), .ref (a1 2), .ref (a1 3), .int (mg M1 4)])), (a1 3, .inl (cI, 2, .inl (ma M1 3))), (a1 0, .inr (1, [.int (mg M2 0), .ref (a2 1), .int (mg M2 2), .ref (a2 3), .int (mg M2 4), .ref (a2 5)])), (a2 1, .inl (cI, 4, .inl (ma M2 1))), (a2 3, .inl (cI, 4, .inl (ma M2 3))), (a2 5, .inl (cI, 2, .inl (ma M2 5))), (a1 1, .inr (6, [.int (mg M3 0), .int (mg M3 1), .int (mg M3 2), .int (mg M3 3), .int (mg M3 4), .int (mg M3 5), .int (mg M3 6), .ref (a3 7), .ref (a3 8), .ref (a3 9)])), (a3 7, .inl (cI, 2, .inl (ma M3 7))), (a3 8, .inl (cI, 2, .inl (ma M3 8))), (a3 9, .inl (cI, 2, .inl (ma M3 9))), (a1 2, .inr (4, [.int (mg M4 0), .ref (a4 1), .ref (a4 2), .ref (a4 3)])), (a4 1, .inl (cI, 6, .inl (ma M4 1))), (a4 2, .inl (cI, 6, .inl (ma M4 2))), (a4 3, .inl (cI, 6, .inl (ma M4 3))), (a0 6, .inr (1, [.int (mg M5 0), .ref (a5 1), .int (mg M5 2), .ref (a5 3), .int (mg M5 4), .ref (a5 5)])), (a5 1, .inl (cI, 4, .inl (ma M5 1))), (a5 3, .inl (cI, 4, .inl (ma M5 3))), (a5 5, .inl (cI, 2, .inl (ma M5 5))), (a0 7, .inr (6, [.int (mg M6 0), .int (mg M6 1), .int (mg M6 2), .int (mg M6 3), .int (mg M6 4), .int (mg M6 5), .int (mg M6 6), .ref (a6 7), .ref (a6 8), .ref (a6 9)])), (a6 7, .inl (cI, 2, .inl (ma M6 7))), (a6 8, .inl (cI, 2, .inl (ma M6 8))), (a6 9, .inl (cI, 2, .inl (ma M6 9))), (a0 8, .inr (0, [.ref (a7 0), .ref (a7 1), .ref (a7 2), .ref (a7 3), .int (mg M7 4), va_rf o7, .int (mg M7 6), .int (mg M7 7), .int (mg M7 8), .int (mg M7 9), .int (mg M7 10)])), (a7 0, .inl (cJ, 15, .inr (.inl (ml M7 0)))), (a7 1, .inl (cJ, 800, .inr (.inl (ml M7 1)))), (a7 2, .inl (cI, 4, .inl (ma M7 2))), (a7 3, .inl (cJ, 4, .inr (.inl (ml M7 3)))), (a0 9, .inr (5, [.ref (a8 0), .ref (a8 1), va_rf o8, .int (mg M8 3)])), (a8 0, .inl (cI, 2048, .inl (ma M8 0))), (a8 1, .inl (cI, 2048, .inl (ma M8 1))), (a0 10, .inr (3, [.int (mg M9 0), .int (mg M9 1), .int (mg M9 2), .int (mg M9 3), .int (mg M9 4)])), (h11, .inr (8, [.int (mg M11 0), .ref (a11 1), .ref (a11 2), .ref (a11 3), .int (mg M11 4), .ref (a11 5)])), (a11 1, .inl (cI, 12, .inl (ma M11 1))), (a11 2, .inl (cI, 12, .inl (ma M11 2))), (a11 3, .inl (cI, 400, .inl (ma M11 3))), (a11 5, .inl (cJ, 60, .inr (.inl (ml M11 5))))]) (w1 := (rlW cB cI cJ cZ cR cS h0 a0 N3 v4)) hP hD [0, 1, 2, 34] [3, 4, 5, 6, 7, 8, 9, 10, 11, 12, 13, 14, 15, 16, 17, 18, 19, 20, 21, 22, 23, 24, 25, 26, 27, 28, 29, 30, 31, 32, 33, 35, 36, 37, 38, 39] rfl rfl (by decide) (by decide) hk1 hFc hP1 hD1
      have hP := hP.sub (ws' := (x1W cB cI cJ cZ cR cS h0 a0 a1 a2 a3 a4 a5 a6 a7 o7 a8 o8 a9 h11 a11 N3 M1 M2 M3 M4 M5 M6 M7 M8 M9 v4 M11)) [36, 37, 38, 0, 1, 2, 3, 4, 5, 6, 7, 8, 9, 10, 11, 12, 13, 14, 15, 16, 17, 18, 19, 20, 21, 22, 23, 24, 25, 26, 27, 28, 29, 30, 39, 31, 32, 33, 34, 35] rfl
      have hD := hD.sub (ws' := (x1W cB cI cJ cZ cR cS h0 a0 a1 a2 a3 a4 a5 a6 a7 o7 a8 o8 a9 h11 a11 N3 M1 M2 M3 M4 M5 M6 M7 M8 M9 v4 M11)) [36, 37, 38, 0, 1, 2, 3, 4, 5, 6, 7, 8, 9, 10, 11, 12, 13, 14, 15, 16, 17, 18, 19, 20, 21, 22, 23, 24, 25, 26, 27, 28, 29, 30, 39, 31, 32, 33, 34, 35] (by decide) rfl
      generalize H1 = H at hP hS ⊢
      have h := hw
      try dsimp only at h
      rcases c5 : r2 with _ | ia6
      · have h := h.1 c5
        refine lv_ifnullN (tgt := 38) hx hb dX11_lots_27 (by decide) ?_
        refine lv_iconst (v := (-1)) hx hb dX11_lots_38 (by decide) ?_
        exact W.iret (v := (-1 : Int32)) hx hb hr (fun t ht hW => ⟨⟨_, (N3, M1, M2, M3, M4, M5, M6, M7, M8, M9, v4, M11), rfl, h, o7, o8, by rw [ht]; exact hP, va_K.moved hW.alike hK, hD⟩, hS.F ht⟩) hS.2.2 dX11_lots_39
      · have h := h.2 ia6 c5
        refine lv_ifnull hx hb dX11_lots_27 ?_
        refine lv_aload_n hx hb dX11_lots_30 rfl (lv_at hl 1 rfl) ?_
        refine lv_iload_n hx hb dX11_lots_31 rfl (lv_at hl 3 rfl) ?_
        have hPc := hP.sub (ws' := (rlW cB cI cJ cZ cR cS h0 a0 N3 v4)) [0, 1, 2, 34] rfl
        have hDc := hD.sub (ws' := (rlW cB cI cJ cZ cR cS h0 a0 N3 v4)) [0, 1, 2, 34] (by decide) rfl
        have hFc := va_free (wc := (rlW cB cI cJ cZ cR cS h0 a0 N3 v4)) hD hS hA [0, 1, 2, 34] rfl
        refine va_callq (va_runV (As := [.int y2]) (rest := []) ⟨hx, hb, hml, hown, hts⟩ (kX11_ruleAt l dC dI cB cI cJ cZ cR cS h0 a0 H.size y2 N3 v4 _ h) (cwV 1 hts gX11_lots_X11_ruleAt rfl rfl rfl (by decide +kernel) ⟨Nat.le_of_ble_eq_true rfl, Nat.le_of_ble_eq_true rfl⟩) (rlpV hK hPc hDc) rfl rfl hl.1 rfl (lv_room (Nat.le_of_ble_eq_true rfl)) dX11_lots_32 ⟨Nat.le_of_ble_eq_true rfl, Nat.le_of_ble_eq_true rfl⟩) hS (fun q _ z => hFc q z) hFc (fun r7 u t H1 locs ht hvm hw hB hz1 hk1 hS => ?_)
        obtain ⟨N8, v9⟩ := u
        obtain ⟨hP1, hK1, hD1⟩ := hB
        rw [ht] at hP1
        obtain ⟨hP, hD⟩ := va_join (wr := [(a0 4, .inr (10, [.ref (a1 0), .ref (a1 1), .ref (a1 2), .ref (a1 3), .int (mg M1 4)])), (a1 3, .inl (cI, 2, .inl (ma M1 3))), (a1 0, .inr (1, [.int (mg M2 0), .ref (a2 1), .int (mg M2 2), .ref (a2 3), .int (mg M2 4), .ref (a2 5)])), (a2 1, .inl (cI, 4, .inl (ma M2 1))), (a2 3, .inl (cI, 4, .inl (ma M2 3))), (a2 5, .inl (cI, 2, .inl (ma M2 5))), (a1 1, .inr (6, [.int (mg M3 0), .int (mg M3 1), .int (mg M3 2), .int (mg M3 3), .int (mg M3 4), .int (mg M3 5), .int (mg M3 6), .ref (a3 7), .ref (a3 8), .ref (a3 9)])), (a3 7, .inl (cI, 2, .inl (ma M3 7))), (a3 8, .inl (cI, 2, .inl (ma M3 8))), (a3 9, .inl (cI, 2, .inl (ma M3 9))), (a1 2, .inr (4, [.int (mg M4 0), .ref (a4 1), .ref (a4 2), .ref (a4 3)])), (a4 1, .inl (cI, 6, .inl (ma M4 1))), (a4 2, .inl (cI, 6, .inl (ma M4 2))), (a4 3, .inl (cI, 6, .inl (ma M4 3))), (a0 6, .inr (1, [.int (mg M5 0), .ref (a5 1), .int (mg M5 2), .ref (a5 3), .int (mg M5 4), .ref (a5 5)])), (a5 1, .inl (cI, 4, .inl (ma M5 1))), (a5 3, .inl (cI, 4, .inl (ma M5 3))), (a5 5, .inl (cI, 2, .inl (ma M5 5))), (a0 7, .inr (6, [.int (mg M6 0), .int (mg M6 1), .int (mg M6 2), .int (mg M6 3), .int (mg M6 4), .int (mg M6 5), .int (mg M6 6), .ref (a6 7), .ref (a6 8), .ref (a6 9)])), (a6 7, .inl (cI, 2, .inl (ma M6 7))), (a6 8, .inl (cI, 2, .inl (ma M6 8))), (a6 9, .inl (cI, 2, .inl (ma M6 9))), (a0 8, .inr (0, [.ref (a7 0), .ref (a7 1), .ref (a7 2), .ref (a7 3), .int (mg M7 4), va_rf o7, .int (mg M7 6), .int (mg M7 7), .int (mg M7 8), .int (mg M7 9), .int (mg M7 10)])), (a7 0, .inl (cJ, 15, .inr (.inl (ml M7 0)))), (a7 1, .inl (cJ, 800, .inr (.inl (ml M7 1)))), (a7 2, .inl (cI, 4, .inl (ma M7 2))), (a7 3, .inl (cJ, 4, .inr (.inl (ml M7 3)))), (a0 9, .inr (5, [.ref (a8 0), .ref (a8 1), va_rf o8, .int (mg M8 3)])), (a8 0, .inl (cI, 2048, .inl (ma M8 0))), (a8 1, .inl (cI, 2048, .inl (ma M8 1))), (a0 10, .inr (3, [.int (mg M9 0), .int (mg M9 1), .int (mg M9 2), .int (mg M9 3), .int (mg M9 4)])), (h11, .inr (8, [.int (mg M11 0), .ref (a11 1), .ref (a11 2), .ref (a11 3), .int (mg M11 4), .ref (a11 5)])), (a11 1, .inl (cI, 12, .inl (ma M11 1))), (a11 2, .inl (cI, 12, .inl (ma M11 2))), (a11 3, .inl (cI, 400, .inl (ma M11 3))), (a11 5, .inl (cJ, 60, .inr (.inl (ml M11 5))))]) (w1 := (rlW cB cI cJ cZ cR cS h0 a0 N8 v9)) hP hD [0, 1, 2, 34] [3, 4, 5, 6, 7, 8, 9, 10, 11, 12, 13, 14, 15, 16, 17, 18, 19, 20, 21, 22, 23, 24, 25, 26, 27, 28, 29, 30, 31, 32, 33, 35, 36, 37, 38, 39] rfl rfl (by decide) (by decide) hk1 hFc hP1 hD1
        have hP := hP.sub (ws' := (x1W cB cI cJ cZ cR cS h0 a0 a1 a2 a3 a4 a5 a6 a7 o7 a8 o8 a9 h11 a11 N8 M1 M2 M3 M4 M5 M6 M7 M8 M9 v9 M11)) [36, 37, 38, 0, 1, 2, 3, 4, 5, 6, 7, 8, 9, 10, 11, 12, 13, 14, 15, 16, 17, 18, 19, 20, 21, 22, 23, 24, 25, 26, 27, 28, 29, 30, 39, 31, 32, 33, 34, 35] rfl
        have hD := hD.sub (ws' := (x1W cB cI cJ cZ cR cS h0 a0 a1 a2 a3 a4 a5 a6 a7 o7 a8 o8 a9 h11 a11 N8 M1 M2 M3 M4 M5 M6 M7 M8 M9 v9 M11)) [36, 37, 38, 0, 1, 2, 3, 4, 5, 6, 7, 8, 9, 10, 11, 12, 13, 14, 15, 16, 17, 18, 19, 20, 21, 22, 23, 24, 25, 26, 27, 28, 29, 30, 39, 31, 32, 33, 34, 35] (by decide) rfl
        generalize H1 = H at hP hS ⊢
        have h := hw
        try dsimp only at h
        rcases c10 : r7 with _ | ia11
        · have h := h.1 c10
          refine lv_ifnonnullN hx hb dX11_lots_35 ?_
          refine lv_iconst (v := (-1)) hx hb dX11_lots_38 (by decide) ?_
          exact W.iret (v := (-1 : Int32)) hx hb hr (fun t ht hW => ⟨⟨_, (N8, M1, M2, M3, M4, M5, M6, M7, M8, M9, v9, M11), rfl, h, o7, o8, by rw [ht]; exact hP, va_K.moved hW.alike hK, hD⟩, hS.F ht⟩) hS.2.2 dX11_lots_39
        · have h := h.2 ia11 c10
          refine lv_ifnonnull (tgt := 40) hx hb dX11_lots_35 (by decide) ?_
          exact b40  y1 y2 y3 y4 y5 z0 o7 o8 N8 M1 M2 M3 M4 M5 M6 M7 M8 M9 v9 M11 H locs ls hP hD hS (lv_sub hl [1, 2, 3, 4, 5, 6, 0] rfl) h
  have b14 : ∀ (y1 : Int32) (y2 : Int32) (y3 : Int32) (y4 : Int32) (y5 : Int32) (o7 o8 : Option Nat) (M0 : gS) (M1 : gS) (M2 : gS) (M3 : gS) (M4 : gS) (M5 : gS) (M6 : gS) (M7 : gS) (M8 : gS) (M9 : gS) (F10 : oF) (M11 : gS) (H : Heap) (locs : List Loc) (ls : Array Slot), va_P (dC, dI) vwCl (x1W cB cI cJ cZ cR cS h0 a0 a1 a2 a3 a4 a5 a6 a7 o7 a8 o8 a9 h11 a11 M0 M1 M2 M3 M4 M5 M6 M7 M8 M9 F10 M11) H → va_D A (x1W cB cI cJ cZ cR cS h0 a0 a1 a2 a3 a4 a5 a6 a7 o7 a8 o8 a9 h11 a11 M0 M1 M2 M3 M4 M5 M6 M7 M8 M9 F10 M11) → va_S A s.heap H locs → lv_has ls 7 [(0, .ref h0), (1, .int y1), (2, .int y2), (3, .int y3), (4, .int y4), (5, .int y5)] → wX11_lotsaa_14 h11  Q y1 y2 y3 y4 y5 M0 M1 M2 M3 M4 M5 M6 M7 M8 M9 F10 M11 → W p l e (headSpec wsX11_lots rmX11_lotsaa).room s m ([.ref h0, .int p1, .int p2, .int p3, .int p4, .int p5] : List Value).toArray below meth c H locs 0 0 (MQ below (va_Qi (fun (r : Int32) (u : gS × gS × gS × gS × gS × gS × gS × gS × gS × gS × oF × gS) => Q r u.1 u.2.1 u.2.2.1 u.2.2.2.1 u.2.2.2.2.1 u.2.2.2.2.2.1 u.2.2.2.2.2.2.1 u.2.2.2.2.2.2.2.1 u.2.2.2.2.2.2.2.2.1 u.2.2.2.2.2.2.2.2.2.1 u.2.2.2.2.2.2.2.2.2.2.1 u.2.2.2.2.2.2.2.2.2.2.2) (x1B dC dI cB cI cJ cZ cR cS h0 a0 a1 a2 a3 a4 a5 a6 a7 a8 a9 h11 a11 A) A) ([.ref h0, .int p1, .int p2, .int p3, .int p4, .int p5] : List Value).toArray s 0 0 A) (F0 m 14 ls []) := by
    intro  y1 y2 y3 y4 y5 o7 o8  M0 M1 M2 M3 M4 M5 M6 M7 M8 M9 F10 M11 H locs ls hP hD hS hl h
    unfold wX11_lotsaa_14 at h
    refine lv_iconst (v := 0) hx hb dX11_lots_14 (by decide) ?_
    exact b15  y1 y2 y3 y4 y5 (0 : Int32) o7 o8 M0 M1 M2 M3 M4 M5 M6 M7 M8 M9 F10 M11 H locs ls hP hD hS (lv_sub hl [0, 1, 2, 3, 4, 5] rfl) h
  have bE : ∀ (M0 : gS) (M1 : gS) (M2 : gS) (M3 : gS) (M4 : gS) (M5 : gS) (M6 : gS) (M7 : gS) (M8 : gS) (M9 : gS) (F10 : oF) (M11 : gS) (H : Heap) (locs : List Loc) (ls : Array Slot), va_P (dC, dI) vwCl (x1W cB cI cJ cZ cR cS h0 a0 a1 a2 a3 a4 a5 a6 a7 o7 a8 o8 a9 h11 a11 M0 M1 M2 M3 M4 M5 M6 M7 M8 M9 F10 M11) H → va_D A (x1W cB cI cJ cZ cR cS h0 a0 a1 a2 a3 a4 a5 a6 a7 o7 a8 o8 a9 h11 a11 M0 M1 M2 M3 M4 M5 M6 M7 M8 M9 F10 M11) → va_S A s.heap H locs → lv_has ls 7 [(0, .ref h0), (1, .int p1), (2, .int p2), (3, .int p3), (4, .int p4), (5, .int p5)] → wX11_lotsaa h11 p1 p2 p3 p4 p5 M0 M1 M2 M3 M4 M5 M6 M7 M8 M9 F10 M11 Q → W p l e (headSpec wsX11_lots rmX11_lotsaa).room s m ([.ref h0, .int p1, .int p2, .int p3, .int p4, .int p5] : List Value).toArray below meth c H locs 0 0 (MQ below (va_Qi (fun (r : Int32) (u : gS × gS × gS × gS × gS × gS × gS × gS × gS × gS × oF × gS) => Q r u.1 u.2.1 u.2.2.1 u.2.2.2.1 u.2.2.2.2.1 u.2.2.2.2.2.1 u.2.2.2.2.2.2.1 u.2.2.2.2.2.2.2.1 u.2.2.2.2.2.2.2.2.1 u.2.2.2.2.2.2.2.2.2.1 u.2.2.2.2.2.2.2.2.2.2.1 u.2.2.2.2.2.2.2.2.2.2.2) (x1B dC dI cB cI cJ cZ cR cS h0 a0 a1 a2 a3 a4 a5 a6 a7 a8 a9 h11 a11 A) A) ([.ref h0, .int p1, .int p2, .int p3, .int p4, .int p5] : List Value).toArray s 0 0 A) (F0 m 0 ls []) := by
    intro M0 M1 M2 M3 M4 M5 M6 M7 M8 M9 F10 M11 H locs ls hP hD hS hl h
    unfold wX11_lotsaa at h
    refine lv_iload_n hx hb dX11_lots_0 rfl (lv_at hl 1 rfl) ?_
    refine lv_iconst (v := (-1)) hx hb dX11_lots_1 (by decide) ?_
    refine lv_icmp_ne (tgt := 14) hx hb dX11_lots_2 (by decide) (fun c1 => ?_) (fun c1 => ?_)
    · have h := h.2 c1
      exact b14  p1 p2 p3 p4 p5 o7 o8 M0 M1 M2 M3 M4 M5 M6 M7 M8 M9 F10 M11 H locs ls hP hD hS (lv_sub hl [0, 1, 2, 3, 4, 5] rfl) h
    · have h := h.1 c1
      refine lv_iload_n hx hb dX11_lots_5 rfl (lv_at hl 2 rfl) ?_
      refine lv_iconst (v := (-1)) hx hb dX11_lots_6 (by decide) ?_
      refine lv_icmp_ne (tgt := 14) hx hb dX11_lots_7 (by decide) (fun c2 => ?_) (fun c2 => ?_)
      · have h := h.2 c2
        exact b14  p1 p2 p3 p4 p5 o7 o8 M0 M1 M2 M3 M4 M5 M6 M7 M8 M9 F10 M11 H locs ls hP hD hS (lv_sub hl [0, 1, 2, 3, 4, 5] rfl) h
      · have h := h.1 c2
        refine lv_iconst (v := 1) hx hb dX11_lots_10 (by decide) ?_
        refine lv_goto (tgt := 15) hx hb dX11_lots_11 (by decide) ?_
        exact b15  p1 p2 p3 p4 p5 (1 : Int32) o7 o8 M0 M1 M2 M3 M4 M5 M6 M7 M8 M9 F10 M11 H locs ls hP hD hS (lv_sub hl [0, 1, 2, 3, 4, 5] rfl) h
  have hl := lv_entry ([.ref h0, .int p1, .int p2, .int p3, .int p4, .int p5]) (n := 7) (Nat.le_of_ble_eq_true rfl)
  rw [lg_entry_eq]
  generalize (lg_sl ([.ref h0, .int p1, .int p2, .int p3, .int p4, .int p5]) ++ List.replicate (7 - (lg_sl ([.ref h0, .int p1, .int p2, .int p3, .int p4, .int p5])).length) Slot.unset).toArray = ls at hl ⊢
  have hl : lv_has ls 7 [(0, .ref h0), (1, .int p1), (2, .int p2), (3, .int p3), (4, .int p4), (5, .int p5)] := hl
  exact bE M0 M1 M2 M3 M4 M5 M6 M7 M8 M9 F10 M11 s.heap [] ls hP hD hS hl h
def wX11_lotsByRulesab_151 (B6 : Int32 → Int32 → Int32 → Int32 → Int32 → gS → gS → gS → gS → gS → gS → gS → gS → gS → gS → oF → gS → gS → Prop) (Q : Int32 → gS → gS → gS → gS → gS → gS → gS → gS → gS → gS → oF → gS → gS → Prop) (y3 : Int32) (y4 : Int32) (y5 : Int32) (y6 : Int32) (y7 : Int32) (M0 : gS) (M1 : gS) (M2 : gS) (M3 : gS) (M4 : gS) (M5 : gS) (M6 : gS) (M7 : gS) (M8 : gS) (M9 : gS) (F10 : oF) (M11 : gS) (M12 : gS) : Prop :=
 (∀ x1 : Int32, x1 = y7 + (1 : Int32) → (B6 y3 y4 y5 y6 x1 M0 M1 M2 M3 M4 M5 M6 M7 M8 M9 F10 M11 M12))
def wX11_lotsByRulesab_6  (Q : Int32 → gS → gS → gS → gS → gS → gS → gS → gS → gS → gS → oF → gS → gS → Prop) : Nat → Int32 → Int32 → Int32 → Int32 → Int32 → gS → gS → gS → gS → gS → gS → gS → gS → gS → gS → oF → gS → gS → Prop
 | 0, _, _, _, _, _, _, _, _, _, _, _, _, _, _, _, _, _, _ => False
 | n + 1, y3, y4, y5, y6, y7, M0, M1, M2, M3, M4, M5, M6, M7, M8, M9, F10, M11, M12 => ((y3 ≤ y7 → (Q y6 M0 M1 M2 M3 M4 M5 M6 M7 M8 M9 F10 M11 M12))
 ∧ (¬ y3 ≤ y7 → (wX3_draw (mg M2 0) y4 M9 (fun (N3 : gS) => (∀ N4 : gS, N4 = sg M6 5 (0 : Int32) → (∀ x5 : Int32, x5 = (mg N3 3) → (∀ N6 : gS, N6 = sa N4 7 0 x5 → (∀ x7 : Int32, x7 = (mg N3 4) → (∀ N8 : gS, N8 = sa N6 7 1 x7 → (wX6_start (mg N3 1) (mg N3 2) N8 M2 (fun (N10 : gS) (N11 : gS) => (wX6_goByRulesab  N10 N11 M11 M12 (fun (N13 : gS) (N14 : gS) (N15 : gS) (N16 : gS) => ((y5 = (2 : Int32) → (∀ x20 : Int32, x20 = (y6 + (mg N13 5)) → (wX11_lotsByRulesab_151 (fun (y3 : Int32) (y4 : Int32) (y5 : Int32) (y6 : Int32) (y7 : Int32) (M0 : gS) (M1 : gS) (M2 : gS) (M3 : gS) (M4 : gS) (M5 : gS) (M6 : gS) (M7 : gS) (M8 : gS) (M9 : gS) (F10 : oF) (M11 : gS) (M12 : gS) => wX11_lotsByRulesab_6  Q n y3 y4 y5 y6 y7 M0 M1 M2 M3 M4 M5 M6 M7 M8 M9 F10 M11 M12) Q y3 y4 y5 x20 y7 M0 M1 N14 M3 M4 M5 N13 M7 M8 N3 F10 N15 N16)))
 ∧ (¬ y5 = (2 : Int32) → (((mg N13 6) = y5 → (∀ x19 : Int32, x19 = y6 + (1 : Int32) → (wX11_lotsByRulesab_151 (fun (y3 : Int32) (y4 : Int32) (y5 : Int32) (y6 : Int32) (y7 : Int32) (M0 : gS) (M1 : gS) (M2 : gS) (M3 : gS) (M4 : gS) (M5 : gS) (M6 : gS) (M7 : gS) (M8 : gS) (M9 : gS) (F10 : oF) (M11 : gS) (M12 : gS) => wX11_lotsByRulesab_6  Q n y3 y4 y5 y6 y7 M0 M1 M2 M3 M4 M5 M6 M7 M8 M9 F10 M11 M12) Q y3 y4 y5 x19 y7 M0 M1 N14 M3 M4 M5 N13 M7 M8 N3 F10 N15 N16)))
 ∧ (¬ (mg N13 6) = y5 → (wX11_lotsByRulesab_151 (fun (y3 : Int32) (y4 : Int32) (y5 : Int32) (y6 : Int32) (y7 : Int32) (M0 : gS) (M1 : gS) (M2 : gS) (M3 : gS) (M4 : gS) (M5 : gS) (M6 : gS) (M7 : gS) (M8 : gS) (M9 : gS) (F10 : oF) (M11 : gS) (M12 : gS) => wX11_lotsByRulesab_6  Q n y3 y4 y5 y6 y7 M0 M1 M2 M3 M4 M5 M6 M7 M8 M9 F10 M11 M12) Q y3 y4 y5 y6 y7 M0 M1 N14 M3 M4 M5 N13 M7 M8 N3 F10 N15 N16))))))))))))))))))
def wX11_lotsByRulesab (p3 : Int32) (p4 : Int32) (p5 : Int32) (M0 : gS) (M1 : gS) (M2 : gS) (M3 : gS) (M4 : gS) (M5 : gS) (M6 : gS) (M7 : gS) (M8 : gS) (M9 : gS) (F10 : oF) (M11 : gS) (M12 : gS) (Q : Int32 → gS → gS → gS → gS → gS → gS → gS → gS → gS → gS → oF → gS → gS → Prop) : Prop :=
 (∃ k6 : Nat, wX11_lotsByRulesab_6  Q k6 p3 p4 p5 (0 : Int32) (0 : Int32) M0 M1 M2 M3 M4 M5 M6 M7 M8 M9 F10 M11 M12)
def rmX11_lotsByRulesab : Room := { frames := 5, cells := 0, slots := 0, locals := 124 }
set_option maxHeartbeats 4000000 in
set_option maxRecDepth 100000 in
theorem kX11_lotsByRulesab (l : Launch) (dC : Nat → ClassId) (dI : Nat → Nat → Nat) (cB cI cJ cZ cR cS : ClassId) (h0 : Nat) (a0 : Nat → Nat) (a1 : Nat → Nat) (a2 : Nat → Nat) (a3 : Nat → Nat) (a4 : Nat → Nat) (a5 : Nat → Nat) (a6 : Nat → Nat) (a7 : Nat → Nat) (o7 : Option Nat) (a8 : Nat → Nat) (o8 : Option Nat) (a9 : Nat → Nat) (h11 : Nat) (a11 : Nat → Nat) (h12 : Nat) (a12 : Nat → Nat) (sz : Nat) (p3 : Int32) (p4 : Int32) (p5 : Int32) (M0 : gS) (M1 : gS) (M2 : gS) (M3 : gS) (M4 : gS) (M5 : gS) (M6 : gS) (M7 : gS) (M8 : gS) (M9 : gS) (F10 : oF) (M11 : gS) (M12 : gS) (Q : Int32 → gS → gS → gS → gS → gS → gS → gS → gS → gS → gS → oF → gS → gS → Prop) (h : wX11_lotsByRulesab p3 p4 p5 M0 M1 M2 M3 M4 M5 M6 M7 M8 M9 F10 M11 M12 Q) : Met l yX11_lotsByRules wsX11_lotsByRules rmX11_lotsByRulesab (va_Pc [.ref h0, .ref h11, .ref h12, .int p3, .int p4, .int p5] (x2I dC dI cB cI cJ cZ cR cS h0 a0 a1 a2 a3 a4 a5 a6 a7 o7 a8 o8 a9 h11 a11 h12 a12 M0 M1 M2 M3 M4 M5 M6 M7 M8 M9 F10 M11 M12 sz)) (va_Qi (fun (r : Int32) (u : gS × gS × gS × gS × gS × gS × gS × gS × gS × gS × oF × gS × gS) => Q r u.1 u.2.1 u.2.2.1 u.2.2.2.1 u.2.2.2.2.1 u.2.2.2.2.2.1 u.2.2.2.2.2.2.1 u.2.2.2.2.2.2.2.1 u.2.2.2.2.2.2.2.2.1 u.2.2.2.2.2.2.2.2.2.1 u.2.2.2.2.2.2.2.2.2.2.1 u.2.2.2.2.2.2.2.2.2.2.2.1 u.2.2.2.2.2.2.2.2.2.2.2.2) (x2B dC dI cB cI cJ cZ cR cS h0 a0 a1 a2 a3 a4 a5 a6 a7 a8 a9 h11 a11 h12 a12 (va_A (x2W cB cI cJ cZ cR cS h0 a0 a1 a2 a3 a4 a5 a6 a7 o7 a8 o8 a9 h11 a11 h12 a12 M0 M1 M2 M3 M4 M5 M6 M7 M8 M9 F10 M11 M12) sz)) (va_A (x2W cB cI cJ cZ cR cS h0 a0 a1 a2 a3 a4 a5 a6 a7 o7 a8 o8 a9 h11 a11 h12 a12 M0 M1 M2 M3 M4 M5 M6 M7 M8 M9 F10 M11 M12) sz)) 0 0 (va_A (x2W cB cI cJ cZ cR cS h0 a0 a1 a2 a3 a4 a5 a6 a7 o7 a8 o8 a9 h11 a11 h12 a12 M0 M1 M2 M3 M4 M5 M6 M7 M8 M9 F10 M11 M12) sz) := by
  refine Met.ofW (cc := cX11_lotsByRules) (maxL := 8) (ret := (some .int)) (by decide) rfl ?_
  intro p e s m args below meth c s₁ B hml hv
  obtain ⟨rfl, hsz, hP, hK, hD0⟩ := hv
  have hx := B.exec
  have hb := B.bytes
  have hr := B.returns
  have hts := atoms_spec (ws := wsX11_lotsByRules) B.pre
  have hown : s.vm.findClass RX11 = some m.cls := findClass_of_methodNamed B.named
  have hlocks := B.notSynchronized
  subst hsz
  have hD := hD0.self (sz := s.heap.size)
  generalize hAe : va_A (x2W cB cI cJ cZ cR cS h0 a0 a1 a2 a3 a4 a5 a6 a7 o7 a8 o8 a9 h11 a11 h12 a12 M0 M1 M2 M3 M4 M5 M6 M7 M8 M9 F10 M11 M12) s.heap.size = A at hD ⊢
  have hA : ∀ q : Nat, s.heap.size ≤ q → A q := fun q h => by rw [← hAe]; exact Or.inr h
  have hS : va_S A s.heap s.heap [] := va_S.rf
  have hK0 : va_K (dC, dI) vwCl (gT cB cI cJ cZ) s := hK.sub (tys' := gT cB cI cJ cZ) [0, 1, 2, 3] rfl
  have hinX1 : ∀ w ∈ wsX10, w ∈ wsX11_lotsByRules := by decide +kernel
  have hinX10 : ∀ w ∈ wsX100, w ∈ wsX11_lotsByRules := by decide +kernel
  have hinX11 : ∀ w ∈ wsX110, w ∈ wsX11_lotsByRules := by decide +kernel
  have hinX3 : ∀ w ∈ wsX30, w ∈ wsX11_lotsByRules := by decide +kernel
  have hinX6 : ∀ w ∈ wsX60, w ∈ wsX11_lotsByRules := by decide +kernel
  have f1 := hts (.fieldLink RX11 61 "LastWords" "lot" "LLastWords$Lot;") (by decide +kernel)
  have f2 := hts (.fieldLink RX11 22 "LastWords" "now" "LLastWords$State;") (by decide +kernel)
  have f3 := hts (.fieldLink RX11 108 "LastWords$State" "corner" "LLastWords$Corner;") (by decide +kernel)
  have f4 := hts (.fieldLink RX11 95 "LastWords$Corner" "tunes" "I") (by decide +kernel)
  have f5 := hts (.fieldLink RX11 40 "LastWords" "trial" "LLastWords$Quarrel;") (by decide +kernel)
  have f6 := hts (.fieldLink RX11 177 "LastWords$Quarrel" "hat" "I") (by decide +kernel)
  have f7 := hts (.fieldLink RX11 183 "LastWords$Quarrel" "purse" "[I") (by decide +kernel)
  have f8 := hts (.fieldLink RX11 307 "LastWords$Lot" "purseOfZero" "I") (by decide +kernel)
  have f9 := hts (.fieldLink RX11 310 "LastWords$Lot" "purseOfOne" "I") (by decide +kernel)
  have f10 := hts (.fieldLink RX11 313 "LastWords$Lot" "tune" "I") (by decide +kernel)
  have f11 := hts (.fieldLink RX11 304 "LastWords$Lot" "first" "I") (by decide +kernel)
  have f12 := hts (.fieldLink RX11 156 "LastWords$Quarrel" "winner" "I") (by decide +kernel)
  have b151 : ∀ (B6 : Int32 → Int32 → Int32 → Int32 → Int32 → gS → gS → gS → gS → gS → gS → gS → gS → gS → gS → oF → gS → gS → Prop) (hB6 : ∀ (y3 : Int32) (y4 : Int32) (y5 : Int32) (y6 : Int32) (y7 : Int32) (o7 o8 : Option Nat) (M0 : gS) (M1 : gS) (M2 : gS) (M3 : gS) (M4 : gS) (M5 : gS) (M6 : gS) (M7 : gS) (M8 : gS) (M9 : gS) (F10 : oF) (M11 : gS) (M12 : gS) (H : Heap) (locs : List Loc) (ls : Array Slot), va_P (dC, dI) vwCl (x2W cB cI cJ cZ cR cS h0 a0 a1 a2 a3 a4 a5 a6 a7 o7 a8 o8 a9 h11 a11 h12 a12 M0 M1 M2 M3 M4 M5 M6 M7 M8 M9 F10 M11 M12) H → va_D A (x2W cB cI cJ cZ cR cS h0 a0 a1 a2 a3 a4 a5 a6 a7 o7 a8 o8 a9 h11 a11 h12 a12 M0 M1 M2 M3 M4 M5 M6 M7 M8 M9 F10 M11 M12) → va_S A s.heap H locs → lv_has ls 8 [(0, .ref h0), (1, .ref h11), (2, .ref h12), (3, .int y3), (4, .int y4), (5, .int y5), (6, .int y6), (7, .int y7)] → B6 y3 y4 y5 y6 y7 M0 M1 M2 M3 M4 M5 M6 M7 M8 M9 F10 M11 M12 → W p l e (headSpec wsX11_lotsByRules rmX11_lotsByRulesab).room s m ([.ref h0, .ref h11, .ref h12, .int p3, .int p4, .int p5] : List Value).toArray below meth c H locs 0 0 (MQ below (va_Qi (fun (r : Int32) (u : gS × gS × gS × gS × gS × gS × gS × gS × gS × gS × oF × gS × gS) => Q r u.1 u.2.1 u.2.2.1 u.2.2.2.1 u.2.2.2.2.1 u.2.2.2.2.2.1 u.2.2.2.2.2.2.1 u.2.2.2.2.2.2.2.1 u.2.2.2.2.2.2.2.2.1 u.2.2.2.2.2.2.2.2.2.1 u.2.2.2.2.2.2.2.2.2.2.1 u.2.2.2.2.2.2.2.2.2.2.2.1 u.2.2.2.2.2.2.2.2.2.2.2.2) (x2B dC dI cB cI cJ cZ cR cS h0 a0 a1 a2 a3 a4 a5 a6 a7 a8 a9 h11 a11 h12 a12 A) A) ([.ref h0, .ref h11, .ref h12, .int p3, .int p4, .int p5] : List Value).toArray s 0 0 A) (F0 m 6 ls [])) (y3 : Int32) (y4 : Int32) (y5 : Int32) (y6 : Int32) (y7 : Int32) (o7 o8 : Option Nat) (M0 : gS) (M1 : gS) (M2 : gS) (M3 : gS) (M4 : gS) (M5 : gS) (M6 : gS) (M7 : gS) (M8 : gS) (M9 : gS) (F10 : oF) (M11 : gS) (M12 : gS) (H : Heap) (locs : List Loc) (ls : Array Slot), va_P (dC, dI) vwCl (x2W cB cI cJ cZ cR cS h0 a0 a1 a2 a3 a4 a5 a6 a7 o7 a8 o8 a9 h11 a11 h12 a12 M0 M1 M2 M3 M4 M5 M6 M7 M8 M9 F10 M11 M12) H → va_D A (x2W cB cI cJ cZ cR cS h0 a0 a1 a2 a3 a4 a5 a6 a7 o7 a8 o8 a9 h11 a11 h12 a12 M0 M1 M2 M3 M4 M5 M6 M7 M8 M9 F10 M11 M12) → va_S A s.heap H locs → lv_has ls 8 [(0, .ref h0), (1, .ref h11), (2, .ref h12), (3, .int y3), (4, .int y4), (5, .int y5), (6, .int y6), (7, .int y7)] → wX11_lotsByRulesab_151 B6 Q y3 y4 y5 y6 y7 M0 M1 M2 M3 M4 M5 M6 M7 M8 M9 F10 M11 M12 → W p l e (headSpec wsX11_lotsByRules rmX11_lotsByRulesab).room s m ([.ref h0, .ref h11, .ref h12, .int p3, .int p4, .int p5] : List Value).toArray below meth c H locs 0 0 (MQ below (va_Qi (fun (r : Int32) (u : gS × gS × gS × gS × gS × gS × gS × gS × gS × gS × oF × gS × gS) => Q r u.1 u.2.1 u.2.2.1 u.2.2.2.1 u.2.2.2.2.1 u.2.2.2.2.2.1 u.2.2.2.2.2.2.1 u.2.2.2.2.2.2.2.1 u.2.2.2.2.2.2.2.2.1 u.2.2.2.2.2.2.2.2.2.1 u.2.2.2.2.2.2.2.2.2.2.1 u.2.2.2.2.2.2.2.2.2.2.2.1 u.2.2.2.2.2.2.2.2.2.2.2.2) (x2B dC dI cB cI cJ cZ cR cS h0 a0 a1 a2 a3 a4 a5 a6 a7 a8 a9 h11 a11 h12 a12 A) A) ([.ref h0, .ref h11, .ref h12, .int p3, .int p4, .int p5] : List Value).toArray s 0 0 A) (F0 m 151 ls []) := by
    intro B6 hB6 y3 y4 y5 y6 y7 o7 o8  M0 M1 M2 M3 M4 M5 M6 M7 M8 M9 F10 M11 M12 H locs ls hP hD hS hl h
    unfold wX11_lotsByRulesab_151 at h
    obtain ⟨x1, ex1⟩ : ∃ y : Int32, y = y7 + (1 : Int32) := ⟨_, rfl⟩
    have h := h x1 ex1
    refine lv_iinc (v := x1) (lv' := [(7, .int x1), (0, .ref h0), (1, .ref h11), (2, .ref h12), (3, .int y3), (4, .int y4), (5, .int y5), (6, .int y6)]) hx hb dX11_lotsByRules_151 hl (k := 7) rfl (by rw [ex1]; rfl) (by decide) rfl (fun ls hl => ?_)
    refine lv_goto (tgt := 6) hx hb dX11_lotsByRules_154 (by decide) ?_
    exact hB6 y3 y4 y5 y6 x1 o7 o8 M0 M1 M2 M3 M4 M5 M6 M7 M8 M9 F10 M11 M12 H locs ls hP hD hS (lv_sub hl [1, 2, 3, 4, 5, 6, 7, 0] rfl) h
  have b6 : ∀ (n : Nat) (y3 : Int32) (y4 : Int32) (y5 : Int32) (y6 : Int32) (y7 : Int32) (o7 o8 : Option Nat) (M0 : gS) (M1 : gS) (M2 : gS) (M3 : gS) (M4 : gS) (M5 : gS) (M6 : gS) (M7 : gS) (M8 : gS) (M9 : gS) (F10 : oF) (M11 : gS) (M12 : gS) (H : Heap) (locs : List Loc) (ls : Array Slot), va_P (dC, dI) vwCl (x2W cB cI cJ cZ cR cS h0 a0 a1 a2 a3 a4 a5 a6 a7 o7 a8 o8 a9 h11 a11 h12 a12 M0 M1 M2 M3 M4 M5 M6 M7 M8 M9 F10 M11 M12) H → va_D A (x2W cB cI cJ cZ cR cS h0 a0 a1 a2 a3 a4 a5 a6 a7 o7 a8 o8 a9 h11 a11 h12 a12 M0 M1 M2 M3 M4 M5 M6 M7 M8 M9 F10 M11 M12) → va_S A s.heap H locs → lv_has ls 8 [(0, .ref h0), (1, .ref h11), (2, .ref h12), (3, .int y3), (4, .int y4), (5, .int y5), (6, .int y6), (7, .int y7)] → wX11_lotsByRulesab_6  Q n y3 y4 y5 y6 y7 M0 M1 M2 M3 M4 M5 M6 M7 M8 M9 F10 M11 M12 → W p l e (headSpec wsX11_lotsByRules rmX11_lotsByRulesab).room s m ([.ref h0, .ref h11, .ref h12, .int p3, .int p4, .int p5] : List Value).toArray below meth c H locs 0 0 (MQ below (va_Qi (fun (r : Int32) (u : gS × gS × gS × gS × gS × gS × gS × gS × gS × gS × oF × gS × gS) => Q r u.1 u.2.1 u.2.2.1 u.2.2.2.1 u.2.2.2.2.1 u.2.2.2.2.2.1 u.2.2.2.2.2.2.1 u.2.2.2.2.2.2.2.1 u.2.2.2.2.2.2.2.2.1 u.2.2.2.2.2.2.2.2.2.1 u.2.2.2.2.2.2.2.2.2.2.1 u.2.2.2.2.2.2.2.2.2.2.2.1 u.2.2.2.2.2.2.2.2.2.2.2.2) (x2B dC dI cB cI cJ cZ cR cS h0 a0 a1 a2 a3 a4 a5 a6 a7 a8 a9 h11 a11 h12 a12 A) A) ([.ref h0, .ref h11, .ref h12, .int p3, .int p4, .int p5] : List Value).toArray s 0 0 A) (F0 m 6 ls []) := by
    intro  n
    induction n with
    | zero => intro y3 y4 y5 y6 y7 o7 o8  M0 M1 M2 M3 M4 M5 M6 M7 M8 M9 F10 M11 M12 H locs ls hP hD hS hl h; exact absurd h (by simp [wX11_lotsByRulesab_6])
    | succ n hB60 =>
      intro y3 y4 y5 y6 y7 o7 o8  M0 M1 M2 M3 M4 M5 M6 M7 M8 M9 F10 M11 M12 H locs ls hP hD hS hl h
      have hB6 := hB60
      rw [wX11_lotsByRulesab_6] at h
      refine lv_iload hx hb dX11_lotsByRules_6 (lv_at hl 7 rfl) ?_
      refine lv_iload_n hx hb dX11_lotsByRules_8 rfl (lv_at hl 3 rfl) ?_
      refine lv_icmp_ge (tgt := 157) hx hb dX11_lotsByRules_9 (by decide) (fun c1 => ?_) (fun c1 => ?_)
      · have h := h.1 c1
        refine lv_iload hx hb dX11_lotsByRules_157 (lv_at hl 6 rfl) ?_
        exact W.iret (v := y6) hx hb hr (fun t ht hW => ⟨⟨_, (M0, M1, M2, M3, M4, M5, M6, M7, M8, M9, F10, M11, M12), rfl, h, o7, o8, by rw [ht]; exact hP, va_K.moved hW.alike hK, hD⟩, hS.F ht⟩) hS.2.2 dX11_lotsByRules_159
      · have h := h.2 c1
        refine lv_aload_n hx hb dX11_lotsByRules_12 rfl (lv_at hl 0 rfl) ?_
        refine va_get (D := (dC, dI)) (ci := 11) (v := .ref (a0 10)) (C := RX11) (T := TX11) (N := 12) hx hb hts hinX11 hown hK hP 0 rfl rfl 10 (by decide) f1 (fun _ h9 => h9) rfl dX11_lotsByRules_13 ?_
        refine lv_aload_n hx hb dX11_lotsByRules_16 rfl (lv_at hl 0 rfl) ?_
        refine va_get (D := (dC, dI)) (ci := 11) (v := .ref (a0 4)) (C := RX11) (T := TX11) (N := 12) hx hb hts hinX11 hown hK hP 0 rfl rfl 4 (by decide) f2 (fun _ h9 => h9) rfl dX11_lotsByRules_17 ?_
        refine va_get (D := (dC, dI)) (ci := 10) (v := .ref (a1 0)) (C := RX10) (T := TX10) (N := 5) hx hb hts hinX10 hown hK hP 3 rfl rfl 0 (by decide) f3 (fun _ h9 => h9) rfl dX11_lotsByRules_20 ?_
        refine va_get (D := (dC, dI)) (ci := 1) (v := .int (mg M2 0)) (C := RX1) (T := TX1) (N := 6) hx hb hts hinX1 hown hK hP 5 rfl rfl 0 (by decide) f4 (fun _ h9 => h9) rfl dX11_lotsByRules_23 ?_
        refine lv_iload hx hb dX11_lotsByRules_26 (lv_at hl 4 rfl) ?_
        have hPc := hP.sub (ws' := (loW cB cI cJ cZ (a0 10) a9 M9)) [33] rfl
        have hDc := hD.sub (ws' := (loW cB cI cJ cZ (a0 10) a9 M9)) [33] (by decide) rfl
        have hFc := va_free (wc := (loW cB cI cJ cZ (a0 10) a9 M9)) hD hS hA [33] rfl
        refine va_callv (va_runV (As := [.int (mg M2 0), .int y4]) (rest := []) ⟨hx, hb, hml, hown, hts⟩ (kX3_draw l dC dI cB cI cJ cZ (a0 10) a9 H.size (mg M2 0) y4 M9 _ h) (cwV 2 hts gX11_lotsByRules_X3_draw rfl rfl rfl (by decide +kernel) ⟨Nat.le_of_ble_eq_true rfl, Nat.le_of_ble_eq_true rfl⟩) (lopV hK0 hPc hDc) rfl rfl hl.1 rfl (lv_room (Nat.le_of_ble_eq_true rfl)) dX11_lotsByRules_28 ⟨Nat.le_of_ble_eq_true rfl, Nat.le_of_ble_eq_true rfl⟩) hS (fun q _ z => hFc q z) hFc (fun u t H1 locs ht hvm hw hB hz1 hk1 hS => ?_)
        obtain ⟨N3, rfl⟩ : ∃ z, z = u := ⟨_, rfl⟩
        obtain ⟨hP1, hK1, hD1⟩ := hB
        rw [ht] at hP1
        obtain ⟨hP, hD⟩ := va_join (wr := [(h0, .inr (11, [.ref (a0 0), .int (mg M0 1), .ref (a0 2), .int (mg M0 3), .ref (a0 4), .ref (a0 5), .ref (a0 6), .ref (a0 7), .ref (a0 8), .ref (a0 9), .ref (a0 10), .ref (a0 11)])), (a0 0, .inl (cI, 400, .inl (ma M0 0))), (a0 11, .inl (cJ, 4, .inr (.inl (ml M0 11)))), (a0 4, .inr (10, [.ref (a1 0), .ref (a1 1), .ref (a1 2), .ref (a1 3), .int (mg M1 4)])), (a1 3, .inl (cI, 2, .inl (ma M1 3))), (a1 0, .inr (1, [.int (mg M2 0), .ref (a2 1), .int (mg M2 2), .ref (a2 3), .int (mg M2 4), .ref (a2 5)])), (a2 1, .inl (cI, 4, .inl (ma M2 1))), (a2 3, .inl (cI, 4, .inl (ma M2 3))), (a2 5, .inl (cI, 2, .inl (ma M2 5))), (a1 1, .inr (6, [.int (mg M3 0), .int (mg M3 1), .int (mg M3 2), .int (mg M3 3), .int (mg M3 4), .int (mg M3 5), .int (mg M3 6), .ref (a3 7), .ref (a3 8), .ref (a3 9)])), (a3 7, .inl (cI, 2, .inl (ma M3 7))), (a3 8, .inl (cI, 2, .inl (ma M3 8))), (a3 9, .inl (cI, 2, .inl (ma M3 9))), (a1 2, .inr (4, [.int (mg M4 0), .ref (a4 1), .ref (a4 2), .ref (a4 3)])), (a4 1, .inl (cI, 6, .inl (ma M4 1))), (a4 2, .inl (cI, 6, .inl (ma M4 2))), (a4 3, .inl (cI, 6, .inl (ma M4 3))), (a0 6, .inr (1, [.int (mg M5 0), .ref (a5 1), .int (mg M5 2), .ref (a5 3), .int (mg M5 4), .ref (a5 5)])), (a5 1, .inl (cI, 4, .inl (ma M5 1))), (a5 3, .inl (cI, 4, .inl (ma M5 3))), (a5 5, .inl (cI, 2, .inl (ma M5 5))), (a0 7, .inr (6, [.int (mg M6 0), .int (mg M6 1), .int (mg M6 2), .int (mg M6 3), .int (mg M6 4), .int (mg M6 5), .int (mg M6 6), .ref (a6 7), .ref (a6 8), .ref (a6 9)])), (a6 7, .inl (cI, 2, .inl (ma M6 7))), (a6 8, .inl (cI, 2, .inl (ma M6 8))), (a6 9, .inl (cI, 2, .inl (ma M6 9))), (a0 8, .inr (0, [.ref (a7 0), .ref (a7 1), .ref (a7 2), .ref (a7 3), .int (mg M7 4), va_rf o7, .int (mg M7 6), .int (mg M7 7), .int (mg M7 8), .int (mg M7 9), .int (mg M7 10)])), (a7 0, .inl (cJ, 15, .inr (.inl (ml M7 0)))), (a7 1, .inl (cJ, 800, .inr (.inl (ml M7 1)))), (a7 2, .inl (cI, 4, .inl (ma M7 2))), (a7 3, .inl (cJ, 4, .inr (.inl (ml M7 3)))), (a0 9, .inr (5, [.ref (a8 0), .ref (a8 1), va_rf o8, .int (mg M8 3)])), (a8 0, .inl (cI, 2048, .inl (ma M8 0))), (a8 1, .inl (cI, 2048, .inl (ma M8 1))), (a0 2, .inl (cR, 6, .inr (.inr (.inr (.inr F10))))), (h11, .inr (8, [.int (mg M11 0), .ref (a11 1), .ref (a11 2), .ref (a11 3), .int (mg M11 4), .ref (a11 5)])), (a11 1, .inl (cI, 12, .inl (ma M11 1))), (a11 2, .inl (cI, 12, .inl (ma M11 2))), (a11 3, .inl (cI, 400, .inl (ma M11 3))), (a11 5, .inl (cJ, 60, .inr (.inl (ml M11 5)))), (h12, .inr (8, [.int (mg M12 0), .ref (a12 1), .ref (a12 2), .ref (a12 3), .int (mg M12 4), .ref (a12 5)])), (a12 1, .inl (cI, 12, .inl (ma M12 1))), (a12 2, .inl (cI, 12, .inl (ma M12 2))), (a12 3, .inl (cI, 400, .inl (ma M12 3))), (a12 5, .inl (cJ, 60, .inr (.inl (ml M12 5))))]) (w1 := (loW cB cI cJ cZ (a0 10) a9 N3)) hP hD [33] [0, 1, 2, 3, 4, 5, 6, 7, 8, 9, 10, 11, 12, 13, 14, 15, 16, 17, 18, 19, 20, 21, 22, 23, 24, 25, 26, 27, 28, 29, 30, 31, 32, 34, 35, 36, 37, 38, 39, 40, 41, 42, 43, 44] rfl rfl (by decide) (by decide) hk1 hFc hP1 hD1
        have hP := hP.sub (ws' := (x2W cB cI cJ cZ cR cS h0 a0 a1 a2 a3 a4 a5 a6 a7 o7 a8 o8 a9 h11 a11 h12 a12 M0 M1 M2 M3 M4 M5 M6 M7 M8 N3 F10 M11 M12)) [0, 1, 2, 3, 4, 5, 6, 7, 8, 9, 10, 11, 12, 13, 14, 15, 16, 17, 18, 19, 20, 21, 22, 23, 24, 25, 26, 27, 28, 29, 30, 31, 32, 44, 33, 34, 35, 36, 37, 38, 39, 40, 41, 42, 43] rfl
        have hD := hD.sub (ws' := (x2W cB cI cJ cZ cR cS h0 a0 a1 a2 a3 a4 a5 a6 a7 o7 a8 o8 a9 h11 a11 h12 a12 M0 M1 M2 M3 M4 M5 M6 M7 M8 N3 F10 M11 M12)) [0, 1, 2, 3, 4, 5, 6, 7, 8, 9, 10, 11, 12, 13, 14, 15, 16, 17, 18, 19, 20, 21, 22, 23, 24, 25, 26, 27, 28, 29, 30, 31, 32, 44, 33, 34, 35, 36, 37, 38, 39, 40, 41, 42, 43] (by decide) rfl
        generalize H1 = H at hP hS ⊢
        have h := hw
        try dsimp only at h
        refine lv_aload_n hx hb dX11_lotsByRules_31 rfl (lv_at hl 0 rfl) ?_
        refine va_get (D := (dC, dI)) (ci := 11) (v := .ref (a0 7)) (C := RX11) (T := TX11) (N := 12) hx hb hts hinX11 hown hK hP 0 rfl rfl 7 (by decide) f5 (fun _ h9 => h9) rfl dX11_lotsByRules_32 ?_
        refine lv_iconst (v := 0) hx hb dX11_lotsByRules_35 (by decide) ?_
        refine va_put (D := (dC, dI)) (ci := 6) (v := .int (0 : Int32)) (ty := .int) (C := RX6) (T := TX6) (N := 10) hx hb hts hinX6 tyX6 tyX6_ok nmX6 hown hK hP hD hS 21 rfl rfl 5 (by decide) f6 (fun _ h9 => h9) rfl (by decide +kernel) rfl rfl (Nat.le_of_ble_eq_true rfl) dX11_lotsByRules_36 (fun H locs hP hD hS => ?_)
        have hP := x2P_6_f5 hP
        have hD := x2D_6_f5 hD
        have h := h _ rfl
        generalize sg M6 5 (0 : Int32) = N4 at hP hD h
        refine lv_aload_n hx hb dX11_lotsByRules_39 rfl (lv_at hl 0 rfl) ?_
        refine va_get (D := (dC, dI)) (ci := 11) (v := .ref (a0 7)) (C := RX11) (T := TX11) (N := 12) hx hb hts hinX11 hown hK hP 0 rfl rfl 7 (by decide) f5 (fun _ h9 => h9) rfl dX11_lotsByRules_40 ?_
        refine va_get (D := (dC, dI)) (ci := 6) (v := .ref (a6 7)) (C := RX6) (T := TX6) (N := 10) hx hb hts hinX6 hown hK hP 21 rfl rfl 7 (by decide) f7 (fun _ h9 => h9) rfl dX11_lotsByRules_43 ?_
        refine lv_iconst (v := 0) hx hb dX11_lotsByRules_46 (by decide) ?_
        refine lv_aload_n hx hb dX11_lotsByRules_47 rfl (lv_at hl 0 rfl) ?_
        refine va_get (D := (dC, dI)) (ci := 11) (v := .ref (a0 10)) (C := RX11) (T := TX11) (N := 12) hx hb hts hinX11 hown hK hP 0 rfl rfl 10 (by decide) f1 (fun _ h9 => h9) rfl dX11_lotsByRules_48 ?_
        refine va_get (D := (dC, dI)) (ci := 3) (v := .int (mg N3 3)) (C := RX3) (T := TX3) (N := 5) hx hb hts hinX3 hown hK hP 33 rfl rfl 3 (by decide) f8 (fun _ h9 => h9) rfl dX11_lotsByRules_51 ?_
        refine lv_topi (fun x5 ex5 => ?_)
        have h := h x5 ex5
        refine wc_iast (j := 0) hx hb hK hP hD hS 22 1 (f := ma N4 7) rfl rfl (by decide) (by decide) (by decide) dX11_lotsByRules_54 (fun H locs hP hD hS => ?_)
        have hP := x2P_6_a7 hP
        have hD := x2D_6_a7 hD
        have h := h _ rfl
        generalize sa N4 7 0 x5 = N6 at hP hD h
        refine lv_aload_n hx hb dX11_lotsByRules_55 rfl (lv_at hl 0 rfl) ?_
        refine va_get (D := (dC, dI)) (ci := 11) (v := .ref (a0 7)) (C := RX11) (T := TX11) (N := 12) hx hb hts hinX11 hown hK hP 0 rfl rfl 7 (by decide) f5 (fun _ h9 => h9) rfl dX11_lotsByRules_56 ?_
        refine va_get (D := (dC, dI)) (ci := 6) (v := .ref (a6 7)) (C := RX6) (T := TX6) (N := 10) hx hb hts hinX6 hown hK hP 21 rfl rfl 7 (by decide) f7 (fun _ h9 => h9) rfl dX11_lotsByRules_59 ?_
        refine lv_iconst (v := 1) hx hb dX11_lotsByRules_62 (by decide) ?_
        refine lv_aload_n hx hb dX11_lotsByRules_63 rfl (lv_at hl 0 rfl) ?_
        refine va_get (D := (dC, dI)) (ci := 11) (v := .ref (a0 10)) (C := RX11) (T := TX11) (N := 12) hx hb hts hinX11 hown hK hP 0 rfl rfl 10 (by decide) f1 (fun _ h9 => h9) rfl dX11_lotsByRules_64 ?_
        refine va_get (D := (dC, dI)) (ci := 3) (v := .int (mg N3 4)) (C := RX3) (T := TX3) (N := 5) hx hb hts hinX3 hown hK hP 33 rfl rfl 4 (by decide) f9 (fun _ h9 => h9) rfl dX11_lotsByRules_67 ?_
        refine lv_topi (fun x7 ex7 => ?_)
        have h := h x7 ex7
        refine wc_iast (j := 1) hx hb hK hP hD hS 22 1 (f := ma N6 7) rfl rfl (by decide) (by decide) (by decide) dX11_lotsByRules_70 (fun H locs hP hD hS => ?_)
        have hP := x2P_6_a7 hP
        have hD := x2D_6_a7 hD
        have h := h _ rfl
        generalize sa N6 7 1 x7 = N8 at hP hD h
        refine lv_aload_n hx hb dX11_lotsByRules_71 rfl (lv_at hl 0 rfl) ?_
        refine va_get (D := (dC, dI)) (ci := 11) (v := .ref (a0 7)) (C := RX11) (T := TX11) (N := 12) hx hb hts hinX11 hown hK hP 0 rfl rfl 7 (by decide) f5 (fun _ h9 => h9) rfl dX11_lotsByRules_72 ?_
        refine lv_aload_n hx hb dX11_lotsByRules_75 rfl (lv_at hl 0 rfl) ?_
        refine va_get (D := (dC, dI)) (ci := 11) (v := .ref (a0 4)) (C := RX11) (T := TX11) (N := 12) hx hb hts hinX11 hown hK hP 0 rfl rfl 4 (by decide) f2 (fun _ h9 => h9) rfl dX11_lotsByRules_76 ?_
        refine va_get (D := (dC, dI)) (ci := 10) (v := .ref (a1 0)) (C := RX10) (T := TX10) (N := 5) hx hb hts hinX10 hown hK hP 3 rfl rfl 0 (by decide) f3 (fun _ h9 => h9) rfl dX11_lotsByRules_79 ?_
        refine lv_aload_n hx hb dX11_lotsByRules_82 rfl (lv_at hl 0 rfl) ?_
        refine va_get (D := (dC, dI)) (ci := 11) (v := .ref (a0 10)) (C := RX11) (T := TX11) (N := 12) hx hb hts hinX11 hown hK hP 0 rfl rfl 10 (by decide) f1 (fun _ h9 => h9) rfl dX11_lotsByRules_83 ?_
        refine va_get (D := (dC, dI)) (ci := 3) (v := .int (mg N3 1)) (C := RX3) (T := TX3) (N := 5) hx hb hts hinX3 hown hK hP 33 rfl rfl 1 (by decide) f10 (fun _ h9 => h9) rfl dX11_lotsByRules_86 ?_
        refine lv_aload_n hx hb dX11_lotsByRules_89 rfl (lv_at hl 0 rfl) ?_
        refine va_get (D := (dC, dI)) (ci := 11) (v := .ref (a0 10)) (C := RX11) (T := TX11) (N := 12) hx hb hts hinX11 hown hK hP 0 rfl rfl 10 (by decide) f1 (fun _ h9 => h9) rfl dX11_lotsByRules_90 ?_
        refine va_get (D := (dC, dI)) (ci := 3) (v := .int (mg N3 2)) (C := RX3) (T := TX3) (N := 5) hx hb hts hinX3 hown hK hP 33 rfl rfl 2 (by decide) f11 (fun _ h9 => h9) rfl dX11_lotsByRules_93 ?_
        have hPc := hP.sub (ws' := (qcW cB cI cJ cZ (a0 7) a6 (a1 0) a2 N8 M2)) [21, 22, 23, 24, 5, 6, 7, 8] rfl
        have hDc := hD.sub (ws' := (qcW cB cI cJ cZ (a0 7) a6 (a1 0) a2 N8 M2)) [21, 22, 23, 24, 5, 6, 7, 8] (by decide) rfl
        have hFc := va_free (wc := (qcW cB cI cJ cZ (a0 7) a6 (a1 0) a2 N8 M2)) hD hS hA [21, 22, 23, 24, 5, 6, 7, 8] rfl
        refine va_callv (va_runV (As := [.ref (a1 0), .int (mg N3 1), .int (mg N3 2)]) (rest := []) ⟨hx, hb, hml, hown, hts⟩ (kX6_start l dC dI cB cI cJ cZ (a0 7) a6 (a1 0) a2 H.size (mg N3 1) (mg N3 2) N8 M2 _ h) (cwV 3 hts gX11_lotsByRules_X6_start rfl rfl rfl (by decide +kernel) ⟨Nat.le_of_ble_eq_true rfl, Nat.le_of_ble_eq_true rfl⟩) (qcpV hK0 hPc hDc) rfl rfl hl.1 rfl (lv_room (Nat.le_of_ble_eq_true rfl)) dX11_lotsByRules_96 ⟨Nat.le_of_ble_eq_true rfl, Nat.le_of_ble_eq_true rfl⟩) hS (fun q _ z => hFc q z) hFc (fun u t H1 locs ht hvm hw hB hz1 hk1 hS => ?_)
        obtain ⟨N10, N11⟩ := u
        obtain ⟨hP1, hK1, hD1⟩ := hB
        rw [ht] at hP1
        obtain ⟨hP, hD⟩ := va_join (wr := [(h0, .inr (11, [.ref (a0 0), .int (mg M0 1), .ref (a0 2), .int (mg M0 3), .ref (a0 4), .ref (a0 5), .ref (a0 6), .ref (a0 7), .ref (a0 8), .ref (a0 9), .ref (a0 10), .ref (a0 11)])), (a0 0, .inl (cI, 400, .inl (ma M0 0))), (a0 11, .inl (cJ, 4, .inr (.inl (ml M0 11)))), (a0 4, .inr (10, [.ref (a1 0), .ref (a1 1), .ref (a1 2), .ref (a1 3), .int (mg M1 4)])), (a1 3, .inl (cI, 2, .inl (ma M1 3))), (a1 1, .inr (6, [.int (mg M3 0), .int (mg M3 1), .int (mg M3 2), .int (mg M3 3), .int (mg M3 4), .int (mg M3 5), .int (mg M3 6), .ref (a3 7), .ref (a3 8), .ref (a3 9)])), (a3 7, .inl (cI, 2, .inl (ma M3 7))), (a3 8, .inl (cI, 2, .inl (ma M3 8))), (a3 9, .inl (cI, 2, .inl (ma M3 9))), (a1 2, .inr (4, [.int (mg M4 0), .ref (a4 1), .ref (a4 2), .ref (a4 3)])), (a4 1, .inl (cI, 6, .inl (ma M4 1))), (a4 2, .inl (cI, 6, .inl (ma M4 2))), (a4 3, .inl (cI, 6, .inl (ma M4 3))), (a0 6, .inr (1, [.int (mg M5 0), .ref (a5 1), .int (mg M5 2), .ref (a5 3), .int (mg M5 4), .ref (a5 5)])), (a5 1, .inl (cI, 4, .inl (ma M5 1))), (a5 3, .inl (cI, 4, .inl (ma M5 3))), (a5 5, .inl (cI, 2, .inl (ma M5 5))), (a0 8, .inr (0, [.ref (a7 0), .ref (a7 1), .ref (a7 2), .ref (a7 3), .int (mg M7 4), va_rf o7, .int (mg M7 6), .int (mg M7 7), .int (mg M7 8), .int (mg M7 9), .int (mg M7 10)])), (a7 0, .inl (cJ, 15, .inr (.inl (ml M7 0)))), (a7 1, .inl (cJ, 800, .inr (.inl (ml M7 1)))), (a7 2, .inl (cI, 4, .inl (ma M7 2))), (a7 3, .inl (cJ, 4, .inr (.inl (ml M7 3)))), (a0 9, .inr (5, [.ref (a8 0), .ref (a8 1), va_rf o8, .int (mg M8 3)])), (a8 0, .inl (cI, 2048, .inl (ma M8 0))), (a8 1, .inl (cI, 2048, .inl (ma M8 1))), (a0 10, .inr (3, [.int (mg N3 0), .int (mg N3 1), .int (mg N3 2), .int (mg N3 3), .int (mg N3 4)])), (a0 2, .inl (cR, 6, .inr (.inr (.inr (.inr F10))))), (h11, .inr (8, [.int (mg M11 0), .ref (a11 1), .ref (a11 2), .ref (a11 3), .int (mg M11 4), .ref (a11 5)])), (a11 1, .inl (cI, 12, .inl (ma M11 1))), (a11 2, .inl (cI, 12, .inl (ma M11 2))), (a11 3, .inl (cI, 400, .inl (ma M11 3))), (a11 5, .inl (cJ, 60, .inr (.inl (ml M11 5)))), (h12, .inr (8, [.int (mg M12 0), .ref (a12 1), .ref (a12 2), .ref (a12 3), .int (mg M12 4), .ref (a12 5)])), (a12 1, .inl (cI, 12, .inl (ma M12 1))), (a12 2, .inl (cI, 12, .inl (ma M12 2))), (a12 3, .inl (cI, 400, .inl (ma M12 3))), (a12 5, .inl (cJ, 60, .inr (.inl (ml M12 5))))]) (w1 := (qcW cB cI cJ cZ (a0 7) a6 (a1 0) a2 N10 N11)) hP hD [21, 22, 23, 24, 5, 6, 7, 8] [0, 1, 2, 3, 4, 9, 10, 11, 12, 13, 14, 15, 16, 17, 18, 19, 20, 25, 26, 27, 28, 29, 30, 31, 32, 33, 34, 35, 36, 37, 38, 39, 40, 41, 42, 43, 44] rfl rfl (by decide) (by decide) hk1 hFc hP1 hD1
        have hP := hP.sub (ws' := (x2W cB cI cJ cZ cR cS h0 a0 a1 a2 a3 a4 a5 a6 a7 o7 a8 o8 a9 h11 a11 h12 a12 M0 M1 N11 M3 M4 M5 N10 M7 M8 N3 F10 M11 M12)) [0, 1, 2, 3, 4, 41, 42, 43, 44, 5, 6, 7, 8, 9, 10, 11, 12, 13, 14, 15, 16, 37, 38, 39, 40, 17, 18, 19, 20, 21, 22, 23, 24, 25, 26, 27, 28, 29, 30, 31, 32, 33, 34, 35, 36] rfl
        have hD := hD.sub (ws' := (x2W cB cI cJ cZ cR cS h0 a0 a1 a2 a3 a4 a5 a6 a7 o7 a8 o8 a9 h11 a11 h12 a12 M0 M1 N11 M3 M4 M5 N10 M7 M8 N3 F10 M11 M12)) [0, 1, 2, 3, 4, 41, 42, 43, 44, 5, 6, 7, 8, 9, 10, 11, 12, 13, 14, 15, 16, 37, 38, 39, 40, 17, 18, 19, 20, 21, 22, 23, 24, 25, 26, 27, 28, 29, 30, 31, 32, 33, 34, 35, 36] (by decide) rfl
        generalize H1 = H at hP hS ⊢
        have h := hw
        try dsimp only at h
        refine lv_aload_n hx hb dX11_lotsByRules_99 rfl (lv_at hl 0 rfl) ?_
        refine va_get (D := (dC, dI)) (ci := 11) (v := .ref (a0 7)) (C := RX11) (T := TX11) (N := 12) hx hb hts hinX11 hown hK hP 0 rfl rfl 7 (by decide) f5 (fun _ h9 => h9) rfl dX11_lotsByRules_100 ?_
        refine lv_aload_n hx hb dX11_lotsByRules_103 rfl (lv_at hl 0 rfl) ?_
        refine va_get (D := (dC, dI)) (ci := 11) (v := .ref (a0 4)) (C := RX11) (T := TX11) (N := 12) hx hb hts hinX11 hown hK hP 0 rfl rfl 4 (by decide) f2 (fun _ h9 => h9) rfl dX11_lotsByRules_104 ?_
        refine va_get (D := (dC, dI)) (ci := 10) (v := .ref (a1 0)) (C := RX10) (T := TX10) (N := 5) hx hb hts hinX10 hown hK hP 3 rfl rfl 0 (by decide) f3 (fun _ h9 => h9) rfl dX11_lotsByRules_107 ?_
        refine lv_aload_n hx hb dX11_lotsByRules_110 rfl (lv_at hl 1 rfl) ?_
        refine lv_aload_n hx hb dX11_lotsByRules_111 rfl (lv_at hl 2 rfl) ?_
        have hPc := hP.sub (ws' := (q2W cB cI cJ cZ (a0 7) a6 (a1 0) a2 h11 a11 h12 a12 N10 N11 M11 M12)) [21, 22, 23, 24, 5, 6, 7, 8, 35, 36, 37, 38, 39, 40, 41, 42, 43, 44] rfl
        have hDc := hD.sub (ws' := (q2W cB cI cJ cZ (a0 7) a6 (a1 0) a2 h11 a11 h12 a12 N10 N11 M11 M12)) [21, 22, 23, 24, 5, 6, 7, 8, 35, 36, 37, 38, 39, 40, 41, 42, 43, 44] (by decide) rfl
        have hFc := va_free (wc := (q2W cB cI cJ cZ (a0 7) a6 (a1 0) a2 h11 a11 h12 a12 N10 N11 M11 M12)) hD hS hA [21, 22, 23, 24, 5, 6, 7, 8, 35, 36, 37, 38, 39, 40, 41, 42, 43, 44] rfl
        refine va_callv (va_runV (As := [.ref (a1 0), .ref h11, .ref h12]) (rest := []) ⟨hx, hb, hml, hown, hts⟩ (kX6_goByRulesab l dC dI cB cI cJ cZ (a0 7) a6 (a1 0) a2 h11 a11 h12 a12 H.size  N10 N11 M11 M12 _ h) (cwV 3 hts gX11_lotsByRules_X6_goByRules rfl rfl rfl (by decide +kernel) ⟨Nat.le_of_ble_eq_true rfl, Nat.le_of_ble_eq_true rfl⟩) (q2pV hK0 hPc hDc) rfl rfl hl.1 rfl (lv_room (Nat.le_of_ble_eq_true rfl)) dX11_lotsByRules_112 ⟨Nat.le_of_ble_eq_true rfl, Nat.le_of_ble_eq_true rfl⟩) hS (fun q _ z => hFc q z) hFc (fun u t H1 locs ht hvm hw hB hz1 hk1 hS => ?_)
        obtain ⟨N13, N14, N15, N16⟩ := u
        obtain ⟨hP1, hK1, hD1⟩ := hB
        rw [ht] at hP1
        obtain ⟨hP, hD⟩ := va_join (wr := [(h0, .inr (11, [.ref (a0 0), .int (mg M0 1), .ref (a0 2), .int (mg M0 3), .ref (a0 4), .ref (a0 5), .ref (a0 6), .ref (a0 7), .ref (a0 8), .ref (a0 9), .ref (a0 10), .ref (a0 11)])), (a0 0, .inl (cI, 400, .inl (ma M0 0))), (a0 11, .inl (cJ, 4, .inr (.inl (ml M0 11)))), (a0 4, .inr (10, [.ref (a1 0), .ref (a1 1), .ref (a1 2), .ref (a1 3), .int (mg M1 4)])), (a1 3, .inl (cI, 2, .inl (ma M1 3))), (a1 1, .inr (6, [.int (mg M3 0), .int (mg M3 1), .int (mg M3 2), .int (mg M3 3), .int (mg M3 4), .int (mg M3 5), .int (mg M3 6), .ref (a3 7), .ref (a3 8), .ref (a3 9)])), (a3 7, .inl (cI, 2, .inl (ma M3 7))), (a3 8, .inl (cI, 2, .inl (ma M3 8))), (a3 9, .inl (cI, 2, .inl (ma M3 9))), (a1 2, .inr (4, [.int (mg M4 0), .ref (a4 1), .ref (a4 2), .ref (a4 3)])), (a4 1, .inl (cI, 6, .inl (ma M4 1))), (a4 2, .inl (cI, 6, .inl (ma M4 2))), (a4 3, .inl (cI, 6, .inl (ma M4 3))), (a0 6, .inr (1, [.int (mg M5 0), .ref (a5 1), .int (mg M5 2), .ref (a5 3), .int (mg M5 4), .ref (a5 5)])), (a5 1, .inl (cI, 4, .inl (ma M5 1))), (a5 3, .inl (cI, 4, .inl (ma M5 3))), (a5 5, .inl (cI, 2, .inl (ma M5 5))), (a0 8, .inr (0, [.ref (a7 0), .ref (a7 1), .ref (a7 2), .ref (a7 3), .int (mg M7 4), va_rf o7, .int (mg M7 6), .int (mg M7 7), .int (mg M7 8), .int (mg M7 9), .int (mg M7 10)])), (a7 0, .inl (cJ, 15, .inr (.inl (ml M7 0)))), (a7 1, .inl (cJ, 800, .inr (.inl (ml M7 1)))), (a7 2, .inl (cI, 4, .inl (ma M7 2))), (a7 3, .inl (cJ, 4, .inr (.inl (ml M7 3)))), (a0 9, .inr (5, [.ref (a8 0), .ref (a8 1), va_rf o8, .int (mg M8 3)])), (a8 0, .inl (cI, 2048, .inl (ma M8 0))), (a8 1, .inl (cI, 2048, .inl (ma M8 1))), (a0 10, .inr (3, [.int (mg N3 0), .int (mg N3 1), .int (mg N3 2), .int (mg N3 3), .int (mg N3 4)])), (a0 2, .inl (cR, 6, .inr (.inr (.inr (.inr F10)))))]) (w1 := (q2W cB cI cJ cZ (a0 7) a6 (a1 0) a2 h11 a11 h12 a12 N13 N14 N15 N16)) hP hD [21, 22, 23, 24, 5, 6, 7, 8, 35, 36, 37, 38, 39, 40, 41, 42, 43, 44] [0, 1, 2, 3, 4, 9, 10, 11, 12, 13, 14, 15, 16, 17, 18, 19, 20, 25, 26, 27, 28, 29, 30, 31, 32, 33, 34] rfl rfl (by decide) (by decide) hk1 hFc hP1 hD1
        have hP := hP.sub (ws' := (x2W cB cI cJ cZ cR cS h0 a0 a1 a2 a3 a4 a5 a6 a7 o7 a8 o8 a9 h11 a11 h12 a12 M0 M1 N14 M3 M4 M5 N13 M7 M8 N3 F10 N15 N16)) [0, 1, 2, 3, 4, 31, 32, 33, 34, 5, 6, 7, 8, 9, 10, 11, 12, 13, 14, 15, 16, 27, 28, 29, 30, 17, 18, 19, 20, 21, 22, 23, 24, 25, 26, 35, 36, 37, 38, 39, 40, 41, 42, 43, 44] rfl
        have hD := hD.sub (ws' := (x2W cB cI cJ cZ cR cS h0 a0 a1 a2 a3 a4 a5 a6 a7 o7 a8 o8 a9 h11 a11 h12 a12 M0 M1 N14 M3 M4 M5 N13 M7 M8 N3 F10 N15 N16)) [0, 1, 2, 3, 4, 31, 32, 33, 34, 5, 6, 7, 8, 9, 10, 11, 12, 13, 14, 15, 16, 27, 28, 29, 30, 17, 18, 19, 20, 21, 22, 23, 24, 25, 26, 35, 36, 37, 38, 39, 40, 41, 42, 43, 44] (by decide) rfl
        generalize H1 = H at hP hS ⊢
        have h := hw
        try dsimp only at h
        refine lv_iload hx hb dX11_lotsByRules_115 (lv_at hl 5 rfl) ?_
        refine lv_iconst (v := 2) hx hb dX11_lotsByRules_117 (by decide) ?_
        refine lv_icmp_ne (tgt := 136) hx hb dX11_lotsByRules_118 (by decide) (fun c17 => ?_) (fun c17 => ?_)
        · have h := h.2 c17
          refine lv_aload_n hx hb dX11_lotsByRules_136 rfl (lv_at hl 0 rfl) ?_
          refine va_get (D := (dC, dI)) (ci := 11) (v := .ref (a0 7)) (C := RX11) (T := TX11) (N := 12) hx hb hts hinX11 hown hK hP 0 rfl rfl 7 (by decide) f5 (fun _ h9 => h9) rfl dX11_lotsByRules_137 ?_
          refine va_get (D := (dC, dI)) (ci := 6) (v := .int (mg N13 6)) (C := RX6) (T := TX6) (N := 10) hx hb hts hinX6 hown hK hP 21 rfl rfl 6 (by decide) f12 (fun _ h9 => h9) rfl dX11_lotsByRules_140 ?_
          refine lv_iload hx hb dX11_lotsByRules_143 (lv_at hl 5 rfl) ?_
          refine lv_icmp_ne (tgt := 151) hx hb dX11_lotsByRules_145 (by decide) (fun c18 => ?_) (fun c18 => ?_)
          · have h := h.2 c18
            exact b151 _ hB6 y3 y4 y5 y6 y7 o7 o8 M0 M1 N14 M3 M4 M5 N13 M7 M8 N3 F10 N15 N16 H locs ls hP hD hS (lv_sub hl [0, 1, 2, 3, 4, 5, 6, 7] rfl) h
          · have h := h.1 c18
            obtain ⟨x19, ex19⟩ : ∃ y : Int32, y = y6 + (1 : Int32) := ⟨_, rfl⟩
            have h := h x19 ex19
            refine lv_iinc (v := x19) (lv' := [(6, .int x19), (0, .ref h0), (1, .ref h11), (2, .ref h12), (3, .int y3), (4, .int y4), (5, .int y5), (7, .int y7)]) hx hb dX11_lotsByRules_148 hl (k := 6) rfl (by rw [ex19]; rfl) (by decide) rfl (fun ls hl => ?_)
            exact b151 _ hB6 y3 y4 y5 x19 y7 o7 o8 M0 M1 N14 M3 M4 M5 N13 M7 M8 N3 F10 N15 N16 H locs ls hP hD hS (lv_sub hl [1, 2, 3, 4, 5, 6, 0, 7] rfl) h
        · have h := h.1 c17
          refine lv_iload hx hb dX11_lotsByRules_121 (lv_at hl 6 rfl) ?_
          refine lv_aload_n hx hb dX11_lotsByRules_123 rfl (lv_at hl 0 rfl) ?_
          refine va_get (D := (dC, dI)) (ci := 11) (v := .ref (a0 7)) (C := RX11) (T := TX11) (N := 12) hx hb hts hinX11 hown hK hP 0 rfl rfl 7 (by decide) f5 (fun _ h9 => h9) rfl dX11_lotsByRules_124 ?_
          refine va_get (D := (dC, dI)) (ci := 6) (v := .int (mg N13 5)) (C := RX6) (T := TX6) (N := 10) hx hb hts hinX6 hown hK hP 21 rfl rfl 5 (by decide) f6 (fun _ h9 => h9) rfl dX11_lotsByRules_127 ?_
          refine lv_iadd hx hb dX11_lotsByRules_130 ?_
          refine lv_topi (fun x20 ex20 => ?_)
          have h := h x20 ex20
          refine lv_istore (lv' := [(6, .int x20), (0, .ref h0), (1, .ref h11), (2, .ref h12), (3, .int y3), (4, .int y4), (5, .int y5), (7, .int y7)]) hx hb dX11_lotsByRules_131 hl (by decide) rfl (fun ls hl => ?_)
          refine lv_goto (tgt := 151) hx hb dX11_lotsByRules_133 (by decide) ?_
          exact b151 _ hB6 y3 y4 y5 x20 y7 o7 o8 M0 M1 N14 M3 M4 M5 N13 M7 M8 N3 F10 N15 N16 H locs ls hP hD hS (lv_sub hl [1, 2, 3, 4, 5, 6, 0, 7] rfl) h
  have bE : ∀ (M0 : gS) (M1 : gS) (M2 : gS) (M3 : gS) (M4 : gS) (M5 : gS) (M6 : gS) (M7 : gS) (M8 : gS) (M9 : gS) (F10 : oF) (M11 : gS) (M12 : gS) (H : Heap) (locs : List Loc) (ls : Array Slot), va_P (dC, dI) vwCl (x2W cB cI cJ cZ cR cS h0 a0 a1 a2 a3 a4 a5 a6 a7 o7 a8 o8 a9 h11 a11 h12 a12 M0 M1 M2 M3 M4 M5 M6 M7 M8 M9 F10 M11 M12) H → va_D A (x2W cB cI cJ cZ cR cS h0 a0 a1 a2 a3 a4 a5 a6 a7 o7 a8 o8 a9 h11 a11 h12 a12 M0 M1 M2 M3 M4 M5 M6 M7 M8 M9 F10 M11 M12) → va_S A s.heap H locs → lv_has ls 8 [(0, .ref h0), (1, .ref h11), (2, .ref h12), (3, .int p3), (4, .int p4), (5, .int p5)] → wX11_lotsByRulesab p3 p4 p5 M0 M1 M2 M3 M4 M5 M6 M7 M8 M9 F10 M11 M12 Q → W p l e (headSpec wsX11_lotsByRules rmX11_lotsByRulesab).room s m ([.ref h0, .ref h11, .ref h12, .int p3, .int p4, .int p5] : List Value).toArray below meth c H locs 0 0 (MQ below (va_Qi (fun (r : Int32) (u : gS × gS × gS × gS × gS × gS × gS × gS × gS × gS × oF × gS × gS) => Q r u.1 u.2.1 u.2.2.1 u.2.2.2.1 u.2.2.2.2.1 u.2.2.2.2.2.1 u.2.2.2.2.2.2.1 u.2.2.2.2.2.2.2.1 u.2.2.2.2.2.2.2.2.1 u.2.2.2.2.2.2.2.2.2.1 u.2.2.2.2.2.2.2.2.2.2.1 u.2.2.2.2.2.2.2.2.2.2.2.1 u.2.2.2.2.2.2.2.2.2.2.2.2) (x2B dC dI cB cI cJ cZ cR cS h0 a0 a1 a2 a3 a4 a5 a6 a7 a8 a9 h11 a11 h12 a12 A) A) ([.ref h0, .ref h11, .ref h12, .int p3, .int p4, .int p5] : List Value).toArray s 0 0 A) (F0 m 0 ls []) := by
    intro M0 M1 M2 M3 M4 M5 M6 M7 M8 M9 F10 M11 M12 H locs ls hP hD hS hl h
    unfold wX11_lotsByRulesab at h
    refine lv_iconst (v := 0) hx hb dX11_lotsByRules_0 (by decide) ?_
    refine lv_istore (lv' := [(6, .int (0 : Int32)), (0, .ref h0), (1, .ref h11), (2, .ref h12), (3, .int p3), (4, .int p4), (5, .int p5)]) hx hb dX11_lotsByRules_1 hl (by decide) rfl (fun ls hl => ?_)
    refine lv_iconst (v := 0) hx hb dX11_lotsByRules_3 (by decide) ?_
    refine lv_istore (lv' := [(7, .int (0 : Int32)), (6, .int (0 : Int32)), (0, .ref h0), (1, .ref h11), (2, .ref h12), (3, .int p3), (4, .int p4), (5, .int p5)]) hx hb dX11_lotsByRules_4 hl (by decide) rfl (fun ls hl => ?_)
    obtain ⟨n9, h⟩ := h
    exact b6  n9 p3 p4 p5 (0 : Int32) (0 : Int32) o7 o8 M0 M1 M2 M3 M4 M5 M6 M7 M8 M9 F10 M11 M12 H locs ls hP hD hS (lv_sub hl [2, 3, 4, 5, 6, 7, 1, 0] rfl) h
  have hl := lv_entry ([.ref h0, .ref h11, .ref h12, .int p3, .int p4, .int p5]) (n := 8) (Nat.le_of_ble_eq_true rfl)
  rw [lg_entry_eq]
  generalize (lg_sl ([.ref h0, .ref h11, .ref h12, .int p3, .int p4, .int p5]) ++ List.replicate (8 - (lg_sl ([.ref h0, .ref h11, .ref h12, .int p3, .int p4, .int p5])).length) Slot.unset).toArray = ls at hl ⊢
  have hl : lv_has ls 8 [(0, .ref h0), (1, .ref h11), (2, .ref h12), (3, .int p3), (4, .int p4), (5, .int p5)] := hl
  exact bE M0 M1 M2 M3 M4 M5 M6 M7 M8 M9 F10 M11 M12 s.heap [] ls hP hD hS hl h
def wX11_lotsab_40 (h11 : Nat) (h12 : Nat)  (Q : Int32 → gS → gS → gS → gS → gS → gS → gS → gS → gS → gS → oF → gS → gS → Prop) (y1 : Int32) (y2 : Int32) (y3 : Int32) (y4 : Int32) (y5 : Int32) (y6 : Int32) (M0 : gS) (M1 : gS) (M2 : gS) (M3 : gS) (M4 : gS) (M5 : gS) (M6 : gS) (M7 : gS) (M8 : gS) (M9 : gS) (F10 : oF) (M11 : gS) (M12 : gS) : Prop :=
 ((y3 < (1 : Int32) → (Q (-1 : Int32) M0 M1 M2 M3 M4 M5 M6 M7 M8 M9 F10 M11 M12))
 ∧ (¬ y3 < (1 : Int32) → (((50 : Int32) < y3 → (Q (-1 : Int32) M0 M1 M2 M3 M4 M5 M6 M7 M8 M9 F10 M11 M12))
 ∧ (¬ (50 : Int32) < y3 → (wX11_isPurse y4  (fun (b4 : Bool)  => (((bI b4) = 0 → (Q (-1 : Int32) M0 M1 M2 M3 M4 M5 M6 M7 M8 M9 F10 M11 M12))
 ∧ (¬ (bI b4) = 0 → ((y5 < 0 → (Q (-1 : Int32) M0 M1 M2 M3 M4 M5 M6 M7 M8 M9 F10 M11 M12))
 ∧ (¬ y5 < 0 → (((2 : Int32) < y5 → (Q (-1 : Int32) M0 M1 M2 M3 M4 M5 M6 M7 M8 M9 F10 M11 M12))
 ∧ (¬ (2 : Int32) < y5 → (wX11_hasCorner  M0 M1 M2 M3 M4 M5 M6 M7 M8 M9 (fun (b21 : Bool) (N9 : gS) (N10 : gS) (N11 : gS) (N12 : gS) (N13 : gS) (N14 : gS) (N15 : gS) (N16 : gS) (N17 : gS) (N18 : gS) => (((bI b21) = 0 → (Q (-1 : Int32) N9 N10 N11 N12 N13 N14 N15 N16 N17 N18 F10 M11 M12))
 ∧ (¬ (bI b21) = 0 → (∀ x23 : Int32, x23 = (mg N10 4) → (∀ N24 : gS, N24 = sg N18 0 x23 → ((y6 = 0 → (wX11_ruleAt y1 N9 F10 (fun (r26 : Option Nat) (N27 : gS) (v28 : oF) => (wX11_ruleAt y2 N27 v28 (fun (r29 : Option Nat) (N30 : gS) (v31 : oF) => (r26 = some h11 ∧ (r29 = some h12 ∧ (wX11_lotsByRulesab y3 y4 y5 N30 N10 N11 N12 N13 N14 N15 N16 N17 N24 v31 M11 M12 (fun (r34 : Int32) (N35 : gS) (N36 : gS) (N37 : gS) (N38 : gS) (N39 : gS) (N40 : gS) (N41 : gS) (N42 : gS) (N43 : gS) (N44 : gS) (v45 : oF) (N46 : gS) (N47 : gS) => (Q r34 N35 N36 N37 N38 N39 N40 N41 N42 N43 N44 v45 N46 N47))))))))))
 ∧ (¬ y6 = 0 → ((y5 = (2 : Int32) → (Q (0 : Int32) N9 N10 N11 N12 N13 N14 N15 N16 N17 N24 F10 M11 M12))
 ∧ (¬ y5 = (2 : Int32) → (wX11_lotsByBestPlay y3 y4 y5 N9 N10 N11 N12 N13 N14 N15 N16 N17 N24 (fun (r51 : Int32) (N52 : gS) (N53 : gS) (N54 : gS) (N55 : gS) (N56 : gS) (N57 : gS) (N58 : gS) (N59 : gS) (N60 : gS) (N61 : gS) => (Q r51 N52 N53 N54 N55 N56 N57 N58 N59 N60 N61 F10 M11 M12)))))))))))))))))))))))))
def wX11_lotsab_15 (h11 : Nat) (h12 : Nat)  (Q : Int32 → gS → gS → gS → gS → gS → gS → gS → gS → gS → gS → oF → gS → gS → Prop) (y1 : Int32) (y2 : Int32) (y3 : Int32) (y4 : Int32) (y5 : Int32) (z0 : Int32) (M0 : gS) (M1 : gS) (M2 : gS) (M3 : gS) (M4 : gS) (M5 : gS) (M6 : gS) (M7 : gS) (M8 : gS) (M9 : gS) (F10 : oF) (M11 : gS) (M12 : gS) : Prop :=
 ((z0 = 0 → (wX11_ruleAt y1 M0 F10 (fun (r2 : Option Nat) (N3 : gS) (v4 : oF) => ((r2 = none → (Q (-1 : Int32) N3 M1 M2 M3 M4 M5 M6 M7 M8 M9 v4 M11 M12))
 ∧ (∀ ia6 : Nat, r2 = some ia6 → (wX11_ruleAt y2 N3 v4 (fun (r7 : Option Nat) (N8 : gS) (v9 : oF) => ((r7 = none → (Q (-1 : Int32) N8 M1 M2 M3 M4 M5 M6 M7 M8 M9 v9 M11 M12))
 ∧ (∀ ia11 : Nat, r7 = some ia11 → (wX11_lotsab_40 h11 h12  Q y1 y2 y3 y4 y5 z0 N8 M1 M2 M3 M4 M5 M6 M7 M8 M9 v9 M11 M12))))))))))
 ∧ (¬ z0 = 0 → (wX11_lotsab_40 h11 h12  Q y1 y2 y3 y4 y5 z0 M0 M1 M2 M3 M4 M5 M6 M7 M8 M9 F10 M11 M12)))
def wX11_lotsab_14 (h11 : Nat) (h12 : Nat)  (Q : Int32 → gS → gS → gS → gS → gS → gS → gS → gS → gS → gS → oF → gS → gS → Prop) (y1 : Int32) (y2 : Int32) (y3 : Int32) (y4 : Int32) (y5 : Int32) (M0 : gS) (M1 : gS) (M2 : gS) (M3 : gS) (M4 : gS) (M5 : gS) (M6 : gS) (M7 : gS) (M8 : gS) (M9 : gS) (F10 : oF) (M11 : gS) (M12 : gS) : Prop :=
 (wX11_lotsab_15 h11 h12  Q y1 y2 y3 y4 y5 (0 : Int32) M0 M1 M2 M3 M4 M5 M6 M7 M8 M9 F10 M11 M12)
def wX11_lotsab (h11 : Nat) (h12 : Nat) (p1 : Int32) (p2 : Int32) (p3 : Int32) (p4 : Int32) (p5 : Int32) (M0 : gS) (M1 : gS) (M2 : gS) (M3 : gS) (M4 : gS) (M5 : gS) (M6 : gS) (M7 : gS) (M8 : gS) (M9 : gS) (F10 : oF) (M11 : gS) (M12 : gS) (Q : Int32 → gS → gS → gS → gS → gS → gS → gS → gS → gS → gS → oF → gS → gS → Prop) : Prop :=
 ((p1 = (-1 : Int32) → ((p2 = (-1 : Int32) → (wX11_lotsab_15 h11 h12  Q p1 p2 p3 p4 p5 (1 : Int32) M0 M1 M2 M3 M4 M5 M6 M7 M8 M9 F10 M11 M12))
 ∧ (¬ p2 = (-1 : Int32) → (wX11_lotsab_14 h11 h12  Q p1 p2 p3 p4 p5 M0 M1 M2 M3 M4 M5 M6 M7 M8 M9 F10 M11 M12))))
 ∧ (¬ p1 = (-1 : Int32) → (wX11_lotsab_14 h11 h12  Q p1 p2 p3 p4 p5 M0 M1 M2 M3 M4 M5 M6 M7 M8 M9 F10 M11 M12)))
def rmX11_lotsab : Room := { frames := 6, cells := 0, slots := 0, locals := 153 }
set_option maxHeartbeats 4000000 in
set_option maxRecDepth 100000 in
theorem kX11_lotsab (l : Launch) (dC : Nat → ClassId) (dI : Nat → Nat → Nat) (cB cI cJ cZ cR cS : ClassId) (h0 : Nat) (a0 : Nat → Nat) (a1 : Nat → Nat) (a2 : Nat → Nat) (a3 : Nat → Nat) (a4 : Nat → Nat) (a5 : Nat → Nat) (a6 : Nat → Nat) (a7 : Nat → Nat) (o7 : Option Nat) (a8 : Nat → Nat) (o8 : Option Nat) (a9 : Nat → Nat) (h11 : Nat) (a11 : Nat → Nat) (h12 : Nat) (a12 : Nat → Nat) (sz : Nat) (p1 : Int32) (p2 : Int32) (p3 : Int32) (p4 : Int32) (p5 : Int32) (M0 : gS) (M1 : gS) (M2 : gS) (M3 : gS) (M4 : gS) (M5 : gS) (M6 : gS) (M7 : gS) (M8 : gS) (M9 : gS) (F10 : oF) (M11 : gS) (M12 : gS) (Q : Int32 → gS → gS → gS → gS → gS → gS → gS → gS → gS → gS → oF → gS → gS → Prop) (h : wX11_lotsab h11 h12 p1 p2 p3 p4 p5 M0 M1 M2 M3 M4 M5 M6 M7 M8 M9 F10 M11 M12 Q) : Met l yX11_lots wsX11_lots rmX11_lotsab (va_Pc [.ref h0, .int p1, .int p2, .int p3, .int p4, .int p5] (x2I dC dI cB cI cJ cZ cR cS h0 a0 a1 a2 a3 a4 a5 a6 a7 o7 a8 o8 a9 h11 a11 h12 a12 M0 M1 M2 M3 M4 M5 M6 M7 M8 M9 F10 M11 M12 sz)) (va_Qi (fun (r : Int32) (u : gS × gS × gS × gS × gS × gS × gS × gS × gS × gS × oF × gS × gS) => Q r u.1 u.2.1 u.2.2.1 u.2.2.2.1 u.2.2.2.2.1 u.2.2.2.2.2.1 u.2.2.2.2.2.2.1 u.2.2.2.2.2.2.2.1 u.2.2.2.2.2.2.2.2.1 u.2.2.2.2.2.2.2.2.2.1 u.2.2.2.2.2.2.2.2.2.2.1 u.2.2.2.2.2.2.2.2.2.2.2.1 u.2.2.2.2.2.2.2.2.2.2.2.2) (x2B dC dI cB cI cJ cZ cR cS h0 a0 a1 a2 a3 a4 a5 a6 a7 a8 a9 h11 a11 h12 a12 (va_A (x2W cB cI cJ cZ cR cS h0 a0 a1 a2 a3 a4 a5 a6 a7 o7 a8 o8 a9 h11 a11 h12 a12 M0 M1 M2 M3 M4 M5 M6 M7 M8 M9 F10 M11 M12) sz)) (va_A (x2W cB cI cJ cZ cR cS h0 a0 a1 a2 a3 a4 a5 a6 a7 o7 a8 o8 a9 h11 a11 h12 a12 M0 M1 M2 M3 M4 M5 M6 M7 M8 M9 F10 M11 M12) sz)) 0 0 (va_A (x2W cB cI cJ cZ cR cS h0 a0 a1 a2 a3 a4 a5 a6 a7 o7 a8 o8 a9 h11 a11 h12 a12 M0 M1 M2 M3 M4 M5 M6 M7 M8 M9 F10 M11 M12) sz) := by
  refine Met.ofW (cc := cX11_lots) (maxL := 7) (ret := (some .int)) (by decide) rfl ?_
  intro p e s m args below meth c s₁ B hml hv
  obtain ⟨rfl, hsz, hP, hK, hD0⟩ := hv
  have hx := B.exec
  have hb := B.bytes
  have hr := B.returns
  have hts := atoms_spec (ws := wsX11_lots) B.pre
  have hown : s.vm.findClass RX11 = some m.cls := findClass_of_methodNamed B.named
  have hlocks := B.notSynchronized
  subst hsz
  have hD := hD0.self (sz := s.heap.size)
  generalize hAe : va_A (x2W cB cI cJ cZ cR cS h0 a0 a1 a2 a3 a4 a5 a6 a7 o7 a8 o8 a9 h11 a11 h12 a12 M0 M1 M2 M3 M4 M5 M6 M7 M8 M9 F10 M11 M12) s.heap.size = A at hD ⊢
  have hA : ∀ q : Nat, s.heap.size ≤ q → A q := fun q h => by rw [← hAe]; exact Or.inr h
  have hS : va_S A s.heap s.heap [] := va_S.rf
  have hK0 : va_K (dC, dI) vwCl (gT cB cI cJ cZ) s := hK.sub (tys' := gT cB cI cJ cZ) [0, 1, 2, 3] rfl
  have hinX10 : ∀ w ∈ wsX100, w ∈ wsX11_lots := by decide +kernel
  have hinX11 : ∀ w ∈ wsX110, w ∈ wsX11_lots := by decide +kernel
  have hinX3 : ∀ w ∈ wsX30, w ∈ wsX11_lots := by decide +kernel
  have f1 := hts (.fieldLink RX11 61 "LastWords" "lot" "LLastWords$Lot;") (by decide +kernel)
  have f2 := hts (.fieldLink RX11 22 "LastWords" "now" "LLastWords$State;") (by decide +kernel)
  have f3 := hts (.fieldLink RX11 288 "LastWords$State" "x" "I") (by decide +kernel)
  have f4 := hts (.fieldLink RX11 291 "LastWords$Lot" "x" "I") (by decide +kernel)
  have b40 : ∀ (y1 : Int32) (y2 : Int32) (y3 : Int32) (y4 : Int32) (y5 : Int32) (y6 : Int32) (o7 o8 : Option Nat) (M0 : gS) (M1 : gS) (M2 : gS) (M3 : gS) (M4 : gS) (M5 : gS) (M6 : gS) (M7 : gS) (M8 : gS) (M9 : gS) (F10 : oF) (M11 : gS) (M12 : gS) (H : Heap) (locs : List Loc) (ls : Array Slot), va_P (dC, dI) vwCl (x2W cB cI cJ cZ cR cS h0 a0 a1 a2 a3 a4 a5 a6 a7 o7 a8 o8 a9 h11 a11 h12 a12 M0 M1 M2 M3 M4 M5 M6 M7 M8 M9 F10 M11 M12) H → va_D A (x2W cB cI cJ cZ cR cS h0 a0 a1 a2 a3 a4 a5 a6 a7 o7 a8 o8 a9 h11 a11 h12 a12 M0 M1 M2 M3 M4 M5 M6 M7 M8 M9 F10 M11 M12) → va_S A s.heap H locs → lv_has ls 7 [(0, .ref h0), (1, .int y1), (2, .int y2), (3, .int y3), (4, .int y4), (5, .int y5), (6, .int y6)] → wX11_lotsab_40 h11 h12  Q y1 y2 y3 y4 y5 y6 M0 M1 M2 M3 M4 M5 M6 M7 M8 M9 F10 M11 M12 → W p l e (headSpec wsX11_lots rmX11_lotsab).room s m ([.ref h0, .int p1, .int p2, .int p3, .int p4, .int p5] : List Value).toArray below meth c H locs 0 0 (MQ below (va_Qi (fun (r : Int32) (u : gS × gS × gS × gS × gS × gS × gS × gS × gS × gS × oF × gS × gS) => Q r u.1 u.2.1 u.2.2.1 u.2.2.2.1 u.2.2.2.2.1 u.2.2.2.2.2.1 u.2.2.2.2.2.2.1 u.2.2.2.2.2.2.2.1 u.2.2.2.2.2.2.2.2.1 u.2.2.2.2.2.2.2.2.2.1 u.2.2.2.2.2.2.2.2.2.2.1 u.2.2.2.2.2.2.2.2.2.2.2.1 u.2.2.2.2.2.2.2.2.2.2.2.2) (x2B dC dI cB cI cJ cZ cR cS h0 a0 a1 a2 a3 a4 a5 a6 a7 a8 a9 h11 a11 h12 a12 A) A) ([.ref h0, .int p1, .int p2, .int p3, .int p4, .int p5] : List Value).toArray s 0 0 A) (F0 m 40 ls []) := by
    intro  y1 y2 y3 y4 y5 y6 o7 o8  M0 M1 M2 M3 M4 M5 M6 M7 M8 M9 F10 M11 M12 H locs ls hP hD hS hl h
    unfold wX11_lotsab_40 at h
    refine lv_iload_n hx hb dX11_lots_40 rfl (lv_at hl 3 rfl) ?_
    refine lv_iconst (v := 1) hx hb dX11_lots_41 (by decide) ?_
    refine lv_icmp_lt (tgt := 77) hx hb dX11_lots_42 (by decide) (fun c1 => ?_) (fun c1 => ?_)
    · have h := h.1 c1
      refine lv_iconst (v := (-1)) hx hb dX11_lots_77 (by decide) ?_
      exact W.iret (v := (-1 : Int32)) hx hb hr (fun t ht hW => ⟨⟨_, (M0, M1, M2, M3, M4, M5, M6, M7, M8, M9, F10, M11, M12), rfl, h, o7, o8, by rw [ht]; exact hP, va_K.moved hW.alike hK, hD⟩, hS.F ht⟩) hS.2.2 dX11_lots_78
    · have h := h.2 c1
      refine lv_iload_n hx hb dX11_lots_45 rfl (lv_at hl 3 rfl) ?_
      refine lv_bipush (v := (50)) hx hb dX11_lots_46 (by decide) ?_
      refine lv_icmp_gt (tgt := 77) hx hb dX11_lots_48 (by decide) (fun c2 => ?_) (fun c2 => ?_)
      · have h := h.1 c2
        refine lv_iconst (v := (-1)) hx hb dX11_lots_77 (by decide) ?_
        exact W.iret (v := (-1 : Int32)) hx hb hr (fun t ht hW => ⟨⟨_, (M0, M1, M2, M3, M4, M5, M6, M7, M8, M9, F10, M11, M12), rfl, h, o7, o8, by rw [ht]; exact hP, va_K.moved hW.alike hK, hD⟩, hS.F ht⟩) hS.2.2 dX11_lots_78
      · have h := h.2 c2
        refine lv_iload hx hb dX11_lots_51 (lv_at hl 4 rfl) ?_
        have hPc := hP.sub (ws' := (e0W cB cI cJ cZ  )) [] rfl
        have hDc := hD.sub (ws' := (e0W cB cI cJ cZ  )) [] (by decide) rfl
        have hFc := va_free (wc := (e0W cB cI cJ cZ  )) hD hS hA [] rfl
        refine va_calli (va_runS (As := [.int y4]) (rest := []) ⟨hx, hb, hml, hown, hts⟩ (kX11_isPurse l dC dI cB cI cJ cZ  H.size y4  _ h) (cwS 1 hts gX11_lots_X11_isPurse rfl rfl rfl (by decide +kernel) ⟨Nat.le_of_ble_eq_true rfl, Nat.le_of_ble_eq_true rfl⟩) (e0pS hK0 hPc hDc) rfl rfl hl.1 rfl (lv_room (Nat.le_of_ble_eq_true rfl)) dX11_lots_53 ⟨Nat.le_of_ble_eq_true rfl, Nat.le_of_ble_eq_true rfl⟩) hS (fun q _ z => hFc q z) hFc (fun r3 u t H1 locs ht hvm hw hB hz1 hk1 hS => ?_)
        obtain ⟨hP1, hK1, hD1⟩ := hB
        rw [ht] at hP1
        obtain ⟨hP, hD⟩ := va_join (wr := [(h0, .inr (11, [.ref (a0 0), .int (mg M0 1), .ref (a0 2), .int (mg M0 3), .ref (a0 4), .ref (a0 5), .ref (a0 6), .ref (a0 7), .ref (a0 8), .ref (a0 9), .ref (a0 10), .ref (a0 11)])), (a0 0, .inl (cI, 400, .inl (ma M0 0))), (a0 11, .inl (cJ, 4, .inr (.inl (ml M0 11)))), (a0 4, .inr (10, [.ref (a1 0), .ref (a1 1), .ref (a1 2), .ref (a1 3), .int (mg M1 4)])), (a1 3, .inl (cI, 2, .inl (ma M1 3))), (a1 0, .inr (1, [.int (mg M2 0), .ref (a2 1), .int (mg M2 2), .ref (a2 3), .int (mg M2 4), .ref (a2 5)])), (a2 1, .inl (cI, 4, .inl (ma M2 1))), (a2 3, .inl (cI, 4, .inl (ma M2 3))), (a2 5, .inl (cI, 2, .inl (ma M2 5))), (a1 1, .inr (6, [.int (mg M3 0), .int (mg M3 1), .int (mg M3 2), .int (mg M3 3), .int (mg M3 4), .int (mg M3 5), .int (mg M3 6), .ref (a3 7), .ref (a3 8), .ref (a3 9)])), (a3 7, .inl (cI, 2, .inl (ma M3 7))), (a3 8, .inl (cI, 2, .inl (ma M3 8))), (a3 9, .inl (cI, 2, .inl (ma M3 9))), (a1 2, .inr (4, [.int (mg M4 0), .ref (a4 1), .ref (a4 2), .ref (a4 3)])), (a4 1, .inl (cI, 6, .inl (ma M4 1))), (a4 2, .inl (cI, 6, .inl (ma M4 2))), (a4 3, .inl (cI, 6, .inl (ma M4 3))), (a0 6, .inr (1, [.int (mg M5 0), .ref (a5 1), .int (mg M5 2), .ref (a5 3), .int (mg M5 4), .ref (a5 5)])), (a5 1, .inl (cI, 4, .inl (ma M5 1))), (a5 3, .inl (cI, 4, .inl (ma M5 3))), (a5 5, .inl (cI, 2, .inl (ma M5 5))), (a0 7, .inr (6, [.int (mg M6 0), .int (mg M6 1), .int (mg M6 2), .int (mg M6 3), .int (mg M6 4), .int (mg M6 5), .int (mg M6 6), .ref (a6 7), .ref (a6 8), .ref (a6 9)])), (a6 7, .inl (cI, 2, .inl (ma M6 7))), (a6 8, .inl (cI, 2, .inl (ma M6 8))), (a6 9, .inl (cI, 2, .inl (ma M6 9))), (a0 8, .inr (0, [.ref (a7 0), .ref (a7 1), .ref (a7 2), .ref (a7 3), .int (mg M7 4), va_rf o7, .int (mg M7 6), .int (mg M7 7), .int (mg M7 8), .int (mg M7 9), .int (mg M7 10)])), (a7 0, .inl (cJ, 15, .inr (.inl (ml M7 0)))), (a7 1, .inl (cJ, 800, .inr (.inl (ml M7 1)))), (a7 2, .inl (cI, 4, .inl (ma M7 2))), (a7 3, .inl (cJ, 4, .inr (.inl (ml M7 3)))), (a0 9, .inr (5, [.ref (a8 0), .ref (a8 1), va_rf o8, .int (mg M8 3)])), (a8 0, .inl (cI, 2048, .inl (ma M8 0))), (a8 1, .inl (cI, 2048, .inl (ma M8 1))), (a0 10, .inr (3, [.int (mg M9 0), .int (mg M9 1), .int (mg M9 2), .int (mg M9 3), .int (mg M9 4)])), (a0 2, .inl (cR, 6, .inr (.inr (.inr (.inr F10))))), (h11, .inr (8, [.int (mg M11 0), .ref (a11 1), .ref (a11 2), .ref (a11 3), .int (mg M11 4), .ref (a11 5)])), (a11 1, .inl (cI, 12, .inl (ma M11 1))), (a11 2, .inl (cI, 12, .inl (ma M11 2))), (a11 3, .inl (cI, 400, .inl (ma M11 3))), (a11 5, .inl (cJ, 60, .inr (.inl (ml M11 5)))), (h12, .inr (8, [.int (mg M12 0), .ref (a12 1), .ref (a12 2), .ref (a12 3), .int (mg M12 4), .ref (a12 5)])), (a12 1, .inl (cI, 12, .inl (ma M12 1))), (a12 2, .inl (cI, 12, .inl (ma M12 2))), (a12 3, .inl (cI, 400, .inl (ma M12 3))), (a12 5, .inl (cJ, 60, .inr (.inl (ml M12 5))))]) (w1 := (e0W cB cI cJ cZ  )) hP hD [] [0, 1, 2, 3, 4, 5, 6, 7, 8, 9, 10, 11, 12, 13, 14, 15, 16, 17, 18, 19, 20, 21, 22, 23, 24, 25, 26, 27, 28, 29, 30, 31, 32, 33, 34, 35, 36, 37, 38, 39, 40, 41, 42, 43, 44] rfl rfl (by decide) (by decide) hk1 hFc hP1 hD1
        have hP := hP.sub (ws' := (x2W cB cI cJ cZ cR cS h0 a0 a1 a2 a3 a4 a5 a6 a7 o7 a8 o8 a9 h11 a11 h12 a12 M0 M1 M2 M3 M4 M5 M6 M7 M8 M9 F10 M11 M12)) [0, 1, 2, 3, 4, 5, 6, 7, 8, 9, 10, 11, 12, 13, 14, 15, 16, 17, 18, 19, 20, 21, 22, 23, 24, 25, 26, 27, 28, 29, 30, 31, 32, 33, 34, 35, 36, 37, 38, 39, 40, 41, 42, 43, 44] rfl
        have hD := hD.sub (ws' := (x2W cB cI cJ cZ cR cS h0 a0 a1 a2 a3 a4 a5 a6 a7 o7 a8 o8 a9 h11 a11 h12 a12 M0 M1 M2 M3 M4 M5 M6 M7 M8 M9 F10 M11 M12)) [0, 1, 2, 3, 4, 5, 6, 7, 8, 9, 10, 11, 12, 13, 14, 15, 16, 17, 18, 19, 20, 21, 22, 23, 24, 25, 26, 27, 28, 29, 30, 31, 32, 33, 34, 35, 36, 37, 38, 39, 40, 41, 42, 43, 44] (by decide) rfl
        generalize H1 = H at hP hS ⊢
        obtain ⟨b4, rfl, h⟩ := hw
        try dsimp only at h
        refine lv_if_eq (tgt := 77) hx hb dX11_lots_56 (by decide) (fun c5 => ?_) (fun c5 => ?_)
        · have h := h.1 c5
          refine lv_iconst (v := (-1)) hx hb dX11_lots_77 (by decide) ?_
          exact W.iret (v := (-1 : Int32)) hx hb hr (fun t ht hW => ⟨⟨_, (M0, M1, M2, M3, M4, M5, M6, M7, M8, M9, F10, M11, M12), rfl, h, o7, o8, by rw [ht]; exact hP, va_K.moved hW.alike hK, hD⟩, hS.F ht⟩) hS.2.2 dX11_lots_78
        · have h := h.2 c5
          refine lv_iload hx hb dX11_lots_59 (lv_at hl 5 rfl) ?_
          refine lv_if_lt (tgt := 77) hx hb dX11_lots_61 (by decide) (fun c6 => ?_) (fun c6 => ?_)
          · have h := h.1 c6
            refine lv_iconst (v := (-1)) hx hb dX11_lots_77 (by decide) ?_
            exact W.iret (v := (-1 : Int32)) hx hb hr (fun t ht hW => ⟨⟨_, (M0, M1, M2, M3, M4, M5, M6, M7, M8, M9, F10, M11, M12), rfl, h, o7, o8, by rw [ht]; exact hP, va_K.moved hW.alike hK, hD⟩, hS.F ht⟩) hS.2.2 dX11_lots_78
          · have h := h.2 c6
            refine lv_iload hx hb dX11_lots_64 (lv_at hl 5 rfl) ?_
            refine lv_iconst (v := 2) hx hb dX11_lots_66 (by decide) ?_
            refine lv_icmp_gt (tgt := 77) hx hb dX11_lots_67 (by decide) (fun c7 => ?_) (fun c7 => ?_)
            · have h := h.1 c7
              refine lv_iconst (v := (-1)) hx hb dX11_lots_77 (by decide) ?_
              exact W.iret (v := (-1 : Int32)) hx hb hr (fun t ht hW => ⟨⟨_, (M0, M1, M2, M3, M4, M5, M6, M7, M8, M9, F10, M11, M12), rfl, h, o7, o8, by rw [ht]; exact hP, va_K.moved hW.alike hK, hD⟩, hS.F ht⟩) hS.2.2 dX11_lots_78
            · have h := h.2 c7
              refine lv_aload_n hx hb dX11_lots_70 rfl (lv_at hl 0 rfl) ?_
              have hPc := hP.sub (ws' := (lwW cB cI cJ cZ h0 a0 a1 a2 a3 a4 a5 a6 a7 o7 a8 o8 a9 M0 M1 M2 M3 M4 M5 M6 M7 M8 M9)) [0, 1, 2, 3, 4, 5, 6, 7, 8, 9, 10, 11, 12, 13, 14, 15, 16, 17, 18, 19, 20, 21, 22, 23, 24, 25, 26, 27, 28, 29, 30, 31, 32, 33] rfl
              have hDc := hD.sub (ws' := (lwW cB cI cJ cZ h0 a0 a1 a2 a3 a4 a5 a6 a7 o7 a8 o8 a9 M0 M1 M2 M3 M4 M5 M6 M7 M8 M9)) [0, 1, 2, 3, 4, 5, 6, 7, 8, 9, 10, 11, 12, 13, 14, 15, 16, 17, 18, 19, 20, 21, 22, 23, 24, 25, 26, 27, 28, 29, 30, 31, 32, 33] (by decide) rfl
              have hFc := va_free (wc := (lwW cB cI cJ cZ h0 a0 a1 a2 a3 a4 a5 a6 a7 o7 a8 o8 a9 M0 M1 M2 M3 M4 M5 M6 M7 M8 M9)) hD hS hA [0, 1, 2, 3, 4, 5, 6, 7, 8, 9, 10, 11, 12, 13, 14, 15, 16, 17, 18, 19, 20, 21, 22, 23, 24, 25, 26, 27, 28, 29, 30, 31, 32, 33] rfl
              refine va_calli (va_runV (As := []) (rest := []) ⟨hx, hb, hml, hown, hts⟩ (kX11_hasCorner l dC dI cB cI cJ cZ h0 a0 a1 a2 a3 a4 a5 a6 a7 o7 a8 o8 a9 H.size  M0 M1 M2 M3 M4 M5 M6 M7 M8 M9 _ h) (cwV 0 hts gX11_lots_X11_hasCorner rfl rfl rfl (by decide +kernel) ⟨Nat.le_of_ble_eq_true rfl, Nat.le_of_ble_eq_true rfl⟩) (lwpV hK0 hPc hDc) rfl rfl hl.1 rfl (lv_room (Nat.le_of_ble_eq_true rfl)) dX11_lots_71 ⟨Nat.le_of_ble_eq_true rfl, Nat.le_of_ble_eq_true rfl⟩) hS (fun q _ z => hFc q z) hFc (fun r8 u t H1 locs ht hvm hw hB hz1 hk1 hS => ?_)
              obtain ⟨N9, N10, N11, N12, N13, N14, N15, N16, N17, N18⟩ := u
              obtain ⟨v19, v20, hP1, hK1, hD1⟩ := hB
              rw [ht] at hP1
              obtain ⟨hP, hD⟩ := va_join (wr := [(a0 2, .inl (cR, 6, .inr (.inr (.inr (.inr F10))))), (h11, .inr (8, [.int (mg M11 0), .ref (a11 1), .ref (a11 2), .ref (a11 3), .int (mg M11 4), .ref (a11 5)])), (a11 1, .inl (cI, 12, .inl (ma M11 1))), (a11 2, .inl (cI, 12, .inl (ma M11 2))), (a11 3, .inl (cI, 400, .inl (ma M11 3))), (a11 5, .inl (cJ, 60, .inr (.inl (ml M11 5)))), (h12, .inr (8, [.int (mg M12 0), .ref (a12 1), .ref (a12 2), .ref (a12 3), .int (mg M12 4), .ref (a12 5)])), (a12 1, .inl (cI, 12, .inl (ma M12 1))), (a12 2, .inl (cI, 12, .inl (ma M12 2))), (a12 3, .inl (cI, 400, .inl (ma M12 3))), (a12 5, .inl (cJ, 60, .inr (.inl (ml M12 5))))]) (w1 := (lwW cB cI cJ cZ h0 a0 a1 a2 a3 a4 a5 a6 a7 v19 a8 v20 a9 N9 N10 N11 N12 N13 N14 N15 N16 N17 N18)) hP hD [0, 1, 2, 3, 4, 5, 6, 7, 8, 9, 10, 11, 12, 13, 14, 15, 16, 17, 18, 19, 20, 21, 22, 23, 24, 25, 26, 27, 28, 29, 30, 31, 32, 33] [34, 35, 36, 37, 38, 39, 40, 41, 42, 43, 44] rfl rfl (by decide) (by decide) hk1 hFc hP1 hD1
              have hP := hP.sub (ws' := (x2W cB cI cJ cZ cR cS h0 a0 a1 a2 a3 a4 a5 a6 a7 v19 a8 v20 a9 h11 a11 h12 a12 N9 N10 N11 N12 N13 N14 N15 N16 N17 N18 F10 M11 M12)) [11, 12, 13, 14, 15, 16, 17, 18, 19, 20, 21, 22, 23, 24, 25, 26, 27, 28, 29, 30, 31, 32, 33, 34, 35, 36, 37, 38, 39, 40, 41, 42, 43, 44, 0, 1, 2, 3, 4, 5, 6, 7, 8, 9, 10] rfl
              have hD := hD.sub (ws' := (x2W cB cI cJ cZ cR cS h0 a0 a1 a2 a3 a4 a5 a6 a7 v19 a8 v20 a9 h11 a11 h12 a12 N9 N10 N11 N12 N13 N14 N15 N16 N17 N18 F10 M11 M12)) [11, 12, 13, 14, 15, 16, 17, 18, 19, 20, 21, 22, 23, 24, 25, 26, 27, 28, 29, 30, 31, 32, 33, 34, 35, 36, 37, 38, 39, 40, 41, 42, 43, 44, 0, 1, 2, 3, 4, 5, 6, 7, 8, 9, 10] (by decide) rfl
              generalize H1 = H at hP hS ⊢
              obtain ⟨b21, rfl, h⟩ := hw
              try dsimp only at h
              refine lv_if_ne (tgt := 79) hx hb dX11_lots_74 (by decide) (fun c22 => ?_) (fun c22 => ?_)
              · have h := h.2 c22
                refine lv_aload_n hx hb dX11_lots_79 rfl (lv_at hl 0 rfl) ?_
                refine va_get (D := (dC, dI)) (ci := 11) (v := .ref (a0 10)) (C := RX11) (T := TX11) (N := 12) hx hb hts hinX11 hown hK hP 0 rfl rfl 10 (by decide) f1 (fun _ h9 => h9) rfl dX11_lots_80 ?_
                refine lv_aload_n hx hb dX11_lots_83 rfl (lv_at hl 0 rfl) ?_
                refine va_get (D := (dC, dI)) (ci := 11) (v := .ref (a0 4)) (C := RX11) (T := TX11) (N := 12) hx hb hts hinX11 hown hK hP 0 rfl rfl 4 (by decide) f2 (fun _ h9 => h9) rfl dX11_lots_84 ?_
                refine va_get (D := (dC, dI)) (ci := 10) (v := .int (mg N10 4)) (C := RX10) (T := TX10) (N := 5) hx hb hts hinX10 hown hK hP 3 rfl rfl 4 (by decide) f3 (fun _ h9 => h9) rfl dX11_lots_87 ?_
                refine lv_topi (fun x23 ex23 => ?_)
                have h := h x23 ex23
                refine va_put (D := (dC, dI)) (ci := 3) (v := .int x23) (ty := .int) (C := RX3) (T := TX3) (N := 5) hx hb hts hinX3 tyX3 tyX3_ok nmX3 hown hK hP hD hS 33 rfl rfl 0 (by decide) f4 (fun _ h9 => h9) rfl (by decide +kernel) rfl rfl (Nat.le_of_ble_eq_true rfl) dX11_lots_90 (fun H locs hP hD hS => ?_)
                have hP := x2P_9_f0 hP
                have hD := x2D_9_f0 hD
                have h := h _ rfl
                generalize sg N18 0 x23 = N24 at hP hD h
                refine lv_iload hx hb dX11_lots_93 (lv_at hl 6 rfl) ?_
                refine lv_if_eq (tgt := 118) hx hb dX11_lots_95 (by decide) (fun c25 => ?_) (fun c25 => ?_)
                · have h := h.1 c25
                  refine lv_aload_n hx hb dX11_lots_118 rfl (lv_at hl 0 rfl) ?_
                  refine lv_aload_n hx hb dX11_lots_119 rfl (lv_at hl 0 rfl) ?_
                  refine lv_iload_n hx hb dX11_lots_120 rfl (lv_at hl 1 rfl) ?_
                  have hPc := hP.sub (ws' := (rlW cB cI cJ cZ cR cS h0 a0 N9 F10)) [0, 1, 2, 34] rfl
                  have hDc := hD.sub (ws' := (rlW cB cI cJ cZ cR cS h0 a0 N9 F10)) [0, 1, 2, 34] (by decide) rfl
                  have hFc := va_free (wc := (rlW cB cI cJ cZ cR cS h0 a0 N9 F10)) hD hS hA [0, 1, 2, 34] rfl
                  refine va_callq (va_runV (As := [.int y1]) (rest := [.ref h0]) ⟨hx, hb, hml, hown, hts⟩ (kX11_ruleAt l dC dI cB cI cJ cZ cR cS h0 a0 H.size y1 N9 F10 _ h) (cwV 1 hts gX11_lots_X11_ruleAt rfl rfl rfl (by decide +kernel) ⟨Nat.le_of_ble_eq_true rfl, Nat.le_of_ble_eq_true rfl⟩) (rlpV hK hPc hDc) rfl rfl hl.1 rfl (lv_room (Nat.le_of_ble_eq_true rfl)) dX11_lots_121 ⟨Nat.le_of_ble_eq_true rfl, Nat.le_of_ble_eq_true rfl⟩) hS (fun q _ z => hFc q z) hFc (fun r26 u t H1 locs ht hvm hw hB hz1 hk1 hS => ?_)
                  obtain ⟨N27, v28⟩ := u
                  obtain ⟨hP1, hK1, hD1⟩ := hB
                  rw [ht] at hP1
                  obtain ⟨hP, hD⟩ := va_join (wr := [(a0 4, .inr (10, [.ref (a1 0), .ref (a1 1), .ref (a1 2), .ref (a1 3), .int (mg N10 4)])), (a1 3, .inl (cI, 2, .inl (ma N10 3))), (a1 0, .inr (1, [.int (mg N11 0), .ref (a2 1), .int (mg N11 2), .ref (a2 3), .int (mg N11 4), .ref (a2 5)])), (a2 1, .inl (cI, 4, .inl (ma N11 1))), (a2 3, .inl (cI, 4, .inl (ma N11 3))), (a2 5, .inl (cI, 2, .inl (ma N11 5))), (a1 1, .inr (6, [.int (mg N12 0), .int (mg N12 1), .int (mg N12 2), .int (mg N12 3), .int (mg N12 4), .int (mg N12 5), .int (mg N12 6), .ref (a3 7), .ref (a3 8), .ref (a3 9)])), (a3 7, .inl (cI, 2, .inl (ma N12 7))), (a3 8, .inl (cI, 2, .inl (ma N12 8))), (a3 9, .inl (cI, 2, .inl (ma N12 9))), (a1 2, .inr (4, [.int (mg N13 0), .ref (a4 1), .ref (a4 2), .ref (a4 3)])), (a4 1, .inl (cI, 6, .inl (ma N13 1))), (a4 2, .inl (cI, 6, .inl (ma N13 2))), (a4 3, .inl (cI, 6, .inl (ma N13 3))), (a0 6, .inr (1, [.int (mg N14 0), .ref (a5 1), .int (mg N14 2), .ref (a5 3), .int (mg N14 4), .ref (a5 5)])), (a5 1, .inl (cI, 4, .inl (ma N14 1))), (a5 3, .inl (cI, 4, .inl (ma N14 3))), (a5 5, .inl (cI, 2, .inl (ma N14 5))), (a0 7, .inr (6, [.int (mg N15 0), .int (mg N15 1), .int (mg N15 2), .int (mg N15 3), .int (mg N15 4), .int (mg N15 5), .int (mg N15 6), .ref (a6 7), .ref (a6 8), .ref (a6 9)])), (a6 7, .inl (cI, 2, .inl (ma N15 7))), (a6 8, .inl (cI, 2, .inl (ma N15 8))), (a6 9, .inl (cI, 2, .inl (ma N15 9))), (a0 8, .inr (0, [.ref (a7 0), .ref (a7 1), .ref (a7 2), .ref (a7 3), .int (mg N16 4), va_rf v19, .int (mg N16 6), .int (mg N16 7), .int (mg N16 8), .int (mg N16 9), .int (mg N16 10)])), (a7 0, .inl (cJ, 15, .inr (.inl (ml N16 0)))), (a7 1, .inl (cJ, 800, .inr (.inl (ml N16 1)))), (a7 2, .inl (cI, 4, .inl (ma N16 2))), (a7 3, .inl (cJ, 4, .inr (.inl (ml N16 3)))), (a0 9, .inr (5, [.ref (a8 0), .ref (a8 1), va_rf v20, .int (mg N17 3)])), (a8 0, .inl (cI, 2048, .inl (ma N17 0))), (a8 1, .inl (cI, 2048, .inl (ma N17 1))), (a0 10, .inr (3, [.int (mg N24 0), .int (mg N24 1), .int (mg N24 2), .int (mg N24 3), .int (mg N24 4)])), (h11, .inr (8, [.int (mg M11 0), .ref (a11 1), .ref (a11 2), .ref (a11 3), .int (mg M11 4), .ref (a11 5)])), (a11 1, .inl (cI, 12, .inl (ma M11 1))), (a11 2, .inl (cI, 12, .inl (ma M11 2))), (a11 3, .inl (cI, 400, .inl (ma M11 3))), (a11 5, .inl (cJ, 60, .inr (.inl (ml M11 5)))), (h12, .inr (8, [.int (mg M12 0), .ref (a12 1), .ref (a12 2), .ref (a12 3), .int (mg M12 4), .ref (a12 5)])), (a12 1, .inl (cI, 12, .inl (ma M12 1))), (a12 2, .inl (cI, 12, .inl (ma M12 2))), (a12 3, .inl (cI, 400, .inl (ma M12 3))), (a12 5, .inl (cJ, 60, .inr (.inl (ml M12 5))))]) (w1 := (rlW cB cI cJ cZ cR cS h0 a0 N27 v28)) hP hD [0, 1, 2, 34] [3, 4, 5, 6, 7, 8, 9, 10, 11, 12, 13, 14, 15, 16, 17, 18, 19, 20, 21, 22, 23, 24, 25, 26, 27, 28, 29, 30, 31, 32, 33, 35, 36, 37, 38, 39, 40, 41, 42, 43, 44] rfl rfl (by decide) (by decide) hk1 hFc hP1 hD1
                  have hP := hP.sub (ws' := (x2W cB cI cJ cZ cR cS h0 a0 a1 a2 a3 a4 a5 a6 a7 v19 a8 v20 a9 h11 a11 h12 a12 N27 N10 N11 N12 N13 N14 N15 N16 N17 N24 v28 M11 M12)) [41, 42, 43, 0, 1, 2, 3, 4, 5, 6, 7, 8, 9, 10, 11, 12, 13, 14, 15, 16, 17, 18, 19, 20, 21, 22, 23, 24, 25, 26, 27, 28, 29, 30, 44, 31, 32, 33, 34, 35, 36, 37, 38, 39, 40] rfl
                  have hD := hD.sub (ws' := (x2W cB cI cJ cZ cR cS h0 a0 a1 a2 a3 a4 a5 a6 a7 v19 a8 v20 a9 h11 a11 h12 a12 N27 N10 N11 N12 N13 N14 N15 N16 N17 N24 v28 M11 M12)) [41, 42, 43, 0, 1, 2, 3, 4, 5, 6, 7, 8, 9, 10, 11, 12, 13, 14, 15, 16, 17, 18, 19, 20, 21, 22, 23, 24, 25, 26, 27, 28, 29, 30, 44, 31, 32, 33, 34, 35, 36, 37, 38, 39, 40] (by decide) rfl
                  generalize H1 = H at hP hS ⊢
                  have h := hw
                  try dsimp only at h
                  refine lv_aload_n hx hb dX11_lots_124 rfl (lv_at hl 0 rfl) ?_
                  refine lv_iload_n hx hb dX11_lots_125 rfl (lv_at hl 2 rfl) ?_
                  have hPc := hP.sub (ws' := (rlW cB cI cJ cZ cR cS h0 a0 N27 v28)) [0, 1, 2, 34] rfl
                  have hDc := hD.sub (ws' := (rlW cB cI cJ cZ cR cS h0 a0 N27 v28)) [0, 1, 2, 34] (by decide) rfl
                  have hFc := va_free (wc := (rlW cB cI cJ cZ cR cS h0 a0 N27 v28)) hD hS hA [0, 1, 2, 34] rfl
                  refine va_callq (va_runV (As := [.int y2]) (rest := [va_rf r26, .ref h0]) ⟨hx, hb, hml, hown, hts⟩ (kX11_ruleAt l dC dI cB cI cJ cZ cR cS h0 a0 H.size y2 N27 v28 _ h) (cwV 1 hts gX11_lots_X11_ruleAt rfl rfl rfl (by decide +kernel) ⟨Nat.le_of_ble_eq_true rfl, Nat.le_of_ble_eq_true rfl⟩) (rlpV hK hPc hDc) rfl rfl hl.1 rfl (lv_room (by cases r26 <;> exact Nat.le_of_ble_eq_true rfl)) dX11_lots_126 ⟨Nat.le_of_ble_eq_true rfl, Nat.le_of_ble_eq_true rfl⟩) hS (fun q _ z => hFc q z) hFc (fun r29 u t H1 locs ht hvm hw hB hz1 hk1 hS => ?_)
                  obtain ⟨N30, v31⟩ := u
                  obtain ⟨hP1, hK1, hD1⟩ := hB
                  rw [ht] at hP1
                  obtain ⟨hP, hD⟩ := va_join (wr := [(a0 4, .inr (10, [.ref (a1 0), .ref (a1 1), .ref (a1 2), .ref (a1 3), .int (mg N10 4)])), (a1 3, .inl (cI, 2, .inl (ma N10 3))), (a1 0, .inr (1, [.int (mg N11 0), .ref (a2 1), .int (mg N11 2), .ref (a2 3), .int (mg N11 4), .ref (a2 5)])), (a2 1, .inl (cI, 4, .inl (ma N11 1))), (a2 3, .inl (cI, 4, .inl (ma N11 3))), (a2 5, .inl (cI, 2, .inl (ma N11 5))), (a1 1, .inr (6, [.int (mg N12 0), .int (mg N12 1), .int (mg N12 2), .int (mg N12 3), .int (mg N12 4), .int (mg N12 5), .int (mg N12 6), .ref (a3 7), .ref (a3 8), .ref (a3 9)])), (a3 7, .inl (cI, 2, .inl (ma N12 7))), (a3 8, .inl (cI, 2, .inl (ma N12 8))), (a3 9, .inl (cI, 2, .inl (ma N12 9))), (a1 2, .inr (4, [.int (mg N13 0), .ref (a4 1), .ref (a4 2), .ref (a4 3)])), (a4 1, .inl (cI, 6, .inl (ma N13 1))), (a4 2, .inl (cI, 6, .inl (ma N13 2))), (a4 3, .inl (cI, 6, .inl (ma N13 3))), (a0 6, .inr (1, [.int (mg N14 0), .ref (a5 1), .int (mg N14 2), .ref (a5 3), .int (mg N14 4), .ref (a5 5)])), (a5 1, .inl (cI, 4, .inl (ma N14 1))), (a5 3, .inl (cI, 4, .inl (ma N14 3))), (a5 5, .inl (cI, 2, .inl (ma N14 5))), (a0 7, .inr (6, [.int (mg N15 0), .int (mg N15 1), .int (mg N15 2), .int (mg N15 3), .int (mg N15 4), .int (mg N15 5), .int (mg N15 6), .ref (a6 7), .ref (a6 8), .ref (a6 9)])), (a6 7, .inl (cI, 2, .inl (ma N15 7))), (a6 8, .inl (cI, 2, .inl (ma N15 8))), (a6 9, .inl (cI, 2, .inl (ma N15 9))), (a0 8, .inr (0, [.ref (a7 0), .ref (a7 1), .ref (a7 2), .ref (a7 3), .int (mg N16 4), va_rf v19, .int (mg N16 6), .int (mg N16 7), .int (mg N16 8), .int (mg N16 9), .int (mg N16 10)])), (a7 0, .inl (cJ, 15, .inr (.inl (ml N16 0)))), (a7 1, .inl (cJ, 800, .inr (.inl (ml N16 1)))), (a7 2, .inl (cI, 4, .inl (ma N16 2))), (a7 3, .inl (cJ, 4, .inr (.inl (ml N16 3)))), (a0 9, .inr (5, [.ref (a8 0), .ref (a8 1), va_rf v20, .int (mg N17 3)])), (a8 0, .inl (cI, 2048, .inl (ma N17 0))), (a8 1, .inl (cI, 2048, .inl (ma N17 1))), (a0 10, .inr (3, [.int (mg N24 0), .int (mg N24 1), .int (mg N24 2), .int (mg N24 3), .int (mg N24 4)])), (h11, .inr (8, [.int (mg M11 0), .ref (a11 1), .ref (a11 2), .ref (a11 3), .int (mg M11 4), .ref (a11 5)])), (a11 1, .inl (cI, 12, .inl (ma M11 1))), (a11 2, .inl (cI, 12, .inl (ma M11 2))), (a11 3, .inl (cI, 400, .inl (ma M11 3))), (a11 5, .inl (cJ, 60, .inr (.inl (ml M11 5)))), (h12, .inr (8, [.int (mg M12 0), .ref (a12 1), .ref (a12 2), .ref (a12 3), .int (mg M12 4), .ref (a12 5)])), (a12 1, .inl (cI, 12, .inl (ma M12 1))), (a12 2, .inl (cI, 12, .inl (ma M12 2))), (a12 3, .inl (cI, 400, .inl (ma M12 3))), (a12 5, .inl (cJ, 60, .inr (.inl (ml M12 5))))]) (w1 := (rlW cB cI cJ cZ cR cS h0 a0 N30 v31)) hP hD [0, 1, 2, 34] [3, 4, 5, 6, 7, 8, 9, 10, 11, 12, 13, 14, 15, 16, 17, 18, 19, 20, 21, 22, 23, 24, 25, 26, 27, 28, 29, 30, 31, 32, 33, 35, 36, 37, 38, 39, 40, 41, 42, 43, 44] rfl rfl (by decide) (by decide) hk1 hFc hP1 hD1
                  have hP := hP.sub (ws' := (x2W cB cI cJ cZ cR cS h0 a0 a1 a2 a3 a4 a5 a6 a7 v19 a8 v20 a9 h11 a11 h12 a12 N30 N10 N11 N12 N13 N14 N15 N16 N17 N24 v31 M11 M12)) [41, 42, 43, 0, 1, 2, 3, 4, 5, 6, 7, 8, 9, 10, 11, 12, 13, 14, 15, 16, 17, 18, 19, 20, 21, 22, 23, 24, 25, 26, 27, 28, 29, 30, 44, 31, 32, 33, 34, 35, 36, 37, 38, 39, 40] rfl
                  have hD := hD.sub (ws' := (x2W cB cI cJ cZ cR cS h0 a0 a1 a2 a3 a4 a5 a6 a7 v19 a8 v20 a9 h11 a11 h12 a12 N30 N10 N11 N12 N13 N14 N15 N16 N17 N24 v31 M11 M12)) [41, 42, 43, 0, 1, 2, 3, 4, 5, 6, 7, 8, 9, 10, 11, 12, 13, 14, 15, 16, 17, 18, 19, 20, 21, 22, 23, 24, 25, 26, 27, 28, 29, 30, 44, 31, 32, 33, 34, 35, 36, 37, 38, 39, 40] (by decide) rfl
                  generalize H1 = H at hP hS ⊢
                  have h := hw
                  try dsimp only at h
                  refine lv_iload_n hx hb dX11_lots_129 rfl (lv_at hl 3 rfl) ?_
                  refine lv_iload hx hb dX11_lots_130 (lv_at hl 4 rfl) ?_
                  refine lv_iload hx hb dX11_lots_132 (lv_at hl 5 rfl) ?_
                  obtain ⟨ehQ32, hQ32⟩ := h
                  subst ehQ32
                  have h := hQ32
                  obtain ⟨ehQ33, hQ33⟩ := h
                  subst ehQ33
                  have h := hQ33
                  have hFc := gs_free hD hS hA
                  refine va_calli (va_runV (As := [.ref h11, .ref h12, .int y3, .int y4, .int y5]) (rest := []) ⟨hx, hb, hml, hown, hts⟩ (kX11_lotsByRulesab l dC dI cB cI cJ cZ cR cS h0 a0 a1 a2 a3 a4 a5 a6 a7 v19 a8 v20 a9 h11 a11 h12 a12 H.size y3 y4 y5 N30 N10 N11 N12 N13 N14 N15 N16 N17 N24 v31 M11 M12 _ h) (cwV 5 hts gX11_lots_X11_lotsByRules rfl rfl rfl (by decide +kernel) ⟨Nat.le_of_ble_eq_true rfl, Nat.le_of_ble_eq_true rfl⟩) (x2pV hK hP hD) rfl rfl hl.1 rfl (lv_room (Nat.le_of_ble_eq_true rfl)) dX11_lots_134 ⟨Nat.le_of_ble_eq_true rfl, Nat.le_of_ble_eq_true rfl⟩) hS (fun q _ z => hFc q z) hFc (fun r34 u t H1 locs ht hvm hw hB hz1 hk1 hS => ?_)
                  obtain ⟨N35, N36, N37, N38, N39, N40, N41, N42, N43, N44, v45, N46, N47⟩ := u
                  obtain ⟨v48, v49, hP, hK1, hD1⟩ := hB
                  rw [ht] at hP
                  have hD := hD1.weaken (fun _ _ _ z => hFc _ z)
                  generalize H1 = H at hP hS ⊢
                  have h := hw
                  try dsimp only at h
                  exact W.iret (v := r34) hx hb hr (fun t ht hW => ⟨⟨_, (N35, N36, N37, N38, N39, N40, N41, N42, N43, N44, v45, N46, N47), rfl, h, v48, v49, by rw [ht]; exact hP, va_K.moved hW.alike hK, hD⟩, hS.F ht⟩) hS.2.2 dX11_lots_137
                · have h := h.2 c25
                  refine lv_iload hx hb dX11_lots_98 (lv_at hl 5 rfl) ?_
                  refine lv_iconst (v := 2) hx hb dX11_lots_100 (by decide) ?_
                  refine lv_icmp_ne (tgt := 108) hx hb dX11_lots_101 (by decide) (fun c50 => ?_) (fun c50 => ?_)
                  · have h := h.2 c50
                    refine lv_aload_n hx hb dX11_lots_108 rfl (lv_at hl 0 rfl) ?_
                    refine lv_iload_n hx hb dX11_lots_109 rfl (lv_at hl 3 rfl) ?_
                    refine lv_iload hx hb dX11_lots_110 (lv_at hl 4 rfl) ?_
                    refine lv_iload hx hb dX11_lots_112 (lv_at hl 5 rfl) ?_
                    have hPc := hP.sub (ws' := (lwW cB cI cJ cZ h0 a0 a1 a2 a3 a4 a5 a6 a7 v19 a8 v20 a9 N9 N10 N11 N12 N13 N14 N15 N16 N17 N24)) [0, 1, 2, 3, 4, 5, 6, 7, 8, 9, 10, 11, 12, 13, 14, 15, 16, 17, 18, 19, 20, 21, 22, 23, 24, 25, 26, 27, 28, 29, 30, 31, 32, 33] rfl
                    have hDc := hD.sub (ws' := (lwW cB cI cJ cZ h0 a0 a1 a2 a3 a4 a5 a6 a7 v19 a8 v20 a9 N9 N10 N11 N12 N13 N14 N15 N16 N17 N24)) [0, 1, 2, 3, 4, 5, 6, 7, 8, 9, 10, 11, 12, 13, 14, 15, 16, 17, 18, 19, 20, 21, 22, 23, 24, 25, 26, 27, 28, 29, 30, 31, 32, 33] (by decide) rfl
                    have hFc := va_free (wc := (lwW cB cI cJ cZ h0 a0 a1 a2 a3 a4 a5 a6 a7 v19 a8 v20 a9 N9 N10 N11 N12 N13 N14 N15 N16 N17 N24)) hD hS hA [0, 1, 2, 3, 4, 5, 6, 7, 8, 9, 10, 11, 12, 13, 14, 15, 16, 17, 18, 19, 20, 21, 22, 23, 24, 25, 26, 27, 28, 29, 30, 31, 32, 33] rfl
                    refine va_calli (va_runV (As := [.int y3, .int y4, .int y5]) (rest := []) ⟨hx, hb, hml, hown, hts⟩ (kX11_lotsByBestPlay l dC dI cB cI cJ cZ h0 a0 a1 a2 a3 a4 a5 a6 a7 v19 a8 v20 a9 H.size y3 y4 y5 N9 N10 N11 N12 N13 N14 N15 N16 N17 N24 _ h) (cwV 3 hts gX11_lots_X11_lotsByBestPlay rfl rfl rfl (by decide +kernel) ⟨Nat.le_of_ble_eq_true rfl, Nat.le_of_ble_eq_true rfl⟩) (lwpV hK0 hPc hDc) rfl rfl hl.1 rfl (lv_room (Nat.le_of_ble_eq_true rfl)) dX11_lots_114 ⟨Nat.le_of_ble_eq_true rfl, Nat.le_of_ble_eq_true rfl⟩) hS (fun q _ z => hFc q z) hFc (fun r51 u t H1 locs ht hvm hw hB hz1 hk1 hS => ?_)
                    obtain ⟨N52, N53, N54, N55, N56, N57, N58, N59, N60, N61⟩ := u
                    obtain ⟨v62, v63, hP1, hK1, hD1⟩ := hB
                    rw [ht] at hP1
                    obtain ⟨hP, hD⟩ := va_join (wr := [(a0 2, .inl (cR, 6, .inr (.inr (.inr (.inr F10))))), (h11, .inr (8, [.int (mg M11 0), .ref (a11 1), .ref (a11 2), .ref (a11 3), .int (mg M11 4), .ref (a11 5)])), (a11 1, .inl (cI, 12, .inl (ma M11 1))), (a11 2, .inl (cI, 12, .inl (ma M11 2))), (a11 3, .inl (cI, 400, .inl (ma M11 3))), (a11 5, .inl (cJ, 60, .inr (.inl (ml M11 5)))), (h12, .inr (8, [.int (mg M12 0), .ref (a12 1), .ref (a12 2), .ref (a12 3), .int (mg M12 4), .ref (a12 5)])), (a12 1, .inl (cI, 12, .inl (ma M12 1))), (a12 2, .inl (cI, 12, .inl (ma M12 2))), (a12 3, .inl (cI, 400, .inl (ma M12 3))), (a12 5, .inl (cJ, 60, .inr (.inl (ml M12 5))))]) (w1 := (lwW cB cI cJ cZ h0 a0 a1 a2 a3 a4 a5 a6 a7 v62 a8 v63 a9 N52 N53 N54 N55 N56 N57 N58 N59 N60 N61)) hP hD [0, 1, 2, 3, 4, 5, 6, 7, 8, 9, 10, 11, 12, 13, 14, 15, 16, 17, 18, 19, 20, 21, 22, 23, 24, 25, 26, 27, 28, 29, 30, 31, 32, 33] [34, 35, 36, 37, 38, 39, 40, 41, 42, 43, 44] rfl rfl (by decide) (by decide) hk1 hFc hP1 hD1
                    have hP := hP.sub (ws' := (x2W cB cI cJ cZ cR cS h0 a0 a1 a2 a3 a4 a5 a6 a7 v62 a8 v63 a9 h11 a11 h12 a12 N52 N53 N54 N55 N56 N57 N58 N59 N60 N61 F10 M11 M12)) [11, 12, 13, 14, 15, 16, 17, 18, 19, 20, 21, 22, 23, 24, 25, 26, 27, 28, 29, 30, 31, 32, 33, 34, 35, 36, 37, 38, 39, 40, 41, 42, 43, 44, 0, 1, 2, 3, 4, 5, 6, 7, 8, 9, 10] rfl
                    have hD := hD.sub (ws' := (x2W cB cI cJ cZ cR cS h0 a0 a1 a2 a3 a4 a5 a6 a7 v62 a8 v63 a9 h11 a11 h12 a12 N52 N53 N54 N55 N56 N57 N58 N59 N60 N61 F10 M11 M12)) [11, 12, 13, 14, 15, 16, 17, 18, 19, 20, 21, 22, 23, 24, 25, 26, 27, 28, 29, 30, 31, 32, 33, 34, 35, 36, 37, 38, 39, 40, 41, 42, 43, 44, 0, 1, 2, 3, 4, 5, 6, 7, 8, 9, 10] (by decide) rfl
                    generalize H1 = H at hP hS ⊢
                    have h := hw
                    try dsimp only at h
                    exact W.iret (v := r51) hx hb hr (fun t ht hW => ⟨⟨_, (N52, N53, N54, N55, N56, N57, N58, N59, N60, N61, F10, M11, M12), rfl, h, v62, v63, by rw [ht]; exact hP, va_K.moved hW.alike hK, hD⟩, hS.F ht⟩) hS.2.2 dX11_lots_117
                  · have h := h.1 c50
                    refine lv_iconst (v := 0) hx hb dX11_lots_104 (by decide) ?_
                    refine lv_goto (tgt := 117) hx hb dX11_lots_105 (by decide) ?_
                    exact W.iret (v := (0 : Int32)) hx hb hr (fun t ht hW => ⟨⟨_, (N9, N10, N11, N12, N13, N14, N15, N16, N17, N24, F10, M11, M12), rfl, h, v19, v20, by rw [ht]; exact hP, va_K.moved hW.alike hK, hD⟩, hS.F ht⟩) hS.2.2 dX11_lots_117
              · have h := h.1 c22
                refine lv_iconst (v := (-1)) hx hb dX11_lots_77 (by decide) ?_
                exact W.iret (v := (-1 : Int32)) hx hb hr (fun t ht hW => ⟨⟨_, (N9, N10, N11, N12, N13, N14, N15, N16, N17, N18, F10, M11, M12), rfl, h, v19, v20, by rw [ht]; exact hP, va_K.moved hW.alike hK, hD⟩, hS.F ht⟩) hS.2.2 dX11_lots_78
  have b15 : ∀ (y1 : Int32) (y2 : Int32) (y3 : Int32) (y4 : Int32) (y5 : Int32) (z0 : Int32) (o7 o8 : Option Nat) (M0 : gS) (M1 : gS) (M2 : gS) (M3 : gS) (M4 : gS) (M5 : gS) (M6 : gS) (M7 : gS) (M8 : gS) (M9 : gS) (F10 : oF) (M11 : gS) (M12 : gS) (H : Heap) (locs : List Loc) (ls : Array Slot), va_P (dC, dI) vwCl (x2W cB cI cJ cZ cR cS h0 a0 a1 a2 a3 a4 a5 a6 a7 o7 a8 o8 a9 h11 a11 h12 a12 M0 M1 M2 M3 M4 M5 M6 M7 M8 M9 F10 M11 M12) H → va_D A (x2W cB cI cJ cZ cR cS h0 a0 a1 a2 a3 a4 a5 a6 a7 o7 a8 o8 a9 h11 a11 h12 a12 M0 M1 M2 M3 M4 M5 M6 M7 M8 M9 F10 M11 M12) → va_S A s.heap H locs → lv_has ls 7 [(0, .ref h0), (1, .int y1), (2, .int y2), (3, .int y3), (4, .int y4), (5, .int y5)] → wX11_lotsab_15 h11 h12  Q y1 y2 y3 y4 y5 z0 M0 M1 M2 M3 M4 M5 M6 M7 M8 M9 F10 M11 M12 → W p l e (headSpec wsX11_lots rmX11_lotsab).room s m ([.ref h0, .int p1, .int p2, .int p3, .int p4, .int p5] : List Value).toArray below meth c H locs 0 0 (MQ below (va_Qi (fun (r : Int32) (u : gS × gS × gS × gS × gS × gS × gS × gS × gS × gS × oF × gS × gS) => Q r u.1 u.2.1 u.2.2.1 u.2.2.2.1 u.2.2.2.2.1 u.2.2.2.2.2.1 u.2.2.2.2.2.2.1 u.2.2.2.2.2.2.2.1 u.2.2.2.2.2.2.2.2.1 u.2.2.2.2.2.2.2.2.2.1 u.2.2.2.2.2.2.2.2.2.2.1 u.2.2.2.2.2.2.2.2.2.2.2.1 u.2.2.2.2.2.2.2.2.2.2.2.2) (x2B dC dI cB cI cJ cZ cR cS h0 a0 a1 a2 a3 a4 a5 a6 a7 a8 a9 h11 a11 h12 a12 A) A) ([.ref h0, .int p1, .int p2, .int p3, .int p4, .int p5] : List Value).toArray s 0 0 A) (F0 m 15 ls [.int z0]) := by
    intro  y1 y2 y3 y4 y5 z0 o7 o8  M0 M1 M2 M3 M4 M5 M6 M7 M8 M9 F10 M11 M12 H locs ls hP hD hS hl h
    unfold wX11_lotsab_15 at h
    refine lv_istore (lv' := [(6, .int z0), (0, .ref h0), (1, .int y1), (2, .int y2), (3, .int y3), (4, .int y4), (5, .int y5)]) hx hb dX11_lots_15 hl (by decide) rfl (fun ls hl => ?_)
    refine lv_iload hx hb dX11_lots_17 (lv_at hl 0 rfl) ?_
    refine lv_if_ne (tgt := 40) hx hb dX11_lots_19 (by decide) (fun c1 => ?_) (fun c1 => ?_)
    · have h := h.2 c1
      exact b40  y1 y2 y3 y4 y5 z0 o7 o8 M0 M1 M2 M3 M4 M5 M6 M7 M8 M9 F10 M11 M12 H locs ls hP hD hS (lv_sub hl [1, 2, 3, 4, 5, 6, 0] rfl) h
    · have h := h.1 c1
      refine lv_aload_n hx hb dX11_lots_22 rfl (lv_at hl 1 rfl) ?_
      refine lv_iload_n hx hb dX11_lots_23 rfl (lv_at hl 2 rfl) ?_
      have hPc := hP.sub (ws' := (rlW cB cI cJ cZ cR cS h0 a0 M0 F10)) [0, 1, 2, 34] rfl
      have hDc := hD.sub (ws' := (rlW cB cI cJ cZ cR cS h0 a0 M0 F10)) [0, 1, 2, 34] (by decide) rfl
      have hFc := va_free (wc := (rlW cB cI cJ cZ cR cS h0 a0 M0 F10)) hD hS hA [0, 1, 2, 34] rfl
      refine va_callq (va_runV (As := [.int y1]) (rest := []) ⟨hx, hb, hml, hown, hts⟩ (kX11_ruleAt l dC dI cB cI cJ cZ cR cS h0 a0 H.size y1 M0 F10 _ h) (cwV 1 hts gX11_lots_X11_ruleAt rfl rfl rfl (by decide +kernel) ⟨Nat.le_of_ble_eq_true rfl, Nat.le_of_ble_eq_true rfl⟩) (rlpV hK hPc hDc) rfl rfl hl.1 rfl (lv_room (Nat.le_of_ble_eq_true rfl)) dX11_lots_24 ⟨Nat.le_of_ble_eq_true rfl, Nat.le_of_ble_eq_true rfl⟩) hS (fun q _ z => hFc q z) hFc (fun r2 u t H1 locs ht hvm hw hB hz1 hk1 hS => ?_)
      obtain ⟨N3, v4⟩ := u
      obtain ⟨hP1, hK1, hD1⟩ := hB
      rw [ht] at hP1
      obtain ⟨hP, hD⟩ := va_join (wr := [(a0 4, .inr (10, [.ref (a1 0), .ref (a1 1), .ref (a1 2), .ref (a1 3), .int (mg M1 4)])), (a1 3, .inl (cI, 2, .inl (ma M1 3))), (a1 0, .inr (1, [.int (mg M2 0), .ref (a2 1), .int (mg M2 2), .ref (a2 3), .int (mg M2 4), .ref (a2 5)])), (a2 1, .inl (cI, 4, .inl (ma M2 1))), (a2 3, .inl (cI, 4, .inl (ma M2 3))), (a2 5, .inl (cI, 2, .inl (ma M2 5))), (a1 1, .inr (6, [.int (mg M3 0), .int (mg M3 1), .int (mg M3 2), .int (mg M3 3), .int (mg M3 4), .int (mg M3 5), .int (mg M3 6), .ref (a3 7), .ref (a3 8), .ref (a3 9)])), (a3 7, .inl (cI, 2, .inl (ma M3 7))), (a3 8, .inl (cI, 2, .inl (ma M3 8))), (a3 9, .inl (cI, 2, .inl (ma M3 9))), (a1 2, .inr (4, [.int (mg M4 0), .ref (a4 1), .ref (a4 2), .ref (a4 3)])), (a4 1, .inl (cI, 6, .inl (ma M4 1))), (a4 2, .inl (cI, 6, .inl (ma M4 2))), (a4 3, .inl (cI, 6, .inl (ma M4 3))), (a0 6, .inr (1, [.int (mg M5 0), .ref (a5 1), .int (mg M5 2), .ref (a5 3), .int (mg M5 4), .ref (a5 5)])), (a5 1, .inl (cI, 4, .inl (ma M5 1))), (a5 3, .inl (cI, 4, .inl (ma M5 3))), (a5 5, .inl (cI, 2, .inl (ma M5 5))), (a0 7, .inr (6, [.int (mg M6 0), .int (mg M6 1), .int (mg M6 2), .int (mg M6 3), .int (mg M6 4), .int (mg M6 5), .int (mg M6 6), .ref (a6 7), .ref (a6 8), .ref (a6 9)])), (a6 7, .inl (cI, 2, .inl (ma M6 7))), (a6 8, .inl (cI, 2, .inl (ma M6 8))), (a6 9, .inl (cI, 2, .inl (ma M6 9))), (a0 8, .inr (0, [.ref (a7 0), .ref (a7 1), .ref (a7 2), .ref (a7 3), .int (mg M7 4), va_rf o7, .int (mg M7 6), .int (mg M7 7), .int (mg M7 8), .int (mg M7 9), .int (mg M7 10)])), (a7 0, .inl (cJ, 15, .inr (.inl (ml M7 0)))), (a7 1, .inl (cJ, 800, .inr (.inl (ml M7 1)))), (a7 2, .inl (cI, 4, .inl (ma M7 2))), (a7 3, .inl (cJ, 4, .inr (.inl (ml M7 3)))), (a0 9, .inr (5, [.ref (a8 0), .ref (a8 1), va_rf o8, .int (mg M8 3)])), (a8 0, .inl (cI, 2048, .inl (ma M8 0))), (a8 1, .inl (cI, 2048, .inl (ma M8 1))), (a0 10, .inr (3, [.int (mg M9 0), .int (mg M9 1), .int (mg M9 2), .int (mg M9 3), .int (mg M9 4)])), (h11, .inr (8, [.int (mg M11 0), .ref (a11 1), .ref (a11 2), .ref (a11 3), .int (mg M11 4), .ref (a11 5)])), (a11 1, .inl (cI, 12, .inl (ma M11 1))), (a11 2, .inl (cI, 12, .inl (ma M11 2))), (a11 3, .inl (cI, 400, .inl (ma M11 3))), (a11 5, .inl (cJ, 60, .inr (.inl (ml M11 5)))), (h12, .inr (8, [.int (mg M12 0), .ref (a12 1), .ref (a12 2), .ref (a12 3), .int (mg M12 4), .ref (a12 5)])), (a12 1, .inl (cI, 12, .inl (ma M12 1))), (a12 2, .inl (cI, 12, .inl (ma M12 2))), (a12 3, .inl (cI, 400, .inl (ma M12 3))), (a12 5, .inl (cJ, 60, .inr (.inl (ml M12 5))))]) (w1 := (rlW cB cI cJ cZ cR cS h0 a0 N3 v4)) hP hD [0, 1, 2, 34] [3, 4, 5, 6, 7, 8, 9, 10, 11, 12, 13, 14, 15, 16, 17, 18, 19, 20, 21, 22, 23, 24, 25, 26, 27, 28, 29, 30, 31, 32, 33, 35, 36, 37, 38, 39, 40, 41, 42, 43, 44] rfl rfl (by decide) (by decide) hk1 hFc hP1 hD1
      have hP := hP.sub (ws' := (x2W cB cI cJ cZ cR cS h0 a0 a1 a2 a3 a4 a5 a6 a7 o7 a8 o8 a9 h11 a11 h12 a12 N3 M1 M2 M3 M4 M5 M6 M7 M8 M9 v4 M11 M12)) [41, 42, 43, 0, 1, 2, 3, 4, 5, 6, 7, 8, 9, 10, 11, 12, 13, 14, 15, 16, 17, 18, 19, 20, 21, 22, 23, 24, 25, 26, 27, 28, 29, 30, 44, 31, 32, 33, 34, 35, 36, 37, 38, 39, 40] rfl
      have hD := hD.sub (ws' := (x2W cB cI cJ cZ cR cS h0 a0 a1 a2 a3 a4 a5 a6 a7 o7 a8 o8 a9 h11 a11 h12 a12 N3 M1 M2 M3 M4 M5 M6 M7 M8 M9 v4 M11 M12)) [41, 42, 43, 0, 1, 2, 3, 4, 5, 6, 7, 8, 9, 10, 11, 12, 13, 14, 15, 16, 17, 18, 19, 20, 21, 22, 23, 24, 25, 26, 27, 28, 29, 30, 44, 31, 32, 33, 34, 35, 36, 37, 38, 39, 40] (by decide) rfl
      generalize H1 = H at hP hS ⊢
      have h := hw
      try dsimp only at h
      rcases c5 : r2 with _ | ia6
      · have h := h.1 c5
        refine lv_ifnullN (tgt := 38) hx hb dX11_lots_27 (by decide) ?_
        refine lv_iconst (v := (-1)) hx hb dX11_lots_38 (by decide) ?_
        exact W.iret (v := (-1 : Int32)) hx hb hr (fun t ht hW => ⟨⟨_, (N3, M1, M2, M3, M4, M5, M6, M7, M8, M9, v4, M11, M12), rfl, h, o7, o8, by rw [ht]; exact hP, va_K.moved hW.alike hK, hD⟩, hS.F ht⟩) hS.2.2 dX11_lots_39
      · have h := h.2 ia6 c5
        refine lv_ifnull hx hb dX11_lots_27 ?_
        refine lv_aload_n hx hb dX11_lots_30 rfl (lv_at hl 1 rfl) ?_
        refine lv_iload_n hx hb dX11_lots_31 rfl (lv_at hl 3 rfl) ?_
        have hPc := hP.sub (ws' := (rlW cB cI cJ cZ cR cS h0 a0 N3 v4)) [0, 1, 2, 34] rfl
        have hDc := hD.sub (ws' := (rlW cB cI cJ cZ cR cS h0 a0 N3 v4)) [0, 1, 2, 34] (by decide) rfl
        have hFc := va_free (wc := (rlW cB cI cJ cZ cR cS h0 a0 N3 v4)) hD hS hA [0, 1, 2, 34] rfl
        refine va_callq (va_runV (As := [.int y2]) (rest := []) ⟨hx, hb, hml, hown, hts⟩ (kX11_ruleAt l dC dI cB cI cJ cZ cR cS h0 a0 H.size y2 N3 v4 _ h) (cwV 1 hts gX11_lots_X11_ruleAt rfl rfl rfl (by decide +kernel) ⟨Nat.le_of_ble_eq_true rfl, Nat.le_of_ble_eq_true rfl⟩) (rlpV hK hPc hDc) rfl rfl hl.1 rfl (lv_room (Nat.le_of_ble_eq_true rfl)) dX11_lots_32 ⟨Nat.le_of_ble_eq_true rfl, Nat.le_of_ble_eq_true rfl⟩) hS (fun q _ z => hFc q z) hFc (fun r7 u t H1 locs ht hvm hw hB hz1 hk1 hS => ?_)
        obtain ⟨N8, v9⟩ := u
        obtain ⟨hP1, hK1, hD1⟩ := hB
        rw [ht] at hP1
        obtain ⟨hP, hD⟩ := va_join (wr := [(a0 4, .inr (10, [.ref (a1 0), .ref (a1 1), .ref (a1 2), .ref (a1 3), .int (mg M1 4)])), (a1 3, .inl (cI, 2, .inl (ma M1 3))), (a1 0, .inr (1, [.int (mg M2 0), .ref (a2 1), .int (mg M2 2), .ref (a2 3), .int (mg M2 4), .ref (a2 5)])), (a2 1, .inl (cI, 4, .inl (ma M2 1))), (a2 3, .inl (cI, 4, .inl (ma M2 3))), (a2 5, .inl (cI, 2, .inl (ma M2 5))), (a1 1, .inr (6, [.int (mg M3 0), .int (mg M3 1), .int (mg M3 2), .int (mg M3 3), .int (mg M3 4), .int (mg M3 5), .int (mg M3 6), .ref (a3 7), .ref (a3 8), .ref (a3 9)])), (a3 7, .inl (cI, 2, .inl (ma M3 7))), (a3 8, .inl (cI, 2, .inl (ma M3 8))), (a3 9, .inl (cI, 2, .inl (ma M3 9))), (a1 2, .inr (4, [.int (mg M4 0), .ref (a4 1), .ref (a4 2), .ref (a4 3)])), (a4 1, .inl (cI, 6, .inl (ma M4 1))), (a4 2, .inl (cI, 6, .inl (ma M4 2))), (a4 3, .inl (cI, 6, .inl (ma M4 3))), (a0 6, .inr (1, [.int (mg M5 0), .ref (a5 1), .int (mg M5 2), .ref (a5 3), .int (mg M5 4), .ref (a5 5)])), (a5 1, .inl (cI, 4, .inl (ma M5 1))), (a5 3, .inl (cI, 4, .inl (ma M5 3))), (a5 5, .inl (cI, 2, .inl (ma M5 5))), (a0 7, .inr (6, [.int (mg M6 0), .int (mg M6 1), .int (mg M6 2), .int (mg M6 3), .int (mg M6 4), .int (mg M6 5), .int (mg M6 6), .ref (a6 7), .ref (a6 8), .ref (a6 9)])), (a6 7, .inl (cI, 2, .inl (ma M6 7))), (a6 8, .inl (cI, 2, .inl (ma M6 8))), (a6 9, .inl (cI, 2, .inl (ma M6 9))), (a0 8, .inr (0, [.ref (a7 0), .ref (a7 1), .ref (a7 2), .ref (a7 3), .int (mg M7 4), va_rf o7, .int (mg M7 6), .int (mg M7 7), .int (mg M7 8), .int (mg M7 9), .int (mg M7 10)])), (a7 0, .inl (cJ, 15, .inr (.inl (ml M7 0)))), (a7 1, .inl (cJ, 800, .inr (.inl (ml M7 1)))), (a7 2, .inl (cI, 4, .inl (ma M7 2))), (a7 3, .inl (cJ, 4, .inr (.inl (ml M7 3)))), (a0 9, .inr (5, [.ref (a8 0), .ref (a8 1), va_rf o8, .int (mg M8 3)])), (a8 0, .inl (cI, 2048, .inl (ma M8 0))), (a8 1, .inl (cI, 2048, .inl (ma M8 1))), (a0 10, .inr (3, [.int (mg M9 0), .int (mg M9 1), .int (mg M9 2), .int (mg M9 3), .int (mg M9 4)])), (h11, .inr (8, [.int (mg M11 0), .ref (a11 1), .ref (a11 2), .ref (a11 3), .int (mg M11 4), .ref (a11 5)])), (a11 1, .inl (cI, 12, .inl (ma M11 1))), (a11 2, .inl (cI, 12, .inl (ma M11 2))), (a11 3, .inl (cI, 400, .inl (ma M11 3))), (a11 5, .inl (cJ, 60, .inr (.inl (ml M11 5)))), (h12, .inr (8, [.int (mg M12 0), .ref (a12 1), .ref (a12 2), .ref (a12 3), .int (mg M12 4), .ref (a12 5)])), (a12 1, .inl (cI, 12, .inl (ma M12 1))), (a12 2, .inl (cI, 12, .inl (ma M12 2))), (a12 3, .inl (cI, 400, .inl (ma M12 3))), (a12 5, .inl (cJ, 60, .inr (.inl (ml M12 5))))]) (w1 := (rlW cB cI cJ cZ cR cS h0 a0 N8 v9)) hP hD [0, 1, 2, 34] [3, 4, 5, 6, 7, 8, 9, 10, 11, 12, 13, 14, 15, 16, 17, 18, 19, 20, 21, 22, 23, 24, 25, 26, 27, 28, 29, 30, 31, 32, 33, 35, 36, 37, 38, 39, 40, 41, 42, 43, 44] rfl rfl (by decide) (by decide) hk1 hFc hP1 hD1
        have hP := hP.sub (ws' := (x2W cB cI cJ cZ cR cS h0 a0 a1 a2 a3 a4 a5 a6 a7 o7 a8 o8 a9 h11 a11 h12 a12 N8 M1 M2 M3 M4 M5 M6 M7 M8 M9 v9 M11 M12)) [41, 42, 43, 0, 1, 2, 3, 4, 5, 6, 7, 8, 9, 10, 11, 12, 13, 14, 15, 16, 17, 18, 19, 20, 21, 22, 23, 24, 25, 26, 27, 28, 29, 30, 44, 31, 32, 33, 34, 35, 36, 37, 38, 39, 40] rfl
        have hD := hD.sub (ws' := (x2W cB cI cJ cZ cR cS h0 a0 a1 a2 a3 a4 a5 a6 a7 o7 a8 o8 a9 h11 a11 h12 a12 N8 M1 M2 M3 M4 M5 M6 M7 M8 M9 v9 M11 M12)) [41, 42, 43, 0, 1, 2, 3, 4, 5, 6, 7, 8, 9, 10, 11, 12, 13, 14, 15, 16, 17, 18, 19, 20, 21, 22, 23, 24, 25, 26, 27, 28, 29, 30, 44, 31, 32, 33, 34, 35, 36, 37, 38, 39, 40] (by decide) rfl
        generalize H1 = H at hP hS ⊢
        have h := hw
        try dsimp only at h
        rcases c10 : r7 with _ | ia11
        · have h := h.1 c10
          refine lv_ifnonnullN hx hb dX11_lots_35 ?_
          refine lv_iconst (v := (-1)) hx hb dX11_lots_38 (by decide) ?_
          exact W.iret (v := (-1 : Int32)) hx hb hr (fun t ht hW => ⟨⟨_, (N8, M1, M2, M3, M4, M5, M6, M7, M8, M9, v9, M11, M12), rfl, h, o7, o8, by rw [ht]; exact hP, va_K.moved hW.alike hK, hD⟩, hS.F ht⟩) hS.2.2 dX11_lots_39
        · have h := h.2 ia11 c10
          refine lv_ifnonnull (tgt := 40) hx hb dX11_lots_35 (by decide) ?_
          exact b40  y1 y2 y3 y4 y5 z0 o7 o8 N8 M1 M2 M3 M4 M5 M6 M7 M8 M9 v9 M11 M12 H locs ls hP hD hS (lv_sub hl [1, 2, 3, 4, 5, 6, 0] rfl) h
  have b14 : ∀ (y1 : Int32) (y2 : Int32) (y3 : Int32) (y4 : Int32) (y5 : Int32) (o7 o8 : Option Nat) (M0 : gS) (M1 : gS) (M2 : gS) (M3 : gS) (M4 : gS) (M5 : gS) (M6 : gS) (M7 : gS) (M8 : gS) (M9 : gS) (F10 : oF) (M11 : gS) (M12 : gS) (H : Heap) (locs : List Loc) (ls : Array Slot), va_P (dC, dI) vwCl (x2W cB cI cJ cZ cR cS h0 a0 a1 a2 a3 a4 a5 a6 a7 o7 a8 o8 a9 h11 a11 h12 a12 M0 M1 M2 M3 M4 M5 M6 M7 M8 M9 F10 M11 M12) H → va_D A (x2W cB cI cJ cZ cR cS h0 a0 a1 a2 a3 a4 a5 a6 a7 o7 a8 o8 a9 h11 a11 h12 a12 M0 M1 M2 M3 M4 M5 M6 M7 M8 M9 F10 M11 M12) → va_S A s.heap H locs → lv_has ls 7 [(0, .ref h0), (1, .int y1), (2, .int y2), (3, .int y3), (4, .int y4), (5, .int y5)] → wX11_lotsab_14 h11 h12  Q y1 y2 y3 y4 y5 M0 M1 M2 M3 M4 M5 M6 M7 M8 M9 F10 M11 M12 → W p l e (headSpec wsX11_lots rmX11_lotsab).room s m ([.ref h0, .int p1, .int p2, .int p3, .int p4, .int p5] : List Value).toArray below meth c H locs 0 0 (MQ below (va_Qi (fun (r : Int32) (u : gS × gS × gS × gS × gS × gS × gS × gS × gS × gS × oF × gS × gS) => Q r u.1 u.2.1 u.2.2.1 u.2.2.2.1 u.2.2.2.2.1 u.2.2.2.2.2.1 u.2.2.2.2.2.2.1 u.2.2.2.2.2.2.2.1 u.2.2.2.2.2.2.2.2.1 u.2.2.2.2.2.2.2.2.2.1 u.2.2.2.2.2.2.2.2.2.2.1 u.2.2.2.2.2.2.2.2.2.2.2.1 u.2.2.2.2.2.2.2.2.2.2.2.2) (x2B dC dI cB cI cJ cZ cR cS h0 a0 a1 a2 a3 a4 a5 a6 a7 a8 a9 h11 a11 h12 a12 A) A) ([.ref h0, .int p1, .int p2, .int p3, .int p4, .int p5] : List Value).toArray s 0 0 A) (F0 m 14 ls []) := by
    intro  y1 y2 y3 y4 y5 o7 o8  M0 M1 M2 M3 M4 M5 M6 M7 M8 M9 F10 M11 M12 H locs ls hP hD hS hl h
    unfold wX11_lotsab_14 at h
    refine lv_iconst (v := 0) hx hb dX11_lots_14 (by decide) ?_
    exact b15  y1 y2 y3 y4 y5 (0 : Int32) o7 o8 M0 M1 M2 M3 M4 M5 M6 M7 M8 M9 F10 M11 M12 H locs ls hP hD hS (lv_sub hl [0, 1, 2, 3, 4, 5] rfl) h
  have bE : ∀ (M0 : gS) (M1 : gS) (M2 : gS) (M3 : gS) (M4 : gS) (M5 : gS) (M6 : gS) (M7 : gS) (M8 : gS) (M9 : gS) (F10 : oF) (M11 : gS) (M12 : gS) (H : Heap) (locs : List Loc) (ls : Array Slot), va_P (dC, dI) vwCl (x2W cB cI cJ cZ cR cS h0 a0 a1 a2 a3 a4 a5 a6 a7 o7 a8 o8 a9 h11 a11 h12 a12 M0 M1 M2 M3 M4 M5 M6 M7 M8 M9 F10 M11 M12) H → va_D A (x2W cB cI cJ cZ cR cS h0 a0 a1 a2 a3 a4 a5 a6 a7 o7 a8 o8 a9 h11 a11 h12 a12 M0 M1 M2 M3 M4 M5 M6 M7 M8 M9 F10 M11 M12) → va_S A s.heap H locs → lv_has ls 7 [(0, .ref h0), (1, .int p1), (2, .int p2), (3, .int p3), (4, .int p4), (5, .int p5)] → wX11_lotsab h11 h12 p1 p2 p3 p4 p5 M0 M1 M2 M3 M4 M5 M6 M7 M8 M9 F10 M11 M12 Q → W p l e (headSpec wsX11_lots rmX11_lotsab).room s m ([.ref h0, .int p1, .int p2, .int p3, .int p4, .int p5] : List Value).toArray below meth c H locs 0 0 (MQ below (va_Qi (fun (r : Int32) (u : gS × gS × gS × gS × gS × gS × gS × gS × gS × gS × oF × gS × gS) => Q r u.1 u.2.1 u.2.2.1 u.2.2.2.1 u.2.2.2.2.1 u.2.2.2.2.2.1 u.2.2.2.2.2.2.1 u.2.2.2.2.2.2.2.1 u.2.2.2.2.2.2.2.2.1 u.2.2.2.2.2.2.2.2.2.1 u.2.2.2.2.2.2.2.2.2.2.1 u.2.2.2.2.2.2.2.2.2.2.2.1 u.2.2.2.2.2.2.2.2.2.2.2.2) (x2B dC dI cB cI cJ cZ cR cS h0 a0 a1 a2 a3 a4 a5 a6 a7 a8 a9 h11 a11 h12 a12 A) A) ([.ref h0, .int p1, .int p2, .int p3, .int p4, .int p5] : List Value).toArray s 0 0 A) (F0 m 0 ls []) := by
    intro M0 M1 M2 M3 M4 M5 M6 M7 M8 M9 F10 M11 M12 H locs ls hP hD hS hl h
    unfold wX11_lotsab at h
    refine lv_iload_n hx hb dX11_lots_0 rfl (lv_at hl 1 rfl) ?_
    refine lv_iconst (v := (-1)) hx hb dX11_lots_1 (by decide) ?_
    refine lv_icmp_ne (tgt := 14) hx hb dX11_lots_2 (by decide) (fun c1 => ?_) (fun c1 => ?_)
    · have h := h.2 c1
      exact b14  p1 p2 p3 p4 p5 o7 o8 M0 M1 M2 M3 M4 M5 M6 M7 M8 M9 F10 M11 M12 H locs ls hP hD hS (lv_sub hl [0, 1, 2, 3, 4, 5] rfl) h
    · have h := h.1 c1
      refine lv_iload_n hx hb dX11_lots_5 rfl (lv_at hl 2 rfl) ?_
      refine lv_iconst (v := (-1)) hx hb dX11_lots_6 (by decide) ?_
      refine lv_icmp_ne (tgt := 14) hx hb dX11_lots_7 (by decide) (fun c2 => ?_) (fun c2 => ?_)
      · have h := h.2 c2
        exact b14  p1 p2 p3 p4 p5 o7 o8 M0 M1 M2 M3 M4 M5 M6 M7 M8 M9 F10 M11 M12 H locs ls hP hD hS (lv_sub hl [0, 1, 2, 3, 4, 5] rfl) h
      · have h := h.1 c2
        refine lv_iconst (v := 1) hx hb dX11_lots_10 (by decide) ?_
        refine lv_goto (tgt := 15) hx hb dX11_lots_11 (by decide) ?_
        exact b15  p1 p2 p3 p4 p5 (1 : Int32) o7 o8 M0 M1 M2 M3 M4 M5 M6 M7 M8 M9 F10 M11 M12 H locs ls hP hD hS (lv_sub hl [0, 1, 2, 3, 4, 5] rfl) h
  have hl := lv_entry ([.ref h0, .int p1, .int p2, .int p3, .int p4, .int p5]) (n := 7) (Nat.le_of_ble_eq_true rfl)
  rw [lg_entry_eq]
  generalize (lg_sl ([.ref h0, .int p1, .int p2, .int p3, .int p4, .int p5]) ++ List.replicate (7 - (lg_sl ([.ref h0, .int p1, .int p2, .int p3, .int p4, .int p5])).length) Slot.unset).toArray = ls at hl ⊢
  have hl : lv_has ls 7 [(0, .ref h0), (1, .int p1), (2, .int p2), (3, .int p3), (4, .int p4), (5, .int p5)] := hl
  exact bE M0 M1 M2 M3 M4 M5 M6 M7 M8 M9 F10 M11 M12 s.heap [] ls hP hD hS hl h
def wX11_lotsnn_40  (Q : Int32 → gS → gS → gS → gS → gS → gS → gS → gS → gS → gS → oF → Prop) (y1 : Int32) (y2 : Int32) (y3 : Int32) (y4 : Int32) (y5 : Int32) (y6 : Int32) (M0 : gS) (M1 : gS) (M2 : gS) (M3 : gS) (M4 : gS) (M5 : gS) (M6 : gS) (M7 : gS) (M8 : gS) (M9 : gS) (F10 : oF) : Prop :=
 ((y3 < (1 : Int32) → (Q (-1 : Int32) M0 M1 M2 M3 M4 M5 M6 M7 M8 M9 F10))
 ∧ (¬ y3 < (1 : Int32) → (((50 : Int32) < y3 → (Q (-1 : Int32) M0 M1 M2 M3 M4 M5 M6 M7 M8 M9 F10))
 ∧ (¬ (50 : Int32) < y3 → (wX11_isPurse y4  (fun (b4 : Bool)  => (((bI b4) = 0 → (Q (-1 : Int32) M0 M1 M2 M3 M4 M5 M6 M7 M8 M9 F10))
 ∧ (¬ (bI b4) = 0 → ((y5 < 0 → (Q (-1 : Int32) M0 M1 M2 M3 M4 M5 M6 M7 M8 M9 F10))
 ∧ (¬ y5 < 0 → (((2 : Int32) < y5 → (Q (-1 : Int32) M0 M1 M2 M3 M4 M5 M6 M7 M8 M9 F10))
 ∧ (¬ (2 : Int32) < y5 → (wX11_hasCorner  M0 M1 M2 M3 M4 M5 M6 M7 M8 M9 (fun (b21 : Bool) (N9 : gS) (N10 : gS) (N11 : gS) (N12 : gS) (N13 : gS) (N14 : gS) (N15 : gS) (N16 : gS) (N17 : gS) (N18 : gS) => (((bI b21) = 0 → (Q (-1 : Int32) N9 N10 N11 N12 N13 N14 N15 N16 N17 N18 F10))
 ∧ (¬ (bI b21) = 0 → (∀ x23 : Int32, x23 = (mg N10 4) → (∀ N24 : gS, N24 = sg N18 0 x23 → ((y6 = 0 → (wX11_ruleAt y1 N9 F10 (fun (r26 : Option Nat) (N27 : gS) (v28 : oF) => (wX11_ruleAt y2 N27 v28 (fun (r29 : Option Nat) (N30 : gS) (v31 : oF) => (∃ x9 : Nat, x9 < x9))))))
 ∧ (¬ y6 = 0 → ((y5 = (2 : Int32) → (Q (0 : Int32) N9 N10 N11 N12 N13 N14 N15 N16 N17 N24 F10))
 ∧ (¬ y5 = (2 : Int32) → (wX11_lotsByBestPlay y3 y4 y5 N9 N10 N11 N12 N13 N14 N15 N16 N17 N24 (fun (r33 : Int32) (N34 : gS) (N35 : gS) (N36 : gS) (N37 : gS) (N38 : gS) (N39 : gS) (N40 : gS) (N41 : gS) (N42 : gS) (N43 : gS) => (Q r33 N34 N35 N36 N37 N38 N39 N40 N41 N42 N43 F10)))))))))))))))))))))))))
def wX11_lotsnn_15  (Q : Int32 → gS → gS → gS → gS → gS → gS → gS → gS → gS → gS → oF → Prop) (y1 : Int32) (y2 : Int32) (y3 : Int32) (y4 : Int32) (y5 : Int32) (z0 : Int32) (M0 : gS) (M1 : gS) (M2 : gS) (M3 : gS) (M4 : gS) (M5 : gS) (M6 : gS) (M7 : gS) (M8 : gS) (M9 : gS) (F10 : oF) : Prop :=
 ((z0 = 0 → (wX11_ruleAt y1 M0 F10 (fun (r2 : Option Nat) (N3 : gS) (v4 : oF) => ((r2 = none → (Q (-1 : Int32) N3 M1 M2 M3 M4 M5 M6 M7 M8 M9 v4))
 ∧ (∀ ia6 : Nat, r2 = some ia6 → (wX11_ruleAt y2 N3 v4 (fun (r7 : Option Nat) (N8 : gS) (v9 : oF) => ((r7 = none → (Q (-1 : Int32) N8 M1 M2 M3 M4 M5 M6 M7 M8 M9 v9))
 ∧ (∀ ia11 : Nat, r7 = some ia11 → (wX11_lotsnn_40  Q y1 y2 y3 y4 y5 z0 N8 M1 M2 M3 M4 M5 M6 M7 M8 M9 v9))))))))))
 ∧ (¬ z0 = 0 → (wX11_lotsnn_40  Q y1 y2 y3 y4 y5 z0 M0 M1 M2 M3 M4 M5 M6 M7 M8 M9 F10)))
def wX11_lotsnn_14  (Q : Int32 → gS → gS → gS → gS → gS → gS → gS → gS → gS → gS → oF → Prop) (y1 : Int32) (y2 : Int32) (y3 : Int32) (y4 : Int32) (y5 : Int32) (M0 : gS) (M1 : gS) (M2 : gS) (M3 : gS) (M4 : gS) (M5 : gS) (M6 : gS) (M7 : gS) (M8 : gS) (M9 : gS) (F10 : oF) : Prop :=
 (wX11_lotsnn_15  Q y1 y2 y3 y4 y5 (0 : Int32) M0 M1 M2 M3 M4 M5 M6 M7 M8 M9 F10)
def wX11_lotsnn (p1 : Int32) (p2 : Int32) (p3 : Int32) (p4 : Int32) (p5 : Int32) (M0 : gS) (M1 : gS) (M2 : gS) (M3 : gS) (M4 : gS) (M5 : gS) (M6 : gS) (M7 : gS) (M8 : gS) (M9 : gS) (F10 : oF) (Q : Int32 → gS → gS → gS → gS → gS → gS → gS → gS → gS → gS → oF → Prop) : Prop :=
 ((p1 = (-1 : Int32) → ((p2 = (-1 : Int32) → (wX11_lotsnn_15  Q p1 p2 p3 p4 p5 (1 : Int32) M0 M1 M2 M3 M4 M5 M6 M7 M8 M9 F10))
 ∧ (¬ p2 = (-1 : Int32) → (wX11_lotsnn_14  Q p1 p2 p3 p4 p5 M0 M1 M2 M3 M4 M5 M6 M7 M8 M9 F10))))
 ∧ (¬ p1 = (-1 : Int32) → (wX11_lotsnn_14  Q p1 p2 p3 p4 p5 M0 M1 M2 M3 M4 M5 M6 M7 M8 M9 F10)))
def rmX11_lotsnn : Room := { frames := 6, cells := 0, slots := 0, locals := 153 }
set_option maxHeartbeats 4000000 in
set_option maxRecDepth 100000 in
theorem kX11_lotsnn (l : Launch) (dC : Nat → ClassId) (dI : Nat → Nat → Nat) (cB cI cJ cZ cR cS : ClassId) (h0 : Nat) (a0 : Nat → Nat) (a1 : Nat → Nat) (a2 : Nat → Nat) (a3 : Nat → Nat) (a4 : Nat → Nat) (a5 : Nat → Nat) (a6 : Nat → Nat) (a7 : Nat → Nat) (o7 : Option Nat) (a8 : Nat → Nat) (o8 : Option Nat) (a9 : Nat → Nat) (sz : Nat) (p1 : Int32) (p2 : Int32) (p3 : Int32) (p4 : Int32) (p5 : Int32) (M0 : gS) (M1 : gS) (M2 : gS) (M3 : gS) (M4 : gS) (M5 : gS) (M6 : gS) (M7 : gS) (M8 : gS) (M9 : gS) (F10 : oF) (Q : Int32 → gS → gS → gS → gS → gS → gS → gS → gS → gS → gS → oF → Prop) (h : wX11_lotsnn p1 p2 p3 p4 p5 M0 M1 M2 M3 M4 M5 M6 M7 M8 M9 F10 Q) : Met l yX11_lots wsX11_lots rmX11_lotsnn (va_Pc [.ref h0, .int p1, .int p2, .int p3, .int p4, .int p5] (x0I dC dI cB cI cJ cZ cR cS h0 a0 a1 a2 a3 a4 a5 a6 a7 o7 a8 o8 a9 M0 M1 M2 M3 M4 M5 M6 M7 M8 M9 F10 sz)) (va_Qi (fun (r : Int32) (u : gS × gS × gS × gS × gS × gS × gS × gS × gS × gS × oF) => Q r u.1 u.2.1 u.2.2.1 u.2.2.2.1 u.2.2.2.2.1 u.2.2.2.2.2.1 u.2.2.2.2.2.2.1 u.2.2.2.2.2.2.2.1 u.2.2.2.2.2.2.2.2.1 u.2.2.2.2.2.2.2.2.2.1 u.2.2.2.2.2.2.2.2.2.2) (x0B dC dI cB cI cJ cZ cR cS h0 a0 a1 a2 a3 a4 a5 a6 a7 a8 a9 (va_A (x0W cB cI cJ cZ cR cS h0 a0 a1 a2 a3 a4 a5 a6 a7 o7 a8 o8 a9 M0 M1 M2 M3 M4 M5 M6 M7 M8 M9 F10) sz)) (va_A (x0W cB cI cJ cZ cR cS h0 a0 a1 a2 a3 a4 a5 a6 a7 o7 a8 o8 a9 M0 M1 M2 M3 M4 M5 M6 M7 M8 M9 F10) sz)) 0 0 (va_A (x0W cB cI cJ cZ cR cS h0 a0 a1 a2 a3 a4 a5 a6 a7 o7 a8 o8 a9 M0 M1 M2 M3 M4 M5 M6 M7 M8 M9 F10) sz) := by
  refine Met.ofW (cc := cX11_lots) (maxL := 7) (ret := (some .int)) (by decide) rfl ?_
  intro p e s m args below meth c s₁ B hml hv
  obtain ⟨rfl, hsz, hP, hK, hD0⟩ := hv
  have hx := B.exec
  have hb := B.bytes
  have hr := B.returns
  have hts := atoms_spec (ws := wsX11_lots) B.pre
  have hown : s.vm.findClass RX11 = some m.cls := findClass_of_methodNamed B.named
  have hlocks := B.notSynchronized
  subst hsz
  have hD := hD0.self (sz := s.heap.size)
  generalize hAe : va_A (x0W cB cI cJ cZ cR cS h0 a0 a1 a2 a3 a4 a5 a6 a7 o7 a8 o8 a9 M0 M1 M2 M3 M4 M5 M6 M7 M8 M9 F10) s.heap.size = A at hD ⊢
  have hA : ∀ q : Nat, s.heap.size ≤ q → A q := fun q h => by rw [← hAe]; exact Or.inr h
  have hS : va_S A s.heap s.heap [] := va_S.rf
  have hK0 : va_K (dC, dI) vwCl (gT cB cI cJ cZ) s := hK.sub (tys' := gT cB cI cJ cZ) [0, 1, 2, 3] rfl
  have hinX10 : ∀ w ∈ wsX100, w ∈ wsX11_lots := by decide +kernel
  have hinX11 : ∀ w ∈ wsX110, w ∈ wsX11_lots := by decide +kernel
  have hinX3 : ∀ w ∈ wsX30, w ∈ wsX11_lots := by decide +kernel
  have f1 := hts (.fieldLink RX11 61 "LastWords" "lot" "LLastWords$Lot;") (by decide +kernel)
  have f2 := hts (.fieldLink RX11 22 "LastWords" "now" "LLastWords$State;") (by decide +kernel)
  have f3 := hts (.fieldLink RX11 288 "LastWords$State" "x" "I") (by decide +kernel)
  have f4 := hts (.fieldLink RX11 291 "LastWords$Lot" "x" "I") (by decide +kernel)
  have b40 : ∀ (y1 : Int32) (y2 : Int32) (y3 : Int32) (y4 : Int32) (y5 : Int32) (y6 : Int32) (o7 o8 : Option Nat) (M0 : gS) (M1 : gS) (M2 : gS) (M3 : gS) (M4 : gS) (M5 : gS) (M6 : gS) (M7 : gS) (M8 : gS) (M9 : gS) (F10 : oF) (H : Heap) (locs : List Loc) (ls : Array Slot), va_P (dC, dI) vwCl (x0W cB cI cJ cZ cR cS h0 a0 a1 a2 a3 a4 a5 a6 a7 o7 a8 o8 a9 M0 M1 M2 M3 M4 M5 M6 M7 M8 M9 F10) H → va_D A (x0W cB cI cJ cZ cR cS h0 a0 a1 a2 a3 a4 a5 a6 a7 o7 a8 o8 a9 M0 M1 M2 M3 M4 M5 M6 M7 M8 M9 F10) → va_S A s.heap H locs → lv_has ls 7 [(0, .ref h0), (1, .int y1), (2, .int y2), (3, .int y3), (4, .int y4), (5, .int y5), (6, .int y6)] → wX11_lotsnn_40  Q y1 y2 y3 y4 y5 y6 M0 M1 M2 M3 M4 M5 M6 M7 M8 M9 F10 → W p l e (headSpec wsX11_lots rmX11_lotsnn).room s m ([.ref h0, .int p1, .int p2, .int p3, .int p4, .int p5] : List Value).toArray below meth c H locs 0 0 (MQ below (va_Qi (fun (r : Int32) (u : gS × gS × gS × gS × gS × gS × gS × gS × gS × gS × oF) => Q r u.1 u.2.1 u.2.2.1 u.2.2.2.1 u.2.2.2.2.1 u.2.2.2.2.2.1 u.2.2.2.2.2.2.1 u.2.2.2.2.2.2.2.1 u.2.2.2.2.2.2.2.2.1 u.2.2.2.2.2.2.2.2.2.1 u.2.2.2.2.2.2.2.2.2.2) (x0B dC dI cB cI cJ cZ cR cS h0 a0 a1 a2 a3 a4 a5 a6 a7 a8 a9 A) A) ([.ref h0, .int p1, .int p2, .int p3, .int p4, .int p5] : List Value).toArray s 0 0 A) (F0 m 40 ls []) := by
    intro  y1 y2 y3 y4 y5 y6 o7 o8  M0 M1 M2 M3 M4 M5 M6 M7 M8 M9 F10 H locs ls hP hD hS hl h
    unfold wX11_lotsnn_40 at h
    refine lv_iload_n hx hb dX11_lots_40 rfl (lv_at hl 3 rfl) ?_
    refine lv_iconst (v := 1) hx hb dX11_lots_41 (by decide) ?_
    refine lv_icmp_lt (tgt := 77) hx hb dX11_lots_42 (by decide) (fun c1 => ?_) (fun c1 => ?_)
    · have h := h.1 c1
      refine lv_iconst (v := (-1)) hx hb dX11_lots_77 (by decide) ?_
      exact W.iret (v := (-1 : Int32)) hx hb hr (fun t ht hW => ⟨⟨_, (M0, M1, M2, M3, M4, M5, M6, M7, M8, M9, F10), rfl, h, o7, o8, by rw [ht]; exact hP, va_K.moved hW.alike hK, hD⟩, hS.F ht⟩) hS.2.2 dX11_lots_78
    · have h := h.2 c1
      refine lv_iload_n hx hb dX11_lots_45 rfl (lv_at hl 3 rfl) ?_
      refine lv_bipush (v := (50)) hx hb dX11_lots_46 (by decide) ?_
      refine lv_icmp_gt (tgt := 77) hx hb dX11_lots_48 (by decide) (fun c2 => ?_) (fun c2 => ?_)
      · have h := h.1 c2
        refine lv_iconst (v := (-1)) hx hb dX11_lots_77 (by decide) ?_
        exact W.iret (v := (-1 : Int32)) hx hb hr (fun t ht hW => ⟨⟨_, (M0, M1, M2, M3, M4, M5, M6, M7, M8, M9, F10), rfl, h, o7, o8, by rw [ht]; exact hP, va_K.moved hW.alike hK, hD⟩, hS.F ht⟩) hS.2.2 dX11_lots_78
      · have h := h.2 c2
        refine lv_iload hx hb dX11_lots_51 (lv_at hl 4 rfl) ?_
        have hPc := hP.sub (ws' := (e0W cB cI cJ cZ  )) [] rfl
        have hDc := hD.sub (ws' := (e0W cB cI cJ cZ  )) [] (by decide) rfl
        have hFc := va_free (wc := (e0W cB cI cJ cZ  )) hD hS hA [] rfl
        refine va_calli (va_runS (As := [.int y4]) (rest := []) ⟨hx, hb, hml, hown, hts⟩ (kX11_isPurse l dC dI cB cI cJ cZ  H.size y4  _ h) (cwS 1 hts gX11_lots_X11_isPurse rfl rfl rfl (by decide +kernel) ⟨Nat.le_of_ble_eq_true rfl, Nat.le_of_ble_eq_true rfl⟩) (e0pS hK0 hPc hDc) rfl rfl hl.1 rfl (lv_room (Nat.le_of_ble_eq_true rfl)) dX11_lots_53 ⟨Nat.le_of_ble_eq_true rfl, Nat.le_of_ble_eq_true rfl⟩) hS (fun q _ z => hFc q z) hFc (fun r3 u t H1 locs ht hvm hw hB hz1 hk1 hS => ?_)
        obtain ⟨hP1, hK1, hD1⟩ := hB
        rw [ht] at hP1
        obtain ⟨hP, hD⟩ := va_join (wr := [(h0, .inr (11, [.ref (a0 0), .int (mg M0 1), .ref (a0 2), .int (mg M0 3), .ref (a0 4), .ref (a0 5), .ref (a0 6), .ref (a0 7), .ref (a0 8), .ref (a0 9), .ref (a0 10), .ref (a0 11)])), (a0 0, .inl (cI, 400, .inl (ma M0 0))), (a0 11, .inl (cJ, 4, .inr (.inl (ml M0 11)))), (a0 4, .inr (10, [.ref (a1 0), .ref (a1 1), .ref (a1 2), .ref (a1 3), .int (mg M1 4)])), (a1 3, .inl (cI, 2, .inl (ma M1 3))), (a1 0, .inr (1, [.int (mg M2 0), .ref (a2 1), .int (mg M2 2), .ref (a2 3), .int (mg M2 4), .ref (a2 5)])), (a2 1, .inl (cI, 4, .inl (ma M2 1))), (a2 3, .inl (cI, 4, .inl (ma M2 3))), (a2 5, .inl (cI, 2, .inl (ma M2 5))), (a1 1, .inr (6, [.int (mg M3 0), .int (mg M3 1), .int (mg M3 2), .int (mg M3 3), .int (mg M3 4), .int (mg M3 5), .int (mg M3 6), .ref (a3 7), .ref (a3 8), .ref (a3 9)])), (a3 7, .inl (cI, 2, .inl (ma M3 7))), (a3 8, .inl (cI, 2, .inl (ma M3 8))), (a3 9, .inl (cI, 2, .inl (ma M3 9))), (a1 2, .inr (4, [.int (mg M4 0), .ref (a4 1), .ref (a4 2), .ref (a4 3)])), (a4 1, .inl (cI, 6, .inl (ma M4 1))), (a4 2, .inl (cI, 6, .inl (ma M4 2))), (a4 3, .inl (cI, 6, .inl (ma M4 3))), (a0 6, .inr (1, [.int (mg M5 0), .ref (a5 1), .int (mg M5 2), .ref (a5 3), .int (mg M5 4), .ref (a5 5)])), (a5 1, .inl (cI, 4, .inl (ma M5 1))), (a5 3, .inl (cI, 4, .inl (ma M5 3))), (a5 5, .inl (cI, 2, .inl (ma M5 5))), (a0 7, .inr (6, [.int (mg M6 0), .int (mg M6 1), .int (mg M6 2), .int (mg M6 3), .int (mg M6 4), .int (mg M6 5), .int (mg M6 6), .ref (a6 7), .ref (a6 8), .ref (a6 9)])), (a6 7, .inl (cI, 2, .inl (ma M6 7))), (a6 8, .inl (cI, 2, .inl (ma M6 8))), (a6 9, .inl (cI, 2, .inl (ma M6 9))), (a0 8, .inr (0, [.ref (a7 0), .ref (a7 1), .ref (a7 2), .ref (a7 3), .int (mg M7 4), va_rf o7, .int (mg M7 6), .int (mg M7 7), .int (mg M7 8), .int (mg M7 9), .int (mg M7 10)])), (a7 0, .inl (cJ, 15, .inr (.inl (ml M7 0)))), (a7 1, .inl (cJ, 800, .inr (.inl (ml M7 1)))), (a7 2, .inl (cI, 4, .inl (ma M7 2))), (a7 3, .inl (cJ, 4, .inr (.inl (ml M7 3)))), (a0 9, .inr (5, [.ref (a8 0), .ref (a8 1), va_rf o8, .int (mg M8 3)])), (a8 0, .inl (cI, 2048, .inl (ma M8 0))), (a8 1, .inl (cI, 2048, .inl (ma M8 1))), (a0 10, .inr (3, [.int (mg M9 0), .int (mg M9 1), .int (mg M9 2), .int (mg M9 3), .int (mg M9 4)])), (a0 2, .inl (cR, 6, .inr (.inr (.inr (.inr F10)))))]) (w1 := (e0W cB cI cJ cZ  )) hP hD [] [0, 1, 2, 3, 4, 5, 6, 7, 8, 9, 10, 11, 12, 13, 14, 15, 16, 17, 18, 19, 20, 21, 22, 23, 24, 25, 26, 27, 28, 29, 30, 31, 32, 33, 34] rfl rfl (by decide) (by decide) hk1 hFc hP1 hD1
        have hP := hP.sub (ws' := (x0W cB cI cJ cZ cR cS h0 a0 a1 a2 a3 a4 a5 a6 a7 o7 a8 o8 a9 M0 M1 M2 M3 M4 M5 M6 M7 M8 M9 F10)) [0, 1, 2, 3, 4, 5, 6, 7, 8, 9, 10, 11, 12, 13, 14, 15, 16, 17, 18, 19, 20, 21, 22, 23, 24, 25, 26, 27, 28, 29, 30, 31, 32, 33, 34] rfl
        have hD := hD.sub (ws' := (x0W cB cI cJ cZ cR cS h0 a0 a1 a2 a3 a4 a5 a6 a7 o7 a8 o8 a9 M0 M1 M2 M3 M4 M5 M6 M7 M8 M9 F10)) [0, 1, 2, 3, 4, 5, 6, 7, 8, 9, 10, 11, 12, 13, 14, 15, 16, 17, 18, 19, 20, 21, 22, 23, 24, 25, 26, 27, 28, 29, 30, 31, 32, 33, 34] (by decide) rfl
        generalize H1 = H at hP hS ⊢
        obtain ⟨b4, rfl, h⟩ := hw
        try dsimp only at h
        refine lv_if_eq (tgt := 77) hx hb dX11_lots_56 (by decide) (fun c5 => ?_) (fun c5 => ?_)
        · have h := h.1 c5
          refine lv_iconst (v := (-1)) hx hb dX11_lots_77 (by decide) ?_
          exact W.iret (v := (-1 : Int32)) hx hb hr (fun t ht hW => ⟨⟨_, (M0, M1, M2, M3, M4, M5, M6, M7, M8, M9, F10), rfl, h, o7, o8, by rw [ht]; exact hP, va_K.moved hW.alike hK, hD⟩, hS.F ht⟩) hS.2.2 dX11_lots_78
        · have h := h.2 c5
          refine lv_iload hx hb dX11_lots_59 (lv_at hl 5 rfl) ?_
          refine lv_if_lt (tgt := 77) hx hb dX11_lots_61 (by decide) (fun c6 => ?_) (fun c6 => ?_)
          · have h := h.1 c6
            refine lv_iconst (v := (-1)) hx hb dX11_lots_77 (by decide) ?_
            exact W.iret (v := (-1 : Int32)) hx hb hr (fun t ht hW => ⟨⟨_, (M0, M1, M2, M3, M4, M5, M6, M7, M8, M9, F10), rfl, h, o7, o8, by rw [ht]; exact hP, va_K.moved hW.alike hK, hD⟩, hS.F ht⟩) hS.2.2 dX11_lots_78
          · have h := h.2 c6
            refine lv_iload hx hb dX11_lots_64 (lv_at hl 5 rfl) ?_
            refine lv_iconst (v := 2) hx hb dX11_lots_66 (by decide) ?_
            refine lv_icmp_gt (tgt := 77) hx hb dX11_lots_67 (by decide) (fun c7 => ?_) (fun c7 => ?_)
            · have h := h.1 c7
              refine lv_iconst (v := (-1)) hx hb dX11_lots_77 (by decide) ?_
              exact W.iret (v := (-1 : Int32)) hx hb hr (fun t ht hW => ⟨⟨_, (M0, M1, M2, M3, M4, M5, M6, M7, M8, M9, F10), rfl, h, o7, o8, by rw [ht]; exact hP, va_K.moved hW.alike hK, hD⟩, hS.F ht⟩) hS.2.2 dX11_lots_78
            · have h := h.2 c7
              refine lv_aload_n hx hb dX11_lots_70 rfl (lv_at hl 0 rfl) ?_
              have hPc := hP.sub (ws' := (lwW cB cI cJ cZ h0 a0 a1 a2 a3 a4 a5 a6 a7 o7 a8 o8 a9 M0 M1 M2 M3 M4 M5 M6 M7 M8 M9)) [0, 1, 2, 3, 4, 5, 6, 7, 8, 9, 10, 11, 12, 13, 14, 15, 16, 17, 18, 19, 20, 21, 22, 23, 24, 25, 26, 27, 28, 29, 30, 31, 32, 33] rfl
              have hDc := hD.sub (ws' := (lwW cB cI cJ cZ h0 a0 a1 a2 a3 a4 a5 a6 a7 o7 a8 o8 a9 M0 M1 M2 M3 M4 M5 M6 M7 M8 M9)) [0, 1, 2, 3, 4, 5, 6, 7, 8, 9, 10, 11, 12, 13, 14, 15, 16, 17, 18, 19, 20, 21, 22, 23, 24, 25, 26, 27, 28, 29, 30, 31, 32, 33] (by decide) rfl
              have hFc := va_free (wc := (lwW cB cI cJ cZ h0 a0 a1 a2 a3 a4 a5 a6 a7 o7 a8 o8 a9 M0 M1 M2 M3 M4 M5 M6 M7 M8 M9)) hD hS hA [0, 1, 2, 3, 4, 5, 6, 7, 8, 9, 10, 11, 12, 13, 14, 15, 16, 17, 18, 19, 20, 21, 22, 23, 24, 25, 26, 27, 28, 29, 30, 31, 32, 33] rfl
              refine va_calli (va_runV (As := []) (rest := []) ⟨hx, hb, hml, hown, hts⟩ (kX11_hasCorner l dC dI cB cI cJ cZ h0 a0 a1 a2 a3 a4 a5 a6 a7 o7 a8 o8 a9 H.size  M0 M1 M2 M3 M4 M5 M6 M7 M8 M9 _ h) (cwV 0 hts gX11_lots_X11_hasCorner rfl rfl rfl (by decide +kernel) ⟨Nat.le_of_ble_eq_true rfl, Nat.le_of_ble_eq_true rfl⟩) (lwpV hK0 hPc hDc) rfl rfl hl.1 rfl (lv_room (Nat.le_of_ble_eq_true rfl)) dX11_lots_71 ⟨Nat.le_of_ble_eq_true rfl, Nat.le_of_ble_eq_true rfl⟩) hS (fun q _ z => hFc q z) hFc (fun r8 u t H1 locs ht hvm hw hB hz1 hk1 hS => ?_)
              obtain ⟨N9, N10, N11, N12, N13, N14, N15, N16, N17, N18⟩ := u
              obtain ⟨v19, v20, hP1, hK1, hD1⟩ := hB
              rw [ht] at hP1
              obtain ⟨hP, hD⟩ := va_join (wr := [(a0 2, .inl (cR, 6, .inr (.inr (.inr (.inr F10)))))]) (w1 := (lwW cB cI cJ cZ h0 a0 a1 a2 a3 a4 a5 a6 a7 v19 a8 v20 a9 N9 N10 N11 N12 N13 N14 N15 N16 N17 N18)) hP hD [0, 1, 2, 3, 4, 5, 6, 7, 8, 9, 10, 11, 12, 13, 14, 15, 16, 17, 18, 19, 20, 21, 22, 23, 24, 25, 26, 27, 28, 29, 30, 31, 32, 33] [34] rfl rfl (by decide) (by decide) hk1 hFc hP1 hD1
              have hP := hP.sub (ws' := (x0W cB cI cJ cZ cR cS h0 a0 a1 a2 a3 a4 a5 a6 a7 v19 a8 v20 a9 N9 N10 N11 N12 N13 N14 N15 N16 N17 N18 F10)) [1, 2, 3, 4, 5, 6, 7, 8, 9, 10, 11, 12, 13, 14, 15, 16, 17, 18, 19, 20, 21, 22, 23, 24, 25, 26, 27, 28, 29, 30, 31, 32, 33, 34, 0] rfl
              have hD := hD.sub (ws' := (x0W cB cI cJ cZ cR cS h0 a0 a1 a2 a3 a4 a5 a6 a7 v19 a8 v20 a9 N9 N10 N11 N12 N13 N14 N15 N16 N17 N18 F10)) [1, 2, 3, 4, 5, 6, 7, 8, 9, 10, 11, 12, 13, 14, 15, 16, 17, 18, 19, 20, 21, 22, 23, 24, 25, 26, 27, 28, 29, 30, 31, 32, 33, 34, 0] (by decide) rfl
              generalize H1 = H at hP hS ⊢
              obtain ⟨b21, rfl, h⟩ := hw
              try dsimp only at h
              refine lv_if_ne (tgt := 79) hx hb dX11_lots_74 (by decide) (fun c22 => ?_) (fun c22 => ?_)
              · have h := h.2 c22
                refine lv_aload_n hx hb dX11_lots_79 rfl (lv_at hl 0 rfl) ?_
                refine va_get (D := (dC, dI)) (ci := 11) (v := .ref (a0 10)) (C := RX11) (T := TX11) (N := 12) hx hb hts hinX11 hown hK hP 0 rfl rfl 10 (by decide) f1 (fun _ h9 => h9) rfl dX11_lots_80 ?_
                refine lv_aload_n hx hb dX11_lots_83 rfl (lv_at hl 0 rfl) ?_
                refine va_get (D := (dC, dI)) (ci := 11) (v := .ref (a0 4)) (C := RX11) (T := TX11) (N := 12) hx hb hts hinX11 hown hK hP 0 rfl rfl 4 (by decide) f2 (fun _ h9 => h9) rfl dX11_lots_84 ?_
                refine va_get (D := (dC, dI)) (ci := 10) (v := .int (mg N10 4)) (C := RX10) (T := TX10) (N := 5) hx hb hts hinX10 hown hK hP 3 rfl rfl 4 (by decide) f3 (fun _ h9 => h9) rfl dX11_lots_87 ?_
                refine lv_topi (fun x23 ex23 => ?_)
                have h := h x23 ex23
                refine va_put (D := (dC, dI)) (ci := 3) (v := .int x23) (ty := .int) (C := RX3) (T := TX3) (N := 5) hx hb hts hinX3 tyX3 tyX3_ok nmX3 hown hK hP hD hS 33 rfl rfl 0 (by decide) f4 (fun _ h9 => h9) rfl (by decide +kernel) rfl rfl (Nat.le_of_ble_eq_true rfl) dX11_lots_90 (fun H locs hP hD hS => ?_)
                have hP := x0P_9_f0 hP
                have hD := x0D_9_f0 hD
                have h := h _ rfl
                generalize sg N18 0 x23 = N24 at hP hD h
                refine lv_iload hx hb dX11_lots_93 (lv_at hl 6 rfl) ?_
                refine lv_if_eq (tgt := 118) hx hb dX11_lots_95 (by decide) (fun c25 => ?_) (fun c25 => ?_)
                · have h := h.1 c25
                  refine lv_aload_n hx hb dX11_lots_118 rfl (lv_at hl 0 rfl) ?_
                  refine lv_aload_n hx hb dX11_lots_119 rfl (lv_at hl 0 rfl) ?_
                  refine lv_iload_n hx hb dX11_lots_120 rfl (lv_at hl 1 rfl) ?_
                  have hPc := hP.sub (ws' := (rlW cB cI cJ cZ cR cS h0 a0 N9 F10)) [0, 1, 2, 34] rfl
                  have hDc := hD.sub (ws' := (rlW cB cI cJ cZ cR cS h0 a0 N9 F10)) [0, 1, 2, 34] (by decide) rfl
                  have hFc := va_free (wc := (rlW cB cI cJ cZ cR cS h0 a0 N9 F10)) hD hS hA [0, 1, 2, 34] rfl
                  refine va_callq (va_runV (As := [.int y1]) (rest := [.ref h0]) ⟨hx, hb, hml, hown, hts⟩ (kX11_ruleAt l dC dI cB cI cJ cZ cR cS h0 a0 H.size y1 N9 F10 _ h) (cwV 1 hts gX11_lots_X11_ruleAt rfl rfl rfl (by decide +kernel) ⟨Nat.le_of_ble_eq_true rfl, Nat.le_of_ble_eq_true rfl⟩) (rlpV hK hPc hDc) rfl rfl hl.1 rfl (lv_room (Nat.le_of_ble_eq_true rfl)) dX11_lots_121 ⟨Nat.le_of_ble_eq_true rfl, Nat.le_of_ble_eq_true rfl⟩) hS (fun q _ z => hFc q z) hFc (fun r26 u t H1 locs ht hvm hw hB hz1 hk1 hS => ?_)
                  obtain ⟨N27, v28⟩ := u
                  obtain ⟨hP1, hK1, hD1⟩ := hB
                  rw [ht] at hP1
                  obtain ⟨hP, hD⟩ := va_join (wr := [(a0 4, .inr (10, [.ref (a1 0), .ref (a1 1), .ref (a1 2), .ref (a1 3), .int (mg N10 4)])), (a1 3, .inl (cI, 2, .inl (ma N10 3))), (a1 0, .inr (1, [.int (mg N11 0), .ref (a2 1), .int (mg N11 2), .ref (a2 3), .int (mg N11 4), .ref (a2 5)])), (a2 1, .inl (cI, 4, .inl (ma N11 1))), (a2 3, .inl (cI, 4, .inl (ma N11 3))), (a2 5, .inl (cI, 2, .inl (ma N11 5))), (a1 1, .inr (6, [.int (mg N12 0), .int (mg N12 1), .int (mg N12 2), .int (mg N12 3), .int (mg N12 4), .int (mg N12 5), .int (mg N12 6), .ref (a3 7), .ref (a3 8), .ref (a3 9)])), (a3 7, .inl (cI, 2, .inl (ma N12 7))), (a3 8, .inl (cI, 2, .inl (ma N12 8))), (a3 9, .inl (cI, 2, .inl (ma N12 9))), (a1 2, .inr (4, [.int (mg N13 0), .ref (a4 1), .ref (a4 2), .ref (a4 3)])), (a4 1, .inl (cI, 6, .inl (ma N13 1))), (a4 2, .inl (cI, 6, .inl (ma N13 2))), (a4 3, .inl (cI, 6, .inl (ma N13 3))), (a0 6, .inr (1, [.int (mg N14 0), .ref (a5 1), .int (mg N14 2), .ref (a5 3), .int (mg N14 4), .ref (a5 5)])), (a5 1, .inl (cI, 4, .inl (ma N14 1))), (a5 3, .inl (cI, 4, .inl (ma N14 3))), (a5 5, .inl (cI, 2, .inl (ma N14 5))), (a0 7, .inr (6, [.int (mg N15 0), .int (mg N15 1), .int (mg N15 2), .int (mg N15 3), .int (mg N15 4), .int (mg N15 5), .int (mg N15 6), .ref (a6 7), .ref (a6 8), .ref (a6 9)])), (a6 7, .inl (cI, 2, .inl (ma N15 7))), (a6 8, .inl (cI, 2, .inl (ma N15 8))), (a6 9, .inl (cI, 2, .inl (ma N15 9))), (a0 8, .inr (0, [.ref (a7 0), .ref (a7 1), .ref (a7 2), .ref (a7 3), .int (mg N16 4), va_rf v19, .int (mg N16 6), .int (mg N16 7), .int (mg N16 8), .int (mg N16 9), .int (mg N16 10)])), (a7 0, .inl (cJ, 15, .inr (.inl (ml N16 0)))), (a7 1, .inl (cJ, 800, .inr (.inl (ml N16 1)))), (a7 2, .inl (cI, 4, .inl (ma N16 2))), (a7 3, .inl (cJ, 4, .inr (.inl (ml N16 3)))), (a0 9, .inr (5, [.ref (a8 0), .ref (a8 1), va_rf v20, .int (mg N17 3)])), (a8 0, .inl (cI, 2048, .inl (ma N17 0))), (a8 1, .inl (cI, 2048, .inl (ma N17 1))), (a0 10, .inr (3, [.int (mg N24 0), .int (mg N24 1), .int (mg N24 2), .int (mg N24 3), .int (mg N24 4)]))]) (w1 := (rlW cB cI cJ cZ cR cS h0 a0 N27 v28)) hP hD [0, 1, 2, 34] [3, 4, 5, 6, 7, 8, 9, 10, 11, 12, 13, 14, 15, 16, 17, 18, 19, 20, 21, 22, 23, 24, 25, 26, 27, 28, 29, 30, 31, 32, 33] rfl rfl (by decide) (by decide) hk1 hFc hP1 hD1
                  have hP := hP.sub (ws' := (x0W cB cI cJ cZ cR cS h0 a0 a1 a2 a3 a4 a5 a6 a7 v19 a8 v20 a9 N27 N10 N11 N12 N13 N14 N15 N16 N17 N24 v28)) [31, 32, 33, 0, 1, 2, 3, 4, 5, 6, 7, 8, 9, 10, 11, 12, 13, 14, 15, 16, 17, 18, 19, 20, 21, 22, 23, 24, 25, 26, 27, 28, 29, 30, 34] rfl
                  have hD := hD.sub (ws' := (x0W cB cI cJ cZ cR cS h0 a0 a1 a2 a3 a4 a5 a6 a7 v19 a8 v20 a9 N27 N10 N11 N12 N13 N14 N15 N16 N17 N24 v28)) [31, 32, 33, 0, 1, 2, 3, 4, 5, 6, 7, 8, 9, 10, 11, 12, 13, 14, 15, 16, 17, 18, 19, 20, 21, 22, 23, 24, 25, 26, 27, 28, 29, 30, 34] (by decide) rfl
                  generalize H1 = H at hP hS ⊢
                  have h := hw
                  try dsimp only at h
                  refine lv_aload_n hx hb dX11_lots_124 rfl (lv_at hl 0 rfl) ?_
                  refine lv_iload_n hx hb dX11_lots_125 rfl (lv_at hl 2 rfl) ?_
                  have hPc := hP.sub (ws' := (rlW cB cI cJ cZ cR cS h0 a0 N27 v28)) [0, 1, 2, 34] rfl
                  have hDc := hD.sub (ws' := (rlW cB cI cJ cZ cR cS h0 a0 N27 v28)) [0, 1, 2, 34] (by decide) rfl
                  have hFc := va_free (wc := (rlW cB cI cJ cZ cR cS h0 a0 N27 v28)) hD hS hA [0, 1, 2, 34] rfl
                  refine va_callq (va_runV (As := [.int y2]) (rest := [va_rf r26, .ref h0]) ⟨hx, hb, hml, hown, hts⟩ (kX11_ruleAt l dC dI cB cI cJ cZ cR cS h0 a0 H.size y2 N27 v28 _ h) (cwV 1 hts gX11_lots_X11_ruleAt rfl rfl rfl (by decide +kernel) ⟨Nat.le_of_ble_eq_true rfl, Nat.le_of_ble_eq_true rfl⟩) (rlpV hK hPc hDc) rfl rfl hl.1 rfl (lv_room (by cases r26 <;> exact Nat.le_of_ble_eq_true rfl)) dX11_lots_126 ⟨Nat.le_of_ble_eq_true rfl, Nat.le_of_ble_eq_true rfl⟩) hS (fun q _ z => hFc q z) hFc (fun r29 u t H1 locs ht hvm hw hB hz1 hk1 hS => ?_)
                  obtain ⟨N30, v31⟩ := u
                  obtain ⟨hP1, hK1, hD1⟩ := hB
                  rw [ht] at hP1
                  obtain ⟨hP, hD⟩ := va_join (wr := [(a0 4, .inr (10, [.ref (a1 0), .ref (a1 1), .ref (a1 2), .ref (a1 3), .int (mg N10 4)])), (a1 3, .inl (cI, 2, .inl (ma N10 3))), (a1 0, .inr (1, [.int (mg N11 0), .ref (a2 1), .int (mg N11 2), .ref (a2 3), .int (mg N11 4), .ref (a2 5)])), (a2 1, .inl (cI, 4, .inl (ma N11 1))), (a2 3, .inl (cI, 4, .inl (ma N11 3))), (a2 5, .inl (cI, 2, .inl (ma N11 5))), (a1 1, .inr (6, [.int (mg N12 0), .int (mg N12 1), .int (mg N12 2), .int (mg N12 3), .int (mg N12 4), .int (mg N12 5), .int (mg N12 6), .ref (a3 7), .ref (a3 8), .ref (a3 9)])), (a3 7, .inl (cI, 2, .inl (ma N12 7))), (a3 8, .inl (cI, 2, .inl (ma N12 8))), (a3 9, .inl (cI, 2, .inl (ma N12 9))), (a1 2, .inr (4, [.int (mg N13 0), .ref (a4 1), .ref (a4 2), .ref (a4 3)])), (a4 1, .inl (cI, 6, .inl (ma N13 1))), (a4 2, .inl (cI, 6, .inl (ma N13 2))), (a4 3, .inl (cI, 6, .inl (ma N13 3))), (a0 6, .inr (1, [.int (mg N14 0), .ref (a5 1), .int (mg N14 2), .ref (a5 3), .int (mg N14 4), .ref (a5 5)])), (a5 1, .inl (cI, 4, .inl (ma N14 1))), (a5 3, .inl (cI, 4, .inl (ma N14 3))), (a5 5, .inl (cI, 2, .inl (ma N14 5))), (a0 7, .inr (6, [.int (mg N15 0), .int (mg N15 1), .int (mg N15 2), .int (mg N15 3), .int (mg N15 4), .int (mg N15 5), .int (mg N15 6), .ref (a6 7), .ref (a6 8), .ref (a6 9)])), (a6 7, .inl (cI, 2, .inl (ma N15 7))), (a6 8, .inl (cI, 2, .inl (ma N15 8))), (a6 9, .inl (cI, 2, .inl (ma N15 9))), (a0 8, .inr (0, [.ref (a7 0), .ref (a7 1), .ref (a7 2), .ref (a7 3), .int (mg N16 4), va_rf v19, .int (mg N16 6), .int (mg N16 7), .int (mg N16 8), .int (mg N16 9), .int (mg N16 10)])), (a7 0, .inl (cJ, 15, .inr (.inl (ml N16 0)))), (a7 1, .inl (cJ, 800, .inr (.inl (ml N16 1)))), (a7 2, .inl (cI, 4, .inl (ma N16 2))), (a7 3, .inl (cJ, 4, .inr (.inl (ml N16 3)))), (a0 9, .inr (5, [.ref (a8 0), .ref (a8 1), va_rf v20, .int (mg N17 3)])), (a8 0, .inl (cI, 2048, .inl (ma N17 0))), (a8 1, .inl (cI, 2048, .inl (ma N17 1))), (a0 10, .inr (3, [.int (mg N24 0), .int (mg N24 1), .int (mg N24 2), .int (mg N24 3), .int (mg N24 4)]))]) (w1 := (rlW cB cI cJ cZ cR cS h0 a0 N30 v31)) hP hD [0, 1, 2, 34] [3, 4, 5, 6, 7, 8, 9, 10, 11, 12, 13, 14, 15, 16, 17, 18, 19, 20, 21, 22, 23, 24, 25, 26, 27, 28, 29, 30, 31, 32, 33] rfl rfl (by decide) (by decide) hk1 hFc hP1 hD1
                  have hP := hP.sub (ws' := (x0W cB cI cJ cZ cR cS h0 a0 a1 a2 a3 a4 a5 a6 a7 v19 a8 v20 a9 N30 N10 N11 N12 N13 N14 N15 N16 N17 N24 v31)) [31, 32, 33, 0, 1, 2, 3, 4, 5, 6, 7, 8, 9, 10, 11, 12, 13, 14, 15, 16, 17, 18, 19, 20, 21, 22, 23, 24, 25, 26, 27, 28, 29, 30, 34] rfl
                  have hD := hD.sub (ws' := (x0W cB cI cJ cZ cR cS h0 a0 a1 a2 a3 a4 a5 a6 a7 v19 a8 v20 a9 N30 N10 N11 N12 N13 N14 N15 N16 N17 N24 v31)) [31, 32, 33, 0, 1, 2, 3, 4, 5, 6, 7, 8, 9, 10, 11, 12, 13, 14, 15, 16, 17, 18, 19, 20, 21, 22, 23, 24, 25, 26, 27, 28, 29, 30, 34] (by decide) rfl
                  generalize H1 = H at hP hS ⊢
                  have h := hw
                  try dsimp only at h
                  refine lv_iload_n hx hb dX11_lots_129 rfl (lv_at hl 3 rfl) ?_
                  refine lv_iload hx hb dX11_lots_130 (lv_at hl 4 rfl) ?_
                  refine lv_iload hx hb dX11_lots_132 (lv_at hl 5 rfl) ?_
                  exact absurd h.choose_spec (Nat.lt_irrefl _)
                · have h := h.2 c25
                  refine lv_iload hx hb dX11_lots_98 (lv_at hl 5 rfl) ?_
                  refine lv_iconst (v := 2) hx hb dX11_lots_100 (by decide) ?_
                  refine lv_icmp_ne (tgt := 108) hx hb dX11_lots_101 (by decide) (fun c32 => ?_) (fun c32 => ?_)
                  · have h := h.2 c32
                    refine lv_aload_n hx hb dX11_lots_108 rfl (lv_at hl 0 rfl) ?_
                    refine lv_iload_n hx hb dX11_lots_109 rfl (lv_at hl 3 rfl) ?_
                    refine lv_iload hx hb dX11_lots_110 (lv_at hl 4 rfl) ?_
                    refine lv_iload hx hb dX11_lots_112 (lv_at hl 5 rfl) ?_
                    have hPc := hP.sub (ws' := (lwW cB cI cJ cZ h0 a0 a1 a2 a3 a4 a5 a6 a7 v19 a8 v20 a9 N9 N10 N11 N12 N13 N14 N15 N16 N17 N24)) [0, 1, 2, 3, 4, 5, 6, 7, 8, 9, 10, 11, 12, 13, 14, 15, 16, 17, 18, 19, 20, 21, 22, 23, 24, 25, 26, 27, 28, 29, 30, 31, 32, 33] rfl
                    have hDc := hD.sub (ws' := (lwW cB cI cJ cZ h0 a0 a1 a2 a3 a4 a5 a6 a7 v19 a8 v20 a9 N9 N10 N11 N12 N13 N14 N15 N16 N17 N24)) [0, 1, 2, 3, 4, 5, 6, 7, 8, 9, 10, 11, 12, 13, 14, 15, 16, 17, 18, 19, 20, 21, 22, 23, 24, 25, 26, 27, 28, 29, 30, 31, 32, 33] (by decide) rfl
                    have hFc := va_free (wc := (lwW cB cI cJ cZ h0 a0 a1 a2 a3 a4 a5 a6 a7 v19 a8 v20 a9 N9 N10 N11 N12 N13 N14 N15 N16 N17 N24)) hD hS hA [0, 1, 2, 3, 4, 5, 6, 7, 8, 9, 10, 11, 12, 13, 14, 15, 16, 17, 18, 19, 20, 21, 22, 23, 24, 25, 26, 27, 28, 29, 30, 31, 32, 33] rfl
                    refine va_calli (va_runV (As := [.int y3, .int y4, .int y5]) (rest := []) ⟨hx, hb, hml, hown, hts⟩ (kX11_lotsByBestPlay l dC dI cB cI cJ cZ h0 a0 a1 a2 a3 a4 a5 a6 a7 v19 a8 v20 a9 H.size y3 y4 y5 N9 N10 N11 N12 N13 N14 N15 N16 N17 N24 _ h) (cwV 3 hts gX11_lots_X11_lotsByBestPlay rfl rfl rfl (by decide +kernel) ⟨Nat.le_of_ble_eq_true rfl, Nat.le_of_ble_eq_true rfl⟩) (lwpV hK0 hPc hDc) rfl rfl hl.1 rfl (lv_room (Nat.le_of_ble_eq_true rfl)) dX11_lots_114 ⟨Nat.le_of_ble_eq_true rfl, Nat.le_of_ble_eq_true rfl⟩) hS (fun q _ z => hFc q z) hFc (fun r33 u t H1 locs ht hvm hw hB hz1 hk1 hS => ?_)
                    obtain ⟨N34, N35, N36, N37, N38, N39, N40, N41, N42, N43⟩ := u
                    obtain ⟨v44, v45, hP1, hK1, hD1⟩ := hB
                    rw [ht] at hP1
                    obtain ⟨hP, hD⟩ := va_join (wr := [(a0 2, .inl (cR, 6, .inr (.inr (.inr (.inr F10)))))]) (w1 := (lwW cB cI cJ cZ h0 a0 a1 a2 a3 a4 a5 a6 a7 v44 a8 v45 a9 N34 N35 N36 N37 N38 N39 N40 N41 N42 N43)) hP hD [0, 1, 2, 3, 4, 5, 6, 7, 8, 9, 10, 11, 12, 13, 14, 15, 16, 17, 18, 19, 20, 21, 22, 23, 24, 25, 26, 27, 28, 29, 30, 31, 32, 33] [34] rfl rfl (by decide) (by decide) hk1 hFc hP1 hD1
                    have hP := hP.sub (ws' := (x0W cB cI cJ cZ cR cS h0 a0 a1 a2 a3 a4 a5 a6 a7 v44 a8 v45 a9 N34 N35 N36 N37 N38 N39 N40 N41 N42 N43 F10)) [1, 2, 3, 4, 5, 6, 7, 8, 9, 10, 11, 12, 13, 14, 15, 16, 17, 18, 19, 20, 21, 22, 23, 24, 25, 26, 27, 28, 29, 30, 31, 32, 33, 34, 0] rfl
                    have hD := hD.sub (ws' := (x0W cB cI cJ cZ cR cS h0 a0 a1 a2 a3 a4 a5 a6 a7 v44 a8 v45 a9 N34 N35 N36 N37 N38 N39 N40 N41 N42 N43 F10)) [1, 2, 3, 4, 5, 6, 7, 8, 9, 10, 11, 12, 13, 14, 15, 16, 17, 18, 19, 20, 21, 22, 23, 24, 25, 26, 27, 28, 29, 30, 31, 32, 33, 34, 0] (by decide) rfl
                    generalize H1 = H at hP hS ⊢
                    have h := hw
                    try dsimp only at h
                    exact W.iret (v := r33) hx hb hr (fun t ht hW => ⟨⟨_, (N34, N35, N36, N37, N38, N39, N40, N41, N42, N43, F10), rfl, h, v44, v45, by rw [ht]; exact hP, va_K.moved hW.alike hK, hD⟩, hS.F ht⟩) hS.2.2 dX11_lots_117
                  · have h := h.1 c32
                    refine lv_iconst (v := 0) hx hb dX11_lots_104 (by decide) ?_
                    refine lv_goto (tgt := 117) hx hb dX11_lots_105 (by decide) ?_
                    exact W.iret (v := (0 : Int32)) hx hb hr (fun t ht hW => ⟨⟨_, (N9, N10, N11, N12, N13, N14, N15, N16, N17, N24, F10), rfl, h, v19, v20, by rw [ht]; exact hP, va_K.moved hW.alike hK, hD⟩, hS.F ht⟩) hS.2.2 dX11_lots_117
              · have h := h.1 c22
                refine lv_iconst (v := (-1)) hx hb dX11_lots_77 (by decide) ?_
                exact W.iret (v := (-1 : Int32)) hx hb hr (fun t ht hW => ⟨⟨_, (N9, N10, N11, N12, N13, N14, N15, N16, N17, N18, F10), rfl, h, v19, v20, by rw [ht]; exact hP, va_K.moved hW.alike hK, hD⟩, hS.F ht⟩) hS.2.2 dX11_lots_78
  have b15 : ∀ (y1 : Int32) (y2 : Int32) (y3 : Int32) (y4 : Int32) (y5 : Int32) (z0 : Int32) (o7 o8 : Option Nat) (M0 : gS) (M1 : gS) (M2 : gS) (M3 : gS) (M4 : gS) (M5 : gS) (M6 : gS) (M7 : gS) (M8 : gS) (M9 : gS) (F10 : oF) (H : Heap) (locs : List Loc) (ls : Array Slot), va_P (dC, dI) vwCl (x0W cB cI cJ cZ cR cS h0 a0 a1 a2 a3 a4 a5 a6 a7 o7 a8 o8 a9 M0 M1 M2 M3 M4 M5 M6 M7 M8 M9 F10) H → va_D A (x0W cB cI cJ cZ cR cS h0 a0 a1 a2 a3 a4 a5 a6 a7 o7 a8 o8 a9 M0 M1 M2 M3 M4 M5 M6 M7 M8 M9 F10) → va_S A s.heap H locs → lv_has ls 7 [(0, .ref h0), (1, .int y1), (2, .int y2), (3, .int y3), (4, .int y4), (5, .int y5)] → wX11_lotsnn_15  Q y1 y2 y3 y4 y5 z0 M0 M1 M2 M3 M4 M5 M6 M7 M8 M9 F10 → W p l e (headSpec wsX11_lots rmX11_lotsnn).room s m ([.ref h0, .int p1, .int p2, .int p3, .int p4, .int p5] : List Value).toArray below meth c H locs 0 0 (MQ below (va_Qi (fun (r : Int32) (u : gS × gS × gS × gS × gS × gS × gS × gS × gS × gS × oF) => Q r u.1 u.2.1 u.2.2.1 u.2.2.2.1 u.2.2.2.2.1 u.2.2.2.2.2.1 u.2.2.2.2.2.2.1 u.2.2.2.2.2.2.2.1 u.2.2.2.2.2.2.2.2.1 u.2.2.2.2.2.2.2.2.2.1 u.2.2.2.2.2.2.2.2.2.2) (x0B dC dI cB cI cJ cZ cR cS h0 a0 a1 a2 a3 a4 a5 a6 a7 a8 a9 A) A) ([.ref h0, .int p1, .int p2, .int p3, .int p4, .int p5] : List Value).toArray s 0 0 A) (F0 m 15 ls [.int z0]) := by
    intro  y1 y2 y3 y4 y5 z0 o7 o8  M0 M1 M2 M3 M4 M5 M6 M7 M8 M9 F10 H locs ls hP hD hS hl h
    unfold wX11_lotsnn_15 at h
    refine lv_istore (lv' := [(6, .int z0), (0, .ref h0), (1, .int y1), (2, .int y2), (3, .int y3), (4, .int y4), (5, .int y5)]) hx hb dX11_lots_15 hl (by decide) rfl (fun ls hl => ?_)
    refine lv_iload hx hb dX11_lots_17 (lv_at hl 0 rfl) ?_
    refine lv_if_ne (tgt := 40) hx hb dX11_lots_19 (by decide) (fun c1 => ?_) (fun c1 => ?_)
    · have h := h.2 c1
      exact b40  y1 y2 y3 y4 y5 z0 o7 o8 M0 M1 M2 M3 M4 M5 M6 M7 M8 M9 F10 H locs ls hP hD hS (lv_sub hl [1, 2, 3, 4, 5, 6, 0] rfl) h
    · have h := h.1 c1
      refine lv_aload_n hx hb dX11_lots_22 rfl (lv_at hl 1 rfl) ?_
      refine lv_iload_n hx hb dX11_lots_23 rfl (lv_at hl 2 rfl) ?_
      have hPc := hP.sub (ws' := (rlW cB cI cJ cZ cR cS h0 a0 M0 F10)) [0, 1, 2, 34] rfl
      have hDc := hD.sub (ws' := (rlW cB cI cJ cZ cR cS h0 a0 M0 F10)) [0, 1, 2, 34] (by decide) rfl
      have hFc := va_free (wc := (rlW cB cI cJ cZ cR cS h0 a0 M0 F10)) hD hS hA [0, 1, 2, 34] rfl
      refine va_callq (va_runV (As := [.int y1]) (rest := []) ⟨hx, hb, hml, hown, hts⟩ (kX11_ruleAt l dC dI cB cI cJ cZ cR cS h0 a0 H.size y1 M0 F10 _ h) (cwV 1 hts gX11_lots_X11_ruleAt rfl rfl rfl (by decide +kernel) ⟨Nat.le_of_ble_eq_true rfl, Nat.le_of_ble_eq_true rfl⟩) (rlpV hK hPc hDc) rfl rfl hl.1 rfl (lv_room (Nat.le_of_ble_eq_true rfl)) dX11_lots_24 ⟨Nat.le_of_ble_eq_true rfl, Nat.le_of_ble_eq_true rfl⟩) hS (fun q _ z => hFc q z) hFc (fun r2 u t H1 locs ht hvm hw hB hz1 hk1 hS => ?_)
      obtain ⟨N3, v4⟩ := u
      obtain ⟨hP1, hK1, hD1⟩ := hB
      rw [ht] at hP1
      obtain ⟨hP, hD⟩ := va_join (wr := [(a0 4, .inr (10, [.ref (a1 0), .ref (a1 1), .ref (a1 2), .ref (a1 3), .int (mg M1 4)])), (a1 3, .inl (cI, 2, .inl (ma M1 3))), (a1 0, .inr (1, [.int (mg M2 0), .ref (a2 1), .int (mg M2 2), .ref (a2 3), .int (mg M2 4), .ref (a2 5)])), (a2 1, .inl (cI, 4, .inl (ma M2 1))), (a2 3, .inl (cI, 4, .inl (ma M2 3))), (a2 5, .inl (cI, 2, .inl (ma M2 5))), (a1 1, .inr (6, [.int (mg M3 0), .int (mg M3 1), .int (mg M3 2), .int (mg M3 3), .int (mg M3 4), .int (mg M3 5), .int (mg M3 6), .ref (a3 7), .ref (a3 8), .ref (a3 9)])), (a3 7, .inl (cI, 2, .inl (ma M3 7))), (a3 8, .inl (cI, 2, .inl (ma M3 8))), (a3 9, .inl (cI, 2, .inl (ma M3 9))), (a1 2, .inr (4, [.int (mg M4 0), .ref (a4 1), .ref (a4 2), .ref (a4 3)])), (a4 1, .inl (cI, 6, .inl (ma M4 1))), (a4 2, .inl (cI, 6, .inl (ma M4 2))), (a4 3, .inl (cI, 6, .inl (ma M4 3))), (a0 6, .inr (1, [.int (mg M5 0), .ref (a5 1), .int (mg M5 2), .ref (a5 3), .int (mg M5 4), .ref (a5 5)])), (a5 1, .inl (cI, 4, .inl (ma M5 1))), (a5 3, .inl (cI, 4, .inl (ma M5 3))), (a5 5, .inl (cI, 2, .inl (ma M5 5))), (a0 7, .inr (6, [.int (mg M6 0), .int (mg M6 1), .int (mg M6 2), .int (mg M6 3), .int (mg M6 4), .int (mg M6 5), .int (mg M6 6), .ref (a6 7), .ref (a6 8), .ref (a6 9)])), (a6 7, .inl (cI, 2, .inl (ma M6 7))), (a6 8, .inl (cI, 2, .inl (ma M6 8))), (a6 9, .inl (cI, 2, .inl (ma M6 9))), (a0 8, .inr (0, [.ref (a7 0), .ref (a7 1), .ref (a7 2), .ref (a7 3), .int (mg M7 4), va_rf o7, .int (mg M7 6), .int (mg M7 7), .int (mg M7 8), .int (mg M7 9), .int (mg M7 10)])), (a7 0, .inl (cJ, 15, .inr (.inl (ml M7 0)))), (a7 1, .inl (cJ, 800, .inr (.inl (ml M7 1)))), (a7 2, .inl (cI, 4, .inl (ma M7 2))), (a7 3, .inl (cJ, 4, .inr (.inl (ml M7 3)))), (a0 9, .inr (5, [.ref (a8 0), .ref (a8 1), va_rf o8, .int (mg M8 3)])), (a8 0, .inl (cI, 2048, .inl (ma M8 0))), (a8 1, .inl (cI, 2048, .inl (ma M8 1))), (a0 10, .inr (3, [.int (mg M9 0), .int (mg M9 1), .int (mg M9 2), .int (mg M9 3), .int (mg M9 4)]))]) (w1 := (rlW cB cI cJ cZ cR cS h0 a0 N3 v4)) hP hD [0, 1, 2, 34] [3, 4, 5, 6, 7, 8, 9, 10, 11, 12, 13, 14, 15, 16, 17, 18, 19, 20, 21, 22, 23, 24, 25, 26, 27, 28, 29, 30, 31, 32, 33] rfl rfl (by decide) (by decide) hk1 hFc hP1 hD1
      have hP := hP.sub (ws' := (x0W cB cI cJ cZ cR cS h0 a0 a1 a2 a3 a4 a5 a6 a7 o7 a8 o8 a9 N3 M1 M2 M3 M4 M5 M6 M7 M8 M9 v4)) [31, 32, 33, 0, 1, 2, 3, 4, 5, 6, 7, 8, 9, 10, 11, 12, 13, 14, 15, 16, 17, 18, 19, 20, 21, 22, 23, 24, 25, 26, 27, 28, 29, 30, 34] rfl
      have hD := hD.sub (ws' := (x0W cB cI cJ cZ cR cS h0 a0 a1 a2 a3 a4 a5 a6 a7 o7 a8 o8 a9 N3 M1 M2 M3 M4 M5 M6 M7 M8 M9 v4)) [31, 32, 33, 0, 1, 2, 3, 4, 5, 6, 7, 8, 9, 10, 11, 12, 13, 14, 15, 16, 17, 18, 19, 20, 21, 22, 23, 24, 25, 26, 27, 28, 29, 30, 34] (by decide) rfl
      generalize H1 = H at hP hS ⊢
      have h := hw
      try dsimp only at h
      rcases c5 : r2 with _ | ia6
      · have h := h.1 c5
        refine lv_ifnullN (tgt := 38) hx hb dX11_lots_27 (by decide) ?_
        refine lv_iconst (v := (-1)) hx hb dX11_lots_38 (by decide) ?_
        exact W.iret (v := (-1 : Int32)) hx hb hr (fun t ht hW => ⟨⟨_, (N3, M1, M2, M3, M4, M5, M6, M7, M8, M9, v4), rfl, h, o7, o8, by rw [ht]; exact hP, va_K.moved hW.alike hK, hD⟩, hS.F ht⟩) hS.2.2 dX11_lots_39
      · have h := h.2 ia6 c5
        refine lv_ifnull hx hb dX11_lots_27 ?_
        refine lv_aload_n hx hb dX11_lots_30 rfl (lv_at hl 1 rfl) ?_
        refine lv_iload_n hx hb dX11_lots_31 rfl (lv_at hl 3 rfl) ?_
        have hPc := hP.sub (ws' := (rlW cB cI cJ cZ cR cS h0 a0 N3 v4)) [0, 1, 2, 34] rfl
        have hDc := hD.sub (ws' := (rlW cB cI cJ cZ cR cS h0 a0 N3 v4)) [0, 1, 2, 34] (by decide) rfl
        have hFc := va_free (wc := (rlW cB cI cJ cZ cR cS h0 a0 N3 v4)) hD hS hA [0, 1, 2, 34] rfl
        refine va_callq (va_runV (As := [.int y2]) (rest := []) ⟨hx, hb, hml, hown, hts⟩ (kX11_ruleAt l dC dI cB cI cJ cZ cR cS h0 a0 H.size y2 N3 v4 _ h) (cwV 1 hts gX11_lots_X11_ruleAt rfl rfl rfl (by decide +kernel) ⟨Nat.le_of_ble_eq_true rfl, Nat.le_of_ble_eq_true rfl⟩) (rlpV hK hPc hDc) rfl rfl hl.1 rfl (lv_room (Nat.le_of_ble_eq_true rfl)) dX11_lots_32 ⟨Nat.le_of_ble_eq_true rfl, Nat.le_of_ble_eq_true rfl⟩) hS (fun q _ z => hFc q z) hFc (fun r7 u t H1 locs ht hvm hw hB hz1 hk1 hS => ?_)
        obtain ⟨N8, v9⟩ := u
        obtain ⟨hP1, hK1, hD1⟩ := hB
        rw [ht] at hP1
        obtain ⟨hP, hD⟩ := va_join (wr := [(a0 4, .inr (10, [.ref (a1 0), .ref (a1 1), .ref (a1 2), .ref (a1 3), .int (mg M1 4)])), (a1 3, .inl (cI, 2, .inl (ma M1 3))), (a1 0, .inr (1, [.int (mg M2 0), .ref (a2 1), .int (mg M2 2), .ref (a2 3), .int (mg M2 4), .ref (a2 5)])), (a2 1, .inl (cI, 4, .inl (ma M2 1))), (a2 3, .inl (cI, 4, .inl (ma M2 3))), (a2 5, .inl (cI, 2, .inl (ma M2 5))), (a1 1, .inr (6, [.int (mg M3 0), .int (mg M3 1), .int (mg M3 2), .int (mg M3 3), .int (mg M3 4), .int (mg M3 5), .int (mg M3 6), .ref (a3 7), .ref (a3 8), .ref (a3 9)])), (a3 7, .inl (cI, 2, .inl (ma M3 7))), (a3 8, .inl (cI, 2, .inl (ma M3 8))), (a3 9, .inl (cI, 2, .inl (ma M3 9))), (a1 2, .inr (4, [.int (mg M4 0), .ref (a4 1), .ref (a4 2), .ref (a4 3)])), (a4 1, .inl (cI, 6, .inl (ma M4 1))), (a4 2, .inl (cI, 6, .inl (ma M4 2))), (a4 3, .inl (cI, 6, .inl (ma M4 3))), (a0 6, .inr (1, [.int (mg M5 0), .ref (a5 1), .int (mg M5 2), .ref (a5 3), .int (mg M5 4), .ref (a5 5)])), (a5 1, .inl (cI, 4, .inl (ma M5 1))), (a5 3, .inl (cI, 4, .inl (ma M5 3))), (a5 5, .inl (cI, 2, .inl (ma M5 5))), (a0 7, .inr (6, [.int (mg M6 0), .int (mg M6 1), .int (mg M6 2), .int (mg M6 3), .int (mg M6 4), .int (mg M6 5), .int (mg M6 6), .ref (a6 7), .ref (a6 8), .ref (a6 9)])), (a6 7, .inl (cI, 2, .inl (ma M6 7))), (a6 8, .inl (cI, 2, .inl (ma M6 8))), (a6 9, .inl (cI, 2, .inl (ma M6 9))), (a0 8, .inr (0, [.ref (a7 0), .ref (a7 1), .ref (a7 2), .ref (a7 3), .int (mg M7 4), va_rf o7, .int (mg M7 6), .int (mg M7 7), .int (mg M7 8), .int (mg M7 9), .int (mg M7 10)])), (a7 0, .inl (cJ, 15, .inr (.inl (ml M7 0)))), (a7 1, .inl (cJ, 800, .inr (.inl (ml M7 1)))), (a7 2, .inl (cI, 4, .inl (ma M7 2))), (a7 3, .inl (cJ, 4, .inr (.inl (ml M7 3)))), (a0 9, .inr (5, [.ref (a8 0), .ref (a8 1), va_rf o8, .int (mg M8 3)])), (a8 0, .inl (cI, 2048, .inl (ma M8 0))), (a8 1, .inl (cI, 2048, .inl (ma M8 1))), (a0 10, .inr (3, [.int (mg M9 0), .int (mg M9 1), .int (mg M9 2), .int (mg M9 3), .int (mg M9 4)]))]) (w1 := (rlW cB cI cJ cZ cR cS h0 a0 N8 v9)) hP hD [0, 1, 2, 34] [3, 4, 5, 6, 7, 8, 9, 10, 11, 12, 13, 14, 15, 16, 17, 18, 19, 20, 21, 22, 23, 24, 25, 26, 27, 28, 29, 30, 31, 32, 33] rfl rfl (by decide) (by decide) hk1 hFc hP1 hD1
        have hP := hP.sub (ws' := (x0W cB cI cJ cZ cR cS h0 a0 a1 a2 a3 a4 a5 a6 a7 o7 a8 o8 a9 N8 M1 M2 M3 M4 M5 M6 M7 M8 M9 v9)) [31, 32, 33, 0, 1, 2, 3, 4, 5, 6, 7, 8, 9, 10, 11, 12, 13, 14, 15, 16, 17, 18, 19, 20, 21, 22, 23, 24, 25, 26, 27, 28, 29, 30, 34] rfl
        have hD := hD.sub (ws' := (x0W cB cI cJ cZ cR cS h0 a0 a1 a2 a3 a4 a5 a6 a7 o7 a8 o8 a9 N8 M1 M2 M3 M4 M5 M6 M7 M8 M9 v9)) [31, 32, 33, 0, 1, 2, 3, 4, 5, 6, 7, 8, 9, 10, 11, 12, 13, 14, 15, 16, 17, 18, 19, 20, 21, 22, 23, 24, 25, 26, 27, 28, 29, 30, 34] (by decide) rfl
        generalize H1 = H at hP hS ⊢
        have h := hw
        try dsimp only at h
        rcases c10 : r7 with _ | ia11
        · have h := h.1 c10
          refine lv_ifnonnullN hx hb dX11_lots_35 ?_
          refine lv_iconst (v := (-1)) hx hb dX11_lots_38 (by decide) ?_
          exact W.iret (v := (-1 : Int32)) hx hb hr (fun t ht hW => ⟨⟨_, (N8, M1, M2, M3, M4, M5, M6, M7, M8, M9, v9), rfl, h, o7, o8, by rw [ht]; exact hP, va_K.moved hW.alike hK, hD⟩, hS.F ht⟩) hS.2.2 dX11_lots_39
        · have h := h.2 ia11 c10
          refine lv_ifnonnull (tgt := 40) hx hb dX11_lots_35 (by decide) ?_
          exact b40  y1 y2 y3 y4 y5 z0 o7 o8 N8 M1 M2 M3 M4 M5 M6 M7 M8 M9 v9 H locs ls hP hD hS (lv_sub hl [1, 2, 3, 4, 5, 6, 0] rfl) h
  have b14 : ∀ (y1 : Int32) (y2 : Int32) (y3 : Int32) (y4 : Int32) (y5 : Int32) (o7 o8 : Option Nat) (M0 : gS) (M1 : gS) (M2 : gS) (M3 : gS) (M4 : gS) (M5 : gS) (M6 : gS) (M7 : gS) (M8 : gS) (M9 : gS) (F10 : oF) (H : Heap) (locs : List Loc) (ls : Array Slot), va_P (dC, dI) vwCl (x0W cB cI cJ cZ cR cS h0 a0 a1 a2 a3 a4 a5 a6 a7 o7 a8 o8 a9 M0 M1 M2 M3 M4 M5 M6 M7 M8 M9 F10) H → va_D A (x0W cB cI cJ cZ cR cS h0 a0 a1 a2 a3 a4 a5 a6 a7 o7 a8 o8 a9 M0 M1 M2 M3 M4 M5 M6 M7 M8 M9 F10) → va_S A s.heap H locs → lv_has ls 7 [(0, .ref h0), (1, .int y1), (2, .int y2), (3, .int y3), (4, .int y4), (5, .int y5)] → wX11_lotsnn_14  Q y1 y2 y3 y4 y5 M0 M1 M2 M3 M4 M5 M6 M7 M8 M9 F10 → W p l e (headSpec wsX11_lots rmX11_lotsnn).room s m ([.ref h0, .int p1, .int p2, .int p3, .int p4, .int p5] : List Value).toArray below meth c H locs 0 0 (MQ below (va_Qi (fun (r : Int32) (u : gS × gS × gS × gS × gS × gS × gS × gS × gS × gS × oF) => Q r u.1 u.2.1 u.2.2.1 u.2.2.2.1 u.2.2.2.2.1 u.2.2.2.2.2.1 u.2.2.2.2.2.2.1 u.2.2.2.2.2.2.2.1 u.2.2.2.2.2.2.2.2.1 u.2.2.2.2.2.2.2.2.2.1 u.2.2.2.2.2.2.2.2.2.2) (x0B dC dI cB cI cJ cZ cR cS h0 a0 a1 a2 a3 a4 a5 a6 a7 a8 a9 A) A) ([.ref h0, .int p1, .int p2, .int p3, .int p4, .int p5] : List Value).toArray s 0 0 A) (F0 m 14 ls []) := by
    intro  y1 y2 y3 y4 y5 o7 o8  M0 M1 M2 M3 M4 M5 M6 M7 M8 M9 F10 H locs ls hP hD hS hl h
    unfold wX11_lotsnn_14 at h
    refine lv_iconst (v := 0) hx hb dX11_lots_14 (by decide) ?_
    exact b15  y1 y2 y3 y4 y5 (0 : Int32) o7 o8 M0 M1 M2 M3 M4 M5 M6 M7 M8 M9 F10 H locs ls hP hD hS (lv_sub hl [0, 1, 2, 3, 4, 5] rfl) h
  have bE : ∀ (M0 : gS) (M1 : gS) (M2 : gS) (M3 : gS) (M4 : gS) (M5 : gS) (M6 : gS) (M7 : gS) (M8 : gS) (M9 : gS) (F10 : oF) (H : Heap) (locs : List Loc) (ls : Array Slot), va_P (dC, dI) vwCl (x0W cB cI cJ cZ cR cS h0 a0 a1 a2 a3 a4 a5 a6 a7 o7 a8 o8 a9 M0 M1 M2 M3 M4 M5 M6 M7 M8 M9 F10) H → va_D A (x0W cB cI cJ cZ cR cS h0 a0 a1 a2 a3 a4 a5 a6 a7 o7 a8 o8 a9 M0 M1 M2 M3 M4 M5 M6 M7 M8 M9 F10) → va_S A s.heap H locs → lv_has ls 7 [(0, .ref h0), (1, .int p1), (2, .int p2), (3, .int p3), (4, .int p4), (5, .int p5)] → wX11_lotsnn p1 p2 p3 p4 p5 M0 M1 M2 M3 M4 M5 M6 M7 M8 M9 F10 Q → W p l e (headSpec wsX11_lots rmX11_lotsnn).room s m ([.ref h0, .int p1, .int p2, .int p3, .int p4, .int p5] : List Value).toArray below meth c H locs 0 0 (MQ below (va_Qi (fun (r : Int32) (u : gS × gS × gS × gS × gS × gS × gS × gS × gS × gS × oF) => Q r u.1 u.2.1 u.2.2.1 u.2.2.2.1 u.2.2.2.2.1 u.2.2.2.2.2.1 u.2.2.2.2.2.2.1 u.2.2.2.2.2.2.2.1 u.2.2.2.2.2.2.2.2.1 u.2.2.2.2.2.2.2.2.2.1 u.2.2.2.2.2.2.2.2.2.2) (x0B dC dI cB cI cJ cZ cR cS h0 a0 a1 a2 a3 a4 a5 a6 a7 a8 a9 A) A) ([.ref h0, .int p1, .int p2, .int p3, .int p4, .int p5] : List Value).toArray s 0 0 A) (F0 m 0 ls []) := by
    intro M0 M1 M2 M3 M4 M5 M6 M7 M8 M9 F10 H locs ls hP hD hS hl h
    unfold wX11_lotsnn at h
    refine lv_iload_n hx hb dX11_lots_0 rfl (lv_at hl 1 rfl) ?_
    refine lv_iconst (v := (-1)) hx hb dX11_lots_1 (by decide) ?_
    refine lv_icmp_ne (tgt := 14) hx hb dX11_lots_2 (by decide) (fun c1 => ?_) (fun c1 => ?_)
    · have h := h.2 c1
      exact b14  p1 p2 p3 p4 p5 o7 o8 M0 M1 M2 M3 M4 M5 M6 M7 M8 M9 F10 H locs ls hP hD hS (lv_sub hl [0, 1, 2, 3, 4, 5] rfl) h
    · have h := h.1 c1
      refine lv_iload_n hx hb dX11_lots_5 rfl (lv_at hl 2 rfl) ?_
      refine lv_iconst (v := (-1)) hx hb dX11_lots_6 (by decide) ?_
      refine lv_icmp_ne (tgt := 14) hx hb dX11_lots_7 (by decide) (fun c2 => ?_) (fun c2 => ?_)
      · have h := h.2 c2
        exact b14  p1 p2 p3 p4 p5 o7 o8 M0 M1 M2 M3 M4 M5 M6 M7 M8 M9 F10 H locs ls hP hD hS (lv_sub hl [0, 1, 2, 3, 4, 5] rfl) h
      · have h := h.1 c2
        refine lv_iconst (v := 1) hx hb dX11_lots_10 (by decide) ?_
        refine lv_goto (tgt := 15) hx hb dX11_lots_11 (by decide) ?_
        exact b15  p1 p2 p3 p4 p5 (1 : Int32) o7 o8 M0 M1 M2 M3 M4 M5 M6 M7 M8 M9 F10 H locs ls hP hD hS (lv_sub hl [0, 1, 2, 3, 4, 5] rfl) h
  have hl := lv_entry ([.ref h0, .int p1, .int p2, .int p3, .int p4, .int p5]) (n := 7) (Nat.le_of_ble_eq_true rfl)
  rw [lg_entry_eq]
  generalize (lg_sl ([.ref h0, .int p1, .int p2, .int p3, .int p4, .int p5]) ++ List.replicate (7 - (lg_sl ([.ref h0, .int p1, .int p2, .int p3, .int p4, .int p5])).length) Slot.unset).toArray = ls at hl ⊢
  have hl : lv_has ls 7 [(0, .ref h0), (1, .int p1), (2, .int p2), (3, .int p3), (4, .int p4), (5, .int p5)] := hl
  exact bE M0 M1 M2 M3 M4 M5 M6 M7 M8 M9 F10 s.heap [] ls hP hD hS hl h
