def wX11_wouldnn (p1 : Int32) (p2 : Int32) (p3 : Int32) (M0 : gS) (M1 : gS) (M2 : gS) (M3 : gS) (M4 : gS) (M5 : gS) (M6 : gS) (M7 : gS) (M8 : gS) (M9 : gS) (F10 : oF) (Q : Int32 → gS → gS → gS → gS → gS → gS → gS → gS → gS → gS → oF → Prop) : Prop :=
 (((mg M3 0) = 0 → (Q (-2 : Int32) M0 M1 M2 M3 M4 M5 M6 M7 M8 M9 F10))
 ∧ (¬ (mg M3 0) = 0 → (wX11_isRuleOrNone p1 M0 F10 (fun (b5 : Bool) (N3 : gS) (v4 : oF) => (((bI b5) = 0 → (Q (-2 : Int32) N3 M1 M2 M3 M4 M5 M6 M7 M8 M9 v4))
 ∧ (¬ (bI b5) = 0 → (wX11_isRuleOrNone p2 N3 v4 (fun (b10 : Bool) (N8 : gS) (v9 : oF) => (((bI b10) = 0 → (Q (-2 : Int32) N8 M1 M2 M3 M4 M5 M6 M7 M8 M9 v9))
 ∧ (¬ (bI b10) = 0 → ((p3 < 0 → (Q (-2 : Int32) N8 M1 M2 M3 M4 M5 M6 M7 M8 M9 v9))
 ∧ (¬ p3 < 0 → ((p3 ≤ (3 : Int32) → (wX6_copyFrom  M6 M3 (fun (N15 : gS) (N16 : gS) => (wX11_ruleAt p1 N8 v9 (fun (r17 : Option Nat) (N18 : gS) (v19 : oF) => (wX11_ruleAt p2 N18 v19 (fun (r20 : Option Nat) (N21 : gS) (v22 : oF) => (r17 = none ∧ (r20 = none ∧ (wX6_goByRulesnn  N15 M2 (fun (N26 : gS) (N27 : gS) => ((p3 = (0 : Int32) → (Q (mg N26 6) N21 M1 N27 N16 M4 M5 N26 M7 M8 M9 v22))
 ∧ (¬ p3 = (0 : Int32) → ((p3 = (1 : Int32) → (Q ((mg N26 4) - (mg N16 4)) N21 M1 N27 N16 M4 M5 N26 M7 M8 M9 v22))
 ∧ (¬ p3 = (1 : Int32) → ((p3 = (2 : Int32) → (Q ((mg N26 5) - (mg N16 5)) N21 M1 N27 N16 M4 M5 N26 M7 M8 M9 v22))
 ∧ (¬ p3 = (2 : Int32) → (Q (mg N26 2) N21 M1 N27 N16 M4 M5 N26 M7 M8 M9 v22))))))))))))))))))
 ∧ (¬ p3 ≤ (3 : Int32) → (Q (-2 : Int32) N8 M1 M2 M3 M4 M5 M6 M7 M8 M9 v9)))))))))))))))
def rmX11_wouldnn : Room := { frames := 5, cells := 0, slots := 0, locals := 114 }
set_option maxHeartbeats 4000000 in
set_option maxRecDepth 100000 in
theorem kX11_wouldnn (l : Launch) (dC : Nat → ClassId) (dI : Nat → Nat → Nat) (cB cI cJ cZ cR cS : ClassId) (h0 : Nat) (a0 : Nat → Nat) (a1 : Nat → Nat) (a2 : Nat → Nat) (a3 : Nat → Nat) (a4 : Nat → Nat) (a5 : Nat → Nat) (a6 : Nat → Nat) (a7 : Nat → Nat) (o7 : Option Nat) (a8 : Nat → Nat) (o8 : Option Nat) (a9 : Nat → Nat) (sz : Nat) (p1 : Int32) (p2 : Int32) (p3 : Int32) (M0 : gS) (M1 : gS) (M2 : gS) (M3 : gS) (M4 : gS) (M5 : gS) (M6 : gS) (M7 : gS) (M8 : gS) (M9 : gS) (F10 : oF) (Q : Int32 → gS → gS → gS → gS → gS → gS → gS → gS → gS → gS → oF → Prop) (h : wX11_wouldnn p1 p2 p3 M0 M1 M2 M3 M4 M5 M6 M7 M8 M9 F10 Q) : Met l yX11_would wsX11_would rmX11_wouldnn (va_Pc [.ref h0, .int p1, .int p2, .int p3] (x0I dC dI cB cI cJ cZ cR cS h0 a0 a1 a2 a3 a4 a5 a6 a7 o7 a8 o8 a9 M0 M1 M2 M3 M4 M5 M6 M7 M8 M9 F10 sz)) (va_Qi (fun (r : Int32) (u : gS × gS × gS × gS × gS × gS × gS × gS × gS × gS × oF) => Q r u.1 u.2.1 u.2.2.1 u.2.2.2.1 u.2.2.2.2.1 u.2.2.2.2.2.1 u.2.2.2.2.2.2.1 u.2.2.2.2.2.2.2.1 u.2.2.2.2.2.2.2.2.1 u.2.2.2.2.2.2.2.2.2.1 u.2.2.2.2.2.2.2.2.2.2) (x0B dC dI cB cI cJ cZ cR cS h0 a0 a1 a2 a3 a4 a5 a6 a7 a8 a9 (va_A (x0W cB cI cJ cZ cR cS h0 a0 a1 a2 a3 a4 a5 a6 a7 o7 a8 o8 a9 M0 M1 M2 M3 M4 M5 M6 M7 M8 M9 F10) sz)) (va_A (x0W cB cI cJ cZ cR cS h0 a0 a1 a2 a3 a4 a5 a6 a7 o7 a8 o8 a9 M0 M1 M2 M3 M4 M5 M6 M7 M8 M9 F10) sz)) 0 0 (va_A (x0W cB cI cJ cZ cR cS h0 a0 a1 a2 a3 a4 a5 a6 a7 o7 a8 o8 a9 M0 M1 M2 M3 M4 M5 M6 M7 M8 M9 F10) sz) := by
  refine Met.ofW (cc := cX11_would) (maxL := 4) (ret := (some .int)) (by decide) rfl ?_
  intro p e s m args below meth c s₁ B hml hv
  obtain ⟨rfl, hsz, hP, hK, hD0⟩ := hv
  have hx := B.exec
  have hb := B.bytes
  have hr := B.returns
  have hts := atoms_spec (ws := wsX11_would) B.pre
  have hown : s.vm.findClass RX11 = some m.cls := findClass_of_methodNamed B.named
  have hlocks := B.notSynchronized
  subst hsz
  have hD := hD0.self (sz := s.heap.size)
  generalize hAe : va_A (x0W cB cI cJ cZ cR cS h0 a0 a1 a2 a3 a4 a5 a6 a7 o7 a8 o8 a9 M0 M1 M2 M3 M4 M5 M6 M7 M8 M9 F10) s.heap.size = A at hD ⊢
  have hA : ∀ q : Nat, s.heap.size ≤ q → A q := fun q h => by rw [← hAe]; exact Or.inr h
  have hS : va_S A s.heap s.heap [] := va_S.rf
  have hK0 : va_K (dC, dI) vwCl (gT cB cI cJ cZ) s := hK.sub (tys' := gT cB cI cJ cZ) [0, 1, 2, 3] rfl
  have hinX10 : ∀ w ∈ wsX100, w ∈ wsX11_would := by decide +kernel
  have hinX11 : ∀ w ∈ wsX110, w ∈ wsX11_would := by decide +kernel
  have hinX6 : ∀ w ∈ wsX60, w ∈ wsX11_would := by decide +kernel
  have f1 := hts (.fieldLink RX11 22 "LastWords" "now" "LLastWords$State;") (by decide +kernel)
  have f2 := hts (.fieldLink RX11 118 "LastWords$State" "quarrel" "LLastWords$Quarrel;") (by decide +kernel)
  have f3 := hts (.fieldLink RX11 149 "LastWords$Quarrel" "goesOn" "Z") (by decide +kernel)
  have f4 := hts (.fieldLink RX11 40 "LastWords" "trial" "LLastWords$Quarrel;") (by decide +kernel)
  have f5 := hts (.fieldLink RX11 108 "LastWords$State" "corner" "LLastWords$Corner;") (by decide +kernel)
  have f6 := hts (.fieldLink RX11 156 "LastWords$Quarrel" "winner" "I") (by decide +kernel)
  have f7 := hts (.fieldLink RX11 174 "LastWords$Quarrel" "moves" "I") (by decide +kernel)
  have f8 := hts (.fieldLink RX11 177 "LastWords$Quarrel" "hat" "I") (by decide +kernel)
  have f9 := hts (.fieldLink RX11 128 "LastWords$Quarrel" "left" "I") (by decide +kernel)
  have bE : ∀ (M0 : gS) (M1 : gS) (M2 : gS) (M3 : gS) (M4 : gS) (M5 : gS) (M6 : gS) (M7 : gS) (M8 : gS) (M9 : gS) (F10 : oF) (H : Heap) (locs : List Loc) (ls : Array Slot), va_P (dC, dI) vwCl (x0W cB cI cJ cZ cR cS h0 a0 a1 a2 a3 a4 a5 a6 a7 o7 a8 o8 a9 M0 M1 M2 M3 M4 M5 M6 M7 M8 M9 F10) H → va_D A (x0W cB cI cJ cZ cR cS h0 a0 a1 a2 a3 a4 a5 a6 a7 o7 a8 o8 a9 M0 M1 M2 M3 M4 M5 M6 M7 M8 M9 F10) → va_S A s.heap H locs → lv_has ls 4 [(0, .ref h0), (1, .int p1), (2, .int p2), (3, .int p3)] → wX11_wouldnn p1 p2 p3 M0 M1 M2 M3 M4 M5 M6 M7 M8 M9 F10 Q → W p l e (headSpec wsX11_would rmX11_wouldnn).room s m ([.ref h0, .int p1, .int p2, .int p3] : List Value).toArray below meth c H locs 0 0 (MQ below (va_Qi (fun (r : Int32) (u : gS × gS × gS × gS × gS × gS × gS × gS × gS × gS × oF) => Q r u.1 u.2.1 u.2.2.1 u.2.2.2.1 u.2.2.2.2.1 u.2.2.2.2.2.1 u.2.2.2.2.2.2.1 u.2.2.2.2.2.2.2.1 u.2.2.2.2.2.2.2.2.1 u.2.2.2.2.2.2.2.2.2.1 u.2.2.2.2.2.2.2.2.2.2) (x0B dC dI cB cI cJ cZ cR cS h0 a0 a1 a2 a3 a4 a5 a6 a7 a8 a9 A) A) ([.ref h0, .int p1, .int p2, .int p3] : List Value).toArray s 0 0 A) (F0 m 0 ls []) := by
    intro M0 M1 M2 M3 M4 M5 M6 M7 M8 M9 F10 H locs ls hP hD hS hl h
    unfold wX11_wouldnn at h
    refine lv_aload_n hx hb dX11_would_0 rfl (lv_at hl 0 rfl) ?_
    refine va_get (D := (dC, dI)) (ci := 11) (v := .ref (a0 4)) (C := RX11) (T := TX11) (N := 12) hx hb hts hinX11 hown hK hP 0 rfl rfl 4 (by decide) f1 (fun _ h9 => h9) rfl dX11_would_1 ?_
    refine va_get (D := (dC, dI)) (ci := 10) (v := .ref (a1 1)) (C := RX10) (T := TX10) (N := 5) hx hb hts hinX10 hown hK hP 3 rfl rfl 1 (by decide) f2 (fun _ h9 => h9) rfl dX11_would_4 ?_
    refine va_get (D := (dC, dI)) (ci := 6) (v := .int (mg M3 0)) (C := RX6) (T := TX6) (N := 10) hx hb hts hinX6 hown hK hP 9 rfl rfl 0 (by decide) f3 (fun _ h9 => h9) rfl dX11_would_7 ?_
    refine lv_if_eq (tgt := 29) hx hb dX11_would_10 (by decide) (fun c1 => ?_) (fun c1 => ?_)
    · have h := h.1 c1
      refine lv_bipush (v := (-2)) hx hb dX11_would_29 (by decide) ?_
      exact W.iret (v := (-2 : Int32)) hx hb hr (fun t ht hW => ⟨⟨_, (M0, M1, M2, M3, M4, M5, M6, M7, M8, M9, F10), rfl, h, o7, o8, by rw [ht]; exact hP, va_K.moved hW.alike hK, hD⟩, hS.F ht⟩) hS.2.2 dX11_would_31
    · have h := h.2 c1
      refine lv_aload_n hx hb dX11_would_13 rfl (lv_at hl 0 rfl) ?_
      refine lv_iload_n hx hb dX11_would_14 rfl (lv_at hl 1 rfl) ?_
      have hPc := hP.sub (ws' := (rlW cB cI cJ cZ cR cS h0 a0 M0 F10)) [0, 1, 2, 34] rfl
      have hDc := hD.sub (ws' := (rlW cB cI cJ cZ cR cS h0 a0 M0 F10)) [0, 1, 2, 34] (by decide) rfl
      have hFc := va_free (wc := (rlW cB cI cJ cZ cR cS h0 a0 M0 F10)) hD hS hA [0, 1, 2, 34] rfl
      refine va_calli (va_runV (As := [.int p1]) (rest := []) ⟨hx, hb, hml, hown, hts⟩ (kX11_isRuleOrNone l dC dI cB cI cJ cZ cR cS h0 a0 H.size p1 M0 F10 _ h) (cwV 1 hts gX11_would_X11_isRuleOrNone rfl rfl rfl (by decide +kernel) ⟨Nat.le_of_ble_eq_true rfl, Nat.le_of_ble_eq_true rfl⟩) (rlpV hK hPc hDc) rfl rfl hl.1 rfl (lv_room (Nat.le_of_ble_eq_true rfl)) dX11_would_15 ⟨Nat.le_of_ble_eq_true rfl, Nat.le_of_ble_eq_true rfl⟩) hS (fun q _ z => hFc q z) hFc (fun r2 u t H1 locs ht hvm hw hB hz1 hk1 hS => ?_)
      obtain ⟨N3, v4⟩ := u
      obtain ⟨hP1, hK1, hD1⟩ := hB
      rw [ht] at hP1
      obtain ⟨hP, hD⟩ := va_join (wr := [(a0 4, .inr (10, [.ref (a1 0), .ref (a1 1), .ref (a1 2), .ref (a1 3), .int (mg M1 4)])), (a1 3, .inl (cI, 2, .inl (ma M1 3))), (a1 0, .inr (1, [.int (mg M2 0), .ref (a2 1), .int (mg M2 2), .ref (a2 3), .int (mg M2 4), .ref (a2 5)])), (a2 1, .inl (cI, 4, .inl (ma M2 1))), (a2 3, .inl (cI, 4, .inl (ma M2 3))), (a2 5, .inl (cI, 2, .inl (ma M2 5))), (a1 1, .inr (6, [.int (mg M3 0), .int (mg M3 1), .int (mg M3 2), .int (mg M3 3), .int (mg M3 4), .int (mg M3 5), .int (mg M3 6), .ref (a3 7), .ref (a3 8), .ref (a3 9)])), (a3 7, .inl (cI, 2, .inl (ma M3 7))), (a3 8, .inl (cI, 2, .inl (ma M3 8))), (a3 9, .inl (cI, 2, .inl (ma M3 9))), (a1 2, .inr (4, [.int (mg M4 0), .ref (a4 1), .ref (a4 2), .ref (a4 3)])), (a4 1, .inl (cI, 6, .inl (ma M4 1))), (a4 2, .inl (cI, 6, .inl (ma M4 2))), (a4 3, .inl (cI, 6, .inl (ma M4 3))), (a0 6, .inr (1, [.int (mg M5 0), .ref (a5 1), .int (mg M5 2), .ref (a5 3), .int (mg M5 4), .ref (a5 5)])), (a5 1, .inl (cI, 4, .inl (ma M5 1))), (a5 3, .inl (cI, 4, .inl (ma M5 3))), (a5 5, .inl (cI, 2, .inl (ma M5 5))), (a0 7, .inr (6, [.int (mg M6 0), .int (mg M6 1), .int (mg M6 2), .int (mg M6 3), .int (mg M6 4), .int (mg M6 5), .int (mg M6 6), .ref (a6 7), .ref (a6 8), .ref (a6 9)])), (a6 7, .inl (cI, 2, .inl (ma M6 7))), (a6 8, .inl (cI, 2, .inl (ma M6 8))), (a6 9, .inl (cI, 2, .inl (ma M6 9))), (a0 8, .inr (0, [.ref (a7 0), .ref (a7 1), .ref (a7 2), .ref (a7 3), .int (mg M7 4), va_rf o7, .int (mg M7 6), .int (mg M7 7), .int (mg M7 8), .int (mg M7 9), .int (mg M7 10)])), (a7 0, .inl (cJ, 15, .inr (.inl (ml M7 0)))), (a7 1, .inl (cJ, 800, .inr (.inl (ml M7 1)))), (a7 2, .inl (cI, 4, .inl (ma M7 2))), (a7 3, .inl (cJ, 4, .inr (.inl (ml M7 3)))), (a0 9, .inr (5, [.ref (a8 0), .ref (a8 1), va_rf o8, .int (mg M8 3)])), (a8 0, .inl (cI, 2048, .inl (ma M8 0))), (a8 1, .inl (cI, 2048, .inl (ma M8 1))), (a0 10, .inr (3, [.int (mg M9 0), .int (mg M9 1), .int (mg M9 2), .int (mg M9 3), .int (mg M9 4)]))]) (w1 := (rlW cB cI cJ cZ cR cS h0 a0 N3 v4)) hP hD [0, 1, 2, 34] [3, 4, 5, 6, 7, 8, 9, 10, 11, 12, 13, 14, 15, 16, 17, 18, 19, 20, 21, 22, 23, 24, 25, 26, 27, 28, 29, 30, 31, 32, 33] rfl rfl (by decide) (by decide) hk1 hFc hP1 hD1
      have hP := hP.sub (ws' := (x0W cB cI cJ cZ cR cS h0 a0 a1 a2 a3 a4 a5 a6 a7 o7 a8 o8 a9 N3 M1 M2 M3 M4 M5 M6 M7 M8 M9 v4)) [31, 32, 33, 0, 1, 2, 3, 4, 5, 6, 7, 8, 9, 10, 11, 12, 13, 14, 15, 16, 17, 18, 19, 20, 21, 22, 23, 24, 25, 26, 27, 28, 29, 30, 34] rfl
      have hD := hD.sub (ws' := (x0W cB cI cJ cZ cR cS h0 a0 a1 a2 a3 a4 a5 a6 a7 o7 a8 o8 a9 N3 M1 M2 M3 M4 M5 M6 M7 M8 M9 v4)) [31, 32, 33, 0, 1, 2, 3, 4, 5, 6, 7, 8, 9, 10, 11, 12, 13, 14, 15, 16, 17, 18, 19, 20, 21, 22, 23, 24, 25, 26, 27, 28, 29, 30, 34] (by decide) rfl
      generalize H1 = H at hP hS ⊢
      obtain ⟨b5, rfl, h⟩ := hw
      try dsimp only at h
      refine lv_if_eq (tgt := 29) hx hb dX11_would_18 (by decide) (fun c6 => ?_) (fun c6 => ?_)
      · have h := h.1 c6
        refine lv_bipush (v := (-2)) hx hb dX11_would_29 (by decide) ?_
        exact W.iret (v := (-2 : Int32)) hx hb hr (fun t ht hW => ⟨⟨_, (N3, M1, M2, M3, M4, M5, M6, M7, M8, M9, v4), rfl, h, o7, o8, by rw [ht]; exact hP, va_K.moved hW.alike hK, hD⟩, hS.F ht⟩) hS.2.2 dX11_would_31
      · have h := h.2 c6
        refine lv_aload_n hx hb dX11_would_21 rfl (lv_at hl 0 rfl) ?_
        refine lv_iload_n hx hb dX11_would_22 rfl (lv_at hl 2 rfl) ?_
        have hPc := hP.sub (ws' := (rlW cB cI cJ cZ cR cS h0 a0 N3 v4)) [0, 1, 2, 34] rfl
        have hDc := hD.sub (ws' := (rlW cB cI cJ cZ cR cS h0 a0 N3 v4)) [0, 1, 2, 34] (by decide) rfl
        have hFc := va_free (wc := (rlW cB cI cJ cZ cR cS h0 a0 N3 v4)) hD hS hA [0, 1, 2, 34] rfl
        refine va_calli (va_runV (As := [.int p2]) (rest := []) ⟨hx, hb, hml, hown, hts⟩ (kX11_isRuleOrNone l dC dI cB cI cJ cZ cR cS h0 a0 H.size p2 N3 v4 _ h) (cwV 1 hts gX11_would_X11_isRuleOrNone rfl rfl rfl (by decide +kernel) ⟨Nat.le_of_ble_eq_true rfl, Nat.le_of_ble_eq_true rfl⟩) (rlpV hK hPc hDc) rfl rfl hl.1 rfl (lv_room (Nat.le_of_ble_eq_true rfl)) dX11_would_23 ⟨Nat.le_of_ble_eq_true rfl, Nat.le_of_ble_eq_true rfl⟩) hS (fun q _ z => hFc q z) hFc (fun r7 u t H1 locs ht hvm hw hB hz1 hk1 hS => ?_)
        obtain ⟨N8, v9⟩ := u
        obtain ⟨hP1, hK1, hD1⟩ := hB
        rw [ht] at hP1
        obtain ⟨hP, hD⟩ := va_join (wr := [(a0 4, .inr (10, [.ref (a1 0), .ref (a1 1), .ref (a1 2), .ref (a1 3), .int (mg M1 4)])), (a1 3, .inl (cI, 2, .inl (ma M1 3))), (a1 0, .inr (1, [.int (mg M2 0), .ref (a2 1), .int (mg M2 2), .ref (a2 3), .int (mg M2 4), .ref (a2 5)])), (a2 1, .inl (cI, 4, .inl (ma M2 1))), (a2 3, .inl (cI, 4, .inl (ma M2 3))), (a2 5, .inl (cI, 2, .inl (ma M2 5))), (a1 1, .inr (6, [.int (mg M3 0), .int (mg M3 1), .int (mg M3 2), .int (mg M3 3), .int (mg M3 4), .int (mg M3 5), .int (mg M3 6), .ref (a3 7), .ref (a3 8), .ref (a3 9)])), (a3 7, .inl (cI, 2, .inl (ma M3 7))), (a3 8, .inl (cI, 2, .inl (ma M3 8))), (a3 9, .inl (cI, 2, .inl (ma M3 9))), (a1 2, .inr (4, [.int (mg M4 0), .ref (a4 1), .ref (a4 2), .ref (a4 3)])), (a4 1, .inl (cI, 6, .inl (ma M4 1))), (a4 2, .inl (cI, 6, .inl (ma M4 2))), (a4 3, .inl (cI, 6, .inl (ma M4 3))), (a0 6, .inr (1, [.int (mg M5 0), .ref (a5 1), .int (mg M5 2), .ref (a5 3), .int (mg M5 4), .ref (a5 5)])), (a5 1, .inl (cI, 4, .inl (ma M5 1))), (a5 3, .inl (cI, 4, .inl (ma M5 3))), (a5 5, .inl (cI, 2, .inl (ma M5 5))), (a0 7, .inr (6, [.int (mg M6 0), .int (mg M6 1), .int (mg M6 2), .int (mg M6 3), .int (mg M6 4), .int (mg M6 5), .int (mg M6 6), .ref (a6 7), .ref (a6 8), .ref (a6 9)])), (a6 7, .inl (cI, 2, .inl (ma M6 7))), (a6 8, .inl (cI, 2, .inl (ma M6 8))), (a6 9, .inl (cI, 2, .inl (ma M6 9))), (a0 8, .inr (0, [.ref (a7 0), .ref (a7 1), .ref (a7 2), .ref (a7 3), .int (mg M7 4), va_rf o7, .int (mg M7 6), .int (mg M7 7), .int (mg M7 8), .int (mg M7 9), .int (mg M7 10)])), (a7 0, .inl (cJ, 15, .inr (.inl (ml M7 0)))), (a7 1, .inl (cJ, 800, .inr (.inl (ml M7 1)))), (a7 2, .inl (cI, 4, .inl (ma M7 2))), (a7 3, .inl (cJ, 4, .inr (.inl (ml M7 3)))), (a0 9, .inr (5, [.ref (a8 0), .ref (a8 1), va_rf o8, .int (mg M8 3)])), (a8 0, .inl (cI, 2048, .inl (ma M8 0))), (a8 1, .inl (cI, 2048, .inl (ma M8 1))), (a0 10, .inr (3, [.int (mg M9 0), .int (mg M9 1), .int (mg M9 2), .int (mg M9 3), .int (mg M9 4)]))]) (w1 := (rlW cB cI cJ cZ cR cS h0 a0 N8 v9)) hP hD [0, 1, 2, 34] [3, 4, 5, 6, 7, 8, 9, 10, 11, 12, 13, 14, 15, 16, 17, 18, 19, 20, 21, 22, 23, 24, 25, 26, 27, 28, 29, 30, 31, 32, 33] rfl rfl (by decide) (by decide) hk1 hFc hP1 hD1
        have hP := hP.sub (ws' := (x0W cB cI cJ cZ cR cS h0 a0 a1 a2 a3 a4 a5 a6 a7 o7 a8 o8 a9 N8 M1 M2 M3 M4 M5 M6 M7 M8 M9 v9)) [31, 32, 33, 0, 1, 2, 3, 4, 5, 6, 7, 8, 9, 10, 11, 12, 13, 14, 15, 16, 17, 18, 19, 20, 21, 22, 23, 24, 25, 26, 27, 28, 29, 30, 34] rfl
        have hD := hD.sub (ws' := (x0W cB cI cJ cZ cR cS h0 a0 a1 a2 a3 a4 a5 a6 a7 o7 a8 o8 a9 N8 M1 M2 M3 M4 M5 M6 M7 M8 M9 v9)) [31, 32, 33, 0, 1, 2, 3, 4, 5, 6, 7, 8, 9, 10, 11, 12, 13, 14, 15, 16, 17, 18, 19, 20, 21, 22, 23, 24, 25, 26, 27, 28, 29, 30, 34] (by decide) rfl
        generalize H1 = H at hP hS ⊢
        obtain ⟨b10, rfl, h⟩ := hw
        try dsimp only at h
        refine lv_if_ne (tgt := 32) hx hb dX11_would_26 (by decide) (fun c11 => ?_) (fun c11 => ?_)
        · have h := h.2 c11
          refine lv_iload_n hx hb dX11_would_32 rfl (lv_at hl 3 rfl) ?_
          refine lv_if_lt (tgt := 41) hx hb dX11_would_33 (by decide) (fun c12 => ?_) (fun c12 => ?_)
          · have h := h.1 c12
            refine lv_bipush (v := (-2)) hx hb dX11_would_41 (by decide) ?_
            exact W.iret (v := (-2 : Int32)) hx hb hr (fun t ht hW => ⟨⟨_, (N8, M1, M2, M3, M4, M5, M6, M7, M8, M9, v9), rfl, h, o7, o8, by rw [ht]; exact hP, va_K.moved hW.alike hK, hD⟩, hS.F ht⟩) hS.2.2 dX11_would_43
          · have h := h.2 c12
            refine lv_iload_n hx hb dX11_would_36 rfl (lv_at hl 3 rfl) ?_
            refine lv_iconst (v := 3) hx hb dX11_would_37 (by decide) ?_
            refine lv_icmp_le (tgt := 44) hx hb dX11_would_38 (by decide) (fun c13 => ?_) (fun c13 => ?_)
            · have h := h.1 c13
              refine lv_aload_n hx hb dX11_would_44 rfl (lv_at hl 0 rfl) ?_
              refine va_get (D := (dC, dI)) (ci := 11) (v := .ref (a0 7)) (C := RX11) (T := TX11) (N := 12) hx hb hts hinX11 hown hK hP 0 rfl rfl 7 (by decide) f4 (fun _ h9 => h9) rfl dX11_would_45 ?_
              refine lv_aload_n hx hb dX11_would_48 rfl (lv_at hl 0 rfl) ?_
              refine va_get (D := (dC, dI)) (ci := 11) (v := .ref (a0 4)) (C := RX11) (T := TX11) (N := 12) hx hb hts hinX11 hown hK hP 0 rfl rfl 4 (by decide) f1 (fun _ h9 => h9) rfl dX11_would_49 ?_
              refine va_get (D := (dC, dI)) (ci := 10) (v := .ref (a1 1)) (C := RX10) (T := TX10) (N := 5) hx hb hts hinX10 hown hK hP 3 rfl rfl 1 (by decide) f2 (fun _ h9 => h9) rfl dX11_would_52 ?_
              have hPc := hP.sub (ws' := (qkW cB cI cJ cZ (a0 7) a6 (a1 1) a3 M6 M3)) [21, 22, 23, 24, 9, 10, 11, 12] rfl
              have hDc := hD.sub (ws' := (qkW cB cI cJ cZ (a0 7) a6 (a1 1) a3 M6 M3)) [21, 22, 23, 24, 9, 10, 11, 12] (by decide) rfl
              have hFc := va_free (wc := (qkW cB cI cJ cZ (a0 7) a6 (a1 1) a3 M6 M3)) hD hS hA [21, 22, 23, 24, 9, 10, 11, 12] rfl
              refine va_callv (va_runV (As := [.ref (a1 1)]) (rest := []) ⟨hx, hb, hml, hown, hts⟩ (kX6_copyFrom l dC dI cB cI cJ cZ (a0 7) a6 (a1 1) a3 H.size  M6 M3 _ h) (cwV 1 hts gX11_would_X6_copyFrom rfl rfl rfl (by decide +kernel) ⟨Nat.le_of_ble_eq_true rfl, Nat.le_of_ble_eq_true rfl⟩) (qkpV hK0 hPc hDc) rfl rfl hl.1 rfl (lv_room (Nat.le_of_ble_eq_true rfl)) dX11_would_55 ⟨Nat.le_of_ble_eq_true rfl, Nat.le_of_ble_eq_true rfl⟩) hS (fun q _ z => hFc q z) hFc (fun u t H1 locs ht hvm hw hB hz1 hk1 hS => ?_)
              obtain ⟨N15, N16⟩ := u
              obtain ⟨hP1, hK1, hD1⟩ := hB
              rw [ht] at hP1
              obtain ⟨hP, hD⟩ := va_join (wr := [(h0, .inr (11, [.ref (a0 0), .int (mg N8 1), .ref (a0 2), .int (mg N8 3), .ref (a0 4), .ref (a0 5), .ref (a0 6), .ref (a0 7), .ref (a0 8), .ref (a0 9), .ref (a0 10), .ref (a0 11)])), (a0 0, .inl (cI, 400, .inl (ma N8 0))), (a0 11, .inl (cJ, 4, .inr (.inl (ml N8 11)))), (a0 4, .inr (10, [.ref (a1 0), .ref (a1 1), .ref (a1 2), .ref (a1 3), .int (mg M1 4)])), (a1 3, .inl (cI, 2, .inl (ma M1 3))), (a1 0, .inr (1, [.int (mg M2 0), .ref (a2 1), .int (mg M2 2), .ref (a2 3), .int (mg M2 4), .ref (a2 5)])), (a2 1, .inl (cI, 4, .inl (ma M2 1))), (a2 3, .inl (cI, 4, .inl (ma M2 3))), (a2 5, .inl (cI, 2, .inl (ma M2 5))), (a1 2, .inr (4, [.int (mg M4 0), .ref (a4 1), .ref (a4 2), .ref (a4 3)])), (a4 1, .inl (cI, 6, .inl (ma M4 1))), (a4 2, .inl (cI, 6, .inl (ma M4 2))), (a4 3, .inl (cI, 6, .inl (ma M4 3))), (a0 6, .inr (1, [.int (mg M5 0), .ref (a5 1), .int (mg M5 2), .ref (a5 3), .int (mg M5 4), .ref (a5 5)])), (a5 1, .inl (cI, 4, .inl (ma M5 1))), (a5 3, .inl (cI, 4, .inl (ma M5 3))), (a5 5, .inl (cI, 2, .inl (ma M5 5))), (a0 8, .inr (0, [.ref (a7 0), .ref (a7 1), .ref (a7 2), .ref (a7 3), .int (mg M7 4), va_rf o7, .int (mg M7 6), .int (mg M7 7), .int (mg M7 8), .int (mg M7 9), .int (mg M7 10)])), (a7 0, .inl (cJ, 15, .inr (.inl (ml M7 0)))), (a7 1, .inl (cJ, 800, .inr (.inl (ml M7 1)))), (a7 2, .inl (cI, 4, .inl (ma M7 2))), (a7 3, .inl (cJ, 4, .inr (.inl (ml M7 3)))), (a0 9, .inr (5, [.ref (a8 0), .ref (a8 1), va_rf o8, .int (mg M8 3)])), (a8 0, .inl (cI, 2048, .inl (ma M8 0))), (a8 1, .inl (cI, 2048, .inl (ma M8 1))), (a0 10, .inr (3, [.int (mg M9 0), .int (mg M9 1), .int (mg M9 2), .int (mg M9 3), .int (mg M9 4)])), (a0 2, .inl (cR, 6, .inr (.inr (.inr (.inr v9)))))]) (w1 := (qkW cB cI cJ cZ (a0 7) a6 (a1 1) a3 N15 N16)) hP hD [21, 22, 23, 24, 9, 10, 11, 12] [0, 1, 2, 3, 4, 5, 6, 7, 8, 13, 14, 15, 16, 17, 18, 19, 20, 25, 26, 27, 28, 29, 30, 31, 32, 33, 34] rfl rfl (by decide) (by decide) hk1 hFc hP1 hD1
              have hP := hP.sub (ws' := (x0W cB cI cJ cZ cR cS h0 a0 a1 a2 a3 a4 a5 a6 a7 o7 a8 o8 a9 N8 M1 M2 N16 M4 M5 N15 M7 M8 M9 v9)) [0, 1, 2, 3, 4, 5, 6, 7, 8, 31, 32, 33, 34, 9, 10, 11, 12, 13, 14, 15, 16, 27, 28, 29, 30, 17, 18, 19, 20, 21, 22, 23, 24, 25, 26] rfl
              have hD := hD.sub (ws' := (x0W cB cI cJ cZ cR cS h0 a0 a1 a2 a3 a4 a5 a6 a7 o7 a8 o8 a9 N8 M1 M2 N16 M4 M5 N15 M7 M8 M9 v9)) [0, 1, 2, 3, 4, 5, 6, 7, 8, 31, 32, 33, 34, 9, 10, 11, 12, 13, 14, 15, 16, 27, 28, 29, 30, 17, 18, 19, 20, 21, 22, 23, 24, 25, 26] (by decide) rfl
              generalize H1 = H at hP hS ⊢
              have h := hw
              try dsimp only at h
              refine lv_aload_n hx hb dX11_would_58 rfl (lv_at hl 0 rfl) ?_
              refine va_get (D := (dC, dI)) (ci := 11) (v := .ref (a0 7)) (C := RX11) (T := TX11) (N := 12) hx hb hts hinX11 hown hK hP 0 rfl rfl 7 (by decide) f4 (fun _ h9 => h9) rfl dX11_would_59 ?_
              refine lv_aload_n hx hb dX11_would_62 rfl (lv_at hl 0 rfl) ?_
              refine va_get (D := (dC, dI)) (ci := 11) (v := .ref (a0 4)) (C := RX11) (T := TX11) (N := 12) hx hb hts hinX11 hown hK hP 0 rfl rfl 4 (by decide) f1 (fun _ h9 => h9) rfl dX11_would_63 ?_
              refine va_get (D := (dC, dI)) (ci := 10) (v := .ref (a1 0)) (C := RX10) (T := TX10) (N := 5) hx hb hts hinX10 hown hK hP 3 rfl rfl 0 (by decide) f5 (fun _ h9 => h9) rfl dX11_would_66 ?_
              refine lv_aload_n hx hb dX11_would_69 rfl (lv_at hl 0 rfl) ?_
              refine lv_iload_n hx hb dX11_would_70 rfl (lv_at hl 1 rfl) ?_
              have hPc := hP.sub (ws' := (rlW cB cI cJ cZ cR cS h0 a0 N8 v9)) [0, 1, 2, 34] rfl
              have hDc := hD.sub (ws' := (rlW cB cI cJ cZ cR cS h0 a0 N8 v9)) [0, 1, 2, 34] (by decide) rfl
              have hFc := va_free (wc := (rlW cB cI cJ cZ cR cS h0 a0 N8 v9)) hD hS hA [0, 1, 2, 34] rfl
              refine va_callq (va_runV (As := [.int p1]) (rest := [.ref (a1 0), .ref (a0 7)]) ⟨hx, hb, hml, hown, hts⟩ (kX11_ruleAt l dC dI cB cI cJ cZ cR cS h0 a0 H.size p1 N8 v9 _ h) (cwV 1 hts gX11_would_X11_ruleAt rfl rfl rfl (by decide +kernel) ⟨Nat.le_of_ble_eq_true rfl, Nat.le_of_ble_eq_true rfl⟩) (rlpV hK hPc hDc) rfl rfl hl.1 rfl (lv_room (Nat.le_of_ble_eq_true rfl)) dX11_would_71 ⟨Nat.le_of_ble_eq_true rfl, Nat.le_of_ble_eq_true rfl⟩) hS (fun q _ z => hFc q z) hFc (fun r17 u t H1 locs ht hvm hw hB hz1 hk1 hS => ?_)
              obtain ⟨N18, v19⟩ := u
              obtain ⟨hP1, hK1, hD1⟩ := hB
              rw [ht] at hP1
              obtain ⟨hP, hD⟩ := va_join (wr := [(a0 4, .inr (10, [.ref (a1 0), .ref (a1 1), .ref (a1 2), .ref (a1 3), .int (mg M1 4)])), (a1 3, .inl (cI, 2, .inl (ma M1 3))), (a1 0, .inr (1, [.int (mg M2 0), .ref (a2 1), .int (mg M2 2), .ref (a2 3), .int (mg M2 4), .ref (a2 5)])), (a2 1, .inl (cI, 4, .inl (ma M2 1))), (a2 3, .inl (cI, 4, .inl (ma M2 3))), (a2 5, .inl (cI, 2, .inl (ma M2 5))), (a1 1, .inr (6, [.int (mg N16 0), .int (mg N16 1), .int (mg N16 2), .int (mg N16 3), .int (mg N16 4), .int (mg N16 5), .int (mg N16 6), .ref (a3 7), .ref (a3 8), .ref (a3 9)])), (a3 7, .inl (cI, 2, .inl (ma N16 7))), (a3 8, .inl (cI, 2, .inl (ma N16 8))), (a3 9, .inl (cI, 2, .inl (ma N16 9))), (a1 2, .inr (4, [.int (mg M4 0), .ref (a4 1), .ref (a4 2), .ref (a4 3)])), (a4 1, .inl (cI, 6, .inl (ma M4 1))), (a4 2, .inl (cI, 6, .inl (ma M4 2))), (a4 3, .inl (cI, 6, .inl (ma M4 3))), (a0 6, .inr (1, [.int (mg M5 0), .ref (a5 1), .int (mg M5 2), .ref (a5 3), .int (mg M5 4), .ref (a5 5)])), (a5 1, .inl (cI, 4, .inl (ma M5 1))), (a5 3, .inl (cI, 4, .inl (ma M5 3))), (a5 5, .inl (cI, 2, .inl (ma M5 5))), (a0 7, .inr (6, [.int (mg N15 0), .int (mg N15 1), .int (mg N15 2), .int (mg N15 3), .int (mg N15 4), .int (mg N15 5), .int (mg N15 6), .ref (a6 7), .ref (a6 8), .ref (a6 9)])), (a6 7, .inl (cI, 2, .inl (ma N15 7))), (a6 8, .inl (cI, 2, .inl (ma N15 8))), (a6 9, .inl (cI, 2, .inl (ma N15 9))), (a0 8, .inr (0, [.ref (a7 0), .ref (a7 1), .ref (a7 2), .ref (a7 3), .int (mg M7 4), va_rf o7, .int (mg M7 6), .int (mg M7 7), .int (mg M7 8), .int (mg M7 9), .int (mg M7 10)])), (a7 0, .inl (cJ, 15, .inr (.inl (ml M7 0)))), (a7 1, .inl (cJ, 800, .inr (.inl (ml M7 1)))), (a7 2, .inl (cI, 4, .inl (ma M7 2))), (a7 3, .inl (cJ, 4, .inr (.inl (ml M7 3)))), (a0 9, .inr (5, [.ref (a8 0), .ref (a8 1), va_rf o8, .int (mg M8 3)])), (a8 0, .inl (cI, 2048, .inl (ma M8 0))), (a8 1, .inl (cI, 2048, .inl (ma M8 1))), (a0 10, .inr (3, [.int (mg M9 0), .int (mg M9 1), .int (mg M9 2), .int (mg M9 3), .int (mg M9 4)]))]) (w1 := (rlW cB cI cJ cZ cR cS h0 a0 N18 v19)) hP hD [0, 1, 2, 34] [3, 4, 5, 6, 7, 8, 9, 10, 11, 12, 13, 14, 15, 16, 17, 18, 19, 20, 21, 22, 23, 24, 25, 26, 27, 28, 29, 30, 31, 32, 33] rfl rfl (by decide) (by decide) hk1 hFc hP1 hD1
              have hP := hP.sub (ws' := (x0W cB cI cJ cZ cR cS h0 a0 a1 a2 a3 a4 a5 a6 a7 o7 a8 o8 a9 N18 M1 M2 N16 M4 M5 N15 M7 M8 M9 v19)) [31, 32, 33, 0, 1, 2, 3, 4, 5, 6, 7, 8, 9, 10, 11, 12, 13, 14, 15, 16, 17, 18, 19, 20, 21, 22, 23, 24, 25, 26, 27, 28, 29, 30, 34] rfl
              have hD := hD.sub (ws' := (x0W cB cI cJ cZ cR cS h0 a0 a1 a2 a3 a4 a5 a6 a7 o7 a8 o8 a9 N18 M1 M2 N16 M4 M5 N15 M7 M8 M9 v19)) [31, 32, 33, 0, 1, 2, 3, 4, 5, 6, 7, 8, 9, 10, 11, 12, 13, 14, 15, 16, 17, 18, 19, 20, 21, 22, 23, 24, 25, 26, 27, 28, 29, 30, 34] (by decide) rfl
              generalize H1 = H at hP hS ⊢
              have h := hw
              try dsimp only at h
              refine lv_aload_n hx hb dX11_would_74 rfl (lv_at hl 0 rfl) ?_
              refine lv_iload_n hx hb dX11_would_75 rfl (lv_at hl 2 rfl) ?_
              have hPc := hP.sub (ws' := (rlW cB cI cJ cZ cR cS h0 a0 N18 v19)) [0, 1, 2, 34] rfl
              have hDc := hD.sub (ws' := (rlW cB cI cJ cZ cR cS h0 a0 N18 v19)) [0, 1, 2, 34] (by decide) rfl
              have hFc := va_free (wc := (rlW cB cI cJ cZ cR cS h0 a0 N18 v19)) hD hS hA [0, 1, 2, 34] rfl
              refine va_callq (va_runV (As := [.int p2]) (rest := [va_rf r17, .ref (a1 0), .ref (a0 7)]) ⟨hx, hb, hml, hown, hts⟩ (kX11_ruleAt l dC dI cB cI cJ cZ cR cS h0 a0 H.size p2 N18 v19 _ h) (cwV 1 hts gX11_would_X11_ruleAt rfl rfl rfl (by decide +kernel) ⟨Nat.le_of_ble_eq_true rfl, Nat.le_of_ble_eq_true rfl⟩) (rlpV hK hPc hDc) rfl rfl hl.1 rfl (lv_room (by cases r17 <;> exact Nat.le_of_ble_eq_true rfl)) dX11_would_76 ⟨Nat.le_of_ble_eq_true rfl, Nat.le_of_ble_eq_true rfl⟩) hS (fun q _ z => hFc q z) hFc (fun r20 u t H1 locs ht hvm hw hB hz1 hk1 hS => ?_)
              obtain ⟨N21, v22⟩ := u
              obtain ⟨hP1, hK1, hD1⟩ := hB
              rw [ht] at hP1
              obtain ⟨hP, hD⟩ := va_join (wr := [(a0 4, .inr (10, [.ref (a1 0), .ref (a1 1), .ref (a1 2), .ref (a1 3), .int (mg M1 4)])), (a1 3, .inl (cI, 2, .inl (ma M1 3))), (a1 0, .inr (1, [.int (mg M2 0), .ref (a2 1), .int (mg M2 2), .ref (a2 3), .int (mg M2 4), .ref (a2 5)])), (a2 1, .inl (cI, 4, .inl (ma M2 1))), (a2 3, .inl (cI, 4, .inl (ma M2 3))), (a2 5, .inl (cI, 2, .inl (ma M2 5))), (a1 1, .inr (6, [.int (mg N16 0), .int (mg N16 1), .int (mg N16 2), .int (mg N16 3), .int (mg N16 4), .int (mg N16 5), .int (mg N16 6), .ref (a3 7), .ref (a3 8), .ref (a3 9)])), (a3 7, .inl (cI, 2, .inl (ma N16 7))), (a3 8, .inl (cI, 2, .inl (ma N16 8))), (a3 9, .inl (cI, 2, .inl (ma N16 9))), (a1 2, .inr (4, [.int (mg M4 0), .ref (a4 1), .ref (a4 2), .ref (a4 3)])), (a4 1, .inl (cI, 6, .inl (ma M4 1))), (a4 2, .inl (cI, 6, .inl (ma M4 2))), (a4 3, .inl (cI, 6, .inl (ma M4 3))), (a0 6, .inr (1, [.int (mg M5 0), .ref (a5 1), .int (mg M5 2), .ref (a5 3), .int (mg M5 4), .ref (a5 5)])), (a5 1, .inl (cI, 4, .inl (ma M5 1))), (a5 3, .inl (cI, 4, .inl (ma M5 3))), (a5 5, .inl (cI, 2, .inl (ma M5 5))), (a0 7, .inr (6, [.int (mg N15 0), .int (mg N15 1), .int (mg N15 2), .int (mg N15 3), .int (mg N15 4), .int (mg N15 5), .int (mg N15 6), .ref (a6 7), .ref (a6 8), .ref (a6 9)])), (a6 7, .inl (cI, 2, .inl (ma N15 7))), (a6 8, .inl (cI, 2, .inl (ma N15 8))), (a6 9, .inl (cI, 2, .inl (ma N15 9))), (a0 8, .inr (0, [.ref (a7 0), .ref (a7 1), .ref (a7 2), .ref (a7 3), .int (mg M7 4), va_rf o7, .int (mg M7 6), .int (mg M7 7), .int (mg M7 8), .int (mg M7 9), .int (mg M7 10)])), (a7 0, .inl (cJ, 15, .inr (.inl (ml M7 0)))), (a7 1, .inl (cJ, 800, .inr (.inl (ml M7 1)))), (a7 2, .inl (cI, 4, .inl (ma M7 2))), (a7 3, .inl (cJ, 4, .inr (.inl (ml M7 3)))), (a0 9, .inr (5, [.ref (a8 0), .ref (a8 1), va_rf o8, .int (mg M8 3)])), (a8 0, .inl (cI, 2048, .inl (ma M8 0))), (a8 1, .inl (cI, 2048, .inl (ma M8 1))), (a0 10, .inr (3, [.int (mg M9 0), .int (mg M9 1), .int (mg M9 2), .int (mg M9 3), .int (mg M9 4)]))]) (w1 := (rlW cB cI cJ cZ cR cS h0 a0 N21 v22)) hP hD [0, 1, 2, 34] [3, 4, 5, 6, 7, 8, 9, 10, 11, 12, 13, 14, 15, 16, 17, 18, 19, 20, 21, 22, 23, 24, 25, 26, 27, 28, 29, 30, 31, 32, 33] rfl rfl (by decide) (by decide) hk1 hFc hP1 hD1
              have hP := hP.sub (ws' := (x0W cB cI cJ cZ cR cS h0 a0 a1 a2 a3 a4 a5 a6 a7 o7 a8 o8 a9 N21 M1 M2 N16 M4 M5 N15 M7 M8 M9 v22)) [31, 32, 33, 0, 1, 2, 3, 4, 5, 6, 7, 8, 9, 10, 11, 12, 13, 14, 15, 16, 17, 18, 19, 20, 21, 22, 23, 24, 25, 26, 27, 28, 29, 30, 34] rfl
              have hD := hD.sub (ws' := (x0W cB cI cJ cZ cR cS h0 a0 a1 a2 a3 a4 a5 a6 a7 o7 a8 o8 a9 N21 M1 M2 N16 M4 M5 N15 M7 M8 M9 v22)) [31, 32, 33, 0, 1, 2, 3, 4, 5, 6, 7, 8, 9, 10, 11, 12, 13, 14, 15, 16, 17, 18, 19, 20, 21, 22, 23, 24, 25, 26, 27, 28, 29, 30, 34] (by decide) rfl
              generalize H1 = H at hP hS ⊢
              have h := hw
              try dsimp only at h
              obtain ⟨ehQ23, hQ23⟩ := h
              subst ehQ23
              have h := hQ23
              obtain ⟨ehQ24, hQ24⟩ := h
              subst ehQ24
              have h := hQ24
              have hPc := hP.sub (ws' := (qcW cB cI cJ cZ (a0 7) a6 (a1 0) a2 N15 M2)) [21, 22, 23, 24, 5, 6, 7, 8] rfl
              have hDc := hD.sub (ws' := (qcW cB cI cJ cZ (a0 7) a6 (a1 0) a2 N15 M2)) [21, 22, 23, 24, 5, 6, 7, 8] (by decide) rfl
              have hFc := va_free (wc := (qcW cB cI cJ cZ (a0 7) a6 (a1 0) a2 N15 M2)) hD hS hA [21, 22, 23, 24, 5, 6, 7, 8] rfl
              refine va_callv (va_runV (As := [.ref (a1 0), .null, .null]) (rest := []) ⟨hx, hb, hml, hown, hts⟩ (kX6_goByRulesnn l dC dI cB cI cJ cZ (a0 7) a6 (a1 0) a2 H.size  N15 M2 _ h) (cwV 3 hts gX11_would_X6_goByRules rfl rfl rfl (by decide +kernel) ⟨Nat.le_of_ble_eq_true rfl, Nat.le_of_ble_eq_true rfl⟩) (qcpV hK0 hPc hDc) rfl rfl hl.1 rfl (lv_room (Nat.le_of_ble_eq_true rfl)) dX11_would_79 ⟨Nat.le_of_ble_eq_true rfl, Nat.le_of_ble_eq_true rfl⟩) hS (fun q _ z => hFc q z) hFc (fun u t H1 locs ht hvm hw hB hz1 hk1 hS => ?_)
              obtain ⟨N26, N27⟩ := u
              obtain ⟨hP1, hK1, hD1⟩ := hB
              rw [ht] at hP1
              obtain ⟨hP, hD⟩ := va_join (wr := [(h0, .inr (11, [.ref (a0 0), .int (mg N21 1), .ref (a0 2), .int (mg N21 3), .ref (a0 4), .ref (a0 5), .ref (a0 6), .ref (a0 7), .ref (a0 8), .ref (a0 9), .ref (a0 10), .ref (a0 11)])), (a0 0, .inl (cI, 400, .inl (ma N21 0))), (a0 11, .inl (cJ, 4, .inr (.inl (ml N21 11)))), (a0 4, .inr (10, [.ref (a1 0), .ref (a1 1), .ref (a1 2), .ref (a1 3), .int (mg M1 4)])), (a1 3, .inl (cI, 2, .inl (ma M1 3))), (a1 1, .inr (6, [.int (mg N16 0), .int (mg N16 1), .int (mg N16 2), .int (mg N16 3), .int (mg N16 4), .int (mg N16 5), .int (mg N16 6), .ref (a3 7), .ref (a3 8), .ref (a3 9)])), (a3 7, .inl (cI, 2, .inl (ma N16 7))), (a3 8, .inl (cI, 2, .inl (ma N16 8))), (a3 9, .inl (cI, 2, .inl (ma N16 9))), (a1 2, .inr (4, [.int (mg M4 0), .ref (a4 1), .ref (a4 2), .ref (a4 3)])), (a4 1, .inl (cI, 6, .inl (ma M4 1))), (a4 2, .inl (cI, 6, .inl (ma M4 2))), (a4 3, .inl (cI, 6, .inl (ma M4 3))), (a0 6, .inr (1, [.int (mg M5 0), .ref (a5 1), .int (mg M5 2), .ref (a5 3), .int (mg M5 4), .ref (a5 5)])), (a5 1, .inl (cI, 4, .inl (ma M5 1))), (a5 3, .inl (cI, 4, .inl (ma M5 3))), (a5 5, .inl (cI, 2, .inl (ma M5 5))), (a0 8, .inr (0, [.ref (a7 0), .ref (a7 1), .ref (a7 2), .ref (a7 3), .int (mg M7 4), va_rf o7, .int (mg M7 6), .int (mg M7 7), .int (mg M7 8), .int (mg M7 9), .int (mg M7 10)])), (a7 0, .inl (cJ, 15, .inr (.inl (ml M7 0)))), (a7 1, .inl (cJ, 800, .inr (.inl (ml M7 1)))), (a7 2, .inl (cI, 4, .inl (ma M7 2))), (a7 3, .inl (cJ, 4, .inr (.inl (ml M7 3)))), (a0 9, .inr (5, [.ref (a8 0), .ref (a8 1), va_rf o8, .int (mg M8 3)])), (a8 0, .inl (cI, 2048, .inl (ma M8 0))), (a8 1, .inl (cI, 2048, .inl (ma M8 1))), (a0 10, .inr (3, [.int (mg M9 0), .int (mg M9 1), .int (mg M9 2), .int (mg M9 3), .int (mg M9 4)])), (a0 2, .inl (cR, 6, .inr (.inr (.inr (.inr v22)))))]) (w1 := (qcW cB cI cJ cZ (a0 7) a6 (a1 0) a2 N26 N27)) hP hD [21, 22, 23, 24, 5, 6, 7, 8] [0, 1, 2, 3, 4, 9, 10, 11, 12, 13, 14, 15, 16, 17, 18, 19, 20, 25, 26, 27, 28, 29, 30, 31, 32, 33, 34] rfl rfl (by decide) (by decide) hk1 hFc hP1 hD1
              have hP := hP.sub (ws' := (x0W cB cI cJ cZ cR cS h0 a0 a1 a2 a3 a4 a5 a6 a7 o7 a8 o8 a9 N21 M1 N27 N16 M4 M5 N26 M7 M8 M9 v22)) [0, 1, 2, 3, 4, 31, 32, 33, 34, 5, 6, 7, 8, 9, 10, 11, 12, 13, 14, 15, 16, 27, 28, 29, 30, 17, 18, 19, 20, 21, 22, 23, 24, 25, 26] rfl
              have hD := hD.sub (ws' := (x0W cB cI cJ cZ cR cS h0 a0 a1 a2 a3 a4 a5 a6 a7 o7 a8 o8 a9 N21 M1 N27 N16 M4 M5 N26 M7 M8 M9 v22)) [0, 1, 2, 3, 4, 31, 32, 33, 34, 5, 6, 7, 8, 9, 10, 11, 12, 13, 14, 15, 16, 27, 28, 29, 30, 17, 18, 19, 20, 21, 22, 23, 24, 25, 26] (by decide) rfl
              generalize H1 = H at hP hS ⊢
              have h := hw
              try dsimp only at h
              refine lv_iload_n hx hb dX11_would_82 rfl (lv_at hl 3 rfl) ?_
              by_cases c28 : p3 = (0 : Int32)
              · have h := h.1 c28
                refine lv_tableIn (tgt := 108) hx hb dX11_would_83 (by rw [c28]; decide) (by rw [c28]; decide) (by rw [c28]; rfl) (by decide) ?_
                refine lv_aload_n hx hb dX11_would_108 rfl (lv_at hl 0 rfl) ?_
                refine va_get (D := (dC, dI)) (ci := 11) (v := .ref (a0 7)) (C := RX11) (T := TX11) (N := 12) hx hb hts hinX11 hown hK hP 0 rfl rfl 7 (by decide) f4 (fun _ h9 => h9) rfl dX11_would_109 ?_
                refine va_get (D := (dC, dI)) (ci := 6) (v := .int (mg N26 6)) (C := RX6) (T := TX6) (N := 10) hx hb hts hinX6 hown hK hP 21 rfl rfl 6 (by decide) f6 (fun _ h9 => h9) rfl dX11_would_112 ?_
                exact W.iret (v := (mg N26 6)) hx hb hr (fun t ht hW => ⟨⟨_, (N21, M1, N27, N16, M4, M5, N26, M7, M8, M9, v22), rfl, h, o7, o8, by rw [ht]; exact hP, va_K.moved hW.alike hK, hD⟩, hS.F ht⟩) hS.2.2 dX11_would_115
              have h := h.2 c28
              by_cases c29 : p3 = (1 : Int32)
              · have h := h.1 c29
                refine lv_tableIn (tgt := 116) hx hb dX11_would_83 (by rw [c29]; decide) (by rw [c29]; decide) (by rw [c29]; rfl) (by decide) ?_
                refine lv_aload_n hx hb dX11_would_116 rfl (lv_at hl 0 rfl) ?_
                refine va_get (D := (dC, dI)) (ci := 11) (v := .ref (a0 7)) (C := RX11) (T := TX11) (N := 12) hx hb hts hinX11 hown hK hP 0 rfl rfl 7 (by decide) f4 (fun _ h9 => h9) rfl dX11_would_117 ?_
                refine va_get (D := (dC, dI)) (ci := 6) (v := .int (mg N26 4)) (C := RX6) (T := TX6) (N := 10) hx hb hts hinX6 hown hK hP 21 rfl rfl 4 (by decide) f7 (fun _ h9 => h9) rfl dX11_would_120 ?_
                refine lv_aload_n hx hb dX11_would_123 rfl (lv_at hl 0 rfl) ?_
                refine va_get (D := (dC, dI)) (ci := 11) (v := .ref (a0 4)) (C := RX11) (T := TX11) (N := 12) hx hb hts hinX11 hown hK hP 0 rfl rfl 4 (by decide) f1 (fun _ h9 => h9) rfl dX11_would_124 ?_
                refine va_get (D := (dC, dI)) (ci := 10) (v := .ref (a1 1)) (C := RX10) (T := TX10) (N := 5) hx hb hts hinX10 hown hK hP 3 rfl rfl 1 (by decide) f2 (fun _ h9 => h9) rfl dX11_would_127 ?_
                refine va_get (D := (dC, dI)) (ci := 6) (v := .int (mg N16 4)) (C := RX6) (T := TX6) (N := 10) hx hb hts hinX6 hown hK hP 9 rfl rfl 4 (by decide) f7 (fun _ h9 => h9) rfl dX11_would_130 ?_
                refine lv_isub hx hb dX11_would_133 ?_
                exact W.iret (v := ((mg N26 4) - (mg N16 4))) hx hb hr (fun t ht hW => ⟨⟨_, (N21, M1, N27, N16, M4, M5, N26, M7, M8, M9, v22), rfl, h, o7, o8, by rw [ht]; exact hP, va_K.moved hW.alike hK, hD⟩, hS.F ht⟩) hS.2.2 dX11_would_134
              have h := h.2 c29
              by_cases c30 : p3 = (2 : Int32)
              · have h := h.1 c30
                refine lv_tableIn (tgt := 135) hx hb dX11_would_83 (by rw [c30]; decide) (by rw [c30]; decide) (by rw [c30]; rfl) (by decide) ?_
                refine lv_aload_n hx hb dX11_would_135 rfl (lv_at hl 0 rfl) ?_
                refine va_get (D := (dC, dI)) (ci := 11) (v := .ref (a0 7)) (C := RX11) (T := TX11) (N := 12) hx hb hts hinX11 hown hK hP 0 rfl rfl 7 (by decide) f4 (fun _ h9 => h9) rfl dX11_would_136 ?_
                refine va_get (D := (dC, dI)) (ci := 6) (v := .int (mg N26 5)) (C := RX6) (T := TX6) (N := 10) hx hb hts hinX6 hown hK hP 21 rfl rfl 5 (by decide) f8 (fun _ h9 => h9) rfl dX11_would_139 ?_
                refine lv_aload_n hx hb dX11_would_142 rfl (lv_at hl 0 rfl) ?_
                refine va_get (D := (dC, dI)) (ci := 11) (v := .ref (a0 4)) (C := RX11) (T := TX11) (N := 12) hx hb hts hinX11 hown hK hP 0 rfl rfl 4 (by decide) f1 (fun _ h9 => h9) rfl dX11_would_143 ?_
                refine va_get (D := (dC, dI)) (ci := 10) (v := .ref (a1 1)) (C := RX10) (T := TX10) (N := 5) hx hb hts hinX10 hown hK hP 3 rfl rfl 1 (by decide) f2 (fun _ h9 => h9) rfl dX11_would_146 ?_
                refine va_get (D := (dC, dI)) (ci := 6) (v := .int (mg N16 5)) (C := RX6) (T := TX6) (N := 10) hx hb hts hinX6 hown hK hP 9 rfl rfl 5 (by decide) f8 (fun _ h9 => h9) rfl dX11_would_149 ?_
                refine lv_isub hx hb dX11_would_152 ?_
                exact W.iret (v := ((mg N26 5) - (mg N16 5))) hx hb hr (fun t ht hW => ⟨⟨_, (N21, M1, N27, N16, M4, M5, N26, M7, M8, M9, v22), rfl, h, o7, o8, by rw [ht]; exact hP, va_K.moved hW.alike hK, hD⟩, hS.F ht⟩) hS.2.2 dX11_would_153
              have h := h.2 c30
              refine lv_tableOut (tgt := 154) hx hb dX11_would_83 (by have qc28 : p3.toInt ≠ 0 := fun q => c28 (Int32.toInt_inj.mp (q.trans (by decide))); have qc29 : p3.toInt ≠ 1 := fun q => c29 (Int32.toInt_inj.mp (q.trans (by decide))); have qc30 : p3.toInt ≠ 2 := fun q => c30 (Int32.toInt_inj.mp (q.trans (by decide))); omega) (by decide) ?_
              refine lv_aload_n hx hb dX11_would_154 rfl (lv_at hl 0 rfl) ?_
              refine va_get (D := (dC, dI)) (ci := 11) (v := .ref (a0 7)) (C := RX11) (T := TX11) (N := 12) hx hb hts hinX11 hown hK hP 0 rfl rfl 7 (by decide) f4 (fun _ h9 => h9) rfl dX11_would_155 ?_
              refine va_get (D := (dC, dI)) (ci := 6) (v := .int (mg N26 2)) (C := RX6) (T := TX6) (N := 10) hx hb hts hinX6 hown hK hP 21 rfl rfl 2 (by decide) f9 (fun _ h9 => h9) rfl dX11_would_158 ?_
              exact W.iret (v := (mg N26 2)) hx hb hr (fun t ht hW => ⟨⟨_, (N21, M1, N27, N16, M4, M5, N26, M7, M8, M9, v22), rfl, h, o7, o8, by rw [ht]; exact hP, va_K.moved hW.alike hK, hD⟩, hS.F ht⟩) hS.2.2 dX11_would_161
            · have h := h.2 c13
              refine lv_bipush (v := (-2)) hx hb dX11_would_41 (by decide) ?_
              exact W.iret (v := (-2 : Int32)) hx hb hr (fun t ht hW => ⟨⟨_, (N8, M1, M2, M3, M4, M5, M6, M7, M8, M9, v9), rfl, h, o7, o8, by rw [ht]; exact hP, va_K.moved hW.alike hK, hD⟩, hS.F ht⟩) hS.2.2 dX11_would_43
        · have h := h.1 c11
          refine lv_bipush (v := (-2)) hx hb dX11_would_29 (by decide) ?_
          exact W.iret (v := (-2 : Int32)) hx hb hr (fun t ht hW => ⟨⟨_, (N8, M1, M2, M3, M4, M5, M6, M7, M8, M9, v9), rfl, h, o7, o8, by rw [ht]; exact hP, va_K.moved hW.alike hK, hD⟩, hS.F ht⟩) hS.2.2 dX11_would_31
  have hl := lv_entry ([.ref h0, .int p1, .int p2, .int p3]) (n := 4) (Nat.le_of_ble_eq_true rfl)
  rw [lg_entry_eq]
  generalize (lg_sl ([.ref h0, .int p1, .int p2, .int p3]) ++ List.replicate (4 - (lg_sl ([.ref h0, .int p1, .int p2, .int p3])).length) Slot.unset).toArray = ls at hl ⊢
  have hl : lv_has ls 4 [(0, .ref h0), (1, .int p1), (2, .int p2), (3, .int p3)] := hl
  exact bE M0 M1 M2 M3 M4 M5 M6 M7 M8 M9 F10 s.heap [] ls hP hD hS hl h
def wX11_wouldan (h11 : Nat) (p1 : Int32) (p2 : Int32) (p3 : Int32) (M0 : gS) (M1 : gS) (M2 : gS) (M3 : gS) (M4 : gS) (M5 : gS) (M6 : gS) (M7 : gS) (M8 : gS) (M9 : gS) (F10 : oF) (M11 : gS) (Q : Int32 → gS → gS → gS → gS → gS → gS → gS → gS → gS → gS → oF → gS → Prop) : Prop :=
 (((mg M3 0) = 0 → (Q (-2 : Int32) M0 M1 M2 M3 M4 M5 M6 M7 M8 M9 F10 M11))
 ∧ (¬ (mg M3 0) = 0 → (wX11_isRuleOrNone p1 M0 F10 (fun (b5 : Bool) (N3 : gS) (v4 : oF) => (((bI b5) = 0 → (Q (-2 : Int32) N3 M1 M2 M3 M4 M5 M6 M7 M8 M9 v4 M11))
 ∧ (¬ (bI b5) = 0 → (wX11_isRuleOrNone p2 N3 v4 (fun (b10 : Bool) (N8 : gS) (v9 : oF) => (((bI b10) = 0 → (Q (-2 : Int32) N8 M1 M2 M3 M4 M5 M6 M7 M8 M9 v9 M11))
 ∧ (¬ (bI b10) = 0 → ((p3 < 0 → (Q (-2 : Int32) N8 M1 M2 M3 M4 M5 M6 M7 M8 M9 v9 M11))
 ∧ (¬ p3 < 0 → ((p3 ≤ (3 : Int32) → (wX6_copyFrom  M6 M3 (fun (N15 : gS) (N16 : gS) => (wX11_ruleAt p1 N8 v9 (fun (r17 : Option Nat) (N18 : gS) (v19 : oF) => (wX11_ruleAt p2 N18 v19 (fun (r20 : Option Nat) (N21 : gS) (v22 : oF) => (r17 = some h11 ∧ (r20 = none ∧ (wX6_goByRulesan  N15 M2 M11 (fun (N26 : gS) (N27 : gS) (N28 : gS) => ((p3 = (0 : Int32) → (Q (mg N26 6) N21 M1 N27 N16 M4 M5 N26 M7 M8 M9 v22 N28))
 ∧ (¬ p3 = (0 : Int32) → ((p3 = (1 : Int32) → (Q ((mg N26 4) - (mg N16 4)) N21 M1 N27 N16 M4 M5 N26 M7 M8 M9 v22 N28))
 ∧ (¬ p3 = (1 : Int32) → ((p3 = (2 : Int32) → (Q ((mg N26 5) - (mg N16 5)) N21 M1 N27 N16 M4 M5 N26 M7 M8 M9 v22 N28))
 ∧ (¬ p3 = (2 : Int32) → (Q (mg N26 2) N21 M1 N27 N16 M4 M5 N26 M7 M8 M9 v22 N28))))))))))))))))))
 ∧ (¬ p3 ≤ (3 : Int32) → (Q (-2 : Int32) N8 M1 M2 M3 M4 M5 M6 M7 M8 M9 v9 M11)))))))))))))))
def rmX11_wouldan : Room := { frames := 5, cells := 0, slots := 0, locals := 124 }
set_option maxHeartbeats 4000000 in
set_option maxRecDepth 100000 in
theorem kX11_wouldan (l : Launch) (dC : Nat → ClassId) (dI : Nat → Nat → Nat) (cB cI cJ cZ cR cS : ClassId) (h0 : Nat) (a0 : Nat → Nat) (a1 : Nat → Nat) (a2 : Nat → Nat) (a3 : Nat → Nat) (a4 : Nat → Nat) (a5 : Nat → Nat) (a6 : Nat → Nat) (a7 : Nat → Nat) (o7 : Option Nat) (a8 : Nat → Nat) (o8 : Option Nat) (a9 : Nat → Nat) (h11 : Nat) (a11 : Nat → Nat) (sz : Nat) (p1 : Int32) (p2 : Int32) (p3 : Int32) (M0 : gS) (M1 : gS) (M2 : gS) (M3 : gS) (M4 : gS) (M5 : gS) (M6 : gS) (M7 : gS) (M8 : gS) (M9 : gS) (F10 : oF) (M11 : gS) (Q : Int32 → gS → gS → gS → gS → gS → gS → gS → gS → gS → gS → oF → gS → Prop) (h : wX11_wouldan h11 p1 p2 p3 M0 M1 M2 M3 M4 M5 M6 M7 M8 M9 F10 M11 Q) : Met l yX11_would wsX11_would rmX11_wouldan (va_Pc [.ref h0, .int p1, .int p2, .int p3] (x1I dC dI cB cI cJ cZ cR cS h0 a0 a1 a2 a3 a4 a5 a6 a7 o7 a8 o8 a9 h11 a11 M0 M1 M2 M3 M4 M5 M6 M7 M8 M9 F10 M11 sz)) (va_Qi (fun (r : Int32) (u : gS × gS × gS × gS × gS × gS × gS × gS × gS × gS × oF × gS) => Q r u.1 u.2.1 u.2.2.1 u.2.2.2.1 u.2.2.2.2.1 u.2.2.2.2.2.1 u.2.2.2.2.2.2.1 u.2.2.2.2.2.2.2.1 u.2.2.2.2.2.2.2.2.1 u.2.2.2.2.2.2.2.2.2.1 u.2.2.2.2.2.2.2.2.2.2.1 u.2.2.2.2.2.2.2.2.2.2.2) (x1B dC dI cB cI cJ cZ cR cS h0 a0 a1 a2 a3 a4 a5 a6 a7 a8 a9 h11 a11 (va_A (x1W cB cI cJ cZ cR cS h0 a0 a1 a2 a3 a4 a5 a6 a7 o7 a8 o8 a9 h11 a11 M0 M1 M2 M3 M4 M5 M6 M7 M8 M9 F10 M11) sz)) (va_A (x1W cB cI cJ cZ cR cS h0 a0 a1 a2 a3 a4 a5 a6 a7 o7 a8 o8 a9 h11 a11 M0 M1 M2 M3 M4 M5 M6 M7 M8 M9 F10 M11) sz)) 0 0 (va_A (x1W cB cI cJ cZ cR cS h0 a0 a1 a2 a3 a4 a5 a6 a7 o7 a8 o8 a9 h11 a11 M0 M1 M2 M3 M4 M5 M6 M7 M8 M9 F10 M11) sz) := by
  refine Met.ofW (cc := cX11_would) (maxL := 4) (ret := (some .int)) (by decide) rfl ?_
  intro p e s m args below meth c s₁ B hml hv
  obtain ⟨rfl, hsz, hP, hK, hD0⟩ := hv
  have hx := B.exec
  have hb := B.bytes
  have hr := B.returns
  have hts := atoms_spec (ws := wsX11_would) B.pre
  have hown : s.vm.findClass RX11 = some m.cls := findClass_of_methodNamed B.named
  have hlocks := B.notSynchronized
  subst hsz
  have hD := hD0.self (sz := s.heap.size)
  generalize hAe : va_A (x1W cB cI cJ cZ cR cS h0 a0 a1 a2 a3 a4 a5 a6 a7 o7 a8 o8 a9 h11 a11 M0 M1 M2 M3 M4 M5 M6 M7 M8 M9 F10 M11) s.heap.size = A at hD ⊢
  have hA : ∀ q : Nat, s.heap.size ≤ q → A q := fun q h => by rw [← hAe]; exact Or.inr h
  have hS : va_S A s.heap s.heap [] := va_S.rf
  have hK0 : va_K (dC, dI) vwCl (gT cB cI cJ cZ) s := hK.sub (tys' := gT cB cI cJ cZ) [0, 1, 2, 3] rfl
  have hinX10 : ∀ w ∈ wsX100, w ∈ wsX11_would := by decide +kernel
  have hinX11 : ∀ w ∈ wsX110, w ∈ wsX11_would := by decide +kernel
  have hinX6 : ∀ w ∈ wsX60, w ∈ wsX11_would := by decide +kernel
  have f1 := hts (.fieldLink RX11 22 "LastWords" "now" "LLastWords$State;") (by decide +kernel)
  have f2 := hts (.fieldLink RX11 118 "LastWords$State" "quarrel" "LLastWords$Quarrel;") (by decide +kernel)
  have f3 := hts (.fieldLink RX11 149 "LastWords$Quarrel" "goesOn" "Z") (by decide +kernel)
  have f4 := hts (.fieldLink RX11 40 "LastWords" "trial" "LLastWords$Quarrel;") (by decide +kernel)
  have f5 := hts (.fieldLink RX11 108 "LastWords$State" "corner" "LLastWords$Corner;") (by decide +kernel)
  have f6 := hts (.fieldLink RX11 156 "LastWords$Quarrel" "winner" "I") (by decide +kernel)
  have f7 := hts (.fieldLink RX11 174 "LastWords$Quarrel" "moves" "I") (by decide +kernel)
  have f8 := hts (.fieldLink RX11 177 "LastWords$Quarrel" "hat" "I") (by decide +kernel)
  have f9 := hts (.fieldLink RX11 128 "LastWords$Quarrel" "left" "I") (by decide +kernel)
  have bE : ∀ (M0 : gS) (M1 : gS) (M2 : gS) (M3 : gS) (M4 : gS) (M5 : gS) (M6 : gS) (M7 : gS) (M8 : gS) (M9 : gS) (F10 : oF) (M11 : gS) (H : Heap) (locs : List Loc) (ls : Array Slot), va_P (dC, dI) vwCl (x1W cB cI cJ cZ cR cS h0 a0 a1 a2 a3 a4 a5 a6 a7 o7 a8 o8 a9 h11 a11 M0 M1 M2 M3 M4 M5 M6 M7 M8 M9 F10 M11) H → va_D A (x1W cB cI cJ cZ cR cS h0 a0 a1 a2 a3 a4 a5 a6 a7 o7 a8 o8 a9 h11 a11 M0 M1 M2 M3 M4 M5 M6 M7 M8 M9 F10 M11) → va_S A s.heap H locs → lv_has ls 4 [(0, .ref h0), (1, .int p1), (2, .int p2), (3, .int p3)] → wX11_wouldan h11 p1 p2 p3 M0 M1 M2 M3 M4 M5 M6 M7 M8 M9 F10 M11 Q → W p l e (headSpec wsX11_would rmX11_wouldan).room s m ([.ref h0, .int p1, .int p2, .int p3] : List Value).toArray below meth c H locs 0 0 (MQ below (va_Qi (fun (r : Int32) (u : gS × gS × gS × gS × gS × gS × gS × gS × gS × gS × oF × gS) => Q r u.1 u.2.1 u.2.2.1 u.2.2.2.1 u.2.2.2.2.1 u.2.2.2.2.2.1 u.2.2.2.2.2.2.1 u.2.2.2.2.2.2.2.1 u.2.2.2.2.2.2.2.2.1 u.2.2.2.2.2.2.2.2.2.1 u.2.2.2.2.2.2.2.2.2.2.1 u.2.2.2.2.2.2.2.2.2.2.2) (x1B dC dI cB cI cJ cZ cR cS h0 a0 a1 a2 a3 a4 a5 a6 a7 a8 a9 h11 a11 A) A) ([.ref h0, .int p1, .int p2, .int p3] : List Value).toArray s 0 0 A) (F0 m 0 ls []) := by
    intro M0 M1 M2 M3 M4 M5 M6 M7 M8 M9 F10 M11 H locs ls hP hD hS hl h
    unfold wX11_wouldan at h
    refine lv_aload_n hx hb dX11_would_0 rfl (lv_at hl 0 rfl) ?_
    refine va_get (D := (dC, dI)) (ci := 11) (v := .ref (a0 4)) (C := RX11) (T := TX11) (N := 12) hx hb hts hinX11 hown hK hP 0 rfl rfl 4 (by decide) f1 (fun _ h9 => h9) rfl dX11_would_1 ?_
    refine va_get (D := (dC, dI)) (ci := 10) (v := .ref (a1 1)) (C := RX10) (T := TX10) (N := 5) hx hb hts hinX10 hown hK hP 3 rfl rfl 1 (by decide) f2 (fun _ h9 => h9) rfl dX11_would_4 ?_
    refine va_get (D := (dC, dI)) (ci := 6) (v := .int (mg M3 0)) (C := RX6) (T := TX6) (N := 10) hx hb hts hinX6 hown hK hP 9 rfl rfl 0 (by decide) f3 (fun _ h9 => h9) rfl dX11_would_7 ?_
    refine lv_if_eq (tgt := 29) hx hb dX11_would_10 (by decide) (fun c1 => ?_) (fun c1 => ?_)
    · have h := h.1 c1
      refine lv_bipush (v := (-2)) hx hb dX11_would_29 (by decide) ?_
      exact W.iret (v := (-2 : Int32)) hx hb hr (fun t ht hW => ⟨⟨_, (M0, M1, M2, M3, M4, M5, M6, M7, M8, M9, F10, M11), rfl, h, o7, o8, by rw [ht]; exact hP, va_K.moved hW.alike hK, hD⟩, hS.F ht⟩) hS.2.2 dX11_would_31
    · have h := h.2 c1
      refine lv_aload_n hx hb dX11_would_13 rfl (lv_at hl 0 rfl) ?_
      refine lv_iload_n hx hb dX11_would_14 rfl (lv_at hl 1 rfl) ?_
      have hPc := hP.sub (ws' := (rlW cB cI cJ cZ cR cS h0 a0 M0 F10)) [0, 1, 2, 34] rfl
      have hDc := hD.sub (ws' := (rlW cB cI cJ cZ cR cS h0 a0 M0 F10)) [0, 1, 2, 34] (by decide) rfl
      have hFc := va_free (wc := (rlW cB cI cJ cZ cR cS h0 a0 M0 F10)) hD hS hA [0, 1, 2, 34] rfl
      refine va_calli (va_runV (As := [.int p1]) (rest := []) ⟨hx, hb, hml, hown, hts⟩ (kX11_isRuleOrNone l dC dI cB cI cJ cZ cR cS h0 a0 H.size p1 M0 F10 _ h) (cwV 1 hts gX11_would_X11_isRuleOrNone rfl rfl rfl (by decide +kernel) ⟨Nat.le_of_ble_eq_true rfl, Nat.le_of_ble_eq_true rfl⟩) (rlpV hK hPc hDc) rfl rfl hl.1 rfl (lv_room (Nat.le_of_ble_eq_true rfl)) dX11_would_15 ⟨Nat.le_of_ble_eq_true rfl, Nat.le_of_ble_eq_true rfl⟩) hS (fun q _ z => hFc q z) hFc (fun r2 u t H1 locs ht hvm hw hB hz1 hk1 hS => ?_)
      obtain ⟨N3, v4⟩ := u
      obtain ⟨hP1, hK1, hD1⟩ := hB
      rw [ht] at hP1
      obtain ⟨hP, hD⟩ := va_join (wr := [(a0 4, .inr (10, [.ref (a1 0), .ref (a1 1), .ref (a1 2), .ref (a1 3), .int (mg M1 4)])), (a1 3, .inl (cI, 2, .inl (ma M1 3))), (a1 0, .inr (1, [.int (mg M2 0), .ref (a2 1), .int (mg M2 2), .ref (a2 3), .int (mg M2 4), .ref (a2 5)])), (a2 1, .inl (cI, 4, .inl (ma M2 1))), (a2 3, .inl (cI, 4, .inl (ma M2 3))), (a2 5, .inl (cI, 2, .inl (ma M2 5))), (a1 1, .inr (6, [.int (mg M3 0), .int (mg M3 1), .int (mg M3 2), .int (mg M3 3), .int (mg M3 4), .int (mg M3 5), .int (mg M3 6), .ref (a3 7), .ref (a3 8), .ref (a3 9)])), (a3 7, .inl (cI, 2, .inl (ma M3 7))), (a3 8, .inl (cI, 2, .inl (ma M3 8))), (a3 9, .inl (cI, 2, .inl (ma M3 9))), (a1 2, .inr (4, [.int (mg M4 0), .ref (a4 1), .ref (a4 2), .ref (a4 3)])), (a4 1, .inl (cI, 6, .inl (ma M4 1))), (a4 2, .inl (cI, 6, .inl (ma M4 2))), (a4 3, .inl (cI, 6, .inl (ma M4 3))), (a0 6, .inr (1, [.int (mg M5 0), .ref (a5 1), .int (mg M5 2), .ref (a5 3), .int (mg M5 4), .ref (a5 5)])), (a5 1, .inl (cI, 4, .inl (ma M5 1))), (a5 3, .inl (cI, 4, .inl (ma M5 3))), (a5 5, .inl (cI, 2, .inl (ma M5 5))), (a0 7, .inr (6, [.int (mg M6 0), .int (mg M6 1), .int (mg M6 2), .int (mg M6 3), .int (mg M6 4), .int (mg M6 5), .int (mg M6 6), .ref (a6 7), .ref (a6 8), .ref (a6 9)])), (a6 7, .inl (cI, 2, .inl (ma M6 7))), (a6 8, .inl (cI, 2, .inl (ma M6 8))), (a6 9, .inl (cI, 2, .inl (ma M6 9))), (a0 8, .inr (0, [.ref (a7 0), .ref (a7 1), .ref (a7 2), .ref (a7 3), .int (mg M7 4), va_rf o7, .int (mg M7 6), .int (mg M7 7), .int (mg M7 8), .int (mg M7 9), .int (mg M7 10)])), (a7 0, .inl (cJ, 15, .inr (.inl (ml M7 0)))), (a7 1, .inl (cJ, 800, .inr (.inl (ml M7 1)))), (a7 2, .inl (cI, 4, .inl (ma M7 2))), (a7 3, .inl (cJ, 4, .inr (.inl (ml M7 3)))), (a0 9, .inr (5, [.ref (a8 0), .ref (a8 1), va_rf o8, .int (mg M8 3)])), (a8 0, .inl (cI, 2048, .inl (ma M8 0))), (a8 1, .inl (cI, 2048, .inl (ma M8 1))), (a0 10, .inr (3, [.int (mg M9 0), .int (mg M9 1), .int (mg M9 2), .int (mg M9 3), .int (mg M9 4)])), (h11, .inr (8, [.int (mg M11 0), .ref (a11 1), .ref (a11 2), .ref (a11 3), .int (mg M11 4), .ref (a11 5)])), (a11 1, .inl (cI, 12, .inl (ma M11 1))), (a11 2, .inl (cI, 12, .inl (ma M11 2))), (a11 3, .inl (cI, 400, .inl (ma M11 3))), (a11 5, .inl (cJ, 60, .inr (.inl (ml M11 5))))]) (w1 := (rlW cB cI cJ cZ cR cS h0 a0 N3 v4)) hP hD [0, 1, 2, 34] [3, 4, 5, 6, 7, 8, 9, 10, 11, 12, 13, 14, 15, 16, 17, 18, 19, 20, 21, 22, 23, 24, 25, 26, 27, 28, 29, 30, 31, 32, 33, 35, 36, 37, 38, 39] rfl rfl (by decide) (by decide) hk1 hFc hP1 hD1
      have hP := hP.sub (ws' := (x1W cB cI cJ cZ cR cS h0 a0 a1 a2 a3 a4 a5 a6 a7 o7 a8 o8 a9 h11 a11 N3 M1 M2 M3 M4 M5 M6 M7 M8 M9 v4 M11)) [36, 37, 38, 0, 1, 2, 3, 4, 5, 6, 7, 8, 9, 10, 11, 12, 13, 14, 15, 16, 17, 18, 19, 20, 21, 22, 23, 24, 25, 26, 27, 28, 29, 30, 39, 31, 32, 33, 34, 35] rfl
      have hD := hD.sub (ws' := (x1W cB cI cJ cZ cR cS h0 a0 a1 a2 a3 a4 a5 a6 a7 o7 a8 o8 a9 h11 a11 N3 M1 M2 M3 M4 M5 M6 M7 M8 M9 v4 M11)) [36, 37, 38, 0, 1, 2, 3, 4, 5, 6, 7, 8, 9, 10, 11, 12, 13, 14, 15, 16, 17, 18, 19, 20, 21, 22, 23, 24, 25, 26, 27, 28, 29, 30, 39, 31, 32, 33, 34, 35] (by decide) rfl
      generalize H1 = H at hP hS ⊢
      obtain ⟨b5, rfl, h⟩ := hw
      try dsimp only at h
      refine lv_if_eq (tgt := 29) hx hb dX11_would_18 (by decide) (fun c6 => ?_) (fun c6 => ?_)
      · have h := h.1 c6
        refine lv_bipush (v := (-2)) hx hb dX11_would_29 (by decide) ?_
        exact W.iret (v := (-2 : Int32)) hx hb hr (fun t ht hW => ⟨⟨_, (N3, M1, M2, M3, M4, M5, M6, M7, M8, M9, v4, M11), rfl, h, o7, o8, by rw [ht]; exact hP, va_K.moved hW.alike hK, hD⟩, hS.F ht⟩) hS.2.2 dX11_would_31
      · have h := h.2 c6
        refine lv_aload_n hx hb dX11_would_21 rfl (lv_at hl 0 rfl) ?_
        refine lv_iload_n hx hb dX11_would_22 rfl (lv_at hl 2 rfl) ?_
        have hPc := hP.sub (ws' := (rlW cB cI cJ cZ cR cS h0 a0 N3 v4)) [0, 1, 2, 34] rfl
        have hDc := hD.sub (ws' := (rlW cB cI cJ cZ cR cS h0 a0 N3 v4)) [0, 1, 2, 34] (by decide) rfl
        have hFc := va_free (wc := (rlW cB cI cJ cZ cR cS h0 a0 N3 v4)) hD hS hA [0, 1, 2, 34] rfl
        refine va_calli (va_runV (As := [.int p2]) (rest := []) ⟨hx, hb, hml, hown, hts⟩ (kX11_isRuleOrNone l dC dI cB cI cJ cZ cR cS h0 a0 H.size p2 N3 v4 _ h) (cwV 1 hts gX11_would_X11_isRuleOrNone rfl rfl rfl (by decide +kernel) ⟨Nat.le_of_ble_eq_true rfl, Nat.le_of_ble_eq_true rfl⟩) (rlpV hK hPc hDc) rfl rfl hl.1 rfl (lv_room (Nat.le_of_ble_eq_true rfl)) dX11_would_23 ⟨Nat.le_of_ble_eq_true rfl, Nat.le_of_ble_eq_true rfl⟩) hS (fun q _ z => hFc q z) hFc (fun r7 u t H1 locs ht hvm hw hB hz1 hk1 hS => ?_)
        obtain ⟨N8, v9⟩ := u
        obtain ⟨hP1, hK1, hD1⟩ := hB
        rw [ht] at hP1
        obtain ⟨hP, hD⟩ := va_join (wr := [(a0 4, .inr (10, [.ref (a1 0), .ref (a1 1), .ref (a1 2), .ref (a1 3), .int (mg M1 4)])), (a1 3, .inl (cI, 2, .inl (ma M1 3))), (a1 0, .inr (1, [.int (mg M2 0), .ref (a2 1), .int (mg M2 2), .ref (a2 3), .int (mg M2 4), .ref (a2 5)])), (a2 1, .inl (cI, 4, .inl (ma M2 1))), (a2 3, .inl (cI, 4, .inl (ma M2 3))), (a2 5, .inl (cI, 2, .inl (ma M2 5))), (a1 1, .inr (6, [.int (mg M3 0), .int (mg M3 1), .int (mg M3 2), .int (mg M3 3), .int (mg M3 4), .int (mg M3 5), .int (mg M3 6), .ref (a3 7), .ref (a3 8), .ref (a3 9)])), (a3 7, .inl (cI, 2, .inl (ma M3 7))), (a3 8, .inl (cI, 2, .inl (ma M3 8))), (a3 9, .inl (cI, 2, .inl (ma M3 9))), (a1 2, .inr (4, [.int (mg M4 0), .ref (a4 1), .ref (a4 2), .ref (a4 3)])), (a4 1, .inl (cI, 6, .inl (ma M4 1))), (a4 2, .inl (cI, 6, .inl (ma M4 2))), (a4 3, .inl (cI, 6, .inl (ma M4 3))), (a0 6, .inr (1, [.int (mg M5 0), .ref (a5 1), .int (mg M5 2), .ref (a5 3), .int (mg M5 4), .ref (a5 5)])), (a5 1, .inl (cI, 4, .inl (ma M5 1))), (a5 3, .inl (cI, 4, .inl (ma M5 3))), (a5 5, .inl (cI, 2, .inl (ma M5 5))), (a0 7, .inr (6, [.int (mg M6 0), .int (mg M6 1), .int (mg M6 2), .int (mg M6 3), .int (mg M6 4), .int (mg M6 5), .int (mg M6 6), .ref (a6 7), .ref (a6 8), .ref (a6 9)])), (a6 7, .inl (cI, 2, .inl (ma M6 7))), (a6 8, .inl (cI, 2, .inl (ma M6 8))), (a6 9, .inl (cI, 2, .inl (ma M6 9))), (a0 8, .inr (0, [.ref (a7 0), .ref (a7 1), .ref (a7 2), .ref (a7 3), .int (mg M7 4), va_rf o7, .int (mg M7 6), .int (mg M7 7), .int (mg M7 8), .int (mg M7 9), .int (mg M7 10)])), (a7 0, .inl (cJ, 15, .inr (.inl (ml M7 0)))), (a7 1, .inl (cJ, 800, .inr (.inl (ml M7 1)))), (a7 2, .inl (cI, 4, .inl (ma M7 2))), (a7 3, .inl (cJ, 4, .inr (.inl (ml M7 3)))), (a0 9, .inr (5, [.ref (a8 0), .ref (a8 1), va_rf o8, .int (mg M8 3)])), (a8 0, .inl (cI, 2048, .inl (ma M8 0))), (a8 1, .inl (cI, 2048, .inl (ma M8 1))), (a0 10, .inr (3, [.int (mg M9 0), .int (mg M9 1), .int (mg M9 2), .int (mg M9 3), .int (mg M9 4)])), (h11, .inr (8, [.int (mg M11 0), .ref (a11 1), .ref (a11 2), .ref (a11 3), .int (mg M11 4), .ref (a11 5)])), (a11 1, .inl (cI, 12, .inl (ma M11 1))), (a11 2, .inl (cI, 12, .inl (ma M11 2))), (a11 3, .inl (cI, 400, .inl (ma M11 3))), (a11 5, .inl (cJ, 60, .inr (.inl (ml M11 5))))]) (w1 := (rlW cB cI cJ cZ cR cS h0 a0 N8 v9)) hP hD [0, 1, 2, 34] [3, 4, 5, 6, 7, 8, 9, 10, 11, 12, 13, 14, 15, 16, 17, 18, 19, 20, 21, 22, 23, 24, 25, 26, 27, 28, 29, 30, 31, 32, 33, 35, 36, 37, 38, 39] rfl rfl (by decide) (by decide) hk1 hFc hP1 hD1
        have hP := hP.sub (ws' := (x1W cB cI cJ cZ cR cS h0 a0 a1 a2 a3 a4 a5 a6 a7 o7 a8 o8 a9 h11 a11 N8 M1 M2 M3 M4 M5 M6 M7 M8 M9 v9 M11)) [36, 37, 38, 0, 1, 2, 3, 4, 5, 6, 7, 8, 9, 10, 11, 12, 13, 14, 15, 16, 17, 18, 19, 20, 21, 22, 23, 24, 25, 26, 27, 28, 29, 30, 39, 31, 32, 33, 34, 35] rfl
        have hD := hD.sub (ws' := (x1W cB cI cJ cZ cR cS h0 a0 a1 a2 a3 a4 a5 a6 a7 o7 a8 o8 a9 h11 a11 N8 M1 M2 M3 M4 M5 M6 M7 M8 M9 v9 M11)) [36, 37, 38, 0, 1, 2, 3, 4, 5, 6, 7, 8, 9, 10, 11, 12, 13, 14, 15, 16, 17, 18, 19, 20, 21, 22, 23, 24, 25, 26, 27, 28, 29, 30, 39, 31, 32, 33, 34, 35] (by decide) rfl
        generalize H1 = H at hP hS ⊢
        obtain ⟨b10, rfl, h⟩ := hw
        try dsimp only at h
        refine lv_if_ne (tgt := 32) hx hb dX11_would_26 (by decide) (fun c11 => ?_) (fun c11 => ?_)
        · have h := h.2 c11
          refine lv_iload_n hx hb dX11_would_32 rfl (lv_at hl 3 rfl) ?_
          refine lv_if_lt (tgt := 41) hx hb dX11_would_33 (by decide) (fun c12 => ?_) (fun c12 => ?_)
          · have h := h.1 c12
            refine lv_bipush (v := (-2)) hx hb dX11_would_41 (by decide) ?_
            exact W.iret (v := (-2 : Int32)) hx hb hr (fun t ht hW => ⟨⟨_, (N8, M1, M2, M3, M4, M5, M6, M7, M8, M9, v9, M11), rfl, h, o7, o8, by rw [ht]; exact hP, va_K.moved hW.alike hK, hD⟩, hS.F ht⟩) hS.2.2 dX11_would_43
          · have h := h.2 c12
            refine lv_iload_n hx hb dX11_would_36 rfl (lv_at hl 3 rfl) ?_
            refine lv_iconst (v := 3) hx hb dX11_would_37 (by decide) ?_
            refine lv_icmp_le (tgt := 44) hx hb dX11_would_38 (by decide) (fun c13 => ?_) (fun c13 => ?_)
            · have h := h.1 c13
              refine lv_aload_n hx hb dX11_would_44 rfl (lv_at hl 0 rfl) ?_
              refine va_get (D := (dC, dI)) (ci := 11) (v := .ref (a0 7)) (C := RX11) (T := TX11) (N := 12) hx hb hts hinX11 hown hK hP 0 rfl rfl 7 (by decide) f4 (fun _ h9 => h9) rfl dX11_would_45 ?_
              refine lv_aload_n hx hb dX11_would_48 rfl (lv_at hl 0 rfl) ?_
              refine va_get (D := (dC, dI)) (ci := 11) (v := .ref (a0 4)) (C := RX11) (T := TX11) (N := 12) hx hb hts hinX11 hown hK hP 0 rfl rfl 4 (by decide) f1 (fun _ h9 => h9) rfl dX11_would_49 ?_
              refine va_get (D := (dC, dI)) (ci := 10) (v := .ref (a1 1)) (C := RX10) (T := TX10) (N := 5) hx hb hts hinX10 hown hK hP 3 rfl rfl 1 (by decide) f2 (fun _ h9 => h9) rfl dX11_would_52 ?_
              have hPc := hP.sub (ws' := (qkW cB cI cJ cZ (a0 7) a6 (a1 1) a3 M6 M3)) [21, 22, 23, 24, 9, 10, 11, 12] rfl
              have hDc := hD.sub (ws' := (qkW cB cI cJ cZ (a0 7) a6 (a1 1) a3 M6 M3)) [21, 22, 23, 24, 9, 10, 11, 12] (by decide) rfl
              have hFc := va_free (wc := (qkW cB cI cJ cZ (a0 7) a6 (a1 1) a3 M6 M3)) hD hS hA [21, 22, 23, 24, 9, 10, 11, 12] rfl
              refine va_callv (va_runV (As := [.ref (a1 1)]) (rest := []) ⟨hx, hb, hml, hown, hts⟩ (kX6_copyFrom l dC dI cB cI cJ cZ (a0 7) a6 (a1 1) a3 H.size  M6 M3 _ h) (cwV 1 hts gX11_would_X6_copyFrom rfl rfl rfl (by decide +kernel) ⟨Nat.le_of_ble_eq_true rfl, Nat.le_of_ble_eq_true rfl⟩) (qkpV hK0 hPc hDc) rfl rfl hl.1 rfl (lv_room (Nat.le_of_ble_eq_true rfl)) dX11_would_55 ⟨Nat.le_of_ble_eq_true rfl, Nat.le_of_ble_eq_true rfl⟩) hS (fun q _ z => hFc q z) hFc (fun u t H1 locs ht hvm hw hB hz1 hk1 hS => ?_)
              obtain ⟨N15, N16⟩ := u
              obtain ⟨hP1, hK1, hD1⟩ := hB
              rw [ht] at hP1
              obtain ⟨hP, hD⟩ := va_join (wr := [(h0, .inr (11, [.ref (a0 0), .int (mg N8 1), .ref (a0 2), .int (mg N8 3), .ref (a0 4), .ref (a0 5), .ref (a0 6), .ref (a0 7), .ref (a0 8), .ref (a0 9), .ref (a0 10), .ref (a0 11)])), (a0 0, .inl (cI, 400, .inl (ma N8 0))), (a0 11, .inl (cJ, 4, .inr (.inl (ml N8 11)))), (a0 4, .inr (10, [.ref (a1 0), .ref (a1 1), .ref (a1 2), .ref (a1 3), .int (mg M1 4)])), (a1 3, .inl (cI, 2, .inl (ma M1 3))), (a1 0, .inr (1, [.int (mg M2 0), .ref (a2 1), .int (mg M2 2), .ref (a2 3), .int (mg M2 4), .ref (a2 5)])), (a2 1, .inl (cI, 4, .inl (ma M2 1))), (a2 3, .inl (cI, 4, .inl (ma M2 3))), (a2 5, .inl (cI, 2, .inl (ma M2 5))), (a1 2, .inr (4, [.int (mg M4 0), .ref (a4 1), .ref (a4 2), .ref (a4 3)])), (a4 1, .inl (cI, 6, .inl (ma M4 1))), (a4 2, .inl (cI, 6, .inl (ma M4 2))), (a4 3, .inl (cI, 6, .inl (ma M4 3))), (a0 6, .inr (1, [.int (mg M5 0), .ref (a5 1), .int (mg M5 2), .ref (a5 3), .int (mg M5 4), .ref (a5 5)])), (a5 1, .inl (cI, 4, .inl (ma M5 1))), (a5 3, .inl (cI, 4, .inl (ma M5 3))), (a5 5, .inl (cI, 2, .inl (ma M5 5))), (a0 8, .inr (0, [.ref (a7 0), .ref (a7 1), .ref (a7 2), .ref (a7 3), .int (mg M7 4), va_rf o7, .int (mg M7 6), .int (mg M7 7), .int (mg M7 8), .int (mg M7 9), .int (mg M7 10)])), (a7 0, .inl (cJ, 15, .inr (.inl (ml M7 0)))), (a7 1, .inl (cJ, 800, .inr (.inl (ml M7 1)))), (a7 2, .inl (cI, 4, .inl (ma M7 2))), (a7 3, .inl (cJ, 4, .inr (.inl (ml M7 3)))), (a0 9, .inr (5, [.ref (a8 0), .ref (a8 1), va_rf o8, .int (mg M8 3)])), (a8 0, .inl (cI, 2048, .inl (ma M8 0))), (a8 1, .inl (cI, 2048, .inl (ma M8 1))), (a0 10, .inr (3, [.int (mg M9 0), .int (mg M9 1), .int (mg M9 2), .int (mg M9 3), .int (mg M9 4)])), (a0 2, .inl (cR, 6, .inr (.inr (.inr (.inr v9))))), (h11, .inr (8, [.int (mg M11 0), .ref (a11 1), .ref (a11 2), .ref (a11 3), .int (mg M11 4), .ref (a11 5)])), (a11 1, .inl (cI, 12, .inl (ma M11 1))), (a11 2, .inl (cI, 12, .inl (ma M11 2))), (a11 3, .inl (cI, 400, .inl (ma M11 3))), (a11 5, .inl (cJ, 60, .inr (.inl (ml M11 5))))]) (w1 := (qkW cB cI cJ cZ (a0 7) a6 (a1 1) a3 N15 N16)) hP hD [21, 22, 23, 24, 9, 10, 11, 12] [0, 1, 2, 3, 4, 5, 6, 7, 8, 13, 14, 15, 16, 17, 18, 19, 20, 25, 26, 27, 28, 29, 30, 31, 32, 33, 34, 35, 36, 37, 38, 39] rfl rfl (by decide) (by decide) hk1 hFc hP1 hD1
              have hP := hP.sub (ws' := (x1W cB cI cJ cZ cR cS h0 a0 a1 a2 a3 a4 a5 a6 a7 o7 a8 o8 a9 h11 a11 N8 M1 M2 N16 M4 M5 N15 M7 M8 M9 v9 M11)) [0, 1, 2, 3, 4, 5, 6, 7, 8, 36, 37, 38, 39, 9, 10, 11, 12, 13, 14, 15, 16, 32, 33, 34, 35, 17, 18, 19, 20, 21, 22, 23, 24, 25, 26, 27, 28, 29, 30, 31] rfl
              have hD := hD.sub (ws' := (x1W cB cI cJ cZ cR cS h0 a0 a1 a2 a3 a4 a5 a6 a7 o7 a8 o8 a9 h11 a11 N8 M1 M2 N16 M4 M5 N15 M7 M8 M9 v9 M11)) [0, 1, 2, 3, 4, 5, 6, 7, 8, 36, 37, 38, 39, 9, 10, 11, 12, 13, 14, 15, 16, 32, 33, 34, 35, 17, 18, 19, 20, 21, 22, 23, 24, 25, 26, 27, 28, 29, 30, 31] (by decide) rfl
              generalize H1 = H at hP hS ⊢
              have h := hw
              try dsimp only at h
              refine lv_aload_n hx hb dX11_would_58 rfl (lv_at hl 0 rfl) ?_
              refine va_get (D := (dC, dI)) (ci := 11) (v := .ref (a0 7)) (C := RX11) (T := TX11) (N := 12) hx hb hts hinX11 hown hK hP 0 rfl rfl 7 (by decide) f4 (fun _ h9 => h9) rfl dX11_would_59 ?_
              refine lv_aload_n hx hb dX11_would_62 rfl (lv_at hl 0 rfl) ?_
              refine va_get (D := (dC, dI)) (ci := 11) (v := .ref (a0 4)) (C := RX11) (T := TX11) (N := 12) hx hb hts hinX11 hown hK hP 0 rfl rfl 4 (by decide) f1 (fun _ h9 => h9) rfl dX11_would_63 ?_
              refine va_get (D := (dC, dI)) (ci := 10) (v := .ref (a1 0)) (C := RX10) (T := TX10) (N := 5) hx hb hts hinX10 hown hK hP 3 rfl rfl 0 (by decide) f5 (fun _ h9 => h9) rfl dX11_would_66 ?_
              refine lv_aload_n hx hb dX11_would_69 rfl (lv_at hl 0 rfl) ?_
              refine lv_iload_n hx hb dX11_would_70 rfl (lv_at hl 1 rfl) ?_
              have hPc := hP.sub (ws' := (rlW cB cI cJ cZ cR cS h0 a0 N8 v9)) [0, 1, 2, 34] rfl
              have hDc := hD.sub (ws' := (rlW cB cI cJ cZ cR cS h0 a0 N8 v9)) [0, 1, 2, 34] (by decide) rfl
              have hFc := va_free (wc := (rlW cB cI cJ cZ cR cS h0 a0 N8 v9)) hD hS hA [0, 1, 2, 34] rfl
              refine va_callq (va_runV (As := [.int p1]) (rest := [.ref (a1 0), .ref (a0 7)]) ⟨hx, hb, hml, hown, hts⟩ (kX11_ruleAt l dC dI cB cI cJ cZ cR cS h0 a0 H.size p1 N8 v9 _ h) (cwV 1 hts gX11_would_X11_ruleAt rfl rfl rfl (by decide +kernel) ⟨Nat.le_of_ble_eq_true rfl, Nat.le_of_ble_eq_true rfl⟩) (rlpV hK hPc hDc) rfl rfl hl.1 rfl (lv_room (Nat.le_of_ble_eq_true rfl)) dX11_would_71 ⟨Nat.le_of_ble_eq_true rfl, Nat.le_of_ble_eq_true rfl⟩) hS (fun q _ z => hFc q z) hFc (fun r17 u t H1 locs ht hvm hw hB hz1 hk1 hS => ?_)
              obtain ⟨N18, v19⟩ := u
              obtain ⟨hP1, hK1, hD1⟩ := hB
              rw [ht] at hP1
              obtain ⟨hP, hD⟩ := va_join (wr := [(a0 4, .inr (10, [.ref (a1 0), .ref (a1 1), .ref (a1 2), .ref (a1 3), .int (mg M1 4)])), (a1 3, .inl (cI, 2, .inl (ma M1 3))), (a1 0, .inr (1, [.int (mg M2 0), .ref (a2 1), .int (mg M2 2), .ref (a2 3), .int (mg M2 4), .ref (a2 5)])), (a2 1, .inl (cI, 4, .inl (ma M2 1))), (a2 3, .inl (cI, 4, .inl (ma M2 3))), (a2 5, .inl (cI, 2, .inl (ma M2 5))), (a1 1, .inr (6, [.int (mg N16 0), .int (mg N16 1), .int (mg N16 2), .int (mg N16 3), .int (mg N16 4), .int (mg N16 5), .int (mg N16 6), .ref (a3 7), .ref (a3 8), .ref (a3 9)])), (a3 7, .inl (cI, 2, .inl (ma N16 7))), (a3 8, .inl (cI, 2, .inl (ma N16 8))), (a3 9, .inl (cI, 2, .inl (ma N16 9))), (a1 2, .inr (4, [.int (mg M4 0), .ref (a4 1), .ref (a4 2), .ref (a4 3)])), (a4 1, .inl (cI, 6, .inl (ma M4 1))), (a4 2, .inl (cI, 6, .inl (ma M4 2))), (a4 3, .inl (cI, 6, .inl (ma M4 3))), (a0 6, .inr (1, [.int (mg M5 0), .ref (a5 1), .int (mg M5 2), .ref (a5 3), .int (mg M5 4), .ref (a5 5)])), (a5 1, .inl (cI, 4, .inl (ma M5 1))), (a5 3, .inl (cI, 4, .inl (ma M5 3))), (a5 5, .inl (cI, 2, .inl (ma M5 5))), (a0 7, .inr (6, [.int (mg N15 0), .int (mg N15 1), .int (mg N15 2), .int (mg N15 3), .int (mg N15 4), .int (mg N15 5), .int (mg N15 6), .ref (a6 7), .ref (a6 8), .ref (a6 9)])), (a6 7, .inl (cI, 2, .inl (ma N15 7))), (a6 8, .inl (cI, 2, .inl (ma N15 8))), (a6 9, .inl (cI, 2, .inl (ma N15 9))), (a0 8, .inr (0, [.ref (a7 0), .ref (a7 1), .ref (a7 2), .ref (a7 3), .int (mg M7 4), va_rf o7, .int (mg M7 6), .int (mg M7 7), .int (mg M7 8), .int (mg M7 9), .int (mg M7 10)])), (a7 0, .inl (cJ, 15, .inr (.inl (ml M7 0)))), (a7 1, .inl (cJ, 800, .inr (.inl (ml M7 1)))), (a7 2, .inl (cI, 4, .inl (ma M7 2))), (a7 3, .inl (cJ, 4, .inr (.inl (ml M7 3)))), (a0 9, .inr (5, [.ref (a8 0), .ref (a8 1), va_rf o8, .int (mg M8 3)])), (a8 0, .inl (cI, 2048, .inl (ma M8 0))), (a8 1, .inl (cI, 2048, .inl (ma M8 1))), (a0 10, .inr (3, [.int (mg M9 0), .int (mg M9 1), .int (mg M9 2), .int (mg M9 3), .int (mg M9 4)])), (h11, .inr (8, [.int (mg M11 0), .ref (a11 1), .ref (a11 2), .ref (a11 3), .int (mg M11 4), .ref (a11 5)])), (a11 1, .inl (cI, 12, .inl (ma M11 1))), (a11 2, .inl (cI, 12, .inl (ma M11 2))), (a11 3, .inl (cI, 400, .inl (ma M11 3))), (a11 5, .inl (cJ, 60, .inr (.inl (ml M11 5))))]) (w1 := (rlW cB cI cJ cZ cR cS h0 a0 N18 v19)) hP hD [0, 1, 2, 34] [3, 4, 5, 6, 7, 8, 9, 10, 11, 12, 13, 14, 15, 16, 17, 18, 19, 20, 21, 22, 23, 24, 25, 26, 27, 28, 29, 30, 31, 32, 33, 35, 36, 37, 38, 39] rfl rfl (by decide) (by decide) hk1 hFc hP1 hD1
              have hP := hP.sub (ws' := (x1W cB cI cJ cZ cR cS h0 a0 a1 a2 a3 a4 a5 a6 a7 o7 a8 o8 a9 h11 a11 N18 M1 M2 N16 M4 M5 N15 M7 M8 M9 v19 M11)) [36, 37, 38, 0, 1, 2, 3, 4, 5, 6, 7, 8, 9, 10, 11, 12, 13, 14, 15, 16, 17, 18, 19, 20, 21, 22, 23, 24, 25, 26, 27, 28, 29, 30, 39, 31, 32, 33, 34, 35] rfl
              have hD := hD.sub (ws' := (x1W cB cI cJ cZ cR cS h0 a0 a1 a2 a3 a4 a5 a6 a7 o7 a8 o8 a9 h11 a11 N18 M1 M2 N16 M4 M5 N15 M7 M8 M9 v19 M11)) [36, 37, 38, 0, 1, 2, 3, 4, 5, 6, 7, 8, 9, 10, 11, 12, 13, 14, 15, 16, 17, 18, 19, 20, 21, 22, 23, 24, 25, 26, 27, 28, 29, 30, 39, 31, 32, 33, 34, 35] (by decide) rfl
              generalize H1 = H at hP hS ⊢
              have h := hw
              try dsimp only at h
              refine lv_aload_n hx hb dX11_would_74 rfl (lv_at hl 0 rfl) ?_
              refine lv_iload_n hx hb dX11_would_75 rfl (lv_at hl 2 rfl) ?_
              have hPc := hP.sub (ws' := (rlW cB cI cJ cZ cR cS h0 a0 N18 v19)) [0, 1, 2, 34] rfl
              have hDc := hD.sub (ws' := (rlW cB cI cJ cZ cR cS h0 a0 N18 v19)) [0, 1, 2, 34] (by decide) rfl
              have hFc := va_free (wc := (rlW cB cI cJ cZ cR cS h0 a0 N18 v19)) hD hS hA [0, 1, 2, 34] rfl
              refine va_callq (va_runV (As := [.int p2]) (rest := [va_rf r17, .ref (a1 0), .ref (a0 7)]) ⟨hx, hb, hml, hown, hts⟩ (kX11_ruleAt l dC dI cB cI cJ cZ cR cS h0 a0 H.size p2 N18 v19 _ h) (cwV 1 hts gX11_would_X11_ruleAt rfl rfl rfl (by decide +kernel) ⟨Nat.le_of_ble_eq_true rfl, Nat.le_of_ble_eq_true rfl⟩) (rlpV hK hPc hDc) rfl rfl hl.1 rfl (lv_room (by cases r17 <;> exact Nat.le_of_ble_eq_true rfl)) dX11_would_76 ⟨Nat.le_of_ble_eq_true rfl, Nat.le_of_ble_eq_true rfl⟩) hS (fun q _ z => hFc q z) hFc (fun r20 u t H1 locs ht hvm hw hB hz1 hk1 hS => ?_)
              obtain ⟨N21, v22⟩ := u
              obtain ⟨hP1, hK1, hD1⟩ := hB
              rw [ht] at hP1
              obtain ⟨hP, hD⟩ := va_join (wr := [(a0 4, .inr (10, [.ref (a1 0), .ref (a1 1), .ref (a1 2), .ref (a1 3), .int (mg M1 4)])), (a1 3, .inl (cI, 2, .inl (ma M1 3))), (a1 0, .inr (1, [.int (mg M2 0), .ref (a2 1), .int (mg M2 2), .ref (a2 3), .int (mg M2 4), .ref (a2 5)])), (a2 1, .inl (cI, 4, .inl (ma M2 1))), (a2 3, .inl (cI, 4, .inl (ma M2 3))), (a2 5, .inl (cI, 2, .inl (ma M2 5))), (a1 1, .inr (6, [.int (mg N16 0), .int (mg N16 1), .int (mg N16 2), .int (mg N16 3), .int (mg N16 4), .int (mg N16 5), .int (mg N16 6), .ref (a3 7), .ref (a3 8), .ref (a3 9)])), (a3 7, .inl (cI, 2, .inl (ma N16 7))), (a3 8, .inl (cI, 2, .inl (ma N16 8))), (a3 9, .inl (cI, 2, .inl (ma N16 9))), (a1 2, .inr (4, [.int (mg M4 0), .ref (a4 1), .ref (a4 2), .ref (a4 3)])), (a4 1, .inl (cI, 6, .inl (ma M4 1))), (a4 2, .inl (cI, 6, .inl (ma M4 2))), (a4 3, .inl (cI, 6, .inl (ma M4 3))), (a0 6, .inr (1, [.int (mg M5 0), .ref (a5 1), .int (mg M5 2), .ref (a5 3), .int (mg M5 4), .ref (a5 5)])), (a5 1, .inl (cI, 4, .inl (ma M5 1))), (a5 3, .inl (cI, 4, .inl (ma M5 3))), (a5 5, .inl (cI, 2, .inl (ma M5 5))), (a0 7, .inr (6, [.int (mg N15 0), .int (mg N15 1), .int (mg N15 2), .int (mg N15 3), .int (mg N15 4), .int (mg N15 5), .int (mg N15 6), .ref (a6 7), .ref (a6 8), .ref (a6 9)])), (a6 7, .inl (cI, 2, .inl (ma N15 7))), (a6 8, .inl (cI, 2, .inl (ma N15 8))), (a6 9, .inl (cI, 2, .inl (ma N15 9))), (a0 8, .inr (0, [.ref (a7 0), .ref (a7 1), .ref (a7 2), .ref (a7 3), .int (mg M7 4), va_rf o7, .int (mg M7 6), .int (mg M7 7), .int (mg M7 8), .int (mg M7 9), .int (mg M7 10)])), (a7 0, .inl (cJ, 15, .inr (.inl (ml M7 0)))), (a7 1, .inl (cJ, 800, .inr (.inl (ml M7 1)))), (a7 2, .inl (cI, 4, .inl (ma M7 2))), (a7 3, .inl (cJ, 4, .inr (.inl (ml M7 3)))), (a0 9, .inr (5, [.ref (a8 0), .ref (a8 1), va_rf o8, .int (mg M8 3)])), (a8 0, .inl (cI, 2048, .inl (ma M8 0))), (a8 1, .inl (cI, 2048, .inl (ma M8 1))), (a0 10, .inr (3, [.int (mg M9 0), .int (mg M9 1), .int (mg M9 2), .int (mg M9 3), .int (mg M9 4)])), (h11, .inr (8, [.int (mg M11 0), .ref (a11 1), .ref (a11 2), .ref (a11 3), .int (mg M11 4), .ref (a11 5)])), (a11 1, .inl (cI, 12, .inl (ma M11 1))), (a11 2, .inl (cI, 12, .inl (ma M11 2))), (a11 3, .inl (cI, 400, .inl (ma M11 3))), (a11 5, .inl (cJ, 60, .inr (.inl (ml M11 5))))]) (w1 := (rlW cB cI cJ cZ cR cS h0 a0 N21 v22)) hP hD [0, 1, 2, 34] [3, 4, 5, 6, 7, 8, 9, 10, 11, 12, 13, 14, 15, 16, 17, 18, 19, 20, 21, 22, 23, 24, 25, 26, 27, 28, 29, 30, 31, 32, 33, 35, 36, 37, 38, 39] rfl rfl (by decide) (by decide) hk1 hFc hP1 hD1
              have hP := hP.sub (ws' := (x1W cB cI cJ cZ cR cS h0 a0 a1 a2 a3 a4 a5 a6 a7 o7 a8 o8 a9 h11 a11 N21 M1 M2 N16 M4 M5 N15 M7 M8 M9 v22 M11)) [36, 37, 38, 0, 1, 2, 3, 4, 5, 6, 7, 8, 9, 10, 11, 12, 13, 14, 15, 16, 17, 18, 19, 20, 21, 22, 23, 24, 25, 26, 27, 28, 29, 30, 39, 31, 32, 33, 34, 35] rfl
              have hD := hD.sub (ws' := (x1W cB cI cJ cZ cR cS h0 a0 a1 a2 a3 a4 a5 a6 a7 o7 a8 o8 a9 h11 a11 N21 M1 M2 N16 M4 M5 N15 M7 M8 M9 v22 M11)) [36, 37, 38, 0, 1, 2, 3, 4, 5, 6, 7, 8, 9, 10, 11, 12, 13, 14, 15, 16, 17, 18, 19, 20, 21, 22, 23, 24, 25, 26, 27, 28, 29, 30, 39, 31, 32, 33, 34, 35] (by decide) rfl
              generalize H1 = H at hP hS ⊢
              have h := hw
              try dsimp only at h
              obtain ⟨ehQ23, hQ23⟩ := h
              subst ehQ23
              have h := hQ23
              obtain ⟨ehQ24, hQ24⟩ := h
              subst ehQ24
              have h := hQ24
              have hPc := hP.sub (ws' := (q1W cB cI cJ cZ (a0 7) a6 (a1 0) a2 h11 a11 N15 M2 M11)) [21, 22, 23, 24, 5, 6, 7, 8, 35, 36, 37, 38, 39] rfl
              have hDc := hD.sub (ws' := (q1W cB cI cJ cZ (a0 7) a6 (a1 0) a2 h11 a11 N15 M2 M11)) [21, 22, 23, 24, 5, 6, 7, 8, 35, 36, 37, 38, 39] (by decide) rfl
              have hFc := va_free (wc := (q1W cB cI cJ cZ (a0 7) a6 (a1 0) a2 h11 a11 N15 M2 M11)) hD hS hA [21, 22, 23, 24, 5, 6, 7, 8, 35, 36, 37, 38, 39] rfl
              refine va_callv (va_runV (As := [.ref (a1 0), .ref h11, .null]) (rest := []) ⟨hx, hb, hml, hown, hts⟩ (kX6_goByRulesan l dC dI cB cI cJ cZ (a0 7) a6 (a1 0) a2 h11 a11 H.size  N15 M2 M11 _ h) (cwV 3 hts gX11_would_X6_goByRules rfl rfl rfl (by decide +kernel) ⟨Nat.le_of_ble_eq_true rfl, Nat.le_of_ble_eq_true rfl⟩) (q1pV hK0 hPc hDc) rfl rfl hl.1 rfl (lv_room (Nat.le_of_ble_eq_true rfl)) dX11_would_79 ⟨Nat.le_of_ble_eq_true rfl, Nat.le_of_ble_eq_true rfl⟩) hS (fun q _ z => hFc q z) hFc (fun u t H1 locs ht hvm hw hB hz1 hk1 hS => ?_)
              obtain ⟨N26, N27, N28⟩ := u
              obtain ⟨hP1, hK1, hD1⟩ := hB
              rw [ht] at hP1
              obtain ⟨hP, hD⟩ := va_join (wr := [(h0, .inr (11, [.ref (a0 0), .int (mg N21 1), .ref (a0 2), .int (mg N21 3), .ref (a0 4), .ref (a0 5), .ref (a0 6), .ref (a0 7), .ref (a0 8), .ref (a0 9), .ref (a0 10), .ref (a0 11)])), (a0 0, .inl (cI, 400, .inl (ma N21 0))), (a0 11, .inl (cJ, 4, .inr (.inl (ml N21 11)))), (a0 4, .inr (10, [.ref (a1 0), .ref (a1 1), .ref (a1 2), .ref (a1 3), .int (mg M1 4)])), (a1 3, .inl (cI, 2, .inl (ma M1 3))), (a1 1, .inr (6, [.int (mg N16 0), .int (mg N16 1), .int (mg N16 2), .int (mg N16 3), .int (mg N16 4), .int (mg N16 5), .int (mg N16 6), .ref (a3 7), .ref (a3 8), .ref (a3 9)])), (a3 7, .inl (cI, 2, .inl (ma N16 7))), (a3 8, .inl (cI, 2, .inl (ma N16 8))), (a3 9, .inl (cI, 2, .inl (ma N16 9))), (a1 2, .inr (4, [.int (mg M4 0), .ref (a4 1), .ref (a4 2), .ref (a4 3)])), (a4 1, .inl (cI, 6, .inl (ma M4 1))), (a4 2, .inl (cI, 6, .inl (ma M4 2))), (a4 3, .inl (cI, 6, .inl (ma M4 3))), (a0 6, .inr (1, [.int (mg M5 0), .ref (a5 1), .int (mg M5 2), .ref (a5 3), .int (mg M5 4), .ref (a5 5)])), (a5 1, .inl (cI, 4, .inl (ma M5 1))), (a5 3, .inl (cI, 4, .inl (ma M5 3))), (a5 5, .inl (cI, 2, .inl (ma M5 5))), (a0 8, .inr (0, [.ref (a7 0), .ref (a7 1), .ref (a7 2), .ref (a7 3), .int (mg M7 4), va_rf o7, .int (mg M7 6), .int (mg M7 7), .int (mg M7 8), .int (mg M7 9), .int (mg M7 10)])), (a7 0, .inl (cJ, 15, .inr (.inl (ml M7 0)))), (a7 1, .inl (cJ, 800, .inr (.inl (ml M7 1)))), (a7 2, .inl (cI, 4, .inl (ma M7 2))), (a7 3, .inl (cJ, 4, .inr (.inl (ml M7 3)))), (a0 9, .inr (5, [.ref (a8 0), .ref (a8 1), va_rf o8, .int (mg M8 3)])), (a8 0, .inl (cI, 2048, .inl (ma M8 0))), (a8 1, .inl (cI, 2048, .inl (ma M8 1))), (a0 10, .inr (3, [.int (mg M9 0), .int (mg M9 1), .int (mg M9 2), .int (mg M9 3), .int (mg M9 4)])), (a0 2, .inl (cR, 6, .inr (.inr (.inr (.inr v22)))))]) (w1 := (q1W cB cI cJ cZ (a0 7) a6 (a1 0) a2 h11 a11 N26 N27 N28)) hP hD [21, 22, 23, 24, 5, 6, 7, 8, 35, 36, 37, 38, 39] [0, 1, 2, 3, 4, 9, 10, 11, 12, 13, 14, 15, 16, 17, 18, 19, 20, 25, 26, 27, 28, 29, 30, 31, 32, 33, 34] rfl rfl (by decide) (by decide) hk1 hFc hP1 hD1
              have hP := hP.sub (ws' := (x1W cB cI cJ cZ cR cS h0 a0 a1 a2 a3 a4 a5 a6 a7 o7 a8 o8 a9 h11 a11 N21 M1 N27 N16 M4 M5 N26 M7 M8 M9 v22 N28)) [0, 1, 2, 3, 4, 31, 32, 33, 34, 5, 6, 7, 8, 9, 10, 11, 12, 13, 14, 15, 16, 27, 28, 29, 30, 17, 18, 19, 20, 21, 22, 23, 24, 25, 26, 35, 36, 37, 38, 39] rfl
              have hD := hD.sub (ws' := (x1W cB cI cJ cZ cR cS h0 a0 a1 a2 a3 a4 a5 a6 a7 o7 a8 o8 a9 h11 a11 N21 M1 N27 N16 M4 M5 N26 M7 M8 M9 v22 N28)) [0, 1, 2, 3, 4, 31, 32, 33, 34, 5, 6, 7, 8, 9, 10, 11, 12, 13, 14, 15, 16, 27, 28, 29, 30, 17, 18, 19, 20, 21, 22, 23, 24, 25, 26, 35, 36, 37, 38, 39] (by decide) rfl
              generalize H1 = H at hP hS ⊢
              have h := hw
              try dsimp only at h
              refine lv_iload_n hx hb dX11_would_82 rfl (lv_at hl 3 rfl) ?_
              by_cases c29 : p3 = (0 : Int32)
              · have h := h.1 c29
                refine lv_tableIn (tgt := 108) hx hb dX11_would_83 (by rw [c29]; decide) (by rw [c29]; decide) (by rw [c29]; rfl) (by decide) ?_
                refine lv_aload_n hx hb dX11_would_108 rfl (lv_at hl 0 rfl) ?_
                refine va_get (D := (dC, dI)) (ci := 11) (v := .ref (a0 7)) (C := RX11) (T := TX11) (N := 12) hx hb hts hinX11 hown hK hP 0 rfl rfl 7 (by decide) f4 (fun _ h9 => h9) rfl dX11_would_109 ?_
                refine va_get (D := (dC, dI)) (ci := 6) (v := .int (mg N26 6)) (C := RX6) (T := TX6) (N := 10) hx hb hts hinX6 hown hK hP 21 rfl rfl 6 (by decide) f6 (fun _ h9 => h9) rfl dX11_would_112 ?_
                exact W.iret (v := (mg N26 6)) hx hb hr (fun t ht hW => ⟨⟨_, (N21, M1, N27, N16, M4, M5, N26, M7, M8, M9, v22, N28), rfl, h, o7, o8, by rw [ht]; exact hP, va_K.moved hW.alike hK, hD⟩, hS.F ht⟩) hS.2.2 dX11_would_115
              have h := h.2 c29
              by_cases c30 : p3 = (1 : Int32)
              · have h := h.1 c30
                refine lv_tableIn (tgt := 116) hx hb dX11_would_83 (by rw [c30]; decide) (by rw [c30]; decide) (by rw [c30]; rfl) (by decide) ?_
                refine lv_aload_n hx hb dX11_would_116 rfl (lv_at hl 0 rfl) ?_
                refine va_get (D := (dC, dI)) (ci := 11) (v := .ref (a0 7)) (C := RX11) (T := TX11) (N := 12) hx hb hts hinX11 hown hK hP 0 rfl rfl 7 (by decide) f4 (fun _ h9 => h9) rfl dX11_would_117 ?_
                refine va_get (D := (dC, dI)) (ci := 6) (v := .int (mg N26 4)) (C := RX6) (T := TX6) (N := 10) hx hb hts hinX6 hown hK hP 21 rfl rfl 4 (by decide) f7 (fun _ h9 => h9) rfl dX11_would_120 ?_
                refine lv_aload_n hx hb dX11_would_123 rfl (lv_at hl 0 rfl) ?_
                refine va_get (D := (dC, dI)) (ci := 11) (v := .ref (a0 4)) (C := RX11) (T := TX11) (N := 12) hx hb hts hinX11 hown hK hP 0 rfl rfl 4 (by decide) f1 (fun _ h9 => h9) rfl dX11_would_124 ?_
                refine va_get (D := (dC, dI)) (ci := 10) (v := .ref (a1 1)) (C := RX10) (T := TX10) (N := 5) hx hb hts hinX10 hown hK hP 3 rfl rfl 1 (by decide) f2 (fun _ h9 => h9) rfl dX11_would_127 ?_
                refine va_get (D := (dC, dI)) (ci := 6) (v := .int (mg N16 4)) (C := RX6) (T := TX6) (N := 10) hx hb hts hinX6 hown hK hP 9 rfl rfl 4 (by decide) f7 (fun _ h9 => h9) rfl dX11_would_130 ?_
                refine lv_isub hx hb dX11_would_133 ?_
                exact W.iret (v := ((mg N26 4) - (mg N16 4))) hx hb hr (fun t ht hW => ⟨⟨_, (N21, M1, N27, N16, M4, M5, N26, M7, M8, M9, v22, N28), rfl, h, o7, o8, by rw [ht]; exact hP, va_K.moved hW.alike hK, hD⟩, hS.F ht⟩) hS.2.2 dX11_would_134
              have h := h.2 c30
              by_cases c31 : p3 = (2 : Int32)
              · have h := h.1 c31
                refine lv_tableIn (tgt := 135) hx hb dX11_would_83 (by rw [c31]; decide) (by rw [c31]; decide) (by rw [c31]; rfl) (by decide) ?_
                refine lv_aload_n hx hb dX11_would_135 rfl (lv_at hl 0 rfl) ?_
                refine va_get (D := (dC, dI)) (ci := 11) (v := .ref (a0 7)) (C := RX11) (T := TX11) (N := 12) hx hb hts hinX11 hown hK hP 0 rfl rfl 7 (by decide) f4 (fun _ h9 => h9) rfl dX11_would_136 ?_
                refine va_get (D := (dC, dI)) (ci := 6) (v := .int (mg N26 5)) (C := RX6) (T := TX6) (N := 10) hx hb hts hinX6 hown hK hP 21 rfl rfl 5 (by decide) f8 (fun _ h9 => h9) rfl dX11_would_139 ?_
                refine lv_aload_n hx hb dX11_would_142 rfl (lv_at hl 0 rfl) ?_
                refine va_get (D := (dC, dI)) (ci := 11) (v := .ref (a0 4)) (C := RX11) (T := TX11) (N := 12) hx hb hts hinX11 hown hK hP 0 rfl rfl 4 (by decide) f1 (fun _ h9 => h9) rfl dX11_would_143 ?_
                refine va_get (D := (dC, dI)) (ci := 10) (v := .ref (a1 1)) (C := RX10) (T := TX10) (N := 5) hx hb hts hinX10 hown hK hP 3 rfl rfl 1 (by decide) f2 (fun _ h9 => h9) rfl dX11_would_146 ?_
                refine va_get (D := (dC, dI)) (ci := 6) (v := .int (mg N16 5)) (C := RX6) (T := TX6) (N := 10) hx hb hts hinX6 hown hK hP 9 rfl rfl 5 (by decide) f8 (fun _ h9 => h9) rfl dX11_would_149 ?_
                refine lv_isub hx hb dX11_would_152 ?_
                exact W.iret (v := ((mg N26 5) - (mg N16 5))) hx hb hr (fun t ht hW => ⟨⟨_, (N21, M1, N27, N16, M4, M5, N26, M7, M8, M9, v22, N28), rfl, h, o7, o8, by rw [ht]; exact hP, va_K.moved hW.alike hK, hD⟩, hS.F ht⟩) hS.2.2 dX11_would_153
              have h := h.2 c31
              refine lv_tableOut (tgt := 154) hx hb dX11_would_83 (by have qc29 : p3.toInt ≠ 0 := fun q => c29 (Int32.toInt_inj.mp (q.trans (by decide))); have qc30 : p3.toInt ≠ 1 := fun q => c30 (Int32.toInt_inj.mp (q.trans (by decide))); have qc31 : p3.toInt ≠ 2 := fun q => c31 (Int32.toInt_inj.mp (q.trans (by decide))); omega) (by decide) ?_
              refine lv_aload_n hx hb dX11_would_154 rfl (lv_at hl 0 rfl) ?_
              refine va_get (D := (dC, dI)) (ci := 11) (v := .ref (a0 7)) (C := RX11) (T := TX11) (N := 12) hx hb hts hinX11 hown hK hP 0 rfl rfl 7 (by decide) f4 (fun _ h9 => h9) rfl dX11_would_155 ?_
              refine va_get (D := (dC, dI)) (ci := 6) (v := .int (mg N26 2)) (C := RX6) (T := TX6) (N := 10) hx hb hts hinX6 hown hK hP 21 rfl rfl 2 (by decide) f9 (fun _ h9 => h9) rfl dX11_would_158 ?_
              exact W.iret (v := (mg N26 2)) hx hb hr (fun t ht hW => ⟨⟨_, (N21, M1, N27, N16, M4, M5, N26, M7, M8, M9, v22, N28), rfl, h, o7, o8, by rw [ht]; exact hP, va_K.moved hW.alike hK, hD⟩, hS.F ht⟩) hS.2.2 dX11_would_161
            · have h := h.2 c13
              refine lv_bipush (v := (-2)) hx hb dX11_would_41 (by decide) ?_
              exact W.iret (v := (-2 : Int32)) hx hb hr (fun t ht hW => ⟨⟨_, (N8, M1, M2, M3, M4, M5, M6, M7, M8, M9, v9, M11), rfl, h, o7, o8, by rw [ht]; exact hP, va_K.moved hW.alike hK, hD⟩, hS.F ht⟩) hS.2.2 dX11_would_43
        · have h := h.1 c11
          refine lv_bipush (v := (-2)) hx hb dX11_would_29 (by decide) ?_
          exact W.iret (v := (-2 : Int32)) hx hb hr (fun t ht hW => ⟨⟨_, (N8, M1, M2, M3, M4, M5, M6, M7, M8, M9, v9, M11), rfl, h, o7, o8, by rw [ht]; exact hP, va_K.moved hW.alike hK, hD⟩, hS.F ht⟩) hS.2.2 dX11_would_31
  have hl := lv_entry ([.ref h0, .int p1, .int p2, .int p3]) (n := 4) (Nat.le_of_ble_eq_true rfl)
  rw [lg_entry_eq]
  generalize (lg_sl ([.ref h0, .int p1, .int p2, .int p3]) ++ List.replicate (4 - (lg_sl ([.ref h0, .int p1, .int p2, .int p3])).length) Slot.unset).toArray = ls at hl ⊢
  have hl : lv_has ls 4 [(0, .ref h0), (1, .int p1), (2, .int p2), (3, .int p3)] := hl
  exact bE M0 M1 M2 M3 M4 M5 M6 M7 M8 M9 F10 M11 s.heap [] ls hP hD hS hl h
def wX11_wouldna (h11 : Nat) (p1 : Int32) (p2 : Int32) (p3 : Int32) (M0 : gS) (M1 : gS) (M2 : gS) (M3 : gS) (M4 : gS) (M5 : gS) (M6 : gS) (M7 : gS) (M8 : gS) (M9 : gS) (F10 : oF) (M11 : gS) (Q : Int32 → gS → gS → gS → gS → gS → gS → gS → gS → gS → gS → oF → gS → Prop) : Prop :=
 (((mg M3 0) = 0 → (Q (-2 : Int32) M0 M1 M2 M3 M4 M5 M6 M7 M8 M9 F10 M11))
 ∧ (¬ (mg M3 0) = 0 → (wX11_isRuleOrNone p1 M0 F10 (fun (b5 : Bool) (N3 : gS) (v4 : oF) => (((bI b5) = 0 → (Q (-2 : Int32) N3 M1 M2 M3 M4 M5 M6 M7 M8 M9 v4 M11))
 ∧ (¬ (bI b5) = 0 → (wX11_isRuleOrNone p2 N3 v4 (fun (b10 : Bool) (N8 : gS) (v9 : oF) => (((bI b10) = 0 → (Q (-2 : Int32) N8 M1 M2 M3 M4 M5 M6 M7 M8 M9 v9 M11))
 ∧ (¬ (bI b10) = 0 → ((p3 < 0 → (Q (-2 : Int32) N8 M1 M2 M3 M4 M5 M6 M7 M8 M9 v9 M11))
 ∧ (¬ p3 < 0 → ((p3 ≤ (3 : Int32) → (wX6_copyFrom  M6 M3 (fun (N15 : gS) (N16 : gS) => (wX11_ruleAt p1 N8 v9 (fun (r17 : Option Nat) (N18 : gS) (v19 : oF) => (wX11_ruleAt p2 N18 v19 (fun (r20 : Option Nat) (N21 : gS) (v22 : oF) => (r17 = none ∧ (r20 = some h11 ∧ (wX6_goByRulesna  N15 M2 M11 (fun (N26 : gS) (N27 : gS) (N28 : gS) => ((p3 = (0 : Int32) → (Q (mg N26 6) N21 M1 N27 N16 M4 M5 N26 M7 M8 M9 v22 N28))
 ∧ (¬ p3 = (0 : Int32) → ((p3 = (1 : Int32) → (Q ((mg N26 4) - (mg N16 4)) N21 M1 N27 N16 M4 M5 N26 M7 M8 M9 v22 N28))
 ∧ (¬ p3 = (1 : Int32) → ((p3 = (2 : Int32) → (Q ((mg N26 5) - (mg N16 5)) N21 M1 N27 N16 M4 M5 N26 M7 M8 M9 v22 N28))
 ∧ (¬ p3 = (2 : Int32) → (Q (mg N26 2) N21 M1 N27 N16 M4 M5 N26 M7 M8 M9 v22 N28))))))))))))))))))
 ∧ (¬ p3 ≤ (3 : Int32) → (Q (-2 : Int32) N8 M1 M2 M3 M4 M5 M6 M7 M8 M9 v9 M11)))))))))))))))
def rmX11_wouldna : Room := { frames := 5, cells := 0, slots := 0, locals := 124 }
set_option maxHeartbeats 4000000 in
set_option maxRecDepth 100000 in
theorem kX11_wouldna (l : Launch) (dC : Nat → ClassId) (dI : Nat → Nat → Nat) (cB cI cJ cZ cR cS : ClassId) (h0 : Nat) (a0 : Nat → Nat) (a1 : Nat → Nat) (a2 : Nat → Nat) (a3 : Nat → Nat) (a4 : Nat → Nat) (a5 : Nat → Nat) (a6 : Nat → Nat) (a7 : Nat → Nat) (o7 : Option Nat) (a8 : Nat → Nat) (o8 : Option Nat) (a9 : Nat → Nat) (h11 : Nat) (a11 : Nat → Nat) (sz : Nat) (p1 : Int32) (p2 : Int32) (p3 : Int32) (M0 : gS) (M1 : gS) (M2 : gS) (M3 : gS) (M4 : gS) (M5 : gS) (M6 : gS) (M7 : gS) (M8 : gS) (M9 : gS) (F10 : oF) (M11 : gS) (Q : Int32 → gS → gS → gS → gS → gS → gS → gS → gS → gS → gS → oF → gS → Prop) (h : wX11_wouldna h11 p1 p2 p3 M0 M1 M2 M3 M4 M5 M6 M7 M8 M9 F10 M11 Q) : Met l yX11_would wsX11_would rmX11_wouldna (va_Pc [.ref h0, .int p1, .int p2, .int p3] (x1I dC dI cB cI cJ cZ cR cS h0 a0 a1 a2 a3 a4 a5 a6 a7 o7 a8 o8 a9 h11 a11 M0 M1 M2 M3 M4 M5 M6 M7 M8 M9 F10 M11 sz)) (va_Qi (fun (r : Int32) (u : gS × gS × gS × gS × gS × gS × gS × gS × gS × gS × oF × gS) => Q r u.1 u.2.1 u.2.2.1 u.2.2.2.1 u.2.2.2.2.1 u.2.2.2.2.2.1 u.2.2.2.2.2.2.1 u.2.2.2.2.2.2.2.1 u.2.2.2.2.2.2.2.2.1 u.2.2.2.2.2.2.2.2.2.1 u.2.2.2.2.2.2.2.2.2.2.1 u.2.2.2.2.2.2.2.2.2.2.2) (x1B dC dI cB cI cJ cZ cR cS h0 a0 a1 a2 a3 a4 a5 a6 a7 a8 a9 h11 a11 (va_A (x1W cB cI cJ cZ cR cS h0 a0 a1 a2 a3 a4 a5 a6 a7 o7 a8 o8 a9 h11 a11 M0 M1 M2 M3 M4 M5 M6 M7 M8 M9 F10 M11) sz)) (va_A (x1W cB cI cJ cZ cR cS h0 a0 a1 a2 a3 a4 a5 a6 a7 o7 a8 o8 a9 h11 a11 M0 M1 M2 M3 M4 M5 M6 M7 M8 M9 F10 M11) sz)) 0 0 (va_A (x1W cB cI cJ cZ cR cS h0 a0 a1 a2 a3 a4 a5 a6 a7 o7 a8 o8 a9 h11 a11 M0 M1 M2 M3 M4 M5 M6 M7 M8 M9 F10 M11) sz) := by
  refine Met.ofW (cc := cX11_would) (maxL := 4) (ret := (some .int)) (by decide) rfl ?_
  intro p e s m args below meth c s₁ B hml hv
  obtain ⟨rfl, hsz, hP, hK, hD0⟩ := hv
  have hx := B.exec
  have hb := B.bytes
  have hr := B.returns
  have hts := atoms_spec (ws := wsX11_would) B.pre
  have hown : s.vm.findClass RX11 = some m.cls := findClass_of_methodNamed B.named
  have hlocks := B.notSynchronized
  subst hsz
  have hD := hD0.self (sz := s.heap.size)
  generalize hAe : va_A (x1W cB cI cJ cZ cR cS h0 a0 a1 a2 a3 a4 a5 a6 a7 o7 a8 o8 a9 h11 a11 M0 M1 M2 M3 M4 M5 M6 M7 M8 M9 F10 M11) s.heap.size = A at hD ⊢
  have hA : ∀ q : Nat, s.heap.size ≤ q → A q := fun q h => by rw [← hAe]; exact Or.inr h
  have hS : va_S A s.heap s.heap [] := va_S.rf
  have hK0 : va_K (dC, dI) vwCl (gT cB cI cJ cZ) s := hK.sub (tys' := gT cB cI cJ cZ) [0, 1, 2, 3] rfl
  have hinX10 : ∀ w ∈ wsX100, w ∈ wsX11_would := by decide +kernel
  have hinX11 : ∀ w ∈ wsX110, w ∈ wsX11_would := by decide +kernel
  have hinX6 : ∀ w ∈ wsX60, w ∈ wsX11_would := by decide +kernel
  have f1 := hts (.fieldLink RX11 22 "LastWords" "now" "LLastWords$State;") (by decide +kernel)
  have f2 := hts (.fieldLink RX11 118 "LastWords$State" "quarrel" "LLastWords$Quarrel;") (by decide +kernel)
  have f3 := hts (.fieldLink RX11 149 "LastWords$Quarrel" "goesOn" "Z") (by decide +kernel)
  have f4 := hts (.fieldLink RX11 40 "LastWords" "trial" "LLastWords$Quarrel;") (by decide +kernel)
  have f5 := hts (.fieldLink RX11 108 "LastWords$State" "corner" "LLastWords$Corner;") (by decide +kernel)
  have f6 := hts (.fieldLink RX11 156 "LastWords$Quarrel" "winner" "I") (by decide +kernel)
  have f7 := hts (.fieldLink RX11 174 "LastWords$Quarrel" "moves" "I") (by decide +kernel)
  have f8 := hts (.fieldLink RX11 177 "LastWords$Quarrel" "hat" "I") (by decide +kernel)
  have f9 := hts (.fieldLink RX11 128 "LastWords$Quarrel" "left" "I") (by decide +kernel)
  have bE : ∀ (M0 : gS) (M1 : gS) (M2 : gS) (M3 : gS) (M4 : gS) (M5 : gS) (M6 : gS) (M7 : gS) (M8 : gS) (M9 : gS) (F10 : oF) (M11 : gS) (H : Heap) (locs : List Loc) (ls : Array Slot), va_P (dC, dI) vwCl (x1W cB cI cJ cZ cR cS h0 a0 a1 a2 a3 a4 a5 a6 a7 o7 a8 o8 a9 h11 a11 M0 M1 M2 M3 M4 M5 M6 M7 M8 M9 F10 M11) H → va_D A (x1W cB cI cJ cZ cR cS h0 a0 a1 a2 a3 a4 a5 a6 a7 o7 a8 o8 a9 h11 a11 M0 M1 M2 M3 M4 M5 M6 M7 M8 M9 F10 M11) → va_S A s.heap H locs → lv_has ls 4 [(0, .ref h0), (1, .int p1), (2, .int p2), (3, .int p3)] → wX11_wouldna h11 p1 p2 p3 M0 M1 M2 M3 M4 M5 M6 M7 M8 M9 F10 M11 Q → W p l e (headSpec wsX11_would rmX11_wouldna).room s m ([.ref h0, .int p1, .int p2, .int p3] : List Value).toArray below meth c H locs 0 0 (MQ below (va_Qi (fun (r : Int32) (u : gS × gS × gS × gS × gS × gS × gS × gS × gS × gS × oF × gS) => Q r u.1 u.2.1 u.2.2.1 u.2.2.2.1 u.2.2.2.2.1 u.2.2.2.2.2.1 u.2.2.2.2.2.2.1 u.2.2.2.2.2.2.2.1 u.2.2.2.2.2.2.2.2.1 u.2.2.2.2.2.2.2.2.2.1 u.2.2.2.2.2.2.2.2.2.2.1 u.2.2.2.2.2.2.2.2.2.2.2) (x1B dC dI cB cI cJ cZ cR cS h0 a0 a1 a2 a3 a4 a5 a6 a7 a8 a9 h11 a11 A) A) ([.ref h0, .int p1, .int p2, .int p3] : List Value).toArray s 0 0 A) (F0 m 0 ls []) := by
    intro M0 M1 M2 M3 M4 M5 M6 M7 M8 M9 F10 M11 H locs ls hP hD hS hl h
    unfold wX11_wouldna at h
    refine lv_aload_n hx hb dX11_would_0 rfl (lv_at hl 0 rfl) ?_
    refine va_get (D := (dC, dI)) (ci := 11) (v := .ref (a0 4)) (C := RX11) (T := TX11) (N := 12) hx hb hts hinX11 hown hK hP 0 rfl rfl 4 (by decide) f1 (fun _ h9 => h9) rfl dX11_would_1 ?_
    refine va_get (D := (dC, dI)) (ci := 10) (v := .ref (a1 1)) (C := RX10) (T := TX10) (N := 5) hx hb hts hinX10 hown hK hP 3 rfl rfl 1 (by decide) f2 (fun _ h9 => h9) rfl dX11_would_4 ?_
    refine va_get (D := (dC, dI)) (ci := 6) (v := .int (mg M3 0)) (C := RX6) (T := TX6) (N := 10) hx hb hts hinX6 hown hK hP 9 rfl rfl 0 (by decide) f3 (fun _ h9 => h9) rfl dX11_would_7 ?_
    refine lv_if_eq (tgt := 29) hx hb dX11_would_10 (by decide) (fun c1 => ?_) (fun c1 => ?_)
    · have h := h.1 c1
      refine lv_bipush (v := (-2)) hx hb dX11_would_29 (by decide) ?_
      exact W.iret (v := (-2 : Int32)) hx hb hr (fun t ht hW => ⟨⟨_, (M0, M1, M2, M3, M4, M5, M6, M7, M8, M9, F10, M11), rfl, h, o7, o8, by rw [ht]; exact hP, va_K.moved hW.alike hK, hD⟩, hS.F ht⟩) hS.2.2 dX11_would_31
    · have h := h.2 c1
      refine lv_aload_n hx hb dX11_would_13 rfl (lv_at hl 0 rfl) ?_
      refine lv_iload_n hx hb dX11_would_14 rfl (lv_at hl 1 rfl) ?_
      have hPc := hP.sub (ws' := (rlW cB cI cJ cZ cR cS h0 a0 M0 F10)) [0, 1, 2, 34] rfl
      have hDc := hD.sub (ws' := (rlW cB cI cJ cZ cR cS h0 a0 M0 F10)) [0, 1, 2, 34] (by decide) rfl
      have hFc := va_free (wc := (rlW cB cI cJ cZ cR cS h0 a0 M0 F10)) hD hS hA [0, 1, 2, 34] rfl
      refine va_calli (va_runV (As := [.int p1]) (rest := []) ⟨hx, hb, hml, hown, hts⟩ (kX11_isRuleOrNone l dC dI cB cI cJ cZ cR cS h0 a0 H.size p1 M0 F10 _ h) (cwV 1 hts gX11_would_X11_isRuleOrNone rfl rfl rfl (by decide +kernel) ⟨Nat.le_of_ble_eq_true rfl, Nat.le_of_ble_eq_true rfl⟩) (rlpV hK hPc hDc) rfl rfl hl.1 rfl (lv_room (Nat.le_of_ble_eq_true rfl)) dX11_would_15 ⟨Nat.le_of_ble_eq_true rfl, Nat.le_of_ble_eq_true rfl⟩) hS (fun q _ z => hFc q z) hFc (fun r2 u t H1 locs ht hvm hw hB hz1 hk1 hS => ?_)
      obtain ⟨N3, v4⟩ := u
      obtain ⟨hP1, hK1, hD1⟩ := hB
      rw [ht] at hP1
      obtain ⟨hP, hD⟩ := va_join (wr := [(a0 4, .inr (10, [.ref (a1 0), .ref (a1 1), .ref (a1 2), .ref (a1 3), .int (mg M1 4)])), (a1 3, .inl (cI, 2, .inl (ma M1 3))), (a1 0, .inr (1, [.int (mg M2 0), .ref (a2 1), .int (mg M2 2), .ref (a2 3), .int (mg M2 4), .ref (a2 5)])), (a2 1, .inl (cI, 4, .inl (ma M2 1))), (a2 3, .inl (cI, 4, .inl (ma M2 3))), (a2 5, .inl (cI, 2, .inl (ma M2 5))), (a1 1, .inr (6, [.int (mg M3 0), .int (mg M3 1), .int (mg M3 2), .int (mg M3 3), .int (mg M3 4), .int (mg M3 5), .int (mg M3 6), .ref (a3 7), .ref (a3 8), .ref (a3 9)])), (a3 7, .inl (cI, 2, .inl (ma M3 7))), (a3 8, .inl (cI, 2, .inl (ma M3 8))), (a3 9, .inl (cI, 2, .inl (ma M3 9))), (a1 2, .inr (4, [.int (mg M4 0), .ref (a4 1), .ref (a4 2), .ref (a4 3)])), (a4 1, .inl (cI, 6, .inl (ma M4 1))), (a4 2, .inl (cI, 6, .inl (ma M4 2))), (a4 3, .inl (cI, 6, .inl (ma M4 3))), (a0 6, .inr (1, [.int (mg M5 0), .ref (a5 1), .int (mg M5 2), .ref (a5 3), .int (mg M5 4), .ref (a5 5)])), (a5 1, .inl (cI, 4, .inl (ma M5 1))), (a5 3, .inl (cI, 4, .inl (ma M5 3))), (a5 5, .inl (cI, 2, .inl (ma M5 5))), (a0 7, .inr (6, [.int (mg M6 0), .int (mg M6 1), .int (mg M6 2), .int (mg M6 3), .int (mg M6 4), .int (mg M6 5), .int (mg M6 6), .ref (a6 7), .ref (a6 8), .ref (a6 9)])), (a6 7, .inl (cI, 2, .inl (ma M6 7))), (a6 8, .inl (cI, 2, .inl (ma M6 8))), (a6 9, .inl (cI, 2, .inl (ma M6 9))), (a0 8, .inr (0, [.ref (a7 0), .ref (a7 1), .ref (a7 2), .ref (a7 3), .int (mg M7 4), va_rf o7, .int (mg M7 6), .int (mg M7 7), .int (mg M7 8), .int (mg M7 9), .int (mg M7 10)])), (a7 0, .inl (cJ, 15, .inr (.inl (ml M7 0)))), (a7 1, .inl (cJ, 800, .inr (.inl (ml M7 1)))), (a7 2, .inl (cI, 4, .inl (ma M7 2))), (a7 3, .inl (cJ, 4, .inr (.inl (ml M7 3)))), (a0 9, .inr (5, [.ref (a8 0), .ref (a8 1), va_rf o8, .int (mg M8 3)])), (a8 0, .inl (cI, 2048, .inl (ma M8 0))), (a8 1, .inl (cI, 2048, .inl (ma M8 1))), (a0 10, .inr (3, [.int (mg M9 0), .int (mg M9 1), .int (mg M9 2), .int (mg M9 3), .int (mg M9 4)])), (h11, .inr (8, [.int (mg M11 0), .ref (a11 1), .ref (a11 2), .ref (a11 3), .int (mg M11 4), .ref (a11 5)])), (a11 1, .inl (cI, 12, .inl (ma M11 1))), (a11 2, .inl (cI, 12, .inl (ma M11 2))), (a11 3, .inl (cI, 400, .inl (ma M11 3))), (a11 5, .inl (cJ, 60, .inr (.inl (ml M11 5))))]) (w1 := (rlW cB cI cJ cZ cR cS h0 a0 N3 v4)) hP hD [0, 1, 2, 34] [3, 4, 5, 6, 7, 8, 9, 10, 11, 12, 13, 14, 15, 16, 17, 18, 19, 20, 21, 22, 23, 24, 25, 26, 27, 28, 29, 30, 31, 32, 33, 35, 36, 37, 38, 39] rfl rfl (by decide) (by decide) hk1 hFc hP1 hD1
      have hP := hP.sub (ws' := (x1W cB cI cJ cZ cR cS h0 a0 a1 a2 a3 a4 a5 a6 a7 o7 a8 o8 a9 h11 a11 N3 M1 M2 M3 M4 M5 M6 M7 M8 M9 v4 M11)) [36, 37, 38, 0, 1, 2, 3, 4, 5, 6, 7, 8, 9, 10, 11, 12, 13, 14, 15, 16, 17, 18, 19, 20, 21, 22, 23, 24, 25, 26, 27, 28, 29, 30, 39, 31, 32, 33, 34, 35] rfl
      have hD := hD.sub (ws' := (x1W cB cI cJ cZ cR cS h0 a0 a1 a2 a3 a4 a5 a6 a7 o7 a8 o8 a9 h11 a11 N3 M1 M2 M3 M4 M5 M6 M7 M8 M9 v4 M11)) [36, 37, 38, 0, 1, 2, 3, 4, 5, 6, 7, 8, 9, 10, 11, 12, 13, 14, 15, 16, 17, 18, 19, 20, 21, 22, 23, 24, 25, 26, 27, 28, 29, 30, 39, 31, 32, 33, 34, 35] (by decide) rfl
      generalize H1 = H at hP hS ⊢
      obtain ⟨b5, rfl, h⟩ := hw
      try dsimp only at h
      refine lv_if_eq (tgt := 29) hx hb dX11_would_18 (by decide) (fun c6 => ?_) (fun c6 => ?_)
      · have h := h.1 c6
        refine lv_bipush (v := (-2)) hx hb dX11_would_29 (by decide) ?_
        exact W.iret (v := (-2 : Int32)) hx hb hr (fun t ht hW => ⟨⟨_, (N3, M1, M2, M3, M4, M5, M6, M7, M8, M9, v4, M11), rfl, h, o7, o8, by rw [ht]; exact hP, va_K.moved hW.alike hK, hD⟩, hS.F ht⟩) hS.2.2 dX11_would_31
      · have h := h.2 c6
        refine lv_aload_n hx hb dX11_would_21 rfl (lv_at hl 0 rfl) ?_
        refine lv_iload_n hx hb dX11_would_22 rfl (lv_at hl 2 rfl) ?_
        have hPc := hP.sub (ws' := (rlW cB cI cJ cZ cR cS h0 a0 N3 v4)) [0, 1, 2, 34] rfl
        have hDc := hD.sub (ws' := (rlW cB cI cJ cZ cR cS h0 a0 N3 v4)) [0, 1, 2, 34] (by decide) rfl
        have hFc := va_free (wc := (rlW cB cI cJ cZ cR cS h0 a0 N3 v4)) hD hS hA [0, 1, 2, 34] rfl
        refine va_calli (va_runV (As := [.int p2]) (rest := []) ⟨hx, hb, hml, hown, hts⟩ (kX11_isRuleOrNone l dC dI cB cI cJ cZ cR cS h0 a0 H.size p2 N3 v4 _ h) (cwV 1 hts gX11_would_X11_isRuleOrNone rfl rfl rfl (by decide +kernel) ⟨Nat.le_of_ble_eq_true rfl, Nat.le_of_ble_eq_true rfl⟩) (rlpV hK hPc hDc) rfl rfl hl.1 rfl (lv_room (Nat.le_of_ble_eq_true rfl)) dX11_would_23 ⟨Nat.le_of_ble_eq_true rfl, Nat.le_of_ble_eq_true rfl⟩) hS (fun q _ z => hFc q z) hFc (fun r7 u t H1 locs ht hvm hw hB hz1 hk1 hS => ?_)
        obtain ⟨N8, v9⟩ := u
        obtain ⟨hP1, hK1, hD1⟩ := hB
        rw [ht] at hP1
        obtain ⟨hP, hD⟩ := va_join (wr := [(a0 4, .inr (10, [.ref (a1 0), .ref (a1 1), .ref (a1 2), .ref (a1 3), .int (mg M1 4)])), (a1 3, .inl (cI, 2, .inl (ma M1 3))), (a1 0, .inr (1, [.int (mg M2 0), .ref (a2 1), .int (mg M2 2), .ref (a2 3), .int (mg M2 4), .ref (a2 5)])), (a2 1, .inl (cI, 4, .inl (ma M2 1))), (a2 3, .inl (cI, 4, .inl (ma M2 3))), (a2 5, .inl (cI, 2, .inl (ma M2 5))), (a1 1, .inr (6, [.int (mg M3 0), .int (mg M3 1), .int (mg M3 2), .int (mg M3 3), .int (mg M3 4), .int (mg M3 5), .int (mg M3 6), .ref (a3 7), .ref (a3 8), .ref (a3 9)])), (a3 7, .inl (cI, 2, .inl (ma M3 7))), (a3 8, .inl (cI, 2, .inl (ma M3 8))), (a3 9, .inl (cI, 2, .inl (ma M3 9))), (a1 2, .inr (4, [.int (mg M4 0), .ref (a4 1), .ref (a4 2), .ref (a4 3)])), (a4 1, .inl (cI, 6, .inl (ma M4 1))), (a4 2, .inl (cI, 6, .inl (ma M4 2))), (a4 3, .inl (cI, 6, .inl (ma M4 3))), (a0 6, .inr (1, [.int (mg M5 0), .ref (a5 1), .int (mg M5 2), .ref (a5 3), .int (mg M5 4), .ref (a5 5)])), (a5 1, .inl (cI, 4, .inl (ma M5 1))), (a5 3, .inl (cI, 4, .inl (ma M5 3))), (a5 5, .inl (cI, 2, .inl (ma M5 5))), (a0 7, .inr (6, [.int (mg M6 0), .int (mg M6 1), .int (mg M6 2), .int (mg M6 3), .int (mg M6 4), .int (mg M6 5), .int (mg M6 6), .ref (a6 7), .ref (a6 8), .ref (a6 9)])), (a6 7, .inl (cI, 2, .inl (ma M6 7))), (a6 8, .inl (cI, 2, .inl (ma M6 8))), (a6 9, .inl (cI, 2, .inl (ma M6 9))), (a0 8, .inr (0, [.ref (a7 0), .ref (a7 1), .ref (a7 2), .ref (a7 3), .int (mg M7 4), va_rf o7, .int (mg M7 6), .int (mg M7 7), .int (mg M7 8), .int (mg M7 9), .int (mg M7 10)])), (a7 0, .inl (cJ, 15, .inr (.inl (ml M7 0)))), (a7 1, .inl (cJ, 800, .inr (.inl (ml M7 1)))), (a7 2, .inl (cI, 4, .inl (ma M7 2))), (a7 3, .inl (cJ, 4, .inr (.inl (ml M7 3)))), (a0 9, .inr (5, [.ref (a8 0), .ref (a8 1), va_rf o8, .int (mg M8 3)])), (a8 0, .inl (cI, 2048, .inl (ma M8 0))), (a8 1, .inl (cI, 2048, .inl (ma M8 1))), (a0 10, .inr (3, [.int (mg M9 0), .int (mg M9 1), .int (mg M9 2), .int (mg M9 3), .int (mg M9 4)])), (h11, .inr (8, [.int (mg M11 0), .ref (a11 1), .ref (a11 2), .ref (a11 3), .int (mg M11 4), .ref (a11 5)])), (a11 1, .inl (cI, 12, .inl (ma M11 1))), (a11 2, .inl (cI, 12, .inl (ma M11 2))), (a11 3, .inl (cI, 400, .inl (ma M11 3))), (a11 5, .inl (cJ, 60, .inr (.inl (ml M11 5))))]) (w1 := (rlW cB cI cJ cZ cR cS h0 a0 N8 v9)) hP hD [0, 1, 2, 34] [3, 4, 5, 6, 7, 8, 9, 10, 11, 12, 13, 14, 15, 16, 17, 18, 19, 20, 21, 22, 23, 24, 25, 26, 27, 28, 29, 30, 31, 32, 33, 35, 36, 37, 38, 39] rfl rfl (by decide) (by decide) hk1 hFc hP1 hD1
        have hP := hP.sub (ws' := (x1W cB cI cJ cZ cR cS h0 a0 a1 a2 a3 a4 a5 a6 a7 o7 a8 o8 a9 h11 a11 N8 M1 M2 M3 M4 M5 M6 M7 M8 M9 v9 M11)) [36, 37, 38, 0, 1, 2, 3, 4, 5, 6, 7, 8, 9, 10, 11, 12, 13, 14, 15, 16, 17, 18, 19, 20, 21, 22, 23, 24, 25, 26, 27, 28, 29, 30, 39, 31, 32, 33, 34, 35] rfl
        have hD := hD.sub (ws' := (x1W cB cI cJ cZ cR cS h0 a0 a1 a2 a3 a4 a5 a6 a7 o7 a8 o8 a9 h11 a11 N8 M1 M2 M3 M4 M5 M6 M7 M8 M9 v9 M11)) [36, 37, 38, 0, 1, 2, 3, 4, 5, 6, 7, 8, 9, 10, 11, 12, 13, 14, 15, 16, 17, 18, 19, 20, 21, 22, 23, 24, 25, 26, 27, 28, 29, 30, 39, 31, 32, 33, 34, 35] (by decide) rfl
        generalize H1 = H at hP hS ⊢
        obtain ⟨b10, rfl, h⟩ := hw
        try dsimp only at h
        refine lv_if_ne (tgt := 32) hx hb dX11_would_26 (by decide) (fun c11 => ?_) (fun c11 => ?_)
        · have h := h.2 c11
          refine lv_iload_n hx hb dX11_would_32 rfl (lv_at hl 3 rfl) ?_
          refine lv_if_lt (tgt := 41) hx hb dX11_would_33 (by decide) (fun c12 => ?_) (fun c12 => ?_)
          · have h := h.1 c12
            refine lv_bipush (v := (-2)) hx hb dX11_would_41 (by decide) ?_
            exact W.iret (v := (-2 : Int32)) hx hb hr (fun t ht hW => ⟨⟨_, (N8, M1, M2, M3, M4, M5, M6, M7, M8, M9, v9, M11), rfl, h, o7, o8, by rw [ht]; exact hP, va_K.moved hW.alike hK, hD⟩, hS.F ht⟩) hS.2.2 dX11_would_43
          · have h := h.2 c12
            refine lv_iload_n hx hb dX11_would_36 rfl (lv_at hl 3 rfl) ?_
            refine lv_iconst (v := 3) hx hb dX11_would_37 (by decide) ?_
            refine lv_icmp_le (tgt := 44) hx hb dX11_would_38 (by decide) (fun c13 => ?_) (fun c13 => ?_)
            · have h := h.1 c13
              refine lv_aload_n hx hb dX11_would_44 rfl (lv_at hl 0 rfl) ?_
              refine va_get (D := (dC, dI)) (ci := 11) (v := .ref (a0 7)) (C := RX11) (T := TX11) (N := 12) hx hb hts hinX11 hown hK hP 0 rfl rfl 7 (by decide) f4 (fun _ h9 => h9) rfl dX11_would_45 ?_
              refine lv_aload_n hx hb dX11_would_48 rfl (lv_at hl 0 rfl) ?_
              refine va_get (D := (dC, dI)) (ci := 11) (v := .ref (a0 4)) (C := RX11) (T := TX11) (N := 12) hx hb hts hinX11 hown hK hP 0 rfl rfl 4 (by decide) f1 (fun _ h9 => h9) rfl dX11_would_49 ?_
              refine va_get (D := (dC, dI)) (ci := 10) (v := .ref (a1 1)) (C := RX10) (T := TX10) (N := 5) hx hb hts hinX10 hown hK hP 3 rfl rfl 1 (by decide) f2 (fun _ h9 => h9) rfl dX11_would_52 ?_
              have hPc := hP.sub (ws' := (qkW cB cI cJ cZ (a0 7) a6 (a1 1) a3 M6 M3)) [21, 22, 23, 24, 9, 10, 11, 12] rfl
              have hDc := hD.sub (ws' := (qkW cB cI cJ cZ (a0 7) a6 (a1 1) a3 M6 M3)) [21, 22, 23, 24, 9, 10, 11, 12] (by decide) rfl
              have hFc := va_free (wc := (qkW cB cI cJ cZ (a0 7) a6 (a1 1) a3 M6 M3)) hD hS hA [21, 22, 23, 24, 9, 10, 11, 12] rfl
              refine va_callv (va_runV (As := [.ref (a1 1)]) (rest := []) ⟨hx, hb, hml, hown, hts⟩ (kX6_copyFrom l dC dI cB cI cJ cZ (a0 7) a6 (a1 1) a3 H.size  M6 M3 _ h) (cwV 1 hts gX11_would_X6_copyFrom rfl rfl rfl (by decide +kernel) ⟨Nat.le_of_ble_eq_true rfl, Nat.le_of_ble_eq_true rfl⟩) (qkpV hK0 hPc hDc) rfl rfl hl.1 rfl (lv_room (Nat.le_of_ble_eq_true rfl)) dX11_would_55 ⟨Nat.le_of_ble_eq_true rfl, Nat.le_of_ble_eq_true rfl⟩) hS (fun q _ z => hFc q z) hFc (fun u t H1 locs ht hvm hw hB hz1 hk1 hS => ?_)
              obtain ⟨N15, N16⟩ := u
              obtain ⟨hP1, hK1, hD1⟩ := hB
              rw [ht] at hP1
              obtain ⟨hP, hD⟩ := va_join (wr := [(h0, .inr (11, [.ref (a0 0), .int (mg N8 1), .ref (a0 2), .int (mg N8 3), .ref (a0 4), .ref (a0 5), .ref (a0 6), .ref (a0 7), .ref (a0 8), .ref (a0 9), .ref (a0 10), .ref (a0 11)])), (a0 0, .inl (cI, 400, .inl (ma N8 0))), (a0 11, .inl (cJ, 4, .inr (.inl (ml N8 11)))), (a0 4, .inr (10, [.ref (a1 0), .ref (a1 1), .ref (a1 2), .ref (a1 3), .int (mg M1 4)])), (a1 3, .inl (cI, 2, .inl (ma M1 3))), (a1 0, .inr (1, [.int (mg M2 0), .ref (a2 1), .int (mg M2 2), .ref (a2 3), .int (mg M2 4), .ref (a2 5)])), (a2 1, .inl (cI, 4, .inl (ma M2 1))), (a2 3, .inl (cI, 4, .inl (ma M2 3))), (a2 5, .inl (cI, 2, .inl (ma M2 5))), (a1 2, .inr (4, [.int (mg M4 0), .ref (a4 1), .ref (a4 2), .ref (a4 3)])), (a4 1, .inl (cI, 6, .inl (ma M4 1))), (a4 2, .inl (cI, 6, .inl (ma M4 2))), (a4 3, .inl (cI, 6, .inl (ma M4 3))), (a0 6, .inr (1, [.int (mg M5 0), .ref (a5 1), .int (mg M5 2), .ref (a5 3), .int (mg M5 4), .ref (a5 5)])), (a5 1, .inl (cI, 4, .inl (ma M5 1))), (a5 3, .inl (cI, 4, .inl (ma M5 3))), (a5 5, .inl (cI, 2, .inl (ma M5 5))), (a0 8, .inr (0, [.ref (a7 0), .ref (a7 1), .ref (a7 2), .ref (a7 3), .int (mg M7 4), va_rf o7, .int (mg M7 6), .int (mg M7 7), .int (mg M7 8), .int (mg M7 9), .int (mg M7 10)])), (a7 0, .inl (cJ, 15, .inr (.inl (ml M7 0)))), (a7 1, .inl (cJ, 800, .inr (.inl (ml M7 1)))), (a7 2, .inl (cI, 4, .inl (ma M7 2))), (a7 3, .inl (cJ, 4, .inr (.inl (ml M7 3)))), (a0 9, .inr (5, [.ref (a8 0), .ref (a8 1), va_rf o8, .int (mg M8 3)])), (a8 0, .inl (cI, 2048, .inl (ma M8 0))), (a8 1, .inl (cI, 2048, .inl (ma M8 1))), (a0 10, .inr (3, [.int (mg M9 0), .int (mg M9 1), .int (mg M9 2), .int (mg M9 3), .int (mg M9 4)])), (a0 2, .inl (cR, 6, .inr (.inr (.inr (.inr v9))))), (h11, .inr (8, [.int (mg M11 0), .ref (a11 1), .ref (a11 2), .ref (a11 3), .int (mg M11 4), .ref (a11 5)])), (a11 1, .inl (cI, 12, .inl (ma M11 1))), (a11 2, .inl (cI, 12, .inl (ma M11 2))), (a11 3, .inl (cI, 400, .inl (ma M11 3))), (a11 5, .inl (cJ, 60, .inr (.inl (ml M11 5))))]) (w1 := (qkW cB cI cJ cZ (a0 7) a6 (a1 1) a3 N15 N16)) hP hD [21, 22, 23, 24, 9, 10, 11, 12] [0, 1, 2, 3, 4, 5, 6, 7, 8, 13, 14, 15, 16, 17, 18, 19, 20, 25, 26, 27, 28, 29, 30, 31, 32, 33, 34, 35, 36, 37, 38, 39] rfl rfl (by decide) (by decide) hk1 hFc hP1 hD1
              have hP := hP.sub (ws' := (x1W cB cI cJ cZ cR cS h0 a0 a1 a2 a3 a4 a5 a6 a7 o7 a8 o8 a9 h11 a11 N8 M1 M2 N16 M4 M5 N15 M7 M8 M9 v9 M11)) [0, 1, 2, 3, 4, 5, 6, 7, 8, 36, 37, 38, 39, 9, 10, 11, 12, 13, 14, 15, 16, 32, 33, 34, 35, 17, 18, 19, 20, 21, 22, 23, 24, 25, 26, 27, 28, 29, 30, 31] rfl
              have hD := hD.sub (ws' := (x1W cB cI cJ cZ cR cS h0 a0 a1 a2 a3 a4 a5 a6 a7 o7 a8 o8 a9 h11 a11 N8 M1 M2 N16 M4 M5 N15 M7 M8 M9 v9 M11)) [0, 1, 2, 3, 4, 5, 6, 7, 8, 36, 37, 38, 39, 9, 10, 11, 12, 13, 14, 15, 16, 32, 33, 34, 35, 17, 18, 19, 20, 21, 22, 23, 24, 25, 26, 27, 28, 29, 30, 31] (by decide) rfl
              generalize H1 = H at hP hS ⊢
              have h := hw
              try dsimp only at h
              refine lv_aload_n hx hb dX11_would_58 rfl (lv_at hl 0 rfl) ?_
              refine va_get (D := (dC, dI)) (ci := 11) (v := .ref (a0 7)) (C := RX11) (T := TX11) (N := 12) hx hb hts hinX11 hown hK hP 0 rfl rfl 7 (by decide) f4 (fun _ h9 => h9) rfl dX11_would_59 ?_
              refine lv_aload_n hx hb dX11_would_62 rfl (lv_at hl 0 rfl) ?_
              refine va_get (D := (dC, dI)) (ci := 11) (v := .ref (a0 4)) (C := RX11) (T := TX11) (N := 12) hx hb hts hinX11 hown hK hP 0 rfl rfl 4 (by decide) f1 (fun _ h9 => h9) rfl dX11_would_63 ?_
              refine va_get (D := (dC, dI)) (ci := 10) (v := .ref (a1 0)) (C := RX10) (T := TX10) (N := 5) hx hb hts hinX10 hown hK hP 3 rfl rfl 0 (by decide) f5 (fun _ h9 => h9) rfl dX11_would_66 ?_
              refine lv_aload_n hx hb dX11_would_69 rfl (lv_at hl 0 rfl) ?_
              refine lv_iload_n hx hb dX11_would_70 rfl (lv_at hl 1 rfl) ?_
              have hPc := hP.sub (ws' := (rlW cB cI cJ cZ cR cS h0 a0 N8 v9)) [0, 1, 2, 34] rfl
              have hDc := hD.sub (ws' := (rlW cB cI cJ cZ cR cS h0 a0 N8 v9)) [0, 1, 2, 34] (by decide) rfl
              have hFc := va_free (wc := (rlW cB cI cJ cZ cR cS h0 a0 N8 v9)) hD hS hA [0, 1, 2, 34] rfl
              refine va_callq (va_runV (As := [.int p1]) (rest := [.ref (a1 0), .ref (a0 7)]) ⟨hx, hb, hml, hown, hts⟩ (kX11_ruleAt l dC dI cB cI cJ cZ cR cS h0 a0 H.size p1 N8 v9 _ h) (cwV 1 hts gX11_would_X11_ruleAt rfl rfl rfl (by decide +kernel) ⟨Nat.le_of_ble_eq_true rfl, Nat.le_of_ble_eq_true rfl⟩) (rlpV hK hPc hDc) rfl rfl hl.1 rfl (lv_room (Nat.le_of_ble_eq_true rfl)) dX11_would_71 ⟨Nat.le_of_ble_eq_true rfl, Nat.le_of_ble_eq_true rfl⟩) hS (fun q _ z => hFc q z) hFc (fun r17 u t H1 locs ht hvm hw hB hz1 hk1 hS => ?_)
              obtain ⟨N18, v19⟩ := u
              obtain ⟨hP1, hK1, hD1⟩ := hB
              rw [ht] at hP1
              obtain ⟨hP, hD⟩ := va_join (wr := [(a0 4, .inr (10, [.ref (a1 0), .ref (a1 1), .ref (a1 2), .ref (a1 3), .int (mg M1 4)])), (a1 3, .inl (cI, 2, .inl (ma M1 3))), (a1 0, .inr (1, [.int (mg M2 0), .ref (a2 1), .int (mg M2 2), .ref (a2 3), .int (mg M2 4), .ref (a2 5)])), (a2 1, .inl (cI, 4, .inl (ma M2 1))), (a2 3, .inl (cI, 4, .inl (ma M2 3))), (a2 5, .inl (cI, 2, .inl (ma M2 5))), (a1 1, .inr (6, [.int (mg N16 0), .int (mg N16 1), .int (mg N16 2), .int (mg N16 3), .int (mg N16 4), .int (mg N16 5), .int (mg N16 6), .ref (a3 7), .ref (a3 8), .ref (a3 9)])), (a3 7, .inl (cI, 2, .inl (ma N16 7))), (a3 8, .inl (cI, 2, .inl (ma N16 8))), (a3 9, .inl (cI, 2, .inl (ma N16 9))), (a1 2, .inr (4, [.int (mg M4 0), .ref (a4 1), .ref (a4 2), .ref (a4 3)])), (a4 1, .inl (cI, 6, .inl (ma M4 1))), (a4 2, .inl (cI, 6, .inl (ma M4 2))), (a4 3, .inl (cI, 6, .inl (ma M4 3))), (a0 6, .inr (1, [.int (mg M5 0), .ref (a5 1), .int (mg M5 2), .ref (a5 3), .int (mg M5 4), .ref (a5 5)])), (a5 1, .inl (cI, 4, .inl (ma M5 1))), (a5 3, .inl (cI, 4, .inl (ma M5 3))), (a5 5, .inl (cI, 2, .inl (ma M5 5))), (a0 7, .inr (6, [.int (mg N15 0), .int (mg N15 1), .int (mg N15 2), .int (mg N15 3), .int (mg N15 4), .int (mg N15 5), .int (mg N15 6), .ref (a6 7), .ref (a6 8), .ref (a6 9)])), (a6 7, .inl (cI, 2, .inl (ma N15 7))), (a6 8, .inl (cI, 2, .inl (ma N15 8))), (a6 9, .inl (cI, 2, .inl (ma N15 9))), (a0 8, .inr (0, [.ref (a7 0), .ref (a7 1), .ref (a7 2), .ref (a7 3), .int (mg M7 4), va_rf o7, .int (mg M7 6), .int (mg M7 7), .int (mg M7 8), .int (mg M7 9), .int (mg M7 10)])), (a7 0, .inl (cJ, 15, .inr (.inl (ml M7 0)))), (a7 1, .inl (cJ, 800, .inr (.inl (ml M7 1)))), (a7 2, .inl (cI, 4, .inl (ma M7 2))), (a7 3, .inl (cJ, 4, .inr (.inl (ml M7 3)))), (a0 9, .inr (5, [.ref (a8 0), .ref (a8 1), va_rf o8, .int (mg M8 3)])), (a8 0, .inl (cI, 2048, .inl (ma M8 0))), (a8 1, .inl (cI, 2048, .inl (ma M8 1))), (a0 10, .inr (3, [.int (mg M9 0), .int (mg M9 1), .int (mg M9 2), .int (mg M9 3), .int (mg M9 4)])), (h11, .inr (8, [.int (mg M11 0), .ref (a11 1), .ref (a11 2), .ref (a11 3), .int (mg M11 4), .ref (a11 5)])), (a11 1, .inl (cI, 12, .inl (ma M11 1))), (a11 2, .inl (cI, 12, .inl (ma M11 2))), (a11 3, .inl (cI, 400, .inl (ma M11 3))), (a11 5, .inl (cJ, 60, .inr (.inl (ml M11 5))))]) (w1 := (rlW cB cI cJ cZ cR cS h0 a0 N18 v19)) hP hD [0, 1, 2, 34] [3, 4, 5, 6, 7, 8, 9, 10, 11, 12, 13, 14, 15, 16, 17, 18, 19, 20, 21, 22, 23, 24, 25, 26, 27, 28, 29, 30, 31, 32, 33, 35, 36, 37, 38, 39] rfl rfl (by decide) (by decide) hk1 hFc hP1 hD1
              have hP := hP.sub (ws' := (x1W cB cI cJ cZ cR cS h0 a0 a1 a2 a3 a4 a5 a6 a7 o7 a8 o8 a9 h11 a11 N18 M1 M2 N16 M4 M5 N15 M7 M8 M9 v19 M11)) [36, 37, 38, 0, 1, 2, 3, 4, 5, 6, 7, 8, 9, 10, 11, 12, 13, 14, 15, 16, 17, 18, 19, 20, 21, 22, 23, 24, 25, 26, 27, 28, 29, 30, 39, 31, 32, 33, 34, 35] rfl
              have hD := hD.sub (ws' := (x1W cB cI cJ cZ cR cS h0 a0 a1 a2 a3 a4 a5 a6 a7 o7 a8 o8 a9 h11 a11 N18 M1 M2 N16 M4 M5 N15 M7 M8 M9 v19 M11)) [36, 37, 38, 0, 1, 2, 3, 4, 5, 6, 7, 8, 9, 10, 11, 12, 13, 14, 15, 16, 17, 18, 19, 20, 21, 22, 23, 24, 25, 26, 27, 28, 29, 30, 39, 31, 32, 33, 34, 35] (by decide) rfl
              generalize H1 = H at hP hS ⊢
              have h := hw
              try dsimp only at h
              refine lv_aload_n hx hb dX11_would_74 rfl (lv_at hl 0 rfl) ?_
              refine lv_iload_n hx hb dX11_would_75 rfl (lv_at hl 2 rfl) ?_
              have hPc := hP.sub (ws' := (rlW cB cI cJ cZ cR cS h0 a0 N18 v19)) [0, 1, 2, 34] rfl
              have hDc := hD.sub (ws' := (rlW cB cI cJ cZ cR cS h0 a0 N18 v19)) [0, 1, 2, 34] (by decide) rfl
              have hFc := va_free (wc := (rlW cB cI cJ cZ cR cS h0 a0 N18 v19)) hD hS hA [0, 1, 2, 34] rfl
              refine va_callq (va_runV (As := [.int p2]) (rest := [va_rf r17, .ref (a1 0), .ref (a0 7)]) ⟨hx, hb, hml, hown, hts⟩ (kX11_ruleAt l dC dI cB cI cJ cZ cR cS h0 a0 H.size p2 N18 v19 _ h) (cwV 1 hts gX11_would_X11_ruleAt rfl rfl rfl (by decide +kernel) ⟨Nat.le_of_ble_eq_true rfl, Nat.le_of_ble_eq_true rfl⟩) (rlpV hK hPc hDc) rfl rfl hl.1 rfl (lv_room (by cases r17 <;> exact Nat.le_of_ble_eq_true rfl)) dX11_would_76 ⟨Nat.le_of_ble_eq_true rfl, Nat.le_of_ble_eq_true rfl⟩) hS (fun q _ z => hFc q z) hFc (fun r20 u t H1 locs ht hvm hw hB hz1 hk1 hS => ?_)
              obtain ⟨N21, v22⟩ := u
              obtain ⟨hP1, hK1, hD1⟩ := hB
              rw [ht] at hP1
              obtain ⟨hP, hD⟩ := va_join (wr := [(a0 4, .inr (10, [.ref (a1 0), .ref (a1 1), .ref (a1 2), .ref (a1 3), .int (mg M1 4)])), (a1 3, .inl (cI, 2, .inl (ma M1 3))), (a1 0, .inr (1, [.int (mg M2 0), .ref (a2 1), .int (mg M2 2), .ref (a2 3), .int (mg M2 4), .ref (a2 5)])), (a2 1, .inl (cI, 4, .inl (ma M2 1))), (a2 3, .inl (cI, 4, .inl (ma M2 3))), (a2 5, .inl (cI, 2, .inl (ma M2 5))), (a1 1, .inr (6, [.int (mg N16 0), .int (mg N16 1), .int (mg N16 2), .int (mg N16 3), .int (mg N16 4), .int (mg N16 5), .int (mg N16 6), .ref (a3 7), .ref (a3 8), .ref (a3 9)])), (a3 7, .inl (cI, 2, .inl (ma N16 7))), (a3 8, .inl (cI, 2, .inl (ma N16 8))), (a3 9, .inl (cI, 2, .inl (ma N16 9))), (a1 2, .inr (4, [.int (mg M4 0), .ref (a4 1), .ref (a4 2), .ref (a4 3)])), (a4 1, .inl (cI, 6, .inl (ma M4 1))), (a4 2, .inl (cI, 6, .inl (ma M4 2))), (a4 3, .inl (cI, 6, .inl (ma M4 3))), (a0 6, .inr (1, [.int (mg M5 0), .ref (a5 1), .int (mg M5 2), .ref (a5 3), .int (mg M5 4), .ref (a5 5)])), (a5 1, .inl (cI, 4, .inl (ma M5 1))), (a5 3, .inl (cI, 4, .inl (ma M5 3))), (a5 5, .inl (cI, 2, .inl (ma M5 5))), (a0 7, .inr (6, [.int (mg N15 0), .int (mg N15 1), .int (mg N15 2), .int (mg N15 3), .int (mg N15 4), .int (mg N15 5), .int (mg N15 6), .ref (a6 7), .ref (a6 8), .ref (a6 9)])), (a6 7, .inl (cI, 2, .inl (ma N15 7))), (a6 8, .inl (cI, 2, .inl (ma N15 8))), (a6 9, .inl (cI, 2, .inl (ma N15 9))), (a0 8, .inr (0, [.ref (a7 0), .ref (a7 1), .ref (a7 2), .ref (a7 3), .int (mg M7 4), va_rf o7, .int (mg M7 6), .int (mg M7 7), .int (mg M7 8), .int (mg M7 9), .int (mg M7 10)])), (a7 0, .inl (cJ, 15, .inr (.inl (ml M7 0)))), (a7 1, .inl (cJ, 800, .inr (.inl (ml M7 1)))), (a7 2, .inl (cI, 4, .inl (ma M7 2))), (a7 3, .inl (cJ, 4, .inr (.inl (ml M7 3)))), (a0 9, .inr (5, [.ref (a8 0), .ref (a8 1), va_rf o8, .int (mg M8 3)])), (a8 0, .inl (cI, 2048, .inl (ma M8 0))), (a8 1, .inl (cI, 2048, .inl (ma M8 1))), (a0 10, .inr (3, [.int (mg M9 0), .int (mg M9 1), .int (mg M9 2), .int (mg M9 3), .int (mg M9 4)])), (h11, .inr (8, [.int (mg M11 0), .ref (a11 1), .ref (a11 2), .ref (a11 3), .int (mg M11 4), .ref (a11 5)])), (a11 1, .inl (cI, 12, .inl (ma M11 1))), (a11 2, .inl (cI, 12, .inl (ma M11 2))), (a11 3, .inl (cI, 400, .inl (ma M11 3))), (a11 5, .inl (cJ, 60, .inr (.inl (ml M11 5))))]) (w1 := (rlW cB cI cJ cZ cR cS h0 a0 N21 v22)) hP hD [0, 1, 2, 34] [3, 4, 5, 6, 7, 8, 9, 10, 11, 12, 13, 14, 15, 16, 17, 18, 19, 20, 21, 22, 23, 24, 25, 26, 27, 28, 29, 30, 31, 32, 33, 35, 36, 37, 38, 39] rfl rfl (by decide) (by decide) hk1 hFc hP1 hD1
              have hP := hP.sub (ws' := (x1W cB cI cJ cZ cR cS h0 a0 a1 a2 a3 a4 a5 a6 a7 o7 a8 o8 a9 h11 a11 N21 M1 M2 N16 M4 M5 N15 M7 M8 M9 v22 M11)) [36, 37, 38, 0, 1, 2, 3, 4, 5, 6, 7, 8, 9, 10, 11, 12, 13, 14, 15, 16, 17, 18, 19, 20, 21, 22, 23, 24, 25, 26, 27, 28, 29, 30, 39, 31, 32, 33, 34, 35] rfl
              have hD := hD.sub (ws' := (x1W cB cI cJ cZ cR cS h0 a0 a1 a2 a3 a4 a5 a6 a7 o7 a8 o8 a9 h11 a11 N21 M1 M2 N16 M4 M5 N15 M7 M8 M9 v22 M11)) [36, 37, 38, 0, 1, 2, 3, 4, 5, 6, 7, 8, 9, 10, 11, 12, 13, 14, 15, 16, 17, 18, 19, 20, 21, 22, 23, 24, 25, 26, 27, 28, 29, 30, 39, 31, 32, 33, 34, 35] (by decide) rfl
              generalize H1 = H at hP hS ⊢
              have h := hw
              try dsimp only at h
              obtain ⟨ehQ23, hQ23⟩ := h
              subst ehQ23
              have h := hQ23
              obtain ⟨ehQ24, hQ24⟩ := h
              subst ehQ24
              have h := hQ24
              have hPc := hP.sub (ws' := (q1W cB cI cJ cZ (a0 7) a6 (a1 0) a2 h11 a11 N15 M2 M11)) [21, 22, 23, 24, 5, 6, 7, 8, 35, 36, 37, 38, 39] rfl
              have hDc := hD.sub (ws' := (q1W cB cI cJ cZ (a0 7) a6 (a1 0) a2 h11 a11 N15 M2 M11)) [21, 22, 23, 24, 5, 6, 7, 8, 35, 36, 37, 38, 39] (by decide) rfl
              have hFc := va_free (wc := (q1W cB cI cJ cZ (a0 7) a6 (a1 0) a2 h11 a11 N15 M2 M11)) hD hS hA [21, 22, 23, 24, 5, 6, 7, 8, 35, 36, 37, 38, 39] rfl
              refine va_callv (va_runV (As := [.ref (a1 0), .null, .ref h11]) (rest := []) ⟨hx, hb, hml, hown, hts⟩ (kX6_goByRulesna l dC dI cB cI cJ cZ (a0 7) a6 (a1 0) a2 h11 a11 H.size  N15 M2 M11 _ h) (cwV 3 hts gX11_would_X6_goByRules rfl rfl rfl (by decide +kernel) ⟨Nat.le_of_ble_eq_true rfl, Nat.le_of_ble_eq_true rfl⟩) (q1pV hK0 hPc hDc) rfl rfl hl.1 rfl (lv_room (Nat.le_of_ble_eq_true rfl)) dX11_would_79 ⟨Nat.le_of_ble_eq_true rfl, Nat.le_of_ble_eq_true rfl⟩) hS (fun q _ z => hFc q z) hFc (fun u t H1 locs ht hvm hw hB hz1 hk1 hS => ?_)
              obtain ⟨N26, N27, N28⟩ := u
              obtain ⟨hP1, hK1, hD1⟩ := hB
              rw [ht] at hP1
              obtain ⟨hP, hD⟩ := va_join (wr := [(h0, .inr (11, [.ref (a0 0), .int (mg N21 1), .ref (a0 2), .int (mg N21 3), .ref (a0 4), .ref (a0 5), .ref (a0 6), .ref (a0 7), .ref (a0 8), .ref (a0 9), .ref (a0 10), .ref (a0 11)])), (a0 0, .inl (cI, 400, .inl (ma N21 0))), (a0 11, .inl (cJ, 4, .inr (.inl (ml N21 11)))), (a0 4, .inr (10, [.ref (a1 0), .ref (a1 1), .ref (a1 2), .ref (a1 3), .int (mg M1 4)])), (a1 3, .inl (cI, 2, .inl (ma M1 3))), (a1 1, .inr (6, [.int (mg N16 0), .int (mg N16 1), .int (mg N16 2), .int (mg N16 3), .int (mg N16 4), .int (mg N16 5), .int (mg N16 6), .ref (a3 7), .ref (a3 8), .ref (a3 9)])), (a3 7, .inl (cI, 2, .inl (ma N16 7))), (a3 8, .inl (cI, 2, .inl (ma N16 8))), (a3 9, .inl (cI, 2, .inl (ma N16 9))), (a1 2, .inr (4, [.int (mg M4 0), .ref (a4 1), .ref (a4 2), .ref (a4 3)])), (a4 1, .inl (cI, 6, .inl (ma M4 1))), (a4 2, .inl (cI, 6, .inl (ma M4 2))), (a4 3, .inl (cI, 6, .inl (ma M4 3))), (a0 6, .inr (1, [.int (mg M5 0), .ref (a5 1), .int (mg M5 2), .ref (a5 3), .int (mg M5 4), .ref (a5 5)])), (a5 1, .inl (cI, 4, .inl (ma M5 1))), (a5 3, .inl (cI, 4, .inl (ma M5 3))), (a5 5, .inl (cI, 2, .inl (ma M5 5))), (a0 8, .inr (0, [.ref (a7 0), .ref (a7 1), .ref (a7 2), .ref (a7 3), .int (mg M7 4), va_rf o7, .int (mg M7 6), .int (mg M7 7), .int (mg M7 8), .int (mg M7 9), .int (mg M7 10)])), (a7 0, .inl (cJ, 15, .inr (.inl (ml M7 0)))), (a7 1, .inl (cJ, 800, .inr (.inl (ml M7 1)))), (a7 2, .inl (cI, 4, .inl (ma M7 2))), (a7 3, .inl (cJ, 4, .inr (.inl (ml M7 3)))), (a0 9, .inr (5, [.ref (a8 0), .ref (a8 1), va_rf o8, .int (mg M8 3)])), (a8 0, .inl (cI, 2048, .inl (ma M8 0))), (a8 1, .inl (cI, 2048, .inl (ma M8 1))), (a0 10, .inr (3, [.int (mg M9 0), .int (mg M9 1), .int (mg M9 2), .int (mg M9 3), .int (mg M9 4)])), (a0 2, .inl (cR, 6, .inr (.inr (.inr (.inr v22)))))]) (w1 := (q1W cB cI cJ cZ (a0 7) a6 (a1 0) a2 h11 a11 N26 N27 N28)) hP hD [21, 22, 23, 24, 5, 6, 7, 8, 35, 36, 37, 38, 39] [0, 1, 2, 3, 4, 9, 10, 11, 12, 13, 14, 15, 16, 17, 18, 19, 20, 25, 26, 27, 28, 29, 30, 31, 32, 33, 34] rfl rfl (by decide) (by decide) hk1 hFc hP1 hD1
              have hP := hP.sub (ws' := (x1W cB cI cJ cZ cR cS h0 a0 a1 a2 a3 a4 a5 a6 a7 o7 a8 o8 a9 h11 a11 N21 M1 N27 N16 M4 M5 N26 M7 M8 M9 v22 N28)) [0, 1, 2, 3, 4, 31, 32, 33, 34, 5, 6, 7, 8, 9, 10, 11, 12, 13, 14, 15, 16, 27, 28, 29, 30, 17, 18, 19, 20, 21, 22, 23, 24, 25, 26, 35, 36, 37, 38, 39] rfl
              have hD := hD.sub (ws' := (x1W cB cI cJ cZ cR cS h0 a0 a1 a2 a3 a4 a5 a6 a7 o7 a8 o8 a9 h11 a11 N21 M1 N27 N16 M4 M5 N26 M7 M8 M9 v22 N28)) [0, 1, 2, 3, 4, 31, 32, 33, 34, 5, 6, 7, 8, 9, 10, 11, 12, 13, 14, 15, 16, 27, 28, 29, 30, 17, 18, 19, 20, 21, 22, 23, 24, 25, 26, 35, 36, 37, 38, 39] (by decide) rfl
              generalize H1 = H at hP hS ⊢
              have h := hw
              try dsimp only at h
              refine lv_iload_n hx hb dX11_would_82 rfl (lv_at hl 3 rfl) ?_
              by_cases c29 : p3 = (0 : Int32)
              · have h := h.1 c29
                refine lv_tableIn (tgt := 108) hx hb dX11_would_83 (by rw [c29]; decide) (by rw [c29]; decide) (by rw [c29]; rfl) (by decide) ?_
                refine lv_aload_n hx hb dX11_would_108 rfl (lv_at hl 0 rfl) ?_
                refine va_get (D := (dC, dI)) (ci := 11) (v := .ref (a0 7)) (C := RX11) (T := TX11) (N := 12) hx hb hts hinX11 hown hK hP 0 rfl rfl 7 (by decide) f4 (fun _ h9 => h9) rfl dX11_would_109 ?_
                refine va_get (D := (dC, dI)) (ci := 6) (v := .int (mg N26 6)) (C := RX6) (T := TX6) (N := 10) hx hb hts hinX6 hown hK hP 21 rfl rfl 6 (by decide) f6 (fun _ h9 => h9) rfl dX11_would_112 ?_
                exact W.iret (v := (mg N26 6)) hx hb hr (fun t ht hW => ⟨⟨_, (N21, M1, N27, N16, M4, M5, N26, M7, M8, M9, v22, N28), rfl, h, o7, o8, by rw [ht]; exact hP, va_K.moved hW.alike hK, hD⟩, hS.F ht⟩) hS.2.2 dX11_would_115
              have h := h.2 c29
              by_cases c30 : p3 = (1 : Int32)
              · have h := h.1 c30
                refine lv_tableIn (tgt := 116) hx hb dX11_would_83 (by rw [c30]; decide) (by rw [c30]; decide) (by rw [c30]; rfl) (by decide) ?_
                refine lv_aload_n hx hb dX11_would_116 rfl (lv_at hl 0 rfl) ?_
                refine va_get (D := (dC, dI)) (ci := 11) (v := .ref (a0 7)) (C := RX11) (T := TX11) (N := 12) hx hb hts hinX11 hown hK hP 0 rfl rfl 7 (by decide) f4 (fun _ h9 => h9) rfl dX11_would_117 ?_
                refine va_get (D := (dC, dI)) (ci := 6) (v := .int (mg N26 4)) (C := RX6) (T := TX6) (N := 10) hx hb hts hinX6 hown hK hP 21 rfl rfl 4 (by decide) f7 (fun _ h9 => h9) rfl dX11_would_120 ?_
                refine lv_aload_n hx hb dX11_would_123 rfl (lv_at hl 0 rfl) ?_
                refine va_get (D := (dC, dI)) (ci := 11) (v := .ref (a0 4)) (C := RX11) (T := TX11) (N := 12) hx hb hts hinX11 hown hK hP 0 rfl rfl 4 (by decide) f1 (fun _ h9 => h9) rfl dX11_would_124 ?_
                refine va_get (D := (dC, dI)) (ci := 10) (v := .ref (a1 1)) (C := RX10) (T := TX10) (N := 5) hx hb hts hinX10 hown hK hP 3 rfl rfl 1 (by decide) f2 (fun _ h9 => h9) rfl dX11_would_127 ?_
                refine va_get (D := (dC, dI)) (ci := 6) (v := .int (mg N16 4)) (C := RX6) (T := TX6) (N := 10) hx hb hts hinX6 hown hK hP 9 rfl rfl 4 (by decide) f7 (fun _ h9 => h9) rfl dX11_would_130 ?_
                refine lv_isub hx hb dX11_would_133 ?_
                exact W.iret (v := ((mg N26 4) - (mg N16 4))) hx hb hr (fun t ht hW => ⟨⟨_, (N21, M1, N27, N16, M4, M5, N26, M7, M8, M9, v22, N28), rfl, h, o7, o8, by rw [ht]; exact hP, va_K.moved hW.alike hK, hD⟩, hS.F ht⟩) hS.2.2 dX11_would_134
              have h := h.2 c30
              by_cases c31 : p3 = (2 : Int32)
              · have h := h.1 c31
                refine lv_tableIn (tgt := 135) hx hb dX11_would_83 (by rw [c31]; decide) (by rw [c31]; decide) (by rw [c31]; rfl) (by decide) ?_
                refine lv_aload_n hx hb dX11_would_135 rfl (lv_at hl 0 rfl) ?_
                refine va_get (D := (dC, dI)) (ci := 11) (v := .ref (a0 7)) (C := RX11) (T := TX11) (N := 12) hx hb hts hinX11 hown hK hP 0 rfl rfl 7 (by decide) f4 (fun _ h9 => h9) rfl dX11_would_136 ?_
                refine va_get (D := (dC, dI)) (ci := 6) (v := .int (mg N26 5)) (C := RX6) (T := TX6) (N := 10) hx hb hts hinX6 hown hK hP 21 rfl rfl 5 (by decide) f8 (fun _ h9 => h9) rfl dX11_would_139 ?_
                refine lv_aload_n hx hb dX11_would_142 rfl (lv_at hl 0 rfl) ?_
                refine va_get (D := (dC, dI)) (ci := 11) (v := .ref (a0 4)) (C := RX11) (T := TX11) (N := 12) hx hb hts hinX11 hown hK hP 0 rfl rfl 4 (by decide) f1 (fun _ h9 => h9) rfl dX11_would_143 ?_
                refine va_get (D := (dC, dI)) (ci := 10) (v := .ref (a1 1)) (C := RX10) (T := TX10) (N := 5) hx hb hts hinX10 hown hK hP 3 rfl rfl 1 (by decide) f2 (fun _ h9 => h9) rfl dX11_would_146 ?_
                refine va_get (D := (dC, dI)) (ci := 6) (v := .int (mg N16 5)) (C := RX6) (T := TX6) (N := 10) hx hb hts hinX6 hown hK hP 9 rfl rfl 5 (by decide) f8 (fun _ h9 => h9) rfl dX11_would_149 ?_
                refine lv_isub hx hb dX11_would_152 ?_
                exact W.iret (v := ((mg N26 5) - (mg N16 5))) hx hb hr (fun t ht hW => ⟨⟨_, (N21, M1, N27, N16, M4, M5, N26, M7, M8, M9, v22, N28), rfl, h, o7, o8, by rw [ht]; exact hP, va_K.moved hW.alike hK, hD⟩, hS.F ht⟩) hS.2.2 dX11_would_153
              have h := h.2 c31
              refine lv_tableOut (tgt := 154) hx hb dX11_would_83 (by have qc29 : p3.toInt ≠ 0 := fun q => c29 (Int32.toInt_inj.mp (q.trans (by decide))); have qc30 : p3.toInt ≠ 1 := fun q => c30 (Int32.toInt_inj.mp (q.trans (by decide))); have qc31 : p3.toInt ≠ 2 := fun q => c31 (Int32.toInt_inj.mp (q.trans (by decide))); omega) (by decide) ?_
              refine lv_aload_n hx hb dX11_would_154 rfl (lv_at hl 0 rfl) ?_
              refine va_get (D := (dC, dI)) (ci := 11) (v := .ref (a0 7)) (C := RX11) (T := TX11) (N := 12) hx hb hts hinX11 hown hK hP 0 rfl rfl 7 (by decide) f4 (fun _ h9 => h9) rfl dX11_would_155 ?_
              refine va_get (D := (dC, dI)) (ci := 6) (v := .int (mg N26 2)) (C := RX6) (T := TX6) (N := 10) hx hb hts hinX6 hown hK hP 21 rfl rfl 2 (by decide) f9 (fun _ h9 => h9) rfl dX11_would_158 ?_
              exact W.iret (v := (mg N26 2)) hx hb hr (fun t ht hW => ⟨⟨_, (N21, M1, N27, N16, M4, M5, N26, M7, M8, M9, v22, N28), rfl, h, o7, o8, by rw [ht]; exact hP, va_K.moved hW.alike hK, hD⟩, hS.F ht⟩) hS.2.2 dX11_would_161
            · have h := h.2 c13
              refine lv_bipush (v := (-2)) hx hb dX11_would_41 (by decide) ?_
              exact W.iret (v := (-2 : Int32)) hx hb hr (fun t ht hW => ⟨⟨_, (N8, M1, M2, M3, M4, M5, M6, M7, M8, M9, v9, M11), rfl, h, o7, o8, by rw [ht]; exact hP, va_K.moved hW.alike hK, hD⟩, hS.F ht⟩) hS.2.2 dX11_would_43
        · have h := h.1 c11
          refine lv_bipush (v := (-2)) hx hb dX11_would_29 (by decide) ?_
          exact W.iret (v := (-2 : Int32)) hx hb hr (fun t ht hW => ⟨⟨_, (N8, M1, M2, M3, M4, M5, M6, M7, M8, M9, v9, M11), rfl, h, o7, o8, by rw [ht]; exact hP, va_K.moved hW.alike hK, hD⟩, hS.F ht⟩) hS.2.2 dX11_would_31
  have hl := lv_entry ([.ref h0, .int p1, .int p2, .int p3]) (n := 4) (Nat.le_of_ble_eq_true rfl)
  rw [lg_entry_eq]
  generalize (lg_sl ([.ref h0, .int p1, .int p2, .int p3]) ++ List.replicate (4 - (lg_sl ([.ref h0, .int p1, .int p2, .int p3])).length) Slot.unset).toArray = ls at hl ⊢
  have hl : lv_has ls 4 [(0, .ref h0), (1, .int p1), (2, .int p2), (3, .int p3)] := hl
  exact bE M0 M1 M2 M3 M4 M5 M6 M7 M8 M9 F10 M11 s.heap [] ls hP hD hS hl h
def wX11_wouldaa (h11 : Nat) (p1 : Int32) (p2 : Int32) (p3 : Int32) (M0 : gS) (M1 : gS) (M2 : gS) (M3 : gS) (M4 : gS) (M5 : gS) (M6 : gS) (M7 : gS) (M8 : gS) (M9 : gS) (F10 : oF) (M11 : gS) (Q : Int32 → gS → gS → gS → gS → gS → gS → gS → gS → gS → gS → oF → gS → Prop) : Prop :=
 (((mg M3 0) = 0 → (Q (-2 : Int32) M0 M1 M2 M3 M4 M5 M6 M7 M8 M9 F10 M11))
 ∧ (¬ (mg M3 0) = 0 → (wX11_isRuleOrNone p1 M0 F10 (fun (b5 : Bool) (N3 : gS) (v4 : oF) => (((bI b5) = 0 → (Q (-2 : Int32) N3 M1 M2 M3 M4 M5 M6 M7 M8 M9 v4 M11))
 ∧ (¬ (bI b5) = 0 → (wX11_isRuleOrNone p2 N3 v4 (fun (b10 : Bool) (N8 : gS) (v9 : oF) => (((bI b10) = 0 → (Q (-2 : Int32) N8 M1 M2 M3 M4 M5 M6 M7 M8 M9 v9 M11))
 ∧ (¬ (bI b10) = 0 → ((p3 < 0 → (Q (-2 : Int32) N8 M1 M2 M3 M4 M5 M6 M7 M8 M9 v9 M11))
 ∧ (¬ p3 < 0 → ((p3 ≤ (3 : Int32) → (wX6_copyFrom  M6 M3 (fun (N15 : gS) (N16 : gS) => (wX11_ruleAt p1 N8 v9 (fun (r17 : Option Nat) (N18 : gS) (v19 : oF) => (wX11_ruleAt p2 N18 v19 (fun (r20 : Option Nat) (N21 : gS) (v22 : oF) => (r17 = some h11 ∧ (r20 = some h11 ∧ (wX6_goByRulesaa  N15 M2 M11 (fun (N26 : gS) (N27 : gS) (N28 : gS) => ((p3 = (0 : Int32) → (Q (mg N26 6) N21 M1 N27 N16 M4 M5 N26 M7 M8 M9 v22 N28))
 ∧ (¬ p3 = (0 : Int32) → ((p3 = (1 : Int32) → (Q ((mg N26 4) - (mg N16 4)) N21 M1 N27 N16 M4 M5 N26 M7 M8 M9 v22 N28))
 ∧ (¬ p3 = (1 : Int32) → ((p3 = (2 : Int32) → (Q ((mg N26 5) - (mg N16 5)) N21 M1 N27 N16 M4 M5 N26 M7 M8 M9 v22 N28))
 ∧ (¬ p3 = (2 : Int32) → (Q (mg N26 2) N21 M1 N27 N16 M4 M5 N26 M7 M8 M9 v22 N28))))))))))))))))))
 ∧ (¬ p3 ≤ (3 : Int32) → (Q (-2 : Int32) N8 M1 M2 M3 M4 M5 M6 M7 M8 M9 v9 M11)))))))))))))))
def rmX11_wouldaa : Room := { frames := 5, cells := 0, slots := 0, locals := 124 }
set_option maxHeartbeats 4000000 in
set_option maxRecDepth 100000 in
theorem kX11_wouldaa (l : Launch) (dC : Nat → ClassId) (dI : Nat → Nat → Nat) (cB cI cJ cZ cR cS : ClassId) (h0 : Nat) (a0 : Nat → Nat) (a1 : Nat → Nat) (a2 : Nat → Nat) (a3 : Nat → Nat) (a4 : Nat → Nat) (a5 : Nat → Nat) (a6 : Nat → Nat) (a7 : Nat → Nat) (o7 : Option Nat) (a8 : Nat → Nat) (o8 : Option Nat) (a9 : Nat → Nat) (h11 : Nat) (a11 : Nat → Nat) (sz : Nat) (p1 : Int32) (p2 : Int32) (p3 : Int32) (M0 : gS) (M1 : gS) (M2 : gS) (M3 : gS) (M4 : gS) (M5 : gS) (M6 : gS) (M7 : gS) (M8 : gS) (M9 : gS) (F10 : oF) (M11 : gS) (Q : Int32 → gS → gS → gS → gS → gS → gS → gS → gS → gS → gS → oF → gS → Prop) (h : wX11_wouldaa h11 p1 p2 p3 M0 M1 M2 M3 M4 M5 M6 M7 M8 M9 F10 M11 Q) : Met l yX11_would wsX11_would rmX11_wouldaa (va_Pc [.ref h0, .int p1, .int p2, .int p3] (x1I dC dI cB cI cJ cZ cR cS h0 a0 a1 a2 a3 a4 a5 a6 a7 o7 a8 o8 a9 h11 a11 M0 M1 M2 M3 M4 M5 M6 M7 M8 M9 F10 M11 sz)) (va_Qi (fun (r : Int32) (u : gS × gS × gS × gS × gS × gS × gS × gS × gS × gS × oF × gS) => Q r u.1 u.2.1 u.2.2.1 u.2.2.2.1 u.2.2.2.2.1 u.2.2.2.2.2.1 u.2.2.2.2.2.2.1 u.2.2.2.2.2.2.2.1 u.2.2.2.2.2.2.2.2.1 u.2.2.2.2.2.2.2.2.2.1 u.2.2.2.2.2.2.2.2.2.2.1 u.2.2.2.2.2.2.2.2.2.2.2) (x1B dC dI cB cI cJ cZ cR cS h0 a0 a1 a2 a3 a4 a5 a6 a7 a8 a9 h11 a11 (va_A (x1W cB cI cJ cZ cR cS h0 a0 a1 a2 a3 a4 a5 a6 a7 o7 a8 o8 a9 h11 a11 M0 M1 M2 M3 M4 M5 M6 M7 M8 M9 F10 M11) sz)) (va_A (x1W cB cI cJ cZ cR cS h0 a0 a1 a2 a3 a4 a5 a6 a7 o7 a8 o8 a9 h11 a11 M0 M1 M2 M3 M4 M5 M6 M7 M8 M9 F10 M11) sz)) 0 0 (va_A (x1W cB cI cJ cZ cR cS h0 a0 a1 a2 a3 a4 a5 a6 a7 o7 a8 o8 a9 h11 a11 M0 M1 M2 M3 M4 M5 M6 M7 M8 M9 F10 M11) sz) := by
  refine Met.ofW (cc := cX11_would) (maxL := 4) (ret := (some .int)) (by decide) rfl ?_
  intro p e s m args below meth c s₁ B hml hv
  obtain ⟨rfl, hsz, hP, hK, hD0⟩ := hv
  have hx := B.exec
  have hb := B.bytes
  have hr := B.returns
  have hts := atoms_spec (ws := wsX11_would) B.pre
  have hown : s.vm.findClass RX11 = some m.cls := findClass_of_methodNamed B.named
  have hlocks := B.notSynchronized
  subst hsz
  have hD := hD0.self (sz := s.heap.size)
  generalize hAe : va_A (x1W cB cI cJ cZ cR cS h0 a0 a1 a2 a3 a4 a5 a6 a7 o7 a8 o8 a9 h11 a11 M0 M1 M2 M3 M4 M5 M6 M7 M8 M9 F10 M11) s.heap.size = A at hD ⊢
  have hA : ∀ q : Nat, s.heap.size ≤ q → A q := fun q h => by rw [← hAe]; exact Or.inr h
  have hS : va_S A s.heap s.heap [] := va_S.rf
  have hK0 : va_K (dC, dI) vwCl (gT cB cI cJ cZ) s := hK.sub (tys' := gT cB cI cJ cZ) [0, 1, 2, 3] rfl
  have hinX10 : ∀ w ∈ wsX100, w ∈ wsX11_would := by decide +kernel
  have hinX11 : ∀ w ∈ wsX110, w ∈ wsX11_would := by decide +kernel
  have hinX6 : ∀ w ∈ wsX60, w ∈ wsX11_would := by decide +kernel
  have f1 := hts (.fieldLink RX11 22 "LastWords" "now" "LLastWords$State;") (by decide +kernel)
  have f2 := hts (.fieldLink RX11 118 "LastWords$State" "quarrel" "LLastWords$Quarrel;") (by decide +kernel)
  have f3 := hts (.fieldLink RX11 149 "LastWords$Quarrel" "goesOn" "Z") (by decide +kernel)
  have f4 := hts (.fieldLink RX11 40 "LastWords" "trial" "LLastWords$Quarrel;") (by decide +kernel)
  have f5 := hts (.fieldLink RX11 108 "LastWords$State" "corner" "LLastWords$Corner;") (by decide +kernel)
  have f6 := hts (.fieldLink RX11 156 "LastWords$Quarrel" "winner" "I") (by decide +kernel)
  have f7 := hts (.fieldLink RX11 174 "LastWords$Quarrel" "moves" "I") (by decide +kernel)
  have f8 := hts (.fieldLink RX11 177 "LastWords$Quarrel" "hat" "I") (by decide +kernel)
  have f9 := hts (.fieldLink RX11 128 "LastWords$Quarrel" "left" "I") (by decide +kernel)
  have bE : ∀ (M0 : gS) (M1 : gS) (M2 : gS) (M3 : gS) (M4 : gS) (M5 : gS) (M6 : gS) (M7 : gS) (M8 : gS) (M9 : gS) (F10 : oF) (M11 : gS) (H : Heap) (locs : List Loc) (ls : Array Slot), va_P (dC, dI) vwCl (x1W cB cI cJ cZ cR cS h0 a0 a1 a2 a3 a4 a5 a6 a7 o7 a8 o8 a9 h11 a11 M0 M1 M2 M3 M4 M5 M6 M7 M8 M9 F10 M11) H → va_D A (x1W cB cI cJ cZ cR cS h0 a0 a1 a2 a3 a4 a5 a6 a7 o7 a8 o8 a9 h11 a11 M0 M1 M2 M3 M4 M5 M6 M7 M8 M9 F10 M11) → va_S A s.heap H locs → lv_has ls 4 [(0, .ref h0), (1, .int p1), (2, .int p2), (3, .int p3)] → wX11_wouldaa h11 p1 p2 p3 M0 M1 M2 M3 M4 M5 M6 M7 M8 M9 F10 M11 Q → W p l e (headSpec wsX11_would rmX11_wouldaa).room s m ([.ref h0, .int p1, .int p2, .int p3] : List Value).toArray below meth c H locs 0 0 (MQ below (va_Qi (fun (r : Int32) (u : gS × gS × gS × gS × gS × gS × gS × gS × gS × gS × oF × gS) => Q r u.1 u.2.1 u.2.2.1 u.2.2.2.1 u.2.2.2.2.1 u.2.2.2.2.2.1 u.2.2.2.2.2.2.1 u.2.2.2.2.2.2.2.1 u.2.2.2.2.2.2.2.2.1 u.2.2.2.2.2.2.2.2.2.1 u.2.2.2.2.2.2.2.2.2.2.1 u.2.2.2.2.2.2.2.2.2.2.2) (x1B dC dI cB cI cJ cZ cR cS h0 a0 a1 a2 a3 a4 a5 a6 a7 a8 a9 h11 a11 A) A) ([.ref h0, .int p1, .int p2, .int p3] : List Value).toArray s 0 0 A) (F0 m 0 ls []) := by
    intro M0 M1 M2 M3 M4 M5 M6 M7 M8 M9 F10 M11 H locs ls hP hD hS hl h
    unfold wX11_wouldaa at h
    refine lv_aload_n hx hb dX11_would_0 rfl (lv_at hl 0 rfl) ?_
    refine va_get (D := (dC, dI)) (ci := 11) (v := .ref (a0 4)) (C := RX11) (T := TX11) (N := 12) hx hb hts hinX11 hown hK hP 0 rfl rfl 4 (by decide) f1 (fun _ h9 => h9) rfl dX11_would_1 ?_
    refine va_get (D := (dC, dI)) (ci := 10) (v := .ref (a1 1)) (C := RX10) (T := TX10) (N := 5) hx hb hts hinX10 hown hK hP 3 rfl rfl 1 (by decide) f2 (fun _ h9 => h9) rfl dX11_would_4 ?_
    refine va_get (D := (dC, dI)) (ci := 6) (v := .int (mg M3 0)) (C := RX6) (T := TX6) (N := 10) hx hb hts hinX6 hown hK hP 9 rfl rfl 0 (by decide) f3 (fun _ h9 => h9) rfl dX11_would_7 ?_
    refine lv_if_eq (tgt := 29) hx hb dX11_would_10 (by decide) (fun c1 => ?_) (fun c1 => ?_)
    · have h := h.1 c1
      refine lv_bipush (v := (-2)) hx hb dX11_would_29 (by decide) ?_
      exact W.iret (v := (-2 : Int32)) hx hb hr (fun t ht hW => ⟨⟨_, (M0, M1, M2, M3, M4, M5, M6, M7, M8, M9, F10, M11), rfl, h, o7, o8, by rw [ht]; exact hP, va_K.moved hW.alike hK, hD⟩, hS.F ht⟩) hS.2.2 dX11_would_31
    · have h := h.2 c1
      refine lv_aload_n hx hb dX11_would_13 rfl (lv_at hl 0 rfl) ?_
      refine lv_iload_n hx hb dX11_would_14 rfl (lv_at hl 1 rfl) ?_
      have hPc := hP.sub (ws' := (rlW cB cI cJ cZ cR cS h0 a0 M0 F10)) [0, 1, 2, 34] rfl
      have hDc := hD.sub (ws' := (rlW cB cI cJ cZ cR cS h0 a0 M0 F10)) [0, 1, 2, 34] (by decide) rfl
      have hFc := va_free (wc := (rlW cB cI cJ cZ cR cS h0 a0 M0 F10)) hD hS hA [0, 1, 2, 34] rfl
      refine va_calli (va_runV (As := [.int p1]) (rest := []) ⟨hx, hb, hml, hown, hts⟩ (kX11_isRuleOrNone l dC dI cB cI cJ cZ cR cS h0 a0 H.size p1 M0 F10 _ h) (cwV 1 hts gX11_would_X11_isRuleOrNone rfl rfl rfl (by decide +kernel) ⟨Nat.le_of_ble_eq_true rfl, Nat.le_of_ble_eq_true rfl⟩) (rlpV hK hPc hDc) rfl rfl hl.1 rfl (lv_room (Nat.le_of_ble_eq_true rfl)) dX11_would_15 ⟨Nat.le_of_ble_eq_true rfl, Nat.le_of_ble_eq_true rfl⟩) hS (fun q _ z => hFc q z) hFc (fun r2 u t H1 locs ht hvm hw hB hz1 hk1 hS => ?_)
      obtain ⟨N3, v4⟩ := u
      obtain ⟨hP1, hK1, hD1⟩ := hB
      rw [ht] at hP1
      obtain ⟨hP, hD⟩ := va_join (wr := [(a0 4, .inr (10, [.ref (a1 0), .ref (a1 1), .ref (a1 2), .ref (a1 3), .int (mg M1 4)])), (a1 3, .inl (cI, 2, .inl (ma M1 3))), (a1 0, .inr (1, [.int (mg M2 0), .ref (a2 1), .int (mg M2 2), .ref (a2 3), .int (mg M2 4), .ref (a2 5)])), (a2 1, .inl (cI, 4, .inl (ma M2 1))), (a2 3, .inl (cI, 4, .inl (ma M2 3))), (a2 5, .inl (cI, 2, .inl (ma M2 5))), (a1 1, .inr (6, [.int (mg M3 0), .int (mg M3 1), .int (mg M3 2), .int (mg M3 3), .int (mg M3 4), .int (mg M3 5), .int (mg M3 6), .ref (a3 7), .ref (a3 8), .ref (a3 9)])), (a3 7, .inl (cI, 2, .inl (ma M3 7))), (a3 8, .inl (cI, 2, .inl (ma M3 8))), (a3 9, .inl (cI, 2, .inl (ma M3 9))), (a1 2, .inr (4, [.int (mg M4 0), .ref (a4 1), .ref (a4 2), .ref (a4 3)])), (a4 1, .inl (cI, 6, .inl (ma M4 1))), (a4 2, .inl (cI, 6, .inl (ma M4 2))), (a4 3, .inl (cI, 6, .inl (ma M4 3))), (a0 6, .inr (1, [.int (mg M5 0), .ref (a5 1), .int (mg M5 2), .ref (a5 3), .int (mg M5 4), .ref (a5 5)])), (a5 1, .inl (cI, 4, .inl (ma M5 1))), (a5 3, .inl (cI, 4, .inl (ma M5 3))), (a5 5, .inl (cI, 2, .inl (ma M5 5))), (a0 7, .inr (6, [.int (mg M6 0), .int (mg M6 1), .int (mg M6 2), .int (mg M6 3), .int (mg M6 4), .int (mg M6 5), .int (mg M6 6), .ref (a6 7), .ref (a6 8), .ref (a6 9)])), (a6 7, .inl (cI, 2, .inl (ma M6 7))), (a6 8, .inl (cI, 2, .inl (ma M6 8))), (a6 9, .inl (cI, 2, .inl (ma M6 9))), (a0 8, .inr (0, [.ref (a7 0), .ref (a7 1), .ref (a7 2), .ref (a7 3), .int (mg M7 4), va_rf o7, .int (mg M7 6), .int (mg M7 7), .int (mg M7 8), .int (mg M7 9), .int (mg M7 10)])), (a7 0, .inl (cJ, 15, .inr (.inl (ml M7 0)))), (a7 1, .inl (cJ, 800, .inr (.inl (ml M7 1)))), (a7 2, .inl (cI, 4, .inl (ma M7 2))), (a7 3, .inl (cJ, 4, .inr (.inl (ml M7 3)))), (a0 9, .inr (5, [.ref (a8 0), .ref (a8 1), va_rf o8, .int (mg M8 3)])), (a8 0, .inl (cI, 2048, .inl (ma M8 0))), (a8 1, .inl (cI, 2048, .inl (ma M8 1))), (a0 10, .inr (3, [.int (mg M9 0), .int (mg M9 1), .int (mg M9 2), .int (mg M9 3), .int (mg M9 4)])), (h11, .inr (8, [.int (mg M11 0), .ref (a11 1), .ref (a11 2), .ref (a11 3), .int (mg M11 4), .ref (a11 5)])), (a11 1, .inl (cI, 12, .inl (ma M11 1))), (a11 2, .inl (cI, 12, .inl (ma M11 2))), (a11 3, .inl (cI, 400, .inl (ma M11 3))), (a11 5, .inl (cJ, 60, .inr (.inl (ml M11 5))))]) (w1 := (rlW cB cI cJ cZ cR cS h0 a0 N3 v4)) hP hD [0, 1, 2, 34] [3, 4, 5, 6, 7, 8, 9, 10, 11, 12, 13, 14, 15, 16, 17, 18, 19, 20, 21, 22, 23, 24, 25, 26, 27, 28, 29, 30, 31, 32, 33, 35, 36, 37, 38, 39] rfl rfl (by decide) (by decide) hk1 hFc hP1 hD1
      have hP := hP.sub (ws' := (x1W cB cI cJ cZ cR cS h0 a0 a1 a2 a3 a4 a5 a6 a7 o7 a8 o8 a9 h11 a11 N3 M1 M2 M3 M4 M5 M6 M7 M8 M9 v4 M11)) [36, 37, 38, 0, 1, 2, 3, 4, 5, 6, 7, 8, 9, 10, 11, 12, 13, 14, 15, 16, 17, 18, 19, 20, 21, 22, 23, 24, 25, 26, 27, 28, 29, 30, 39, 31, 32, 33, 34, 35] rfl
      have hD := hD.sub (ws' := (x1W cB cI cJ cZ cR cS h0 a0 a1 a2 a3 a4 a5 a6 a7 o7 a8 o8 a9 h11 a11 N3 M1 M2 M3 M4 M5 M6 M7 M8 M9 v4 M11)) [36, 37, 38, 0, 1, 2, 3, 4, 5, 6, 7, 8, 9, 10, 11, 12, 13, 14, 15, 16, 17, 18, 19, 20, 21, 22, 23, 24, 25, 26, 27, 28, 29, 30, 39, 31, 32, 33, 34, 35] (by decide) rfl
      generalize H1 = H at hP hS ⊢
      obtain ⟨b5, rfl, h⟩ := hw
      try dsimp only at h
      refine lv_if_eq (tgt := 29) hx hb dX11_would_18 (by decide) (fun c6 => ?_) (fun c6 => ?_)
      · have h := h.1 c6
        refine lv_bipush (v := (-2)) hx hb dX11_would_29 (by decide) ?_
        exact W.iret (v := (-2 : Int32)) hx hb hr (fun t ht hW => ⟨⟨_, (N3, M1, M2, M3, M4, M5, M6, M7, M8, M9, v4, M11), rfl, h, o7, o8, by rw [ht]; exact hP, va_K.moved hW.alike hK, hD⟩, hS.F ht⟩) hS.2.2 dX11_would_31
      · have h := h.2 c6
        refine lv_aload_n hx hb dX11_would_21 rfl (lv_at hl 0 rfl) ?_
        refine lv_iload_n hx hb dX11_would_22 rfl (lv_at hl 2 rfl) ?_
        have hPc := hP.sub (ws' := (rlW cB cI cJ cZ cR cS h0 a0 N3 v4)) [0, 1, 2, 34] rfl
        have hDc := hD.sub (ws' := (rlW cB cI cJ cZ cR cS h0 a0 N3 v4)) [0, 1, 2, 34] (by decide) rfl
        have hFc := va_free (wc := (rlW cB cI cJ cZ cR cS h0 a0 N3 v4)) hD hS hA [0, 1, 2, 34] rfl
        refine va_calli (va_runV (As := [.int p2]) (rest := []) ⟨hx, hb, hml, hown, hts⟩ (kX11_isRuleOrNone l dC dI cB cI cJ cZ cR cS h0 a0 H.size p2 N3 v4 _ h) (cwV 1 hts gX11_would_X11_isRuleOrNone rfl rfl rfl (by decide +kernel) ⟨Nat.le_of_ble_eq_true rfl, Nat.le_of_ble_eq_true rfl⟩) (rlpV hK hPc hDc) rfl rfl hl.1 rfl (lv_room (Nat.le_of_ble_eq_true rfl)) dX11_would_23 ⟨Nat.le_of_ble_eq_true rfl, Nat.le_of_ble_eq_true rfl⟩) hS (fun q _ z => hFc q z) hFc (fun r7 u t H1 locs ht hvm hw hB hz1 hk1 hS => ?_)
        obtain ⟨N8, v9⟩ := u
        obtain ⟨hP1, hK1, hD1⟩ := hB
        rw [ht] at hP1
        obtain ⟨hP, hD⟩ := va_join (wr := [(a0 4, .inr (10, [.ref (a1 0), .ref (a1 1), .ref (a1 2), .ref (a1 3), .int (mg M1 4)])), (a1 3, .inl (cI, 2, .inl (ma M1 3))), (a1 0, .inr (1, [.int (mg M2 0), .ref (a2 1), .int (mg M2 2), .ref (a2 3), .int (mg M2 4), .ref (a2 5)])), (a2 1, .inl (cI, 4, .inl (ma M2 1))), (a2 3, .inl (cI, 4, .inl (ma M2 3))), (a2 5, .inl (cI, 2, .inl (ma M2 5))), (a1 1, .inr (6, [.int (mg M3 0), .int (mg M3 1), .int (mg M3 2), .int (mg M3 3), .int (mg M3 4), .int (mg M3 5), .int (mg M3 6), .ref (a3 7), .ref (a3 8), .ref (a3 9)])), (a3 7, .inl (cI, 2, .inl (ma M3 7))), (a3 8, .inl (cI, 2, .inl (ma M3 8))), (a3 9, .inl (cI, 2, .inl (ma M3 9))), (a1 2, .inr (4, [.int (mg M4 0), .ref (a4 1), .ref (a4 2), .ref (a4 3)])), (a4 1, .inl (cI, 6, .inl (ma M4 1))), (a4 2, .inl (cI, 6, .inl (ma M4 2))), (a4 3, .inl (cI, 6, .inl (ma M4 3))), (a0 6, .inr (1, [.int (mg M5 0), .ref (a5 1), .int (mg M5 2), .ref (a5 3), .int (mg M5 4), .ref (a5 5)])), (a5 1, .inl (cI, 4, .inl (ma M5 1))), (a5 3, .inl (cI, 4, .inl (ma M5 3))), (a5 5, .inl (cI, 2, .inl (ma M5 5))), (a0 7, .inr (6, [.int (mg M6 0), .int (mg M6 1), .int (mg M6 2), .int (mg M6 3), .int (mg M6 4), .int (mg M6 5), .int (mg M6 6), .ref (a6 7), .ref (a6 8), .ref (a6 9)])), (a6 7, .inl (cI, 2, .inl (ma M6 7))), (a6 8, .inl (cI, 2, .inl (ma M6 8))), (a6 9, .inl (cI, 2, .inl (ma M6 9))), (a0 8, .inr (0, [.ref (a7 0), .ref (a7 1), .ref (a7 2), .ref (a7 3), .int (mg M7 4), va_rf o7, .int (mg M7 6), .int (mg M7 7), .int (mg M7 8), .int (mg M7 9), .int (mg M7 10)])), (a7 0, .inl (cJ, 15, .inr (.inl (ml M7 0)))), (a7 1, .inl (cJ, 800, .inr (.inl (ml M7 1)))), (a7 2, .inl (cI, 4, .inl (ma M7 2))), (a7 3, .inl (cJ, 4, .inr (.inl (ml M7 3)))), (a0 9, .inr (5, [.ref (a8 0), .ref (a8 1), va_rf o8, .int (mg M8 3)])), (a8 0, .inl (cI, 2048, .inl (ma M8 0))), (a8 1, .inl (cI, 2048, .inl (ma M8 1))), (a0 10, .inr (3, [.int (mg M9 0), .int (mg M9 1), .int (mg M9 2), .int (mg M9 3), .int (mg M9 4)])), (h11, .inr (8, [.int (mg M11 0), .ref (a11 1), .ref (a11 2), .ref (a11 3), .int (mg M11 4), .ref (a11 5)])), (a11 1, .inl (cI, 12, .inl (ma M11 1))), (a11 2, .inl (cI, 12, .inl (ma M11 2))), (a11 3, .inl (cI, 400, .inl (ma M11 3))), (a11 5, .inl (cJ, 60, .inr (.inl (ml M11 5))))]) (w1 := (rlW cB cI cJ cZ cR cS h0 a0 N8 v9)) hP hD [0, 1, 2, 34] [3, 4, 5, 6, 7, 8, 9, 10, 11, 12, 13, 14, 15, 16, 17, 18, 19, 20, 21, 22, 23, 24, 25, 26, 27, 28, 29, 30, 31, 32, 33, 35, 36, 37, 38, 39] rfl rfl (by decide) (by decide) hk1 hFc hP1 hD1
        have hP := hP.sub (ws' := (x1W cB cI cJ cZ cR cS h0 a0 a1 a2 a3 a4 a5 a6 a7 o7 a8 o8 a9 h11 a11 N8 M1 M2 M3 M4 M5 M6 M7 M8 M9 v9 M11)) [36, 37, 38, 0, 1, 2, 3, 4, 5, 6, 7, 8, 9, 10, 11, 12, 13, 14, 15, 16, 17, 18, 19, 20, 21, 22, 23, 24, 25, 26, 27, 28, 29, 30, 39, 31, 32, 33, 34, 35] rfl
        have hD := hD.sub (ws' := (x1W cB cI cJ cZ cR cS h0 a0 a1 a2 a3 a4 a5 a6 a7 o7 a8 o8 a9 h11 a11 N8 M1 M2 M3 M4 M5 M6 M7 M8 M9 v9 M11)) [36, 37, 38, 0, 1, 2, 3, 4, 5, 6, 7, 8, 9, 10, 11, 12, 13, 14, 15, 16, 17, 18, 19, 20, 21, 22, 23, 24, 25, 26, 27, 28, 29, 30, 39, 31, 32, 33, 34, 35] (by decide) rfl
        generalize H1 = H at hP hS ⊢
        obtain ⟨b10, rfl, h⟩ := hw
        try dsimp only at h
        refine lv_if_ne (tgt := 32) hx hb dX11_would_26 (by decide) (fun c11 => ?_) (fun c11 => ?_)
        · have h := h.2 c11
          refine lv_iload_n hx hb dX11_would_32 rfl (lv_at hl 3 rfl) ?_
          refine lv_if_lt (tgt := 41) hx hb dX11_would_33 (by decide) (fun c12 => ?_) (fun c12 => ?_)
          · have h := h.1 c12
            refine lv_bipush (v := (-2)) hx hb dX11_would_41 (by decide) ?_
            exact W.iret (v := (-2 : Int32)) hx hb hr (fun t ht hW => ⟨⟨_, (N8, M1, M2, M3, M4, M5, M6, M7, M8, M9, v9, M11), rfl, h, o7, o8, by rw [ht]; exact hP, va_K.moved hW.alike hK, hD⟩, hS.F ht⟩) hS.2.2 dX11_would_43
          · have h := h.2 c12
            refine lv_iload_n hx hb dX11_would_36 rfl (lv_at hl 3 rfl) ?_
            refine lv_iconst (v := 3) hx hb dX11_would_37 (by decide) ?_
            refine lv_icmp_le (tgt := 44) hx hb dX11_would_38 (by decide) (fun c13 => ?_) (fun c13 => ?_)
            · have h := h.1 c13
              refine lv_aload_n hx hb dX11_would_44 rfl (lv_at hl 0 rfl) ?_
              refine va_get (D := (dC, dI)) (ci := 11) (v := .ref (a0 7)) (C := RX11) (T := TX11) (N := 12) hx hb hts hinX11 hown hK hP 0 rfl rfl 7 (by decide) f4 (fun _ h9 => h9) rfl dX11_would_45 ?_
              refine lv_aload_n hx hb dX11_would_48 rfl (lv_at hl 0 rfl) ?_
              refine va_get (D := (dC, dI)) (ci := 11) (v := .ref (a0 4)) (C := RX11) (T := TX11) (N := 12) hx hb hts hinX11 hown hK hP 0 rfl rfl 4 (by decide) f1 (fun _ h9 => h9) rfl dX11_would_49 ?_
              refine va_get (D := (dC, dI)) (ci := 10) (v := .ref (a1 1)) (C := RX10) (T := TX10) (N := 5) hx hb hts hinX10 hown hK hP 3 rfl rfl 1 (by decide) f2 (fun _ h9 => h9) rfl dX11_would_52 ?_
              have hPc := hP.sub (ws' := (qkW cB cI cJ cZ (a0 7) a6 (a1 1) a3 M6 M3)) [21, 22, 23, 24, 9, 10, 11, 12] rfl
              have hDc := hD.sub (ws' := (qkW cB cI cJ cZ (a0 7) a6 (a1 1) a3 M6 M3)) [21, 22, 23, 24, 9, 10, 11, 12] (by decide) rfl
              have hFc := va_free (wc := (qkW cB cI cJ cZ (a0 7) a6 (a1 1) a3 M6 M3)) hD hS hA [21, 22, 23, 24, 9, 10, 11, 12] rfl
              refine va_callv (va_runV (As := [.ref (a1 1)]) (rest := []) ⟨hx, hb, hml, hown, hts⟩ (kX6_copyFrom l dC dI cB cI cJ cZ (a0 7) a6 (a1 1) a3 H.size  M6 M3 _ h) (cwV 1 hts gX11_would_X6_copyFrom rfl rfl rfl (by decide +kernel) ⟨Nat.le_of_ble_eq_true rfl, Nat.le_of_ble_eq_true rfl⟩) (qkpV hK0 hPc hDc) rfl rfl hl.1 rfl (lv_room (Nat.le_of_ble_eq_true rfl)) dX11_would_55 ⟨Nat.le_of_ble_eq_true rfl, Nat.le_of_ble_eq_true rfl⟩) hS (fun q _ z => hFc q z) hFc (fun u t H1 locs ht hvm hw hB hz1 hk1 hS => ?_)
              obtain ⟨N15, N16⟩ := u
              obtain ⟨hP1, hK1, hD1⟩ := hB
              rw [ht] at hP1
              obtain ⟨hP, hD⟩ := va_join (wr := [(h0, .inr (11, [.ref (a0 0), .int (mg N8 1), .ref (a0 2), .int (mg N8 3), .ref (a0 4), .ref (a0 5), .ref (a0 6), .ref (a0 7), .ref (a0 8), .ref (a0 9), .ref (a0 10), .ref (a0 11)])), (a0 0, .inl (cI, 400, .inl (ma N8 0))), (a0 11, .inl (cJ, 4, .inr (.inl (ml N8 11)))), (a0 4, .inr (10, [.ref (a1 0), .ref (a1 1), .ref (a1 2), .ref (a1 3), .int (mg M1 4)])), (a1 3, .inl (cI, 2, .inl (ma M1 3))), (a1 0, .inr (1, [.int (mg M2 0), .ref (a2 1), .int (mg M2 2), .ref (a2 3), .int (mg M2 4), .ref (a2 5)])), (a2 1, .inl (cI, 4, .inl (ma M2 1))), (a2 3, .inl (cI, 4, .inl (ma M2 3))), (a2 5, .inl (cI, 2, .inl (ma M2 5))), (a1 2, .inr (4, [.int (mg M4 0), .ref (a4 1), .ref (a4 2), .ref (a4 3)])), (a4 1, .inl (cI, 6, .inl (ma M4 1))), (a4 2, .inl (cI, 6, .inl (ma M4 2))), (a4 3, .inl (cI, 6, .inl (ma M4 3))), (a0 6, .inr (1, [.int (mg M5 0), .ref (a5 1), .int (mg M5 2), .ref (a5 3), .int (mg M5 4), .ref (a5 5)])), (a5 1, .inl (cI, 4, .inl (ma M5 1))), (a5 3, .inl (cI, 4, .inl (ma M5 3))), (a5 5, .inl (cI, 2, .inl (ma M5 5))), (a0 8, .inr (0, [.ref (a7 0), .ref (a7 1), .ref (a7 2), .ref (a7 3), .int (mg M7 4), va_rf o7, .int (mg M7 6), .int (mg M7 7), .int (mg M7 8), .int (mg M7 9), .int (mg M7 10)])), (a7 0, .inl (cJ, 15, .inr (.inl (ml M7 0)))), (a7 1, .inl (cJ, 800, .inr (.inl (ml M7 1)))), (a7 2, .inl (cI, 4, .inl (ma M7 2))), (a7 3, .inl (cJ, 4, .inr (.inl (ml M7 3)))), (a0 9, .inr (5, [.ref (a8 0), .ref (a8 1), va_rf o8, .int (mg M8 3)])), (a8 0, .inl (cI, 2048, .inl (ma M8 0))), (a8 1, .inl (cI, 2048, .inl (ma M8 1))), (a0 10, .inr (3, [.int (mg M9 0), .int (mg M9 1), .int (mg M9 2), .int (mg M9 3), .int (mg M9 4)])), (a0 2, .inl (cR, 6, .inr (.inr (.inr (.inr v9))))), (h11, .inr (8, [.int (mg M11 0), .ref (a11 1), .ref (a11 2), .ref (a11 3), .int (mg M11 4), .ref (a11 5)])), (a11 1, .inl (cI, 12, .inl (ma M11 1))), (a11 2, .inl (cI, 12, .inl (ma M11 2))), (a11 3, .inl (cI, 400, .inl (ma M11 3))), (a11 5, .inl (cJ, 60, .inr (.inl (ml M11 5))))]) (w1 := (qkW cB cI cJ cZ (a0 7) a6 (a1 1) a3 N15 N16)) hP hD [21, 22, 23, 24, 9, 10, 11, 12] [0, 1, 2, 3, 4, 5, 6, 7, 8, 13, 14, 15, 16, 17, 18, 19, 20, 25, 26, 27, 28, 29, 30, 31, 32, 33, 34, 35, 36, 37, 38, 39] rfl rfl (by decide) (by decide) hk1 hFc hP1 hD1
              have hP := hP.sub (ws' := (x1W cB cI cJ cZ cR cS h0 a0 a1 a2 a3 a4 a5 a6 a7 o7 a8 o8 a9 h11 a11 N8 M1 M2 N16 M4 M5 N15 M7 M8 M9 v9 M11)) [0, 1, 2, 3, 4, 5, 6, 7, 8, 36, 37, 38, 39, 9, 10, 11, 12, 13, 14, 15, 16, 32, 33, 34, 35, 17, 18, 19, 20, 21, 22, 23, 24, 25, 26, 27, 28, 29, 30, 31] rfl
              have hD := hD.sub (ws' := (x1W cB cI cJ cZ cR cS h0 a0 a1 a2 a3 a4 a5 a6 a7 o7 a8 o8 a9 h11 a11 N8 M1 M2 N16 M4 M5 N15 M7 M8 M9 v9 M11)) [0, 1, 2, 3, 4, 5, 6, 7, 8, 36, 37, 38, 39, 9, 10, 11, 12, 13, 14, 15, 16, 32, 33, 34, 35, 17, 18, 19, 20, 21, 22, 23, 24, 25, 26, 27, 28, 29, 30, 31] (by decide) rfl
              generalize H1 = H at hP hS ⊢
              have h := hw
              try dsimp only at h
              refine lv_aload_n hx hb dX11_would_58 rfl (lv_at hl 0 rfl) ?_
              refine va_get (D := (dC, dI)) (ci := 11) (v := .ref (a0 7)) (C := RX11) (T := TX11) (N := 12) hx hb hts hinX11 hown hK hP 0 rfl rfl 7 (by decide) f4 (fun _ h9 => h9) rfl dX11_would_59 ?_
              refine lv_aload_n hx hb dX11_would_62 rfl (lv_at hl 0 rfl) ?_
              refine va_get (D := (dC, dI)) (ci := 11) (v := .ref (a0 4)) (C := RX11) (T := TX11) (N := 12) hx hb hts hinX11 hown hK hP 0 rfl rfl 4 (by decide) f1 (fun _ h9 => h9) rfl dX11_would_63 ?_
              refine va_get (D := (dC, dI)) (ci := 10) (v := .ref (a1 0)) (C := RX10) (T := TX10) (N := 5) hx hb hts hinX10 hown hK hP 3 rfl rfl 0 (by decide) f5 (fun _ h9 => h9) rfl dX11_would_66 ?_
              refine lv_aload_n hx hb dX11_would_69 rfl (lv_at hl 0 rfl) ?_
              refine lv_iload_n hx hb dX11_would_70 rfl (lv_at hl 1 rfl) ?_
              have hPc := hP.sub (ws' := (rlW cB cI cJ cZ cR cS h0 a0 N8 v9)) [0, 1, 2, 34] rfl
              have hDc := hD.sub (ws' := (rlW cB cI cJ cZ cR cS h0 a0 N8 v9)) [0, 1, 2, 34] (by decide) rfl
              have hFc := va_free (wc := (rlW cB cI cJ cZ cR cS h0 a0 N8 v9)) hD hS hA [0, 1, 2, 34] rfl
              refine va_callq (va_runV (As := [.int p1]) (rest := [.ref (a1 0), .ref (a0 7)]) ⟨hx, hb, hml, hown, hts⟩ (kX11_ruleAt l dC dI cB cI cJ cZ cR cS h0 a0 H.size p1 N8 v9 _ h) (cwV 1 hts gX11_would_X11_ruleAt rfl rfl rfl (by decide +kernel) ⟨Nat.le_of_ble_eq_true rfl, Nat.le_of_ble_eq_true rfl⟩) (rlpV hK hPc hDc) rfl rfl hl.1 rfl (lv_room (Nat.le_of_ble_eq_true rfl)) dX11_would_71 ⟨Nat.le_of_ble_eq_true rfl, Nat.le_of_ble_eq_true rfl⟩) hS (fun q _ z => hFc q z) hFc (fun r17 u t H1 locs ht hvm hw hB hz1 hk1 hS => ?_)
              obtain ⟨N18, v19⟩ := u
              obtain ⟨hP1, hK1, hD1⟩ := hB
              rw [ht] at hP1
              obtain ⟨hP, hD⟩ := va_join (wr := [(a0 4, .inr (10, [.ref (a1 0), .ref (a1 1), .ref (a1 2), .ref (a1 3), .int (mg M1 4)])), (a1 3, .inl (cI, 2, .inl (ma M1 3))), (a1 0, .inr (1, [.int (mg M2 0), .ref (a2 1), .int (mg M2 2), .ref (a2 3), .int (mg M2 4), .ref (a2 5)])), (a2 1, .inl (cI, 4, .inl (ma M2 1))), (a2 3, .inl (cI, 4, .inl (ma M2 3))), (a2 5, .inl (cI, 2, .inl (ma M2 5))), (a1 1, .inr (6, [.int (mg N16 0), .int (mg N16 1), .int (mg N16 2), .int (mg N16 3), .int (mg N16 4), .int (mg N16 5), .int (mg N16 6), .ref (a3 7), .ref (a3 8), .ref (a3 9)])), (a3 7, .inl (cI, 2, .inl (ma N16 7))), (a3 8, .inl (cI, 2, .inl (ma N16 8))), (a3 9, .inl (cI, 2, .inl (ma N16 9))), (a1 2, .inr (4, [.int (mg M4 0), .ref (a4 1), .ref (a4 2), .ref (a4 3)])), (a4 1, .inl (cI, 6, .inl (ma M4 1))), (a4 2, .inl (cI, 6, .inl (ma M4 2))), (a4 3, .inl (cI, 6, .inl (ma M4 3))), (a0 6, .inr (1, [.int (mg M5 0), .ref (a5 1), .int (mg M5 2), .ref (a5 3), .int (mg M5 4), .ref (a5 5)])), (a5 1, .inl (cI, 4, .inl (ma M5 1))), (a5 3, .inl (cI, 4, .inl (ma M5 3))), (a5 5, .inl (cI, 2, .inl (ma M5 5))), (a0 7, .inr (6, [.int (mg N15 0), .int (mg N15 1), .int (mg N15 2), .int (mg N15 3), .int (mg N15 4), .int (mg N15 5), .int (mg N15 6), .ref (a6 7), .ref (a6 8), .ref (a6 9)])), (a6 7, .inl (cI, 2, .inl (ma N15 7))), (a6 8, .inl (cI, 2, .inl (ma N15 8))), (a6 9, .inl (cI, 2, .inl (ma N15 9))), (a0 8, .inr (0, [.ref (a7 0), .ref (a7 1), .ref (a7 2), .ref (a7 3), .int (mg M7 4), va_rf o7, .int (mg M7 6), .int (mg M7 7), .int (mg M7 8), .int (mg M7 9), .int (mg M7 10)])), (a7 0, .inl (cJ, 15, .inr (.inl (ml M7 0)))), (a7 1, .inl (cJ, 800, .inr (.inl (ml M7 1)))), (a7 2, .inl (cI, 4, .inl (ma M7 2))), (a7 3, .inl (cJ, 4, .inr (.inl (ml M7 3)))), (a0 9, .inr (5, [.ref (a8 0), .ref (a8 1), va_rf o8, .int (mg M8 3)])), (a8 0, .inl (cI, 2048, .inl (ma M8 0))), (a8 1, .inl (cI, 2048, .inl (ma M8 1))), (a0 10, .inr (3, [.int (mg M9 0), .int (mg M9 1), .int (mg M9 2), .int (mg M9 3), .int (mg M9 4)])), (h11, .inr (8, [.int (mg M11 0), .ref (a11 1), .ref (a11 2), .ref (a11 3), .int (mg M11 4), .ref (a11 5)])), (a11 1, .inl (cI, 12, .inl (ma M11 1))), (a11 2, .inl (cI, 12, .inl (ma M11 2))), (a11 3, .inl (cI, 400, .inl (ma M11 3))), (a11 5, .inl (cJ, 60, .inr (.inl (ml M11 5))))]) (w1 := (rlW cB cI cJ cZ cR cS h0 a0 N18 v19)) hP hD [0, 1, 2, 34] [3, 4, 5, 6, 7, 8, 9, 10, 11, 12, 13, 14, 15, 16, 17, 18, 19, 20, 21, 22, 23, 24, 25, 26, 27, 28, 29, 30, 31, 32, 33, 35, 36, 37, 38, 39] rfl rfl (by decide) (by decide) hk1 hFc hP1 hD1
              have hP := hP.sub (ws' := (x1W cB cI cJ cZ cR cS h0 a0 a1 a2 a3 a4 a5 a6 a7 o7 a8 o8 a9 h11 a11 N18 M1 M2 N16 M4 M5 N15 M7 M8 M9 v19 M11)) [36, 37, 38, 0, 1, 2, 3, 4, 5, 6, 7, 8, 9, 10, 11, 12, 13, 14, 15, 16, 17, 18, 19, 20, 21, 22, 23, 24, 25, 26, 27, 28, 29, 30, 39, 31, 32, 33, 34, 35] rfl
              have hD := hD.sub (ws' := (x1W cB cI cJ cZ cR cS h0 a0 a1 a2 a3 a4 a5 a6 a7 o7 a8 o8 a9 h11 a11 N18 M1 M2 N16 M4 M5 N15 M7 M8 M9 v19 M11)) [36, 37, 38, 0, 1, 2, 3, 4, 5, 6, 7, 8, 9, 10, 11, 12, 13, 14, 15, 16, 17, 18, 19, 20, 21, 22, 23, 24, 25, 26, 27, 28, 29, 30, 39, 31, 32, 33, 34, 35] (by decide) rfl
              generalize H1 = H at hP hS ⊢
              have h := hw
              try dsimp only at h
              refine lv_aload_n hx hb dX11_would_74 rfl (lv_at hl 0 rfl) ?_
              refine lv_iload_n hx hb dX11_would_75 rfl (lv_at hl 2 rfl) ?_
              have hPc := hP.sub (ws' := (rlW cB cI cJ cZ cR cS h0 a0 N18 v19)) [0, 1, 2, 34] rfl
              have hDc := hD.sub (ws' := (rlW cB cI cJ cZ cR cS h0 a0 N18 v19)) [0, 1, 2, 34] (by decide) rfl
              have hFc := va_free (wc := (rlW cB cI cJ cZ cR cS h0 a0 N18 v19)) hD hS hA [0, 1, 2, 34] rfl
              refine va_callq (va_runV (As := [.int p2]) (rest := [va_rf r17, .ref (a1 0), .ref (a0 7)]) ⟨hx, hb, hml, hown, hts⟩ (kX11_ruleAt l dC dI cB cI cJ cZ cR cS h0 a0 H.size p2 N18 v19 _ h) (cwV 1 hts gX11_would_X11_ruleAt rfl rfl rfl (by decide +kernel) ⟨Nat.le_of_ble_eq_true rfl, Nat.le_of_ble_eq_true rfl⟩) (rlpV hK hPc hDc) rfl rfl hl.1 rfl (lv_room (by cases r17 <;> exact Nat.le_of_ble_eq_true rfl)) dX11_would_76 ⟨Nat.le_of_ble_eq_true rfl, Nat.le_of_ble_eq_true rfl⟩) hS (fun q _ z => hFc q z) hFc (fun r20 u t H1 locs ht hvm hw hB hz1 hk1 hS => ?_)
              obtain ⟨N21, v22⟩ := u
              obtain ⟨hP1, hK1, hD1⟩ := hB
              rw [ht] at hP1
              obtain ⟨hP, hD⟩ := va_join (wr := [(a0 4, .inr (10, [.ref (a1 0), .ref (a1 1), .ref (a1 2), .ref (a1 3), .int (mg M1 4)])), (a1 3, .inl (cI, 2, .inl (ma M1 3))), (a1 0, .inr (1, [.int (mg M2 0), .ref (a2 1), .int (mg M2 2), .ref (a2 3), .int (mg M2 4), .ref (a2 5)])), (a2 1, .inl (cI, 4, .inl (ma M2 1))), (a2 3, .inl (cI, 4, .inl (ma M2 3))), (a2 5, .inl (cI, 2, .inl (ma M2 5))), (a1 1, .inr (6, [.int (mg N16 0), .int (mg N16 1), .int (mg N16 2), .int (mg N16 3), .int (mg N16 4), .int (mg N16 5), .int (mg N16 6), .ref (a3 7), .ref (a3 8), .ref (a3 9)])), (a3 7, .inl (cI, 2, .inl (ma N16 7))), (a3 8, .inl (cI, 2, .inl (ma N16 8))), (a3 9, .inl (cI, 2, .inl (ma N16 9))), (a1 2, .inr (4, [.int (mg M4 0), .ref (a4 1), .ref (a4 2), .ref (a4 3)])), (a4 1, .inl (cI, 6, .inl (ma M4 1))), (a4 2, .inl (cI, 6, .inl (ma M4 2))), (a4 3, .inl (cI, 6, .inl (ma M4 3))), (a0 6, .inr (1, [.int (mg M5 0), .ref (a5 1), .int (mg M5 2), .ref (a5 3), .int (mg M5 4), .ref (a5 5)])), (a5 1, .inl (cI, 4, .inl (ma M5 1))), (a5 3, .inl (cI, 4, .inl (ma M5 3))), (a5 5, .inl (cI, 2, .inl (ma M5 5))), (a0 7, .inr (6, [.int (mg N15 0), .int (mg N15 1), .int (mg N15 2), .int (mg N15 3), .int (mg N15 4), .int (mg N15 5), .int (mg N15 6), .ref (a6 7), .ref (a6 8), .ref (a6 9)])), (a6 7, .inl (cI, 2, .inl (ma N15 7))), (a6 8, .inl (cI, 2, .inl (ma N15 8))), (a6 9, .inl (cI, 2, .inl (ma N15 9))), (a0 8, .inr (0, [.ref (a7 0), .ref (a7 1), .ref (a7 2), .ref (a7 3), .int (mg M7 4), va_rf o7, .int (mg M7 6), .int (mg M7 7), .int (mg M7 8), .int (mg M7 9), .int (mg M7 10)])), (a7 0, .inl (cJ, 15, .inr (.inl (ml M7 0)))), (a7 1, .inl (cJ, 800, .inr (.inl (ml M7 1)))), (a7 2, .inl (cI, 4, .inl (ma M7 2))), (a7 3, .inl (cJ, 4, .inr (.inl (ml M7 3)))), (a0 9, .inr (5, [.ref (a8 0), .ref (a8 1), va_rf o8, .int (mg M8 3)])), (a8 0, .inl (cI, 2048, .inl (ma M8 0))), (a8 1, .inl (cI, 2048, .inl (ma M8 1))), (a0 10, .inr (3, [.int (mg M9 0), .int (mg M9 1), .int (mg M9 2), .int (mg M9 3), .int (mg M9 4)])), (h11, .inr (8, [.int (mg M11 0), .ref (a11 1), .ref (a11 2), .ref (a11 3), .int (mg M11 4), .ref (a11 5)])), (a11 1, .inl (cI, 12, .inl (ma M11 1))), (a11 2, .inl (cI, 12, .inl (ma M11 2))), (a11 3, .inl (cI, 400, .inl (ma M11 3))), (a11 5, .inl (cJ, 60, .inr (.inl (ml M11 5))))]) (w1 := (rlW cB cI cJ cZ cR cS h0 a0 N21 v22)) hP hD [0, 1, 2, 34] [3, 4, 5, 6, 7, 8, 9, 10, 11, 12, 13, 14, 15, 16, 17, 18, 19, 20, 21, 22, 23, 24, 25, 26, 27, 28, 29, 30, 31, 32, 33, 35, 36, 37, 38, 39] rfl rfl (by decide) (by decide) hk1 hFc hP1 hD1
              have hP := hP.sub (ws' := (x1W cB cI cJ cZ cR cS h0 a0 a1 a2 a3 a4 a5 a6 a7 o7 a8 o8 a9 h11 a11 N21 M1 M2 N16 M4 M5 N15 M7 M8 M9 v22 M11)) [36, 37, 38, 0, 1, 2, 3, 4, 5, 6, 7, 8, 9, 10, 11, 12, 13, 14, 15, 16, 17, 18, 19, 20, 21, 22, 23, 24, 25, 26, 27, 28, 29, 30, 39, 31, 32, 33, 34, 35] rfl
              have hD := hD.sub (ws' := (x1W cB cI cJ cZ cR cS h0 a0 a1 a2 a3 a4 a5 a6 a7 o7 a8 o8 a9 h11 a11 N21 M1 M2 N16 M4 M5 N15 M7 M8 M9 v22 M11)) [36, 37, 38, 0, 1, 2, 3, 4, 5, 6, 7, 8, 9, 10, 11, 12, 13, 14, 15, 16, 17, 18, 19, 20, 21, 22, 23, 24, 25, 26, 27, 28, 29, 30, 39, 31, 32, 33, 34, 35] (by decide) rfl
              generalize H1 = H at hP hS ⊢
              have h := hw
              try dsimp only at h
              obtain ⟨ehQ23, hQ23⟩ := h
              subst ehQ23
              have h := hQ23
              obtain ⟨ehQ24, hQ24⟩ := h
              subst ehQ24
              have h := hQ24
              have hPc := hP.sub (ws' := (q1W cB cI cJ cZ (a0 7) a6 (a1 0) a2 h11 a11 N15 M2 M11)) [21, 22, 23, 24, 5, 6, 7, 8, 35, 36, 37, 38, 39] rfl
              have hDc := hD.sub (ws' := (q1W cB cI cJ cZ (a0 7) a6 (a1 0) a2 h11 a11 N15 M2 M11)) [21, 22, 23, 24, 5, 6, 7, 8, 35, 36, 37, 38, 39] (by decide) rfl
              have hFc := va_free (wc := (q1W cB cI cJ cZ (a0 7) a6 (a1 0) a2 h11 a11 N15 M2 M11)) hD hS hA [21, 22, 23, 24, 5, 6, 7, 8, 35, 36, 37, 38, 39] rfl
              refine va_callv (va_runV (As := [.ref (a1 0), .ref h11, .ref h11]) (rest := []) ⟨hx, hb, hml, hown, hts⟩ (kX6_goByRulesaa l dC dI cB cI cJ cZ (a0 7) a6 (a1 0) a2 h11 a11 H.size  N15 M2 M11 _ h) (cwV 3 hts gX11_would_X6_goByRules rfl rfl rfl (by decide +kernel) ⟨Nat.le_of_ble_eq_true rfl, Nat.le_of_ble_eq_true rfl⟩) (q1pV hK0 hPc hDc) rfl rfl hl.1 rfl (lv_room (Nat.le_of_ble_eq_true rfl)) dX11_would_79 ⟨Nat.le_of_ble_eq_true rfl, Nat.le_of_ble_eq_true rfl⟩) hS (fun q _ z => hFc q z) hFc (fun u t H1 locs ht hvm hw hB hz1 hk1 hS => ?_)
              obtain ⟨N26, N27, N28⟩ := u
              obtain ⟨hP1, hK1, hD1⟩ := hB
              rw [ht] at hP1
              obtain ⟨hP, hD⟩ := va_join (wr := [(h0, .inr (11, [.ref (a0 0), .int (mg N21 1), .ref (a0 2), .int (mg N21 3), .ref (a0 4), .ref (a0 5), .ref (a0 6), .ref (a0 7), .ref (a0 8), .ref (a0 9), .ref (a0 10), .ref (a0 11)])), (a0 0, .inl (cI, 400, .inl (ma N21 0))), (a0 11, .inl (cJ, 4, .inr (.inl (ml N21 11)))), (a0 4, .inr (10, [.ref (a1 0), .ref (a1 1), .ref (a1 2), .ref (a1 3), .int (mg M1 4)])), (a1 3, .inl (cI, 2, .inl (ma M1 3))), (a1 1, .inr (6, [.int (mg N16 0), .int (mg N16 1), .int (mg N16 2), .int (mg N16 3), .int (mg N16 4), .int (mg N16 5), .int (mg N16 6), .ref (a3 7), .ref (a3 8), .ref (a3 9)])), (a3 7, .inl (cI, 2, .inl (ma N16 7))), (a3 8, .inl (cI, 2, .inl (ma N16 8))), (a3 9, .inl (cI, 2, .inl (ma N16 9))), (a1 2, .inr (4, [.int (mg M4 0), .ref (a4 1), .ref (a4 2), .ref (a4 3)])), (a4 1, .inl (cI, 6, .inl (ma M4 1))), (a4 2, .inl (cI, 6, .inl (ma M4 2))), (a4 3, .inl (cI, 6, .inl (ma M4 3))), (a0 6, .inr (1, [.int (mg M5 0), .ref (a5 1), .int (mg M5 2), .ref (a5 3), .int (mg M5 4), .ref (a5 5)])), (a5 1, .inl (cI, 4, .inl (ma M5 1))), (a5 3, .inl (cI, 4, .inl (ma M5 3))), (a5 5, .inl (cI, 2, .inl (ma M5 5))), (a0 8, .inr (0, [.ref (a7 0), .ref (a7 1), .ref (a7 2), .ref (a7 3), .int (mg M7 4), va_rf o7, .int (mg M7 6), .int (mg M7 7), .int (mg M7 8), .int (mg M7 9), .int (mg M7 10)])), (a7 0, .inl (cJ, 15, .inr (.inl (ml M7 0)))), (a7 1, .inl (cJ, 800, .inr (.inl (ml M7 1)))), (a7 2, .inl (cI, 4, .inl (ma M7 2))), (a7 3, .inl (cJ, 4, .inr (.inl (ml M7 3)))), (a0 9, .inr (5, [.ref (a8 0), .ref (a8 1), va_rf o8, .int (mg M8 3)])), (a8 0, .inl (cI, 2048, .inl (ma M8 0))), (a8 1, .inl (cI, 2048, .inl (ma M8 1))), (a0 10, .inr (3, [.int (mg M9 0), .int (mg M9 1), .int (mg M9 2), .int (mg M9 3), .int (mg M9 4)])), (a0 2, .inl (cR, 6, .inr (.inr (.inr (.inr v22)))))]) (w1 := (q1W cB cI cJ cZ (a0 7) a6 (a1 0) a2 h11 a11 N26 N27 N28)) hP hD [21, 22, 23, 24, 5, 6, 7, 8, 35, 36, 37, 38, 39] [0, 1, 2, 3, 4, 9, 10, 11, 12, 13, 14, 15, 16, 17, 18, 19, 20, 25, 26, 27, 28, 29, 30, 31, 32, 33, 34] rfl rfl (by decide) (by decide) hk1 hFc hP1 hD1
              have hP := hP.sub (ws' := (x1W cB cI cJ cZ cR cS h0 a0 a1 a2 a3 a4 a5 a6 a7 o7 a8 o8 a9 h11 a11 N21 M1 N27 N16 M4 M5 N26 M7 M8 M9 v22 N28)) [0, 1, 2, 3, 4, 31, 32, 33, 34, 5, 6, 7, 8, 9, 10, 11, 12, 13, 14, 15, 16, 27, 28, 29, 30, 17, 18, 19, 20, 21, 22, 23, 24, 25, 26, 35, 36, 37, 38, 39] rfl
              have hD := hD.sub (ws' := (x1W cB cI cJ cZ cR cS h0 a0 a1 a2 a3 a4 a5 a6 a7 o7 a8 o8 a9 h11 a11 N21 M1 N27 N16 M4 M5 N26 M7 M8 M9 v22 N28)) [0, 1, 2, 3, 4, 31, 32, 33, 34, 5, 6, 7, 8, 9, 10, 11, 12, 13, 14, 15, 16, 27, 28, 29, 30, 17, 18, 19, 20, 21, 22, 23, 24, 25, 26, 35, 36, 37, 38, 39] (by decide) rfl
              generalize H1 = H at hP hS ⊢
              have h := hw
              try dsimp only at h
              refine lv_iload_n hx hb dX11_would_82 rfl (lv_at hl 3 rfl) ?_
              by_cases c29 : p3 = (0 : Int32)
              · have h := h.1 c29
                refine lv_tableIn (tgt := 108) hx hb dX11_would_83 (by rw [c29]; decide) (by rw [c29]; decide) (by rw [c29]; rfl) (by decide) ?_
                refine lv_aload_n hx hb dX11_would_108 rfl (lv_at hl 0 rfl) ?_
                refine va_get (D := (dC, dI)) (ci := 11) (v := .ref (a0 7)) (C := RX11) (T := TX11) (N := 12) hx hb hts hinX11 hown hK hP 0 rfl rfl 7 (by decide) f4 (fun _ h9 => h9) rfl dX11_would_109 ?_
                refine va_get (D := (dC, dI)) (ci := 6) (v := .int (mg N26 6)) (C := RX6) (T := TX6) (N := 10) hx hb hts hinX6 hown hK hP 21 rfl rfl 6 (by decide) f6 (fun _ h9 => h9) rfl dX11_would_112 ?_
                exact W.iret (v := (mg N26 6)) hx hb hr (fun t ht hW => ⟨⟨_, (N21, M1, N27, N16, M4, M5, N26, M7, M8, M9, v22, N28), rfl, h, o7, o8, by rw [ht]; exact hP, va_K.moved hW.alike hK, hD⟩, hS.F ht⟩) hS.2.2 dX11_would_115
              have h := h.2 c29
              by_cases c30 : p3 = (1 : Int32)
              · have h := h.1 c30
                refine lv_tableIn (tgt := 116) hx hb dX11_would_83 (by rw [c30]; decide) (by rw [c30]; decide) (by rw [c30]; rfl) (by decide) ?_
                refine lv_aload_n hx hb dX11_would_116 rfl (lv_at hl 0 rfl) ?_
                refine va_get (D := (dC, dI)) (ci := 11) (v := .ref (a0 7)) (C := RX11) (T := TX11) (N := 12) hx hb hts hinX11 hown hK hP 0 rfl rfl 7 (by decide) f4 (fun _ h9 => h9) rfl dX11_would_117 ?_
                refine va_get (D := (dC, dI)) (ci := 6) (v := .int (mg N26 4)) (C := RX6) (T := TX6) (N := 10) hx hb hts hinX6 hown hK hP 21 rfl rfl 4 (by decide) f7 (fun _ h9 => h9) rfl dX11_would_120 ?_
                refine lv_aload_n hx hb dX11_would_123 rfl (lv_at hl 0 rfl) ?_
                refine va_get (D := (dC, dI)) (ci := 11) (v := .ref (a0 4)) (C := RX11) (T := TX11) (N := 12) hx hb hts hinX11 hown hK hP 0 rfl rfl 4 (by decide) f1 (fun _ h9 => h9) rfl dX11_would_124 ?_
                refine va_get (D := (dC, dI)) (ci := 10) (v := .ref (a1 1)) (C := RX10) (T := TX10) (N := 5) hx hb hts hinX10 hown hK hP 3 rfl rfl 1 (by decide) f2 (fun _ h9 => h9) rfl dX11_would_127 ?_
                refine va_get (D := (dC, dI)) (ci := 6) (v := .int (mg N16 4)) (C := RX6) (T := TX6) (N := 10) hx hb hts hinX6 hown hK hP 9 rfl rfl 4 (by decide) f7 (fun _ h9 => h9) rfl dX11_would_130 ?_
                refine lv_isub hx hb dX11_would_133 ?_
                exact W.iret (v := ((mg N26 4) - (mg N16 4))) hx hb hr (fun t ht hW => ⟨⟨_, (N21, M1, N27, N16, M4, M5, N26, M7, M8, M9, v22, N28), rfl, h, o7, o8, by rw [ht]; exact hP, va_K.moved hW.alike hK, hD⟩, hS.F ht⟩) hS.2.2 dX11_would_134
              have h := h.2 c30
              by_cases c31 : p3 = (2 : Int32)
              · have h := h.1 c31
                refine lv_tableIn (tgt := 135) hx hb dX11_would_83 (by rw [c31]; decide) (by rw [c31]; decide) (by rw [c31]; rfl) (by decide) ?_
                refine lv_aload_n hx hb dX11_would_135 rfl (lv_at hl 0 rfl) ?_
                refine va_get (D := (dC, dI)) (ci := 11) (v := .ref (a0 7)) (C := RX11) (T := TX11) (N := 12) hx hb hts hinX11 hown hK hP 0 rfl rfl 7 (by decide) f4 (fun _ h9 => h9) rfl dX11_would_136 ?_
                refine va_get (D := (dC, dI)) (ci := 6) (v := .int (mg N26 5)) (C := RX6) (T := TX6) (N := 10) hx hb hts hinX6 hown hK hP 21 rfl rfl 5 (by decide) f8 (fun _ h9 => h9) rfl dX11_would_139 ?_
                refine lv_aload_n hx hb dX11_would_142 rfl (lv_at hl 0 rfl) ?_
                refine va_get (D := (dC, dI)) (ci := 11) (v := .ref (a0 4)) (C := RX11) (T := TX11) (N := 12) hx hb hts hinX11 hown hK hP 0 rfl rfl 4 (by decide) f1 (fun _ h9 => h9) rfl dX11_would_143 ?_
                refine va_get (D := (dC, dI)) (ci := 10) (v := .ref (a1 1)) (C := RX10) (T := TX10) (N := 5) hx hb hts hinX10 hown hK hP 3 rfl rfl 1 (by decide) f2 (fun _ h9 => h9) rfl dX11_would_146 ?_
                refine va_get (D := (dC, dI)) (ci := 6) (v := .int (mg N16 5)) (C := RX6) (T := TX6) (N := 10) hx hb hts hinX6 hown hK hP 9 rfl rfl 5 (by decide) f8 (fun _ h9 => h9) rfl dX11_would_149 ?_
                refine lv_isub hx hb dX11_would_152 ?_
                exact W.iret (v := ((mg N26 5) - (mg N16 5))) hx hb hr (fun t ht hW => ⟨⟨_, (N21, M1, N27, N16, M4, M5, N26, M7, M8, M9, v22, N28), rfl, h, o7, o8, by rw [ht]; exact hP, va_K.moved hW.alike hK, hD⟩, hS.F ht⟩) hS.2.2 dX11_would_153
              have h := h.2 c31
              refine lv_tableOut (tgt := 154) hx hb dX11_would_83 (by have qc29 : p3.toInt ≠ 0 := fun q => c29 (Int32.toInt_inj.mp (q.trans (by decide))); have qc30 : p3.toInt ≠ 1 := fun q => c30 (Int32.toInt_inj.mp (q.trans (by decide))); have qc31 : p3.toInt ≠ 2 := fun q => c31 (Int32.toInt_inj.mp (q.trans (by decide))); omega) (by decide) ?_
              refine lv_aload_n hx hb dX11_would_154 rfl (lv_at hl 0 rfl) ?_
              refine va_get (D := (dC, dI)) (ci := 11) (v := .ref (a0 7)) (C := RX11) (T := TX11) (N := 12) hx hb hts hinX11 hown hK hP 0 rfl rfl 7 (by decide) f4 (fun _ h9 => h9) rfl dX11_would_155 ?_
              refine va_get (D := (dC, dI)) (ci := 6) (v := .int (mg N26 2)) (C := RX6) (T := TX6) (N := 10) hx hb hts hinX6 hown hK hP 21 rfl rfl 2 (by decide) f9 (fun _ h9 => h9) rfl dX11_would_158 ?_
              exact W.iret (v := (mg N26 2)) hx hb hr (fun t ht hW => ⟨⟨_, (N21, M1, N27, N16, M4, M5, N26, M7, M8, M9, v22, N28), rfl, h, o7, o8, by rw [ht]; exact hP, va_K.moved hW.alike hK, hD⟩, hS.F ht⟩) hS.2.2 dX11_would_161
            · have h := h.2 c13
              refine lv_bipush (v := (-2)) hx hb dX11_would_41 (by decide) ?_
              exact W.iret (v := (-2 : Int32)) hx hb hr (fun t ht hW => ⟨⟨_, (N8, M1, M2, M3, M4, M5, M6, M7, M8, M9, v9, M11), rfl, h, o7, o8, by rw [ht]; exact hP, va_K.moved hW.alike hK, hD⟩, hS.F ht⟩) hS.2.2 dX11_would_43
        · have h := h.1 c11
          refine lv_bipush (v := (-2)) hx hb dX11_would_29 (by decide) ?_
          exact W.iret (v := (-2 : Int32)) hx hb hr (fun t ht hW => ⟨⟨_, (N8, M1, M2, M3, M4, M5, M6, M7, M8, M9, v9, M11), rfl, h, o7, o8, by rw [ht]; exact hP, va_K.moved hW.alike hK, hD⟩, hS.F ht⟩) hS.2.2 dX11_would_31
  have hl := lv_entry ([.ref h0, .int p1, .int p2, .int p3]) (n := 4) (Nat.le_of_ble_eq_true rfl)
  rw [lg_entry_eq]
  generalize (lg_sl ([.ref h0, .int p1, .int p2, .int p3]) ++ List.replicate (4 - (lg_sl ([.ref h0, .int p1, .int p2, .int p3])).length) Slot.unset).toArray = ls at hl ⊢
  have hl : lv_has ls 4 [(0, .ref h0), (1, .int p1), (2, .int p2), (3, .int p3)] := hl
  exact bE M0 M1 M2 M3 M4 M5 M6 M7 M8 M9 F10 M11 s.heap [] ls hP hD hS hl h
def wX11_wouldab (h11 : Nat) (h12 : Nat) (p1 : Int32) (p2 : Int32) (p3 : Int32) (M0 : gS) (M1 : gS) (M2 : gS) (M3 : gS) (M4 : gS) (M5 : gS) (M6 : gS) (M7 : gS) (M8 : gS) (M9 : gS) (F10 : oF) (M11 : gS) (M12 : gS) (Q : Int32 → gS → gS → gS → gS → gS → gS → gS → gS → gS → gS → oF → gS → gS → Prop) : Prop :=
 (((mg M3 0) = 0 → (Q (-2 : Int32) M0 M1 M2 M3 M4 M5 M6 M7 M8 M9 F10 M11 M12))
 ∧ (¬ (mg M3 0) = 0 → (wX11_isRuleOrNone p1 M0 F10 (fun (b5 : Bool) (N3 : gS) (v4 : oF) => (((bI b5) = 0 → (Q (-2 : Int32) N3 M1 M2 M3 M4 M5 M6 M7 M8 M9 v4 M11 M12))
 ∧ (¬ (bI b5) = 0 → (wX11_isRuleOrNone p2 N3 v4 (fun (b10 : Bool) (N8 : gS) (v9 : oF) => (((bI b10) = 0 → (Q (-2 : Int32) N8 M1 M2 M3 M4 M5 M6 M7 M8 M9 v9 M11 M12))
 ∧ (¬ (bI b10) = 0 → ((p3 < 0 → (Q (-2 : Int32) N8 M1 M2 M3 M4 M5 M6 M7 M8 M9 v9 M11 M12))
 ∧ (¬ p3 < 0 → ((p3 ≤ (3 : Int32) → (wX6_copyFrom  M6 M3 (fun (N15 : gS) (N16 : gS) => (wX11_ruleAt p1 N8 v9 (fun (r17 : Option Nat) (N18 : gS) (v19 : oF) => (wX11_ruleAt p2 N18 v19 (fun (r20 : Option Nat) (N21 : gS) (v22 : oF) => (r17 = some h11 ∧ (r20 = some h12 ∧ (wX6_goByRulesab  N15 M2 M11 M12 (fun (N26 : gS) (N27 : gS) (N28 : gS) (N29 : gS) => ((p3 = (0 : Int32) → (Q (mg N26 6) N21 M1 N27 N16 M4 M5 N26 M7 M8 M9 v22 N28 N29))
 ∧ (¬ p3 = (0 : Int32) → ((p3 = (1 : Int32) → (Q ((mg N26 4) - (mg N16 4)) N21 M1 N27 N16 M4 M5 N26 M7 M8 M9 v22 N28 N29))
 ∧ (¬ p3 = (1 : Int32) → ((p3 = (2 : Int32) → (Q ((mg N26 5) - (mg N16 5)) N21 M1 N27 N16 M4 M5 N26 M7 M8 M9 v22 N28 N29))
 ∧ (¬ p3 = (2 : Int32) → (Q (mg N26 2) N21 M1 N27 N16 M4 M5 N26 M7 M8 M9 v22 N28 N29))))))))))))))))))
 ∧ (¬ p3 ≤ (3 : Int32) → (Q (-2 : Int32) N8 M1 M2 M3 M4 M5 M6 M7 M8 M9 v9 M11 M12)))))))))))))))
def rmX11_wouldab : Room := { frames := 5, cells := 0, slots := 0, locals := 124 }
set_option maxHeartbeats 4000000 in
set_option maxRecDepth 100000 in
theorem kX11_wouldab (l : Launch) (dC : Nat → ClassId) (dI : Nat → Nat → Nat) (cB cI cJ cZ cR cS : ClassId) (h0 : Nat) (a0 : Nat → Nat) (a1 : Nat → Nat) (a2 : Nat → Nat) (a3 : Nat → Nat) (a4 : Nat → Nat) (a5 : Nat → Nat) (a6 : Nat → Nat) (a7 : Nat → Nat) (o7 : Option Nat) (a8 : Nat → Nat) (o8 : Option Nat) (a9 : Nat → Nat) (h11 : Nat) (a11 : Nat → Nat) (h12 : Nat) (a12 : Nat → Nat) (sz : Nat) (p1 : Int32) (p2 : Int32) (p3 : Int32) (M0 : gS) (M1 : gS) (M2 : gS) (M3 : gS) (M4 : gS) (M5 : gS) (M6 : gS) (M7 : gS) (M8 : gS) (M9 : gS) (F10 : oF) (M11 : gS) (M12 : gS) (Q : Int32 → gS → gS → gS → gS → gS → gS → gS → gS → gS → gS → oF → gS → gS → Prop) (h : wX11_wouldab h11 h12 p1 p2 p3 M0 M1 M2 M3 M4 M5 M6 M7 M8 M9 F10 M11 M12 Q) : Met l yX11_would wsX11_would rmX11_wouldab (va_Pc [.ref h0, .int p1, .int p2, .int p3] (x2I dC dI cB cI cJ cZ cR cS h0 a0 a1 a2 a3 a4 a5 a6 a7 o7 a8 o8 a9 h11 a11 h12 a12 M0 M1 M2 M3 M4 M5 M6 M7 M8 M9 F10 M11 M12 sz)) (va_Qi (fun (r : Int32) (u : gS × gS × gS × gS × gS × gS × gS × gS × gS × gS × oF × gS × gS) => Q r u.1 u.2.1 u.2.2.1 u.2.2.2.1 u.2.2.2.2.1 u.2.2.2.2.2.1 u.2.2.2.2.2.2.1 u.2.2.2.2.2.2.2.1 u.2.2.2.2.2.2.2.2.1 u.2.2.2.2.2.2.2.2.2.1 u.2.2.2.2.2.2.2.2.2.2.1 u.2.2.2.2.2.2.2.2.2.2.2.1 u.2.2.2.2.2.2.2.2.2.2.2.2) (x2B dC dI cB cI cJ cZ cR cS h0 a0 a1 a2 a3 a4 a5 a6 a7 a8 a9 h11 a11 h12 a12 (va_A (x2W cB cI cJ cZ cR cS h0 a0 a1 a2 a3 a4 a5 a6 a7 o7 a8 o8 a9 h11 a11 h12 a12 M0 M1 M2 M3 M4 M5 M6 M7 M8 M9 F10 M11 M12) sz)) (va_A (x2W cB cI cJ cZ cR cS h0 a0 a1 a2 a3 a4 a5 a6 a7 o7 a8 o8 a9 h11 a11 h12 a12 M0 M1 M2 M3 M4 M5 M6 M7 M8 M9 F10 M11 M12) sz)) 0 0 (va_A (x2W cB cI cJ cZ cR cS h0 a0 a1 a2 a3 a4 a5 a6 a7 o7 a8 o8 a9 h11 a11 h12 a12 M0 M1 M2 M3 M4 M5 M6 M7 M8 M9 F10 M11 M12) sz) := by
  refine Met.ofW (cc := cX11_would) (maxL := 4) (ret := (some .int)) (by decide) rfl ?_
  intro p e s m args below meth c s₁ B hml hv
  obtain ⟨rfl, hsz, hP, hK, hD0⟩ := hv
  have hx := B.exec
  have hb := B.bytes
  have hr := B.returns
  have hts := atoms_spec (ws := wsX11_would) B.pre
  have hown : s.vm.findClass RX11 = some m.cls := findClass_of_methodNamed B.named
  have hlocks := B.notSynchronized
  subst hsz
  have hD := hD0.self (sz := s.heap.size)
  generalize hAe : va_A (x2W cB cI cJ cZ cR cS h0 a0 a1 a2 a3 a4 a5 a6 a7 o7 a8 o8 a9 h11 a11 h12 a12 M0 M1 M2 M3 M4 M5 M6 M7 M8 M9 F10 M11 M12) s.heap.size = A at hD ⊢
  have hA : ∀ q : Nat, s.heap.size ≤ q → A q := fun q h => by rw [← hAe]; exact Or.inr h
  have hS : va_S A s.heap s.heap [] := va_S.rf
  have hK0 : va_K (dC, dI) vwCl (gT cB cI cJ cZ) s := hK.sub (tys' := gT cB cI cJ cZ) [0, 1, 2, 3] rfl
  have hinX10 : ∀ w ∈ wsX100, w ∈ wsX11_would := by decide +kernel
  have hinX11 : ∀ w ∈ wsX110, w ∈ wsX11_would := by decide +kernel
  have hinX6 : ∀ w ∈ wsX60, w ∈ wsX11_would := by decide +kernel
  have f1 := hts (.fieldLink RX11 22 "LastWords" "now" "LLastWords$State;") (by decide +kernel)
  have f2 := hts (.fieldLink RX11 118 "LastWords$State" "quarrel" "LLastWords$Quarrel;") (by decide +kernel)
  have f3 := hts (.fieldLink RX11 149 "LastWords$Quarrel" "goesOn" "Z") (by decide +kernel)
  have f4 := hts (.fieldLink RX11 40 "LastWords" "trial" "LLastWords$Quarrel;") (by decide +kernel)
  have f5 := hts (.fieldLink RX11 108 "LastWords$State" "corner" "LLastWords$Corner;") (by decide +kernel)
  have f6 := hts (.fieldLink RX11 156 "LastWords$Quarrel" "winner" "I") (by decide +kernel)
  have f7 := hts (.fieldLink RX11 174 "LastWords$Quarrel" "moves" "I") (by decide +kernel)
  have f8 := hts (.fieldLink RX11 177 "LastWords$Quarrel" "hat" "I") (by decide +kernel)
  have f9 := hts (.fieldLink RX11 128 "LastWords$Quarrel" "left" "I") (by decide +kernel)
  have bE : ∀ (M0 : gS) (M1 : gS) (M2 : gS) (M3 : gS) (M4 : gS) (M5 : gS) (M6 : gS) (M7 : gS) (M8 : gS) (M9 : gS) (F10 : oF) (M11 : gS) (M12 : gS) (H : Heap) (locs : List Loc) (ls : Array Slot), va_P (dC, dI) vwCl (x2W cB cI cJ cZ cR cS h0 a0 a1 a2 a3 a4 a5 a6 a7 o7 a8 o8 a9 h11 a11 h12 a12 M0 M1 M2 M3 M4 M5 M6 M7 M8 M9 F10 M11 M12) H → va_D A (x2W cB cI cJ cZ cR cS h0 a0 a1 a2 a3 a4 a5 a6 a7 o7 a8 o8 a9 h11 a11 h12 a12 M0 M1 M2 M3 M4 M5 M6 M7 M8 M9 F10 M11 M12) → va_S A s.heap H locs → lv_has ls 4 [(0, .ref h0), (1, .int p1), (2, .int p2), (3, .int p3)] → wX11_wouldab h11 h12 p1 p2 p3 M0 M1 M2 M3 M4 M5 M6 M7 M8 M9 F10 M11 M12 Q → W p l e (headSpec wsX11_would rmX11_wouldab).room s m ([.ref h0, .int p1, .int p2, .int p3] : List Value).toArray below meth c H locs 0 0 (MQ below (va_Qi (fun (r : Int32) (u : gS × gS × gS × gS × gS × gS × gS × gS × gS × gS × oF × gS × gS) => Q r u.1 u.2.1 u.2.2.1 u.2.2.2.1 u.2.2.2.2.1 u.2.2.2.2.2.1 u.2.2.2.2.2.2.1 u.2.2.2.2.2.2.2.1 u.2.2.2.2.2.2.2.2.1 u.2.2.2.2.2.2.2.2.2.1 u.2.2.2.2.2.2.2.2.2.2.1 u.2.2.2.2.2.2.2.2.2.2.2.1 u.2.2.2.2.2.2.2.2.2.2.2.2) (x2B dC dI cB cI cJ cZ cR cS h0 a0 a1 a2 a3 a4 a5 a6 a7 a8 a9 h11 a11 h12 a12 A) A) ([.ref h0, .int p1, .int p2, .int p3] : List Value).toArray s 0 0 A) (F0 m 0 ls []) := by
    intro M0 M1 M2 M3 M4 M5 M6 M7 M8 M9 F10 M11 M12 H locs ls hP hD hS hl h
    unfold wX11_wouldab at h
    refine lv_aload_n hx hb dX11_would_0 rfl (lv_at hl 0 rfl) ?_
    refine va_get (D := (dC, dI)) (ci := 11) (v := .ref (a0 4)) (C := RX11) (T := TX11) (N := 12) hx hb hts hinX11 hown hK hP 0 rfl rfl 4 (by decide) f1 (fun _ h9 => h9) rfl dX11_would_1 ?_
    refine va_get (D := (dC, dI)) (ci := 10) (v := .ref (a1 1)) (C := RX10) (T := TX10) (N := 5) hx hb hts hinX10 hown hK hP 3 rfl rfl 1 (by decide) f2 (fun _ h9 => h9) rfl dX11_would_4 ?_
    refine va_get (D := (dC, dI)) (ci := 6) (v := .int (mg M3 0)) (C := RX6) (T := TX6) (N := 10) hx hb hts hinX6 hown hK hP 9 rfl rfl 0 (by decide) f3 (fun _ h9 => h9) rfl dX11_would_7 ?_
    refine lv_if_eq (tgt := 29) hx hb dX11_would_10 (by decide) (fun c1 => ?_) (fun c1 => ?_)
    · have h := h.1 c1
      refine lv_bipush (v := (-2)) hx hb dX11_would_29 (by decide) ?_
      exact W.iret (v := (-2 : Int32)) hx hb hr (fun t ht hW => ⟨⟨_, (M0, M1, M2, M3, M4, M5, M6, M7, M8, M9, F10, M11, M12), rfl, h, o7, o8, by rw [ht]; exact hP, va_K.moved hW.alike hK, hD⟩, hS.F ht⟩) hS.2.2 dX11_would_31
    · have h := h.2 c1
      refine lv_aload_n hx hb dX11_would_13 rfl (lv_at hl 0 rfl) ?_
      refine lv_iload_n hx hb dX11_would_14 rfl (lv_at hl 1 rfl) ?_
      have hPc := hP.sub (ws' := (rlW cB cI cJ cZ cR cS h0 a0 M0 F10)) [0, 1, 2, 34] rfl
      have hDc := hD.sub (ws' := (rlW cB cI cJ cZ cR cS h0 a0 M0 F10)) [0, 1, 2, 34] (by decide) rfl
      have hFc := va_free (wc := (rlW cB cI cJ cZ cR cS h0 a0 M0 F10)) hD hS hA [0, 1, 2, 34] rfl
      refine va_calli (va_runV (As := [.int p1]) (rest := []) ⟨hx, hb, hml, hown, hts⟩ (kX11_isRuleOrNone l dC dI cB cI cJ cZ cR cS h0 a0 H.size p1 M0 F10 _ h) (cwV 1 hts gX11_would_X11_isRuleOrNone rfl rfl rfl (by decide +kernel) ⟨Nat.le_of_ble_eq_true rfl, Nat.le_of_ble_eq_true rfl⟩) (rlpV hK hPc hDc) rfl rfl hl.1 rfl (lv_room (Nat.le_of_ble_eq_true rfl)) dX11_would_15 ⟨Nat.le_of_ble_eq_true rfl, Nat.le_of_ble_eq_true rfl⟩) hS (fun q _ z => hFc q z) hFc (fun r2 u t H1 locs ht hvm hw hB hz1 hk1 hS => ?_)
      obtain ⟨N3, v4⟩ := u
      obtain ⟨hP1, hK1, hD1⟩ := hB
      rw [ht] at hP1
      obtain ⟨hP, hD⟩ := va_join (wr := [(a0 4, .inr (10, [.ref (a1 0), .ref (a1 1), .ref (a1 2), .ref (a1 3), .int (mg M1 4)])), (a1 3, .inl (cI, 2, .inl (ma M1 3))), (a1 0, .inr (1, [.int (mg M2 0), .ref (a2 1), .int (mg M2 2), .ref (a2 3), .int (mg M2 4), .ref (a2 5)])), (a2 1, .inl (cI, 4, .inl (ma M2 1))), (a2 3, .inl (cI, 4, .inl (ma M2 3))), (a2 5, .inl (cI, 2, .inl (ma M2 5))), (a1 1, .inr (6, [.int (mg M3 0), .int (mg M3 1), .int (mg M3 2), .int (mg M3 3), .int (mg M3 4), .int (mg M3 5), .int (mg M3 6), .ref (a3 7), .ref (a3 8), .ref (a3 9)])), (a3 7, .inl (cI, 2, .inl (ma M3 7))), (a3 8, .inl (cI, 2, .inl (ma M3 8))), (a3 9, .inl (cI, 2, .inl (ma M3 9))), (a1 2, .inr (4, [.int (mg M4 0), .ref (a4 1), .ref (a4 2), .ref (a4 3)])), (a4 1, .inl (cI, 6, .inl (ma M4 1))), (a4 2, .inl (cI, 6, .inl (ma M4 2))), (a4 3, .inl (cI, 6, .inl (ma M4 3))), (a0 6, .inr (1, [.int (mg M5 0), .ref (a5 1), .int (mg M5 2), .ref (a5 3), .int (mg M5 4), .ref (a5 5)])), (a5 1, .inl (cI, 4, .inl (ma M5 1))), (a5 3, .inl (cI, 4, .inl (ma M5 3))), (a5 5, .inl (cI, 2, .inl (ma M5 5))), (a0 7, .inr (6, [.int (mg M6 0), .int (mg M6 1), .int (mg M6 2), .int (mg M6 3), .int (mg M6 4), .int (mg M6 5), .int (mg M6 6), .ref (a6 7), .ref (a6 8), .ref (a6 9)])), (a6 7, .inl (cI, 2, .inl (ma M6 7))), (a6 8, .inl (cI, 2, .inl (ma M6 8))), (a6 9, .inl (cI, 2, .inl (ma M6 9))), (a0 8, .inr (0, [.ref (a7 0), .ref (a7 1), .ref (a7 2), .ref (a7 3), .int (mg M7 4), va_rf o7, .int (mg M7 6), .int (mg M7 7), .int (mg M7 8), .int (mg M7 9), .int (mg M7 10)])), (a7 0, .inl (cJ, 15, .inr (.inl (ml M7 0)))), (a7 1, .inl (cJ, 800, .inr (.inl (ml M7 1)))), (a7 2, .inl (cI, 4, .inl (ma M7 2))), (a7 3, .inl (cJ, 4, .inr (.inl (ml M7 3)))), (a0 9, .inr (5, [.ref (a8 0), .ref (a8 1), va_rf o8, .int (mg M8 3)])), (a8 0, .inl (cI, 2048, .inl (ma M8 0))), (a8 1, .inl (cI, 2048, .inl (ma M8 1))), (a0 10, .inr (3, [.int (mg M9 0), .int (mg M9 1), .int (mg M9 2), .int (mg M9 3), .int (mg M9 4)])), (h11, .inr (8, [.int (mg M11 0), .ref (a11 1), .ref (a11 2), .ref (a11 3), .int (mg M11 4), .ref (a11 5)])), (a11 1, .inl (cI, 12, .inl (ma M11 1))), (a11 2, .inl (cI, 12, .inl (ma M11 2))), (a11 3, .inl (cI, 400, .inl (ma M11 3))), (a11 5, .inl (cJ, 60, .inr (.inl (ml M11 5)))), (h12, .inr (8, [.int (mg M12 0), .ref (a12 1), .ref (a12 2), .ref (a12 3), .int (mg M12 4), .ref (a12 5)])), (a12 1, .inl (cI, 12, .inl (ma M12 1))), (a12 2, .inl (cI, 12, .inl (ma M12 2))), (a12 3, .inl (cI, 400, .inl (ma M12 3))), (a12 5, .inl (cJ, 60, .inr (.inl (ml M12 5))))]) (w1 := (rlW cB cI cJ cZ cR cS h0 a0 N3 v4)) hP hD [0, 1, 2, 34] [3, 4, 5, 6, 7, 8, 9, 10, 11, 12, 13, 14, 15, 16, 17, 18, 19, 20, 21, 22, 23, 24, 25, 26, 27, 28, 29, 30, 31, 32, 33, 35, 36, 37, 38, 39, 40, 41, 42, 43, 44] rfl rfl (by decide) (by decide) hk1 hFc hP1 hD1
      have hP := hP.sub (ws' := (x2W cB cI cJ cZ cR cS h0 a0 a1 a2 a3 a4 a5 a6 a7 o7 a8 o8 a9 h11 a11 h12 a12 N3 M1 M2 M3 M4 M5 M6 M7 M8 M9 v4 M11 M12)) [41, 42, 43, 0, 1, 2, 3, 4, 5, 6, 7, 8, 9, 10, 11, 12, 13, 14, 15, 16, 17, 18, 19, 20, 21, 22, 23, 24, 25, 26, 27, 28, 29, 30, 44, 31, 32, 33, 34, 35, 36, 37, 38, 39, 40] rfl
      have hD := hD.sub (ws' := (x2W cB cI cJ cZ cR cS h0 a0 a1 a2 a3 a4 a5 a6 a7 o7 a8 o8 a9 h11 a11 h12 a12 N3 M1 M2 M3 M4 M5 M6 M7 M8 M9 v4 M11 M12)) [41, 42, 43, 0, 1, 2, 3, 4, 5, 6, 7, 8, 9, 10, 11, 12, 13, 14, 15, 16, 17, 18, 19, 20, 21, 22, 23, 24, 25, 26, 27, 28, 29, 30, 44, 31, 32, 33, 34, 35, 36, 37, 38, 39, 40] (by decide) rfl
      generalize H1 = H at hP hS ⊢
      obtain ⟨b5, rfl, h⟩ := hw
      try dsimp only at h
      refine lv_if_eq (tgt := 29) hx hb dX11_would_18 (by decide) (fun c6 => ?_) (fun c6 => ?_)
      · have h := h.1 c6
        refine lv_bipush (v := (-2)) hx hb dX11_would_29 (by decide) ?_
        exact W.iret (v := (-2 : Int32)) hx hb hr (fun t ht hW => ⟨⟨_, (N3, M1, M2, M3, M4, M5, M6, M7, M8, M9, v4, M11, M12), rfl, h, o7, o8, by rw [ht]; exact hP, va_K.moved hW.alike hK, hD⟩, hS.F ht⟩) hS.2.2 dX11_would_31
      · have h := h.2 c6
        refine lv_aload_n hx hb dX11_would_21 rfl (lv_at hl 0 rfl) ?_
        refine lv_iload_n hx hb dX11_would_22 rfl (lv_at hl 2 rfl) ?_
        have hPc := hP.sub (ws' := (rlW cB cI cJ cZ cR cS h0 a0 N3 v4)) [0, 1, 2, 34] rfl
        have hDc := hD.sub (ws' := (rlW cB cI cJ cZ cR cS h0 a0 N3 v4)) [0, 1, 2, 34] (by decide) rfl
        have hFc := va_free (wc := (rlW cB cI cJ cZ cR cS h0 a0 N3 v4)) hD hS hA [0, 1, 2, 34] rfl
        refine va_calli (va_runV (As := [.int p2]) (rest := []) ⟨hx, hb, hml, hown, hts⟩ (kX11_isRuleOrNone l dC dI cB cI cJ cZ cR cS h0 a0 H.size p2 N3 v4 _ h) (cwV 1 hts gX11_would_X11_isRuleOrNone rfl rfl rfl (by decide +kernel) ⟨Nat.le_of_ble_eq_true rfl, Nat.le_of_ble_eq_true rfl⟩) (rlpV hK hPc hDc) rfl rfl hl.1 rfl (lv_room (Nat.le_of_ble_eq_true rfl)) dX11_would_23 ⟨Nat.le_of_ble_eq_true rfl, Nat.le_of_ble_eq_true rfl⟩) hS (fun q _ z => hFc q z) hFc (fun r7 u t H1 locs ht hvm hw hB hz1 hk1 hS => ?_)
        obtain ⟨N8, v9⟩ := u
        obtain ⟨hP1, hK1, hD1⟩ := hB
        rw [ht] at hP1
        obtain ⟨hP, hD⟩ := va_join (wr := [(a0 4, .inr (10, [.ref (a1 0), .ref (a1 1), .ref (a1 2), .ref (a1 3), .int (mg M1 4)])), (a1 3, .inl (cI, 2, .inl (ma M1 3))), (a1 0, .inr (1, [.int (mg M2 0), .ref (a2 1), .int (mg M2 2), .ref (a2 3), .int (mg M2 4), .ref (a2 5)])), (a2 1, .inl (cI, 4, .inl (ma M2 1))), (a2 3, .inl (cI, 4, .inl (ma M2 3))), (a2 5, .inl (cI, 2, .inl (ma M2 5))), (a1 1, .inr (6, [.int (mg M3 0), .int (mg M3 1), .int (mg M3 2), .int (mg M3 3), .int (mg M3 4), .int (mg M3 5), .int (mg M3 6), .ref (a3 7), .ref (a3 8), .ref (a3 9)])), (a3 7, .inl (cI, 2, .inl (ma M3 7))), (a3 8, .inl (cI, 2, .inl (ma M3 8))), (a3 9, .inl (cI, 2, .inl (ma M3 9))), (a1 2, .inr (4, [.int (mg M4 0), .ref (a4 1), .ref (a4 2), .ref (a4 3)])), (a4 1, .inl (cI, 6, .inl (ma M4 1))), (a4 2, .inl (cI, 6, .inl (ma M4 2))), (a4 3, .inl (cI, 6, .inl (ma M4 3))), (a0 6, .inr (1, [.int (mg M5 0), .ref (a5 1), .int (mg M5 2), .ref (a5 3), .int (mg M5 4), .ref (a5 5)])), (a5 1, .inl (cI, 4, .inl (ma M5 1))), (a5 3, .inl (cI, 4, .inl (ma M5 3))), (a5 5, .inl (cI, 2, .inl (ma M5 5))), (a0 7, .inr (6, [.int (mg M6 0), .int (mg M6 1), .int (mg M6 2), .int (mg M6 3), .int (mg M6 4), .int (mg M6 5), .int (mg M6 6), .ref (a6 7), .ref (a6 8), .ref (a6 9)])), (a6 7, .inl (cI, 2, .inl (ma M6 7))), (a6 8, .inl (cI, 2, .inl (ma M6 8))), (a6 9, .inl (cI, 2, .inl (ma M6 9))), (a0 8, .inr (0, [.ref (a7 0), .ref (a7 1), .ref (a7 2), .ref (a7 3), .int (mg M7 4), va_rf o7, .int (mg M7 6), .int (mg M7 7), .int (mg M7 8), .int (mg M7 9), .int (mg M7 10)])), (a7 0, .inl (cJ, 15, .inr (.inl (ml M7 0)))), (a7 1, .inl (cJ, 800, .inr (.inl (ml M7 1)))), (a7 2, .inl (cI, 4, .inl (ma M7 2))), (a7 3, .inl (cJ, 4, .inr (.inl (ml M7 3)))), (a0 9, .inr (5, [.ref (a8 0), .ref (a8 1), va_rf o8, .int (mg M8 3)])), (a8 0, .inl (cI, 2048, .inl (ma M8 0))), (a8 1, .inl (cI, 2048, .inl (ma M8 1))), (a0 10, .inr (3, [.int (mg M9 0), .int (mg M9 1), .int (mg M9 2), .int (mg M9 3), .int (mg M9 4)])), (h11, .inr (8, [.int (mg M11 0), .ref (a11 1), .ref (a11 2), .ref (a11 3), .int (mg M11 4), .ref (a11 5)])), (a11 1, .inl (cI, 12, .inl (ma M11 1))), (a11 2, .inl (cI, 12, .inl (ma M11 2))), (a11 3, .inl (cI, 400, .inl (ma M11 3))), (a11 5, .inl (cJ, 60, .inr (.inl (ml M11 5)))), (h12, .inr (8, [.int (mg M12 0), .ref (a12 1), .ref (a12 2), .ref (a12 3), .int (mg M12 4), .ref (a12 5)])), (a12 1, .inl (cI, 12, .inl (ma M12 1))), (a12 2, .inl (cI, 12, .inl (ma M12 2))), (a12 3, .inl (cI, 400, .inl (ma M12 3))), (a12 5, .inl (cJ, 60, .inr (.inl (ml M12 5))))]) (w1 := (rlW cB cI cJ cZ cR cS h0 a0 N8 v9)) hP hD [0, 1, 2, 34] [3, 4, 5, 6, 7, 8, 9, 10, 11, 12, 13, 14, 15, 16, 17, 18, 19, 20, 21, 22, 23, 24, 25, 26, 27, 28, 29, 30, 31, 32, 33, 35, 36, 37, 38, 39, 40, 41, 42, 43, 44] rfl rfl (by decide) (by decide) hk1 hFc hP1 hD1
        have hP := hP.sub (ws' := (x2W cB cI cJ cZ cR cS h0 a0 a1 a2 a3 a4 a5 a6 a7 o7 a8 o8 a9 h11 a11 h12 a12 N8 M1 M2 M3 M4 M5 M6 M7 M8 M9 v9 M11 M12)) [41, 42, 43, 0, 1, 2, 3, 4, 5, 6, 7, 8, 9, 10, 11, 12, 13, 14, 15, 16, 17, 18, 19, 20, 21, 22, 23, 24, 25, 26, 27, 28, 29, 30, 44, 31, 32, 33, 34, 35, 36, 37, 38, 39, 40] rfl
        have hD := hD.sub (ws' := (x2W cB cI cJ cZ cR cS h0 a0 a1 a2 a3 a4 a5 a6 a7 o7 a8 o8 a9 h11 a11 h12 a12 N8 M1 M2 M3 M4 M5 M6 M7 M8 M9 v9 M11 M12)) [41, 42, 43, 0, 1, 2, 3, 4, 5, 6, 7, 8, 9, 10, 11, 12, 13, 14, 15, 16, 17, 18, 19, 20, 21, 22, 23, 24, 25, 26, 27, 28, 29, 30, 44, 31, 32, 33, 34, 35, 36, 37, 38, 39, 40] (by decide) rfl
        generalize H1 = H at hP hS ⊢
        obtain ⟨b10, rfl, h⟩ := hw
        try dsimp only at h
        refine lv_if_ne (tgt := 32) hx hb dX11_would_26 (by decide) (fun c11 => ?_) (fun c11 => ?_)
        · have h := h.2 c11
          refine lv_iload_n hx hb dX11_would_32 rfl (lv_at hl 3 rfl) ?_
          refine lv_if_lt (tgt := 41) hx hb dX11_would_33 (by decide) (fun c12 => ?_) (fun c12 => ?_)
          · have h := h.1 c12
            refine lv_bipush (v := (-2)) hx hb dX11_would_41 (by decide) ?_
            exact W.iret (v := (-2 : Int32)) hx hb hr (fun t ht hW => ⟨⟨_, (N8, M1, M2, M3, M4, M5, M6, M7, M8, M9, v9, M11, M12), rfl, h, o7, o8, by rw [ht]; exact hP, va_K.moved hW.alike hK, hD⟩, hS.F ht⟩) hS.2.2 dX11_would_43
          · have h := h.2 c12
            refine lv_iload_n hx hb dX11_would_36 rfl (lv_at hl 3 rfl) ?_
            refine lv_iconst (v := 3) hx hb dX11_would_37 (by decide) ?_
            refine lv_icmp_le (tgt := 44) hx hb dX11_would_38 (by decide) (fun c13 => ?_) (fun c13 => ?_)
            · have h := h.1 c13
              refine lv_aload_n hx hb dX11_would_44 rfl (lv_at hl 0 rfl) ?_
              refine va_get (D := (dC, dI)) (ci := 11) (v := .ref (a0 7)) (C := RX11) (T := TX11) (N := 12) hx hb hts hinX11 hown hK hP 0 rfl rfl 7 (by decide) f4 (fun _ h9 => h9) rfl dX11_would_45 ?_
              refine lv_aload_n hx hb dX11_would_48 rfl (lv_at hl 0 rfl) ?_
              refine va_get (D := (dC, dI)) (ci := 11) (v := .ref (a0 4)) (C := RX11) (T := TX11) (N := 12) hx hb hts hinX11 hown hK hP 0 rfl rfl 4 (by decide) f1 (fun _ h9 => h9) rfl dX11_would_49 ?_
              refine va_get (D := (dC, dI)) (ci := 10) (v := .ref (a1 1)) (C := RX10) (T := TX10) (N := 5) hx hb hts hinX10 hown hK hP 3 rfl rfl 1 (by decide) f2 (fun _ h9 => h9) rfl dX11_would_52 ?_
              have hPc := hP.sub (ws' := (qkW cB cI cJ cZ (a0 7) a6 (a1 1) a3 M6 M3)) [21, 22, 23, 24, 9, 10, 11, 12] rfl
              have hDc := hD.sub (ws' := (qkW cB cI cJ cZ (a0 7) a6 (a1 1) a3 M6 M3)) [21, 22, 23, 24, 9, 10, 11, 12] (by decide) rfl
              have hFc := va_free (wc := (qkW cB cI cJ cZ (a0 7) a6 (a1 1) a3 M6 M3)) hD hS hA [21, 22, 23, 24, 9, 10, 11, 12] rfl
              refine va_callv (va_runV (As := [.ref (a1 1)]) (rest := []) ⟨hx, hb, hml, hown, hts⟩ (kX6_copyFrom l dC dI cB cI cJ cZ (a0 7) a6 (a1 1) a3 H.size  M6 M3 _ h) (cwV 1 hts gX11_would_X6_copyFrom rfl rfl rfl (by decide +kernel) ⟨Nat.le_of_ble_eq_true rfl, Nat.le_of_ble_eq_true rfl⟩) (qkpV hK0 hPc hDc) rfl rfl hl.1 rfl (lv_room (Nat.le_of_ble_eq_true rfl)) dX11_would_55 ⟨Nat.le_of_ble_eq_true rfl, Nat.le_of_ble_eq_true rfl⟩) hS (fun q _ z => hFc q z) hFc (fun u t H1 locs ht hvm hw hB hz1 hk1 hS => ?_)
              obtain ⟨N15, N16⟩ := u
              obtain ⟨hP1, hK1, hD1⟩ := hB
              rw [ht] at hP1
              obtain ⟨hP, hD⟩ := va_join (wr := [(h0, .inr (11, [.ref (a0 0), .int (mg N8 1), .ref (a0 2), .int (mg N8 3), .ref (a0 4), .ref (a0 5), .ref (a0 6), .ref (a0 7), .ref (a0 8), .ref (a0 9), .ref (a0 10), .ref (a0 11)])), (a0 0, .inl (cI, 400, .inl (ma N8 0))), (a0 11, .inl (cJ, 4, .inr (.inl (ml N8 11)))), (a0 4, .inr (10, [.ref (a1 0), .ref (a1 1), .ref (a1 2), .ref (a1 3), .int (mg M1 4)])), (a1 3, .inl (cI, 2, .inl (ma M1 3))), (a1 0, .inr (1, [.int (mg M2 0), .ref (a2 1), .int (mg M2 2), .ref (a2 3), .int (mg M2 4), .ref (a2 5)])), (a2 1, .inl (cI, 4, .inl (ma M2 1))), (a2 3, .inl (cI, 4, .inl (ma M2 3))), (a2 5, .inl (cI, 2, .inl (ma M2 5))), (a1 2, .inr (4, [.int (mg M4 0), .ref (a4 1), .ref (a4 2), .ref (a4 3)])), (a4 1, .inl (cI, 6, .inl (ma M4 1))), (a4 2, .inl (cI, 6, .inl (ma M4 2))), (a4 3, .inl (cI, 6, .inl (ma M4 3))), (a0 6, .inr (1, [.int (mg M5 0), .ref (a5 1), .int (mg M5 2), .ref (a5 3), .int (mg M5 4), .ref (a5 5)])), (a5 1, .inl (cI, 4, .inl (ma M5 1))), (a5 3, .inl (cI, 4, .inl (ma M5 3))), (a5 5, .inl (cI, 2, .inl (ma M5 5))), (a0 8, .inr (0, [.ref (a7 0), .ref (a7 1), .ref (a7 2), .ref (a7 3), .int (mg M7 4), va_rf o7, .int (mg M7 6), .int (mg M7 7), .int (mg M7 8), .int (mg M7 9), .int (mg M7 10)])), (a7 0, .inl (cJ, 15, .inr (.inl (ml M7 0)))), (a7 1, .inl (cJ, 800, .inr (.inl (ml M7 1)))), (a7 2, .inl (cI, 4, .inl (ma M7 2))), (a7 3, .inl (cJ, 4, .inr (.inl (ml M7 3)))), (a0 9, .inr (5, [.ref (a8 0), .ref (a8 1), va_rf o8, .int (mg M8 3)])), (a8 0, .inl (cI, 2048, .inl (ma M8 0))), (a8 1, .inl (cI, 2048, .inl (ma M8 1))), (a0 10, .inr (3, [.int (mg M9 0), .int (mg M9 1), .int (mg M9 2), .int (mg M9 3), .int (mg M9 4)])), (a0 2, .inl (cR, 6, .inr (.inr (.inr (.inr v9))))), (h11, .inr (8, [.int (mg M11 0), .ref (a11 1), .ref (a11 2), .ref (a11 3), .int (mg M11 4), .ref (a11 5)])), (a11 1, .inl (cI, 12, .inl (ma M11 1))), (a11 2, .inl (cI, 12, .inl (ma M11 2))), (a11 3, .inl (cI, 400, .inl (ma M11 3))), (a11 5, .inl (cJ, 60, .inr (.inl (ml M11 5)))), (h12, .inr (8, [.int (mg M12 0), .ref (a12 1), .ref (a12 2), .ref (a12 3), .int (mg M12 4), .ref (a12 5)])), (a12 1, .inl (cI, 12, .inl (ma M12 1))), (a12 2, .inl (cI, 12, .inl (ma M12 2))), (a12 3, .inl (cI, 400, .inl (ma M12 3))), (a12 5, .inl (cJ, 60, .inr (.inl (ml M12 5))))]) (w1 := (qkW cB cI cJ cZ (a0 7) a6 (a1 1) a3 N15 N16)) hP hD [21, 22, 23, 24, 9, 10, 11, 12] [0, 1, 2, 3, 4, 5, 6, 7, 8, 13, 14, 15, 16, 17, 18, 19, 20, 25, 26, 27, 28, 29, 30, 31, 32, 33, 34, 35, 36, 37, 38, 39, 40, 41, 42, 43, 44] rfl rfl (by decide) (by decide) hk1 hFc hP1 hD1
              have hP := hP.sub (ws' := (x2W cB cI cJ cZ cR cS h0 a0 a1 a2 a3 a4 a5 a6 a7 o7 a8 o8 a9 h11 a11 h12 a12 N8 M1 M2 N16 M4 M5 N15 M7 M8 M9 v9 M11 M12)) [0, 1, 2, 3, 4, 5, 6, 7, 8, 41, 42, 43, 44, 9, 10, 11, 12, 13, 14, 15, 16, 37, 38, 39, 40, 17, 18, 19, 20, 21, 22, 23, 24, 25, 26, 27, 28, 29, 30, 31, 32, 33, 34, 35, 36] rfl
              have hD := hD.sub (ws' := (x2W cB cI cJ cZ cR cS h0 a0 a1 a2 a3 a4 a5 a6 a7 o7 a8 o8 a9 h11 a11 h12 a12 N8 M1 M2 N16 M4 M5 N15 M7 M8 M9 v9 M11 M12)) [0, 1, 2, 3, 4, 5, 6, 7, 8, 41, 42, 43, 44, 9, 10, 11, 12, 13, 14, 15, 16, 37, 38, 39, 40, 17, 18, 19, 20, 21, 22, 23, 24, 25, 26, 27, 28, 29, 30, 31, 32, 33, 34, 35, 36] (by decide) rfl
              generalize H1 = H at hP hS ⊢
              have h := hw
              try dsimp only at h
              refine lv_aload_n hx hb dX11_would_58 rfl (lv_at hl 0 rfl) ?_
              refine va_get (D := (dC, dI)) (ci := 11) (v := .ref (a0 7)) (C := RX11) (T := TX11) (N := 12) hx hb hts hinX11 hown hK hP 0 rfl rfl 7 (by decide) f4 (fun _ h9 => h9) rfl dX11_would_59 ?_
              refine lv_aload_n hx hb dX11_would_62 rfl (lv_at hl 0 rfl) ?_
              refine va_get (D := (dC, dI)) (ci := 11) (v := .ref (a0 4)) (C := RX11) (T := TX11) (N := 12) hx hb hts hinX11 hown hK hP 0 rfl rfl 4 (by decide) f1 (fun _ h9 => h9) rfl dX11_would_63 ?_
              refine va_get (D := (dC, dI)) (ci := 10) (v := .ref (a1 0)) (C := RX10) (T := TX10) (N := 5) hx hb hts hinX10 hown hK hP 3 rfl rfl 0 (by decide) f5 (fun _ h9 => h9) rfl dX11_would_66 ?_
              refine lv_aload_n hx hb dX11_would_69 rfl (lv_at hl 0 rfl) ?_
              refine lv_iload_n hx hb dX11_would_70 rfl (lv_at hl 1 rfl) ?_
              have hPc := hP.sub (ws' := (rlW cB cI cJ cZ cR cS h0 a0 N8 v9)) [0, 1, 2, 34] rfl
              have hDc := hD.sub (ws' := (rlW cB cI cJ cZ cR cS h0 a0 N8 v9)) [0, 1, 2, 34] (by decide) rfl
              have hFc := va_free (wc := (rlW cB cI cJ cZ cR cS h0 a0 N8 v9)) hD hS hA [0, 1, 2, 34] rfl
              refine va_callq (va_runV (As := [.int p1]) (rest := [.ref (a1 0), .ref (a0 7)]) ⟨hx, hb, hml, hown, hts⟩ (kX11_ruleAt l dC dI cB cI cJ cZ cR cS h0 a0 H.size p1 N8 v9 _ h) (cwV 1 hts gX11_would_X11_ruleAt rfl rfl rfl (by decide +kernel) ⟨Nat.le_of_ble_eq_true rfl, Nat.le_of_ble_eq_true rfl⟩) (rlpV hK hPc hDc) rfl rfl hl.1 rfl (lv_room (Nat.le_of_ble_eq_true rfl)) dX11_would_71 ⟨Nat.le_of_ble_eq_true rfl, Nat.le_of_ble_eq_true rfl⟩) hS (fun q _ z => hFc q z) hFc (fun r17 u t H1 locs ht hvm hw hB hz1 hk1 hS => ?_)
              obtain ⟨N18, v19⟩ := u
              obtain ⟨hP1, hK1, hD1⟩ := hB
              rw [ht] at hP1
              obtain ⟨hP, hD⟩ := va_join (wr := [(a0 4, .inr (10, [.ref (a1 0), .ref (a1 1), .ref (a1 2), .ref (a1 3), .int (mg M1 4)])), (a1 3, .inl (cI, 2, .inl (ma M1 3))), (a1 0, .inr (1, [.int (mg M2 0), .ref (a2 1), .int (mg M2 2), .ref (a2 3), .int (mg M2 4), .ref (a2 5)])), (a2 1, .inl (cI, 4, .inl (ma M2 1))), (a2 3, .inl (cI, 4, .inl (ma M2 3))), (a2 5, .inl (cI, 2, .inl (ma M2 5))), (a1 1, .inr (6, [.int (mg N16 0), .int (mg N16 1), .int (mg N16 2), .int (mg N16 3), .int (mg N16 4), .int (mg N16 5), .int (mg N16 6), .ref (a3 7), .ref (a3 8), .ref (a3 9)])), (a3 7, .inl (cI, 2, .inl (ma N16 7))), (a3 8, .inl (cI, 2, .inl (ma N16 8))), (a3 9, .inl (cI, 2, .inl (ma N16 9))), (a1 2, .inr (4, [.int (mg M4 0), .ref (a4 1), .ref (a4 2), .ref (a4 3)])), (a4 1, .inl (cI, 6, .inl (ma M4 1))), (a4 2, .inl (cI, 6, .inl (ma M4 2))), (a4 3, .inl (cI, 6, .inl (ma M4 3))), (a0 6, .inr (1, [.int (mg M5 0), .ref (a5 1), .int (mg M5 2), .ref (a5 3), .int (mg M5 4), .ref (a5 5)])), (a5 1, .inl (cI, 4, .inl (ma M5 1))), (a5 3, .inl (cI, 4, .inl (ma M5 3))), (a5 5, .inl (cI, 2, .inl (ma M5 5))), (a0 7, .inr (6, [.int (mg N15 0), .int (mg N15 1), .int (mg N15 2), .int (mg N15 3), .int (mg N15 4), .int (mg N15 5), .int (mg N15 6), .ref (a6 7), .ref (a6 8), .ref (a6 9)])), (a6 7, .inl (cI, 2, .inl (ma N15 7))), (a6 8, .inl (cI, 2, .inl (ma N15 8))), (a6 9, .inl (cI, 2, .inl (ma N15 9))), (a0 8, .inr (0, [.ref (a7 0), .ref (a7 1), .ref (a7 2), .ref (a7 3), .int (mg M7 4), va_rf o7, .int (mg M7 6), .int (mg M7 7), .int (mg M7 8), .int (mg M7 9), .int (mg M7 10)])), (a7 0, .inl (cJ, 15, .inr (.inl (ml M7 0)))), (a7 1, .inl (cJ, 800, .inr (.inl (ml M7 1)))), (a7 2, .inl (cI, 4, .inl (ma M7 2))), (a7 3, .inl (cJ, 4, .inr (.inl (ml M7 3)))), (a0 9, .inr (5, [.ref (a8 0), .ref (a8 1), va_rf o8, .int (mg M8 3)])), (a8 0, .inl (cI, 2048, .inl (ma M8 0))), (a8 1, .inl (cI, 2048, .inl (ma M8 1))), (a0 10, .inr (3, [.int (mg M9 0), .int (mg M9 1), .int (mg M9 2), .int (mg M9 3), .int (mg M9 4)])), (h11, .inr (8, [.int (mg M11 0), .ref (a11 1), .ref (a11 2), .ref (a11 3), .int (mg M11 4), .ref (a11 5)])), (a11 1, .inl (cI, 12, .inl (ma M11 1))), (a11 2, .inl (cI, 12, .inl (ma M11 2))), (a11 3, .inl (cI, 400, .inl (ma M11 3))), (a11 5, .inl (cJ, 60, .inr (.inl (ml M11 5)))), (h12, .inr (8, [.int (mg M12 0), .ref (a12 1), .ref (a12 2), .ref (a12 3), .int (mg M12 4), .ref (a12 5)])), (a12 1, .inl (cI, 12, .inl (ma M12 1))), (a12 2, .inl (cI, 12, .inl (ma M12 2))), (a12 3, .inl (cI, 400, .inl (ma M12 3))), (a12 5, .inl (cJ, 60, .inr (.inl (ml M12 5))))]) (w1 := (rlW cB cI cJ cZ cR cS h0 a0 N18 v19)) hP hD [0, 1, 2, 34] [3, 4, 5, 6, 7, 8, 9, 10, 11, 12, 13, 14, 15, 16, 17, 18, 19, 20, 21, 22, 23, 24, 25, 26, 27, 28, 29, 30, 31, 32, 33, 35, 36, 37, 38, 39, 40, 41, 42, 43, 44] rfl rfl (by decide) (by decide) hk1 hFc hP1 hD1
              have hP := hP.sub (ws' := (x2W cB cI cJ cZ cR cS h0 a0 a1 a2 a3 a4 a5 a6 a7 o7 a8 o8 a9 h11 a11 h12 a12 N18 M1 M2 N16 M4 M5 N15 M7 M8 M9 v19 M11 M12)) [41, 42, 43, 0, 1, 2, 3, 4, 5, 6, 7, 8, 9, 10, 11, 12, 13, 14, 15, 16, 17, 18, 19, 20, 21, 22, 23, 24, 25, 26, 27, 28, 29, 30, 44, 31, 32, 33, 34, 35, 36, 37, 38, 39, 40] rfl
              have hD := hD.sub (ws' := (x2W cB cI cJ cZ cR cS h0 a0 a1 a2 a3 a4 a5 a6 a7 o7 a8 o8 a9 h11 a11 h12 a12 N18 M1 M2 N16 M4 M5 N15 M7 M8 M9 v19 M11 M12)) [41, 42, 43, 0, 1, 2, 3, 4, 5, 6, 7, 8, 9, 10, 11, 12, 13, 14, 15, 16, 17, 18, 19, 20, 21, 22, 23, 24, 25, 26, 27, 28, 29, 30, 44, 31, 32, 33, 34, 35, 36, 37, 38, 39, 40] (by decide) rfl
              generalize H1 = H at hP hS ⊢
              have h := hw
              try dsimp only at h
              refine lv_aload_n hx hb dX11_would_74 rfl (lv_at hl 0 rfl) ?_
              refine lv_iload_n hx hb dX11_would_75 rfl (lv_at hl 2 rfl) ?_
              have hPc := hP.sub (ws' := (rlW cB cI cJ cZ cR cS h0 a0 N18 v19)) [0, 1, 2, 34] rfl
              have hDc := hD.sub (ws' := (rlW cB cI cJ cZ cR cS h0 a0 N18 v19)) [0, 1, 2, 34] (by decide) rfl
              have hFc := va_free (wc := (rlW cB cI cJ cZ cR cS h0 a0 N18 v19)) hD hS hA [0, 1, 2, 34] rfl
              refine va_callq (va_runV (As := [.int p2]) (rest := [va_rf r17, .ref (a1 0), .ref (a0 7)]) ⟨hx, hb, hml, hown, hts⟩ (kX11_ruleAt l dC dI cB cI cJ cZ cR cS h0 a0 H.size p2 N18 v19 _ h) (cwV 1 hts gX11_would_X11_ruleAt rfl rfl rfl (by decide +kernel) ⟨Nat.le_of_ble_eq_true rfl, Nat.le_of_ble_eq_true rfl⟩) (rlpV hK hPc hDc) rfl rfl hl.1 rfl (lv_room (by cases r17 <;> exact Nat.le_of_ble_eq_true rfl)) dX11_would_76 ⟨Nat.le_of_ble_eq_true rfl, Nat.le_of_ble_eq_true rfl⟩) hS (fun q _ z => hFc q z) hFc (fun r20 u t H1 locs ht hvm hw hB hz1 hk1 hS => ?_)
              obtain ⟨N21, v22⟩ := u
              obtain ⟨hP1, hK1, hD1⟩ := hB
              rw [ht] at hP1
              obtain ⟨hP, hD⟩ := va_join (wr := [(a0 4, .inr (10, [.ref (a1 0), .ref (a1 1), .ref (a1 2), .ref (a1 3), .int (mg M1 4)])), (a1 3, .inl (cI, 2, .inl (ma M1 3))), (a1 0, .inr (1, [.int (mg M2 0), .ref (a2 1), .int (mg M2 2), .ref (a2 3), .int (mg M2 4), .ref (a2 5)])), (a2 1, .inl (cI, 4, .inl (ma M2 1))), (a2 3, .inl (cI, 4, .inl (ma M2 3))), (a2 5, .inl (cI, 2, .inl (ma M2 5))), (a1 1, .inr (6, [.int (mg N16 0), .int (mg N16 1), .int (mg N16 2), .int (mg N16 3), .int (mg N16 4), .int (mg N16 5), .int (mg N16 6), .ref (a3 7), .ref (a3 8), .ref (a3 9)])), (a3 7, .inl (cI, 2, .inl (ma N16 7))), (a3 8, .inl (cI, 2, .inl (ma N16 8))), (a3 9, .inl (cI, 2, .inl (ma N16 9))), (a1 2, .inr (4, [.int (mg M4 0), .ref (a4 1), .ref (a4 2), .ref (a4 3)])), (a4 1, .inl (cI, 6, .inl (ma M4 1))), (a4 2, .inl (cI, 6, .inl (ma M4 2))), (a4 3, .inl (cI, 6, .inl (ma M4 3))), (a0 6, .inr (1, [.int (mg M5 0), .ref (a5 1), .int (mg M5 2), .ref (a5 3), .int (mg M5 4), .ref (a5 5)])), (a5 1, .inl (cI, 4, .inl (ma M5 1))), (a5 3, .inl (cI, 4, .inl (ma M5 3))), (a5 5, .inl (cI, 2, .inl (ma M5 5))), (a0 7, .inr (6, [.int (mg N15 0), .int (mg N15 1), .int (mg N15 2), .int (mg N15 3), .int (mg N15 4), .int (mg N15 5), .int (mg N15 6), .ref (a6 7), .ref (a6 8), .ref (a6 9)])), (a6 7, .inl (cI, 2, .inl (ma N15 7))), (a6 8, .inl (cI, 2, .inl (ma N15 8))), (a6 9, .inl (cI, 2, .inl (ma N15 9))), (a0 8, .inr (0, [.ref (a7 0), .ref (a7 1), .ref (a7 2), .ref (a7 3), .int (mg M7 4), va_rf o7, .int (mg M7 6), .int (mg M7 7), .int (mg M7 8), .int (mg M7 9), .int (mg M7 10)])), (a7 0, .inl (cJ, 15, .inr (.inl (ml M7 0)))), (a7 1, .inl (cJ, 800, .inr (.inl (ml M7 1)))), (a7 2, .inl (cI, 4, .inl (ma M7 2))), (a7 3, .inl (cJ, 4, .inr (.inl (ml M7 3)))), (a0 9, .inr (5, [.ref (a8 0), .ref (a8 1), va_rf o8, .int (mg M8 3)])), (a8 0, .inl (cI, 2048, .inl (ma M8 0))), (a8 1, .inl (cI, 2048, .inl (ma M8 1))), (a0 10, .inr (3, [.int (mg M9 0), .int (mg M9 1), .int (mg M9 2), .int (mg M9 3), .int (mg M9 4)])), (h11, .inr (8, [.int (mg M11 0), .ref (a11 1), .ref (a11 2), .ref (a11 3), .int (mg M11 4), .ref (a11 5)])), (a11 1, .inl (cI, 12, .inl (ma M11 1))), (a11 2, .inl (cI, 12, .inl (ma M11 2))), (a11 3, .inl (cI, 400, .inl (ma M11 3))), (a11 5, .inl (cJ, 60, .inr (.inl (ml M11 5)))), (h12, .inr (8, [.int (mg M12 0), .ref (a12 1), .ref (a12 2), .ref (a12 3), .int (mg M12 4), .ref (a12 5)])), (a12 1, .inl (cI, 12, .inl (ma M12 1))), (a12 2, .inl (cI, 12, .inl (ma M12 2))), (a12 3, .inl (cI, 400, .inl (ma M12 3))), (a12 5, .inl (cJ, 60, .inr (.inl (ml M12 5))))]) (w1 := (rlW cB cI cJ cZ cR cS h0 a0 N21 v22)) hP hD [0, 1, 2, 34] [3, 4, 5, 6, 7, 8, 9, 10, 11, 12, 13, 14, 15, 16, 17, 18, 19, 20, 21, 22, 23, 24, 25, 26, 27, 28, 29, 30, 31, 32, 33, 35, 36, 37, 38, 39, 40, 41, 42, 43, 44] rfl rfl (by decide) (by decide) hk1 hFc hP1 hD1
              have hP := hP.sub (ws' := (x2W cB cI cJ cZ cR cS h0 a0 a1 a2 a3 a4 a5 a6 a7 o7 a8 o8 a9 h11 a11 h12 a12 N21 M1 M2 N16 M4 M5 N15 M7 M8 M9 v22 M11 M12)) [41, 42, 43, 0, 1, 2, 3, 4, 5, 6, 7, 8, 9, 10, 11, 12, 13, 14, 15, 16, 17, 18, 19, 20, 21, 22, 23, 24, 25, 26, 27, 28, 29, 30, 44, 31, 32, 33, 34, 35, 36, 37, 38, 39, 40] rfl
              have hD := hD.sub (ws' := (x2W cB cI cJ cZ cR cS h0 a0 a1 a2 a3 a4 a5 a6 a7 o7 a8 o8 a9 h11 a11 h12 a12 N21 M1 M2 N16 M4 M5 N15 M7 M8 M9 v22 M11 M12)) [41, 42, 43, 0, 1, 2, 3, 4, 5, 6, 7, 8, 9, 10, 11, 12, 13, 14, 15, 16, 17, 18, 19, 20, 21, 22, 23, 24, 25, 26, 27, 28, 29, 30, 44, 31, 32, 33, 34, 35, 36, 37, 38, 39, 40] (by decide) rfl
              generalize H1 = H at hP hS ⊢
              have h := hw
              try dsimp only at h
              obtain ⟨ehQ23, hQ23⟩ := h
              subst ehQ23
              have h := hQ23
              obtain ⟨ehQ24, hQ24⟩ := h
              subst ehQ24
              have h := hQ24
              have hPc := hP.sub (ws' := (q2W cB cI cJ cZ (a0 7) a6 (a1 0) a2 h11 a11 h12 a12 N15 M2 M11 M12)) [21, 22, 23, 24, 5, 6, 7, 8, 35, 36, 37, 38, 39, 40, 41, 42, 43, 44] rfl
              have hDc := hD.sub (ws' := (q2W cB cI cJ cZ (a0 7) a6 (a1 0) a2 h11 a11 h12 a12 N15 M2 M11 M12)) [21, 22, 23, 24, 5, 6, 7, 8, 35, 36, 37, 38, 39, 40, 41, 42, 43, 44] (by decide) rfl
              have hFc := va_free (wc := (q2W cB cI cJ cZ (a0 7) a6 (a1 0) a2 h11 a11 h12 a12 N15 M2 M11 M12)) hD hS hA [21, 22, 23, 24, 5, 6, 7, 8, 35, 36, 37, 38, 39, 40, 41, 42, 43, 44] rfl
              refine va_callv (va_runV (As := [.ref (a1 0), .ref h11, .ref h12]) (rest := []) ⟨hx, hb, hml, hown, hts⟩ (kX6_goByRulesab l dC dI cB cI cJ cZ (a0 7) a6 (a1 0) a2 h11 a11 h12 a12 H.size  N15 M2 M11 M12 _ h) (cwV 3 hts gX11_would_X6_goByRules rfl rfl rfl (by decide +kernel) ⟨Nat.le_of_ble_eq_true rfl, Nat.le_of_ble_eq_true rfl⟩) (q2pV hK0 hPc hDc) rfl rfl hl.1 rfl (lv_room (Nat.le_of_ble_eq_true rfl)) dX11_would_79 ⟨Nat.le_of_ble_eq_true rfl, Nat.le_of_ble_eq_true rfl⟩) hS (fun q _ z => hFc q z) hFc (fun u t H1 locs ht hvm hw hB hz1 hk1 hS => ?_)
              obtain ⟨N26, N27, N28, N29⟩ := u
              obtain ⟨hP1, hK1, hD1⟩ := hB
              rw [ht] at hP1
              obtain ⟨hP, hD⟩ := va_join (wr := [(h0, .inr (11, [.ref (a0 0), .int (mg N21 1), .ref (a0 2), .int (mg N21 3), .ref (a0 4), .ref (a0 5), .ref (a0 6), .ref (a0 7), .ref (a0 8), .ref (a0 9), .ref (a0 10), .ref (a0 11)])), (a0 0, .inl (cI, 400, .inl (ma N21 0))), (a0 11, .inl (cJ, 4, .inr (.inl (ml N21 11)))), (a0 4, .inr (10, [.ref (a1 0), .ref (a1 1), .ref (a1 2), .ref (a1 3), .int (mg M1 4)])), (a1 3, .inl (cI, 2, .inl (ma M1 3))), (a1 1, .inr (6, [.int (mg N16 0), .int (mg N16 1), .int (mg N16 2), .int (mg N16 3), .int (mg N16 4), .int (mg N16 5), .int (mg N16 6), .ref (a3 7), .ref (a3 8), .ref (a3 9)])), (a3 7, .inl (cI, 2, .inl (ma N16 7))), (a3 8, .inl (cI, 2, .inl (ma N16 8))), (a3 9, .inl (cI, 2, .inl (ma N16 9))), (a1 2, .inr (4, [.int (mg M4 0), .ref (a4 1), .ref (a4 2), .ref (a4 3)])), (a4 1, .inl (cI, 6, .inl (ma M4 1))), (a4 2, .inl (cI, 6, .inl (ma M4 2))), (a4 3, .inl (cI, 6, .inl (ma M4 3))), (a0 6, .inr (1, [.int (mg M5 0), .ref (a5 1), .int (mg M5 2), .ref (a5 3), .int (mg M5 4), .ref (a5 5)])), (a5 1, .inl (cI, 4, .inl (ma M5 1))), (a5 3, .inl (cI, 4, .inl (ma M5 3))), (a5 5, .inl (cI, 2, .inl (ma M5 5))), (a0 8, .inr (0, [.ref (a7 0), .ref (a7 1), .ref (a7 2), .ref (a7 3), .int (mg M7 4), va_rf o7, .int (mg M7 6), .int (mg M7 7), .int (mg M7 8), .int (mg M7 9), .int (mg M7 10)])), (a7 0, .inl (cJ, 15, .inr (.inl (ml M7 0)))), (a7 1, .inl (cJ, 800, .inr (.inl (ml M7 1)))), (a7 2, .inl (cI, 4, .inl (ma M7 2))), (a7 3, .inl (cJ, 4, .inr (.inl (ml M7 3)))), (a0 9, .inr (5, [.ref (a8 0), .ref (a8 1), va_rf o8, .int (mg M8 3)])), (a8 0, .inl (cI, 2048, .inl (ma M8 0))), (a8 1, .inl (cI, 2048, .inl (ma M8 1))), (a0 10, .inr (3, [.int (mg M9 0), .int (mg M9 1), .int (mg M9 2), .int (mg M9 3), .int (mg M9 4)])), (a0 2, .inl (cR, 6, .inr (.inr (.inr (.inr v22)))))]) (w1 := (q2W cB cI cJ cZ (a0 7) a6 (a1 0) a2 h11 a11 h12 a12 N26 N27 N28 N29)) hP hD [21, 22, 23, 24, 5, 6, 7, 8, 35, 36, 37, 38, 39, 40, 41, 42, 43, 44] [0, 1, 2, 3, 4, 9, 10, 11, 12, 13, 14, 15, 16, 17, 18, 19, 20, 25, 26, 27, 28, 29, 30, 31, 32, 33, 34] rfl rfl (by decide) (by decide) hk1 hFc hP1 hD1
              have hP := hP.sub (ws' := (x2W cB cI cJ cZ cR cS h0 a0 a1 a2 a3 a4 a5 a6 a7 o7 a8 o8 a9 h11 a11 h12 a12 N21 M1 N27 N16 M4 M5 N26 M7 M8 M9 v22 N28 N29)) [0, 1, 2, 3, 4, 31, 32, 33, 34, 5, 6, 7, 8, 9, 10, 11, 12, 13, 14, 15, 16, 27, 28, 29, 30, 17, 18, 19, 20, 21, 22, 23, 24, 25, 26, 35, 36, 37, 38, 39, 40, 41, 42, 43, 44] rfl
              have hD := hD.sub (ws' := (x2W cB cI cJ cZ cR cS h0 a0 a1 a2 a3 a4 a5 a6 a7 o7 a8 o8 a9 h11 a11 h12 a12 N21 M1 N27 N16 M4 M5 N26 M7 M8 M9 v22 N28 N29)) [0, 1, 2, 3, 4, 31, 32, 33, 34, 5, 6, 7, 8, 9, 10, 11, 12, 13, 14, 15, 16, 27, 28, 29, 30, 17, 18, 19, 20, 21, 22, 23, 24, 25, 26, 35, 36, 37, 38, 39, 40, 41, 42, 43, 44] (by decide) rfl
              generalize H1 = H at hP hS ⊢
              have h := hw
              try dsimp only at h
              refine lv_iload_n hx hb dX11_would_82 rfl (lv_at hl 3 rfl) ?_
              by_cases c30 : p3 = (0 : Int32)
              · have h := h.1 c30
                refine lv_tableIn (tgt := 108) hx hb dX11_would_83 (by rw [c30]; decide) (by rw [c30]; decide) (by rw [c30]; rfl) (by decide) ?_
                refine lv_aload_n hx hb dX11_would_108 rfl (lv_at hl 0 rfl) ?_
                refine va_get (D := (dC, dI)) (ci := 11) (v := .ref (a0 7)) (C := RX11) (T := TX11) (N := 12) hx hb hts hinX11 hown hK hP 0 rfl rfl 7 (by decide) f4 (fun _ h9 => h9) rfl dX11_would_109 ?_
                refine va_get (D := (dC, dI)) (ci := 6) (v := .int (mg N26 6)) (C := RX6) (T := TX6) (N := 10) hx hb hts hinX6 hown hK hP 21 rfl rfl 6 (by decide) f6 (fun _ h9 => h9) rfl dX11_would_112 ?_
                exact W.iret (v := (mg N26 6)) hx hb hr (fun t ht hW => ⟨⟨_, (N21, M1, N27, N16, M4, M5, N26, M7, M8, M9, v22, N28, N29), rfl, h, o7, o8, by rw [ht]; exact hP, va_K.moved hW.alike hK, hD⟩, hS.F ht⟩) hS.2.2 dX11_would_115
              have h := h.2 c30
              by_cases c31 : p3 = (1 : Int32)
              · have h := h.1 c31
                refine lv_tableIn (tgt := 116) hx hb dX11_would_83 (by rw [c31]; decide) (by rw [c31]; decide) (by rw [c31]; rfl) (by decide) ?_
                refine lv_aload_n hx hb dX11_would_116 rfl (lv_at hl 0 rfl) ?_
                refine va_get (D := (dC, dI)) (ci := 11) (v := .ref (a0 7)) (C := RX11) (T := TX11) (N := 12) hx hb hts hinX11 hown hK hP 0 rfl rfl 7 (by decide) f4 (fun _ h9 => h9) rfl dX11_would_117 ?_
                refine va_get (D := (dC, dI)) (ci := 6) (v := .int (mg N26 4)) (C := RX6) (T := TX6) (N := 10) hx hb hts hinX6 hown hK hP 21 rfl rfl 4 (by decide) f7 (fun _ h9 => h9) rfl dX11_would_120 ?_
                refine lv_aload_n hx hb dX11_would_123 rfl (lv_at hl 0 rfl) ?_
                refine va_get (D := (dC, dI)) (ci := 11) (v := .ref (a0 4)) (C := RX11) (T := TX11) (N := 12) hx hb hts hinX11 hown hK hP 0 rfl rfl 4 (by decide) f1 (fun _ h9 => h9) rfl dX11_would_124 ?_
                refine va_get (D := (dC, dI)) (ci := 10) (v := .ref (a1 1)) (C := RX10) (T := TX10) (N := 5) hx hb hts hinX10 hown hK hP 3 rfl rfl 1 (by decide) f2 (fun _ h9 => h9) rfl dX11_would_127 ?_
                refine va_get (D := (dC, dI)) (ci := 6) (v := .int (mg N16 4)) (C := RX6) (T := TX6) (N := 10) hx hb hts hinX6 hown hK hP 9 rfl rfl 4 (by decide) f7 (fun _ h9 => h9) rfl dX11_would_130 ?_
                refine lv_isub hx hb dX11_would_133 ?_
                exact W.iret (v := ((mg N26 4) - (mg N16 4))) hx hb hr (fun t ht hW => ⟨⟨_, (N21, M1, N27, N16, M4, M5, N26, M7, M8, M9, v22, N28, N29), rfl, h, o7, o8, by rw [ht]; exact hP, va_K.moved hW.alike hK, hD⟩, hS.F ht⟩) hS.2.2 dX11_would_134
              have h := h.2 c31
              by_cases c32 : p3 = (2 : Int32)
              · have h := h.1 c32
                refine lv_tableIn (tgt := 135) hx hb dX11_would_83 (by rw [c32]; decide) (by rw [c32]; decide) (by rw [c32]; rfl) (by decide) ?_
                refine lv_aload_n hx hb dX11_would_135 rfl (lv_at hl 0 rfl) ?_
                refine va_get (D := (dC, dI)) (ci := 11) (v := .ref (a0 7)) (C := RX11) (T := TX11) (N := 12) hx hb hts hinX11 hown hK hP 0 rfl rfl 7 (by decide) f4 (fun _ h9 => h9) rfl dX11_would_136 ?_
                refine va_get (D := (dC, dI)) (ci := 6) (v := .int (mg N26 5)) (C := RX6) (T := TX6) (N := 10) hx hb hts hinX6 hown hK hP 21 rfl rfl 5 (by decide) f8 (fun _ h9 => h9) rfl dX11_would_139 ?_
                refine lv_aload_n hx hb dX11_would_142 rfl (lv_at hl 0 rfl) ?_
                refine va_get (D := (dC, dI)) (ci := 11) (v := .ref (a0 4)) (C := RX11) (T := TX11) (N := 12) hx hb hts hinX11 hown hK hP 0 rfl rfl 4 (by decide) f1 (fun _ h9 => h9) rfl dX11_would_143 ?_
                refine va_get (D := (dC, dI)) (ci := 10) (v := .ref (a1 1)) (C := RX10) (T := TX10) (N := 5) hx hb hts hinX10 hown hK hP 3 rfl rfl 1 (by decide) f2 (fun _ h9 => h9) rfl dX11_would_146 ?_
                refine va_get (D := (dC, dI)) (ci := 6) (v := .int (mg N16 5)) (C := RX6) (T := TX6) (N := 10) hx hb hts hinX6 hown hK hP 9 rfl rfl 5 (by decide) f8 (fun _ h9 => h9) rfl dX11_would_149 ?_
                refine lv_isub hx hb dX11_would_152 ?_
                exact W.iret (v := ((mg N26 5) - (mg N16 5))) hx hb hr (fun t ht hW => ⟨⟨_, (N21, M1, N27, N16, M4, M5, N26, M7, M8, M9, v22, N28, N29), rfl, h, o7, o8, by rw [ht]; exact hP, va_K.moved hW.alike hK, hD⟩, hS.F ht⟩) hS.2.2 dX11_would_153
              have h := h.2 c32
              refine lv_tableOut (tgt := 154) hx hb dX11_would_83 (by have qc30 : p3.toInt ≠ 0 := fun q => c30 (Int32.toInt_inj.mp (q.trans (by decide))); have qc31 : p3.toInt ≠ 1 := fun q => c31 (Int32.toInt_inj.mp (q.trans (by decide))); have qc32 : p3.toInt ≠ 2 := fun q => c32 (Int32.toInt_inj.mp (q.trans (by decide))); omega) (by decide) ?_
              refine lv_aload_n hx hb dX11_would_154 rfl (lv_at hl 0 rfl) ?_
              refine va_get (D := (dC, dI)) (ci := 11) (v := .ref (a0 7)) (C := RX11) (T := TX11) (N := 12) hx hb hts hinX11 hown hK hP 0 rfl rfl 7 (by decide) f4 (fun _ h9 => h9) rfl dX11_would_155 ?_
              refine va_get (D := (dC, dI)) (ci := 6) (v := .int (mg N26 2)) (C := RX6) (T := TX6) (N := 10) hx hb hts hinX6 hown hK hP 21 rfl rfl 2 (by decide) f9 (fun _ h9 => h9) rfl dX11_would_158 ?_
              exact W.iret (v := (mg N26 2)) hx hb hr (fun t ht hW => ⟨⟨_, (N21, M1, N27, N16, M4, M5, N26, M7, M8, M9, v22, N28, N29), rfl, h, o7, o8, by rw [ht]; exact hP, va_K.moved hW.alike hK, hD⟩, hS.F ht⟩) hS.2.2 dX11_would_161
            · have h := h.2 c13
              refine lv_bipush (v := (-2)) hx hb dX11_would_41 (by decide) ?_
              exact W.iret (v := (-2 : Int32)) hx hb hr (fun t ht hW => ⟨⟨_, (N8, M1, M2, M3, M4, M5, M6, M7, M8, M9, v9, M11, M12), rfl, h, o7, o8, by rw [ht]; exact hP, va_K.moved hW.alike hK, hD⟩, hS.F ht⟩) hS.2.2 dX11_would_43
        · have h := h.1 c11
          refine lv_bipush (v := (-2)) hx hb dX11_would_29 (by decide) ?_
          exact W.iret (v := (-2 : Int32)) hx hb hr (fun t ht hW => ⟨⟨_, (N8, M1, M2, M3, M4, M5, M6, M7, M8, M9, v9, M11, M12), rfl, h, o7, o8, by rw [ht]; exact hP, va_K.moved hW.alike hK, hD⟩, hS.F ht⟩) hS.2.2 dX11_would_31
  have hl := lv_entry ([.ref h0, .int p1, .int p2, .int p3]) (n := 4) (Nat.le_of_ble_eq_true rfl)
  rw [lg_entry_eq]
  generalize (lg_sl ([.ref h0, .int p1, .int p2, .int p3]) ++ List.replicate (4 - (lg_sl ([.ref h0, .int p1, .int p2, .int p3])).length) Slot.unset).toArray = ls at hl ⊢
  have hl : lv_has ls 4 [(0, .ref h0), (1, .int p1), (2, .int p2), (3, .int p3)] := hl
  exact bE M0 M1 M2 M3 M4 M5 M6 M7 M8 M9 F10 M11 M12 s.heap [] ls hP hD hS hl h
