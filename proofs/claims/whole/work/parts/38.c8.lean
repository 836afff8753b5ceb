def wX5_total_63  (Q : Int32 → gS → gS → gS → Prop) (z5 : Int32) (z4 : Int32) (z3 : Int32) (z2 : Int32) (z1 : Int32) (z0 : Int32) (M0 : gS) (M1 : gS) (M2 : gS) : Prop :=
 (wX5_tf z5 z4 z3 z2 z1 z0 M0 M1 (fun (r1 : Int32) (N2 : gS) (N3 : gS) => (Q r1 N2 N3 M2)))
def wX5_total (p3 : Int32) (p4 : Int32) (p5 : Int32) (M0 : gS) (M1 : gS) (M2 : gS) (Q : Int32 → gS → gS → gS → Prop) : Prop :=
 (∀ x1 : Int32, x1 = (mg M2 1) → (∀ N2 : gS, N2 = sg M0 3 x1 → (∀ N3 : gS, N3 = sF N2 0 (fl (ma N2 0) 2048 (0 : Int32)) → (wX6_myPurse  M2 (fun (r4 : Int32) (N5 : gS) => (wX6_theirPurse  N5 (fun (r6 : Int32) (N7 : gS) => (∀ x8 : Int32, x8 = (((8 : Int32) * r4) + r6) → (wX6_lasts  N7 (fun (r9 : Int32) (N10 : gS) => ((p5 = (mg N10 3) → (wX5_total_63  Q p3 (mg N7 2) r9 x8 p4 (1 : Int32) N3 M1 N10))
 ∧ (¬ p5 = (mg N10 3) → (wX5_total_63  Q p3 (mg N7 2) r9 x8 p4 (0 : Int32) N3 M1 N10)))))))))))))
def rmX5_total : Room := { frames := 28, cells := 0, slots := 0, locals := 672 }
set_option maxHeartbeats 4000000 in
set_option maxRecDepth 100000 in
theorem kX5_total (l : Launch) (dC : Nat → ClassId) (dI : Nat → Nat → Nat) (cB cI cJ cZ : ClassId) (h0 : Nat) (a0 : Nat → Nat) (o0 : Option Nat) (h1 : Nat) (a1 : Nat → Nat) (h2 : Nat) (a2 : Nat → Nat) (sz : Nat) (p3 : Int32) (p4 : Int32) (p5 : Int32) (M0 : gS) (M1 : gS) (M2 : gS) (Q : Int32 → gS → gS → gS → Prop) (h : wX5_total p3 p4 p5 M0 M1 M2 Q) : Met l yX5_total wsX5_total rmX5_total (va_Pc [.ref h0, .ref h1, .ref h2, .int p3, .int p4, .int p5] (poI dC dI cB cI cJ cZ h0 a0 o0 h1 a1 h2 a2 M0 M1 M2 sz)) (va_Qi (fun (r : Int32) (u : gS × gS × gS) => Q r u.1 u.2.1 u.2.2) (poB dC dI cB cI cJ cZ h0 a0 (some h1) h1 a1 h2 a2 (va_A (poW cB cI cJ cZ h0 a0 o0 h1 a1 h2 a2 M0 M1 M2) sz)) (va_A (poW cB cI cJ cZ h0 a0 o0 h1 a1 h2 a2 M0 M1 M2) sz)) 0 0 (va_A (poW cB cI cJ cZ h0 a0 o0 h1 a1 h2 a2 M0 M1 M2) sz) := by
  refine Met.ofW (cc := cX5_total) (maxL := 7) (ret := (some .int)) (by decide) rfl ?_
  intro p e s m args below meth c s₁ B hml hv
  obtain ⟨rfl, hsz, hP, hK, hD0⟩ := hv
  have hx := B.exec
  have hb := B.bytes
  have hr := B.returns
  have hts := atoms_spec (ws := wsX5_total) B.pre
  have hown : s.vm.findClass RX5 = some m.cls := findClass_of_methodNamed B.named
  have hlocks := B.notSynchronized
  subst hsz
  have hD := hD0.self (sz := s.heap.size)
  generalize hAe : va_A (poW cB cI cJ cZ h0 a0 o0 h1 a1 h2 a2 M0 M1 M2) s.heap.size = A at hD ⊢
  have hA : ∀ q : Nat, s.heap.size ≤ q → A q := fun q h => by rw [← hAe]; exact Or.inr h
  have hS : va_S A s.heap s.heap [] := va_S.rf
  have hinX5 : ∀ w ∈ wsX50, w ∈ wsX5_total := by decide +kernel
  have hinX6 : ∀ w ∈ wsX60, w ∈ wsX5_total := by decide +kernel
  have f1 := hts (.fieldLink RX5 18 "LastWords$PlayCounter" "corner" "LLastWords$Corner;") (by decide +kernel)
  have f2 := hts (.fieldLink RX5 22 "LastWords$Quarrel" "verse" "I") (by decide +kernel)
  have f3 := hts (.fieldLink RX5 28 "LastWords$PlayCounter" "verse" "I") (by decide +kernel)
  have f4 := hts (.fieldLink RX5 11 "LastWords$PlayCounter" "keys" "[I") (by decide +kernel)
  have f5 := hts (.fieldLink RX5 42 "LastWords$Quarrel" "left" "I") (by decide +kernel)
  have f6 := hts (.fieldLink RX5 48 "LastWords$Quarrel" "turn" "I") (by decide +kernel)
  have b63 : ∀ (z5 : Int32) (z4 : Int32) (z3 : Int32) (z2 : Int32) (z1 : Int32) (z0 : Int32) (M0 : gS) (M1 : gS) (M2 : gS) (H : Heap) (locs : List Loc) (ls : Array Slot), va_P (dC, dI) vwCl (poW cB cI cJ cZ h0 a0 (some h1) h1 a1 h2 a2 M0 M1 M2) H → va_D A (poW cB cI cJ cZ h0 a0 (some h1) h1 a1 h2 a2 M0 M1 M2) → va_S A s.heap H locs → lv_has ls 7 [] → wX5_total_63  Q z5 z4 z3 z2 z1 z0 M0 M1 M2 → W p l e (headSpec wsX5_total rmX5_total).room s m ([.ref h0, .ref h1, .ref h2, .int p3, .int p4, .int p5] : List Value).toArray below meth c H locs 0 0 (MQ below (va_Qi (fun (r : Int32) (u : gS × gS × gS) => Q r u.1 u.2.1 u.2.2) (poB dC dI cB cI cJ cZ h0 a0 (some h1) h1 a1 h2 a2 A) A) ([.ref h0, .ref h1, .ref h2, .int p3, .int p4, .int p5] : List Value).toArray s 0 0 A) (F0 m 63 ls [.int z0, .int z1, .int z2, .int z3, .int z4, .int z5, .ref h0]) := by
    intro  z5 z4 z3 z2 z1 z0 M0 M1 M2 H locs ls hP hD hS hl h
    unfold wX5_total_63 at h
    have hPc := hP.sub (ws' := (pcW cB cI cJ cZ h0 (va_up a0 2 h1) a1 M0 M1)) [0, 1, 2, 3, 4, 5, 6] rfl
    have hDc := hD.sub (ws' := (pcW cB cI cJ cZ h0 (va_up a0 2 h1) a1 M0 M1)) [0, 1, 2, 3, 4, 5, 6] (by decide) rfl
    have hFc := va_free (wc := (pcW cB cI cJ cZ h0 (va_up a0 2 h1) a1 M0 M1)) hD hS hA [0, 1, 2, 3, 4, 5, 6] rfl
    refine va_calli (va_runV (As := [.int z5, .int z4, .int z3, .int z2, .int z1, .int z0]) (rest := []) ⟨hx, hb, hml, hown, hts⟩ (kX5_tf l dC dI cB cI cJ cZ h0 (va_up a0 2 h1) a1 H.size z5 z4 z3 z2 z1 z0 M0 M1 _ h) (cwV 6 hts gX5_total_X5_totalFrom rfl rfl rfl (by decide +kernel) ⟨Nat.le_of_ble_eq_true rfl, Nat.le_of_ble_eq_true rfl⟩) (pcpV hK hPc hDc) rfl rfl hl.1 rfl (lv_room (Nat.le_of_ble_eq_true rfl)) dX5_total_63 ⟨Nat.le_of_ble_eq_true rfl, Nat.le_of_ble_eq_true rfl⟩) hS (fun q _ z => hFc q z) hFc (fun r1 u t H1 locs ht hvm hw hB hz1 hk1 hS => ?_)
    obtain ⟨N2, N3⟩ := u
    obtain ⟨hP1, hK1, hD1⟩ := hB
    rw [ht] at hP1
    obtain ⟨hP, hD⟩ := va_join (wr := [(h2, .inr (6, [.int (mg M2 0), .int (mg M2 1), .int (mg M2 2), .int (mg M2 3), .int (mg M2 4), .int (mg M2 5), .int (mg M2 6), .ref (a2 7), .ref (a2 8), .ref (a2 9)])), (a2 7, .inl (cI, 2, .inl (ma M2 7))), (a2 8, .inl (cI, 2, .inl (ma M2 8))), (a2 9, .inl (cI, 2, .inl (ma M2 9)))]) (w1 := (pcW cB cI cJ cZ h0 (va_up a0 2 h1) a1 N2 N3)) hP hD [0, 1, 2, 3, 4, 5, 6] [7, 8, 9, 10] rfl rfl (by decide) (by decide) hk1 hFc hP1 hD1
    have hP := hP.sub (ws' := (poW cB cI cJ cZ h0 a0 (some h1) h1 a1 h2 a2 N2 N3 M2)) [4, 5, 6, 7, 8, 9, 10, 0, 1, 2, 3] rfl
    have hD := hD.sub (ws' := (poW cB cI cJ cZ h0 a0 (some h1) h1 a1 h2 a2 N2 N3 M2)) [4, 5, 6, 7, 8, 9, 10, 0, 1, 2, 3] (by decide) rfl
    generalize H1 = H at hP hS ⊢
    have h := hw
    try dsimp only at h
    exact W.iret (v := r1) hx hb hr (fun t ht hW => ⟨⟨_, (N2, N3, M2), rfl, h, by rw [ht]; exact hP, va_K.moved hW.alike hK, hD⟩, hS.F ht⟩) hS.2.2 dX5_total_66
  have bE : ∀ (M0 : gS) (M1 : gS) (M2 : gS) (H : Heap) (locs : List Loc) (ls : Array Slot), va_P (dC, dI) vwCl (poW cB cI cJ cZ h0 a0 o0 h1 a1 h2 a2 M0 M1 M2) H → va_D A (poW cB cI cJ cZ h0 a0 o0 h1 a1 h2 a2 M0 M1 M2) → va_S A s.heap H locs → lv_has ls 7 [(0, .ref h0), (1, .ref h1), (2, .ref h2), (3, .int p3), (4, .int p4), (5, .int p5)] → wX5_total p3 p4 p5 M0 M1 M2 Q → W p l e (headSpec wsX5_total rmX5_total).room s m ([.ref h0, .ref h1, .ref h2, .int p3, .int p4, .int p5] : List Value).toArray below meth c H locs 0 0 (MQ below (va_Qi (fun (r : Int32) (u : gS × gS × gS) => Q r u.1 u.2.1 u.2.2) (poB dC dI cB cI cJ cZ h0 a0 (some h1) h1 a1 h2 a2 A) A) ([.ref h0, .ref h1, .ref h2, .int p3, .int p4, .int p5] : List Value).toArray s 0 0 A) (F0 m 0 ls []) := by
    intro M0 M1 M2 H locs ls hP hD hS hl h
    unfold wX5_total at h
    refine lv_aload_n hx hb dX5_total_0 rfl (lv_at hl 0 rfl) ?_
    refine lv_aload_n hx hb dX5_total_1 rfl (lv_at hl 1 rfl) ?_
    refine va_put (D := (dC, dI)) (ci := 5) (v := .ref h1) (ty := .object "LastWords$Corner") (C := RX5) (T := TX5) (N := 4) hx hb hts hinX5 tyX5 tyX5_ok nmX5 hown hK hP hD hS 0 rfl rfl 2 (by decide) f1 (fun _ h9 => h9) rfl (by decide +kernel) rfl rfl (Nat.le_of_ble_eq_true rfl) dX5_total_2 (fun H locs hP hD hS => ?_)
    have hP := poP_0_f2 hP
    have hD := poD_0_f2 hD
    refine lv_aload_n hx hb dX5_total_5 rfl (lv_at hl 0 rfl) ?_
    refine lv_aload_n hx hb dX5_total_6 rfl (lv_at hl 2 rfl) ?_
    refine va_get (D := (dC, dI)) (ci := 6) (v := .int (mg M2 1)) (C := RX6) (T := TX6) (N := 10) hx hb hts hinX6 hown hK hP 7 rfl rfl 1 (by decide) f2 (fun _ h9 => h9) rfl dX5_total_7 ?_
    refine lv_topi (fun x1 ex1 => ?_)
    have h := h x1 ex1
    refine va_put (D := (dC, dI)) (ci := 5) (v := .int x1) (ty := .int) (C := RX5) (T := TX5) (N := 4) hx hb hts hinX5 tyX5 tyX5_ok nmX5 hown hK hP hD hS 0 rfl rfl 3 (by decide) f3 (fun _ h9 => h9) rfl (by decide +kernel) rfl rfl (Nat.le_of_ble_eq_true rfl) dX5_total_10 (fun H locs hP hD hS => ?_)
    have hP := poP_0_f3 hP
    have hD := poD_0_f3 hD
    have h := h _ rfl
    generalize sg M0 3 x1 = N2 at hP hD h
    refine lv_aload_n hx hb dX5_total_13 rfl (lv_at hl 0 rfl) ?_
    refine va_get (D := (dC, dI)) (ci := 5) (v := .ref (a0 0)) (C := RX5) (T := TX5) (N := 4) hx hb hts hinX5 hown hK hP 0 rfl rfl 0 (by decide) f4 (fun _ h9 => h9) rfl dX5_total_14 ?_
    refine lv_iconst (v := 0) hx hb dX5_total_17 (by decide) ?_
    have hPc := hP.sub (ws' := (t1W cI (a0 0) 2048 (ma N2 0))) [1] rfl
    have hDc := hD.sub (ws' := (t1W cI (a0 0) 2048 (ma N2 0))) [1] (by decide) rfl
    have hFc := va_free (wc := (t1W cI (a0 0) 2048 (ma N2 0))) hD hS hA [1] rfl
    refine va_callv (va_runS (As := [.ref (a0 0), .int (0 : Int32)]) (rest := []) ⟨hx, hb, hml, hown, hts⟩ (kJ7_fill l dC dI cI (a0 0) 2048 (by decide) H.size (0 : Int32) (ma N2 0)) (va_cwS 2 hts gX5_total_J7_fill_53178 rfl rfl rfl (by decide +kernel) ⟨Nat.le_of_ble_eq_true rfl, Nat.le_of_ble_eq_true rfl⟩) (t1pS (hK.sub (tys' := [(cI, .int)]) [1] rfl) hPc hDc) rfl rfl hl.1 rfl (lv_room (Nat.le_of_ble_eq_true rfl)) dX5_total_18 ⟨Nat.le_of_ble_eq_true rfl, Nat.le_of_ble_eq_true rfl⟩) hS (fun q _ z => hFc q z) hFc (fun u t H1 locs ht hvm hw hB hz1 hk1 hS => ?_)
    obtain ⟨hP1, hK1, hD1⟩ := hB
    rw [ht] at hP1
    subst hw
    obtain ⟨hP, hD⟩ := va_join (wr := [(h0, .inr (5, [.ref (a0 0), .ref (a0 1), va_rf (some h1), .int (mg N2 3)])), (a0 1, .inl (cI, 2048, .inl (ma N2 1))), (h1, .inr (1, [.int (mg M1 0), .ref (a1 1), .int (mg M1 2), .ref (a1 3), .int (mg M1 4), .ref (a1 5)])), (a1 1, .inl (cI, 4, .inl (ma M1 1))), (a1 3, .inl (cI, 4, .inl (ma M1 3))), (a1 5, .inl (cI, 2, .inl (ma M1 5))), (h2, .inr (6, [.int (mg M2 0), .int (mg M2 1), .int (mg M2 2), .int (mg M2 3), .int (mg M2 4), .int (mg M2 5), .int (mg M2 6), .ref (a2 7), .ref (a2 8), .ref (a2 9)])), (a2 7, .inl (cI, 2, .inl (ma M2 7))), (a2 8, .inl (cI, 2, .inl (ma M2 8))), (a2 9, .inl (cI, 2, .inl (ma M2 9)))]) (w1 := (t1W cI (a0 0) 2048 (fl (ma N2 0) 2048 (0 : Int32)))) hP hD [1] [0, 2, 3, 4, 5, 6, 7, 8, 9, 10] rfl rfl (by decide) (by decide) hk1 hFc hP1 hD1
    have hP := hP.sub (ws' := (poW cB cI cJ cZ h0 a0 (some h1) h1 a1 h2 a2 (sF N2 0 (fl (ma N2 0) 2048 (0 : Int32))) M1 M2)) [0, 10, 1, 2, 3, 4, 5, 6, 7, 8, 9] rfl
    have hD := hD.sub (ws' := (poW cB cI cJ cZ h0 a0 (some h1) h1 a1 h2 a2 (sF N2 0 (fl (ma N2 0) 2048 (0 : Int32))) M1 M2)) [0, 10, 1, 2, 3, 4, 5, 6, 7, 8, 9] (by decide) rfl
    generalize H1 = H at hP hS ⊢
    have h := h _ rfl
    generalize sF N2 0 (fl (ma N2 0) 2048 (0 : Int32)) = N3 at hP hD h
    refine lv_bipush (v := (8)) hx hb dX5_total_21 (by decide) ?_
    refine lv_aload_n hx hb dX5_total_23 rfl (lv_at hl 2 rfl) ?_
    have hPc := hP.sub (ws' := (qrW cB cI cJ cZ h2 a2 M2)) [7, 8, 9, 10] rfl
    have hDc := hD.sub (ws' := (qrW cB cI cJ cZ h2 a2 M2)) [7, 8, 9, 10] (by decide) rfl
    have hFc := va_free (wc := (qrW cB cI cJ cZ h2 a2 M2)) hD hS hA [7, 8, 9, 10] rfl
    refine va_calli (va_runV (As := []) (rest := [.int (8 : Int32)]) ⟨hx, hb, hml, hown, hts⟩ (kX6_myPurse l dC dI cB cI cJ cZ h2 a2 H.size  M2 _ h) (cwV 0 hts gX5_total_X6_myPurse rfl rfl rfl (by decide +kernel) ⟨Nat.le_of_ble_eq_true rfl, Nat.le_of_ble_eq_true rfl⟩) (qrpV hK hPc hDc) rfl rfl hl.1 rfl (lv_room (Nat.le_of_ble_eq_true rfl)) dX5_total_24 ⟨Nat.le_of_ble_eq_true rfl, Nat.le_of_ble_eq_true rfl⟩) hS (fun q _ z => hFc q z) hFc (fun r4 u t H1 locs ht hvm hw hB hz1 hk1 hS => ?_)
    obtain ⟨N5, rfl⟩ : ∃ z, z = u := ⟨_, rfl⟩
    obtain ⟨hP1, hK1, hD1⟩ := hB
    rw [ht] at hP1
    obtain ⟨hP, hD⟩ := va_join (wr := [(h0, .inr (5, [.ref (a0 0), .ref (a0 1), va_rf (some h1), .int (mg N3 3)])), (a0 0, .inl (cI, 2048, .inl (ma N3 0))), (a0 1, .inl (cI, 2048, .inl (ma N3 1))), (h1, .inr (1, [.int (mg M1 0), .ref (a1 1), .int (mg M1 2), .ref (a1 3), .int (mg M1 4), .ref (a1 5)])), (a1 1, .inl (cI, 4, .inl (ma M1 1))), (a1 3, .inl (cI, 4, .inl (ma M1 3))), (a1 5, .inl (cI, 2, .inl (ma M1 5)))]) (w1 := (qrW cB cI cJ cZ h2 a2 N5)) hP hD [7, 8, 9, 10] [0, 1, 2, 3, 4, 5, 6] rfl rfl (by decide) (by decide) hk1 hFc hP1 hD1
    have hP := hP.sub (ws' := (poW cB cI cJ cZ h0 a0 (some h1) h1 a1 h2 a2 N3 M1 N5)) [0, 1, 2, 3, 4, 5, 6, 7, 8, 9, 10] rfl
    have hD := hD.sub (ws' := (poW cB cI cJ cZ h0 a0 (some h1) h1 a1 h2 a2 N3 M1 N5)) [0, 1, 2, 3, 4, 5, 6, 7, 8, 9, 10] (by decide) rfl
    generalize H1 = H at hP hS ⊢
    have h := hw
    try dsimp only at h
    refine lv_imul hx hb dX5_total_27 ?_
    refine lv_aload_n hx hb dX5_total_28 rfl (lv_at hl 2 rfl) ?_
    have hPc := hP.sub (ws' := (qrW cB cI cJ cZ h2 a2 N5)) [7, 8, 9, 10] rfl
    have hDc := hD.sub (ws' := (qrW cB cI cJ cZ h2 a2 N5)) [7, 8, 9, 10] (by decide) rfl
    have hFc := va_free (wc := (qrW cB cI cJ cZ h2 a2 N5)) hD hS hA [7, 8, 9, 10] rfl
    refine va_calli (va_runV (As := []) (rest := [.int ((8 : Int32) * r4)]) ⟨hx, hb, hml, hown, hts⟩ (kX6_theirPurse l dC dI cB cI cJ cZ h2 a2 H.size  N5 _ h) (cwV 0 hts gX5_total_X6_theirPurse rfl rfl rfl (by decide +kernel) ⟨Nat.le_of_ble_eq_true rfl, Nat.le_of_ble_eq_true rfl⟩) (qrpV hK hPc hDc) rfl rfl hl.1 rfl (lv_room (Nat.le_of_ble_eq_true rfl)) dX5_total_29 ⟨Nat.le_of_ble_eq_true rfl, Nat.le_of_ble_eq_true rfl⟩) hS (fun q _ z => hFc q z) hFc (fun r6 u t H1 locs ht hvm hw hB hz1 hk1 hS => ?_)
    obtain ⟨N7, rfl⟩ : ∃ z, z = u := ⟨_, rfl⟩
    obtain ⟨hP1, hK1, hD1⟩ := hB
    rw [ht] at hP1
    obtain ⟨hP, hD⟩ := va_join (wr := [(h0, .inr (5, [.ref (a0 0), .ref (a0 1), va_rf (some h1), .int (mg N3 3)])), (a0 0, .inl (cI, 2048, .inl (ma N3 0))), (a0 1, .inl (cI, 2048, .inl (ma N3 1))), (h1, .inr (1, [.int (mg M1 0), .ref (a1 1), .int (mg M1 2), .ref (a1 3), .int (mg M1 4), .ref (a1 5)])), (a1 1, .inl (cI, 4, .inl (ma M1 1))), (a1 3, .inl (cI, 4, .inl (ma M1 3))), (a1 5, .inl (cI, 2, .inl (ma M1 5)))]) (w1 := (qrW cB cI cJ cZ h2 a2 N7)) hP hD [7, 8, 9, 10] [0, 1, 2, 3, 4, 5, 6] rfl rfl (by decide) (by decide) hk1 hFc hP1 hD1
    have hP := hP.sub (ws' := (poW cB cI cJ cZ h0 a0 (some h1) h1 a1 h2 a2 N3 M1 N7)) [0, 1, 2, 3, 4, 5, 6, 7, 8, 9, 10] rfl
    have hD := hD.sub (ws' := (poW cB cI cJ cZ h0 a0 (some h1) h1 a1 h2 a2 N3 M1 N7)) [0, 1, 2, 3, 4, 5, 6, 7, 8, 9, 10] (by decide) rfl
    generalize H1 = H at hP hS ⊢
    have h := hw
    try dsimp only at h
    refine lv_iadd hx hb dX5_total_32 ?_
    refine lv_topi (fun x8 ex8 => ?_)
    have h := h x8 ex8
    refine lv_istore (lv' := [(6, .int x8), (0, .ref h0), (1, .ref h1), (2, .ref h2), (3, .int p3), (4, .int p4), (5, .int p5)]) hx hb dX5_total_33 hl (by decide) rfl (fun ls hl => ?_)
    refine lv_aload_n hx hb dX5_total_35 rfl (lv_at hl 1 rfl) ?_
    refine lv_iload_n hx hb dX5_total_36 rfl (lv_at hl 4 rfl) ?_
    refine lv_aload_n hx hb dX5_total_37 rfl (lv_at hl 3 rfl) ?_
    refine va_get (D := (dC, dI)) (ci := 6) (v := .int (mg N7 2)) (C := RX6) (T := TX6) (N := 10) hx hb hts hinX6 hown hK hP 7 rfl rfl 2 (by decide) f5 (fun _ h9 => h9) rfl dX5_total_38 ?_
    refine lv_aload_n hx hb dX5_total_41 rfl (lv_at hl 3 rfl) ?_
    have hPc := hP.sub (ws' := (qrW cB cI cJ cZ h2 a2 N7)) [7, 8, 9, 10] rfl
    have hDc := hD.sub (ws' := (qrW cB cI cJ cZ h2 a2 N7)) [7, 8, 9, 10] (by decide) rfl
    have hFc := va_free (wc := (qrW cB cI cJ cZ h2 a2 N7)) hD hS hA [7, 8, 9, 10] rfl
    refine va_calli (va_runV (As := []) (rest := [.int (mg N7 2), .int p3, .ref h0]) ⟨hx, hb, hml, hown, hts⟩ (kX6_lasts l dC dI cB cI cJ cZ h2 a2 H.size  N7 _ h) (cwV 0 hts gX5_total_X6_lasts rfl rfl rfl (by decide +kernel) ⟨Nat.le_of_ble_eq_true rfl, Nat.le_of_ble_eq_true rfl⟩) (qrpV hK hPc hDc) rfl rfl hl.1 rfl (lv_room (Nat.le_of_ble_eq_true rfl)) dX5_total_42 ⟨Nat.le_of_ble_eq_true rfl, Nat.le_of_ble_eq_true rfl⟩) hS (fun q _ z => hFc q z) hFc (fun r9 u t H1 locs ht hvm hw hB hz1 hk1 hS => ?_)
    obtain ⟨N10, rfl⟩ : ∃ z, z = u := ⟨_, rfl⟩
    obtain ⟨hP1, hK1, hD1⟩ := hB
    rw [ht] at hP1
    obtain ⟨hP, hD⟩ := va_join (wr := [(h0, .inr (5, [.ref (a0 0), .ref (a0 1), va_rf (some h1), .int (mg N3 3)])), (a0 0, .inl (cI, 2048, .inl (ma N3 0))), (a0 1, .inl (cI, 2048, .inl (ma N3 1))), (h1, .inr (1, [.int (mg M1 0), .ref (a1 1), .int (mg M1 2), .ref (a1 3), .int (mg M1 4), .ref (a1 5)])), (a1 1, .inl (cI, 4, .inl (ma M1 1))), (a1 3, .inl (cI, 4, .inl (ma M1 3))), (a1 5, .inl (cI, 2, .inl (ma M1 5)))]) (w1 := (qrW cB cI cJ cZ h2 a2 N10)) hP hD [7, 8, 9, 10] [0, 1, 2, 3, 4, 5, 6] rfl rfl (by decide) (by decide) hk1 hFc hP1 hD1
    have hP := hP.sub (ws' := (poW cB cI cJ cZ h0 a0 (some h1) h1 a1 h2 a2 N3 M1 N10)) [0, 1, 2, 3, 4, 5, 6, 7, 8, 9, 10] rfl
    have hD := hD.sub (ws' := (poW cB cI cJ cZ h0 a0 (some h1) h1 a1 h2 a2 N3 M1 N10)) [0, 1, 2, 3, 4, 5, 6, 7, 8, 9, 10] (by decide) rfl
    generalize H1 = H at hP hS ⊢
    have h := hw
    try dsimp only at h
    refine lv_iload hx hb dX5_total_45 (lv_at hl 0 rfl) ?_
    refine lv_iload hx hb dX5_total_47 (lv_at hl 5 rfl) ?_
    refine lv_iload hx hb dX5_total_49 (lv_at hl 6 rfl) ?_
    refine lv_aload_n hx hb dX5_total_51 rfl (lv_at hl 3 rfl) ?_
    refine va_get (D := (dC, dI)) (ci := 6) (v := .int (mg N10 3)) (C := RX6) (T := TX6) (N := 10) hx hb hts hinX6 hown hK hP 7 rfl rfl 3 (by decide) f6 (fun _ h9 => h9) rfl dX5_total_52 ?_
    refine lv_icmp_ne (tgt := 62) hx hb dX5_total_55 (by decide) (fun c11 => ?_) (fun c11 => ?_)
    · have h := h.2 c11
      refine lv_iconst (v := 0) hx hb dX5_total_62 (by decide) ?_
      exact b63  p3 (mg N7 2) r9 x8 p4 (0 : Int32) N3 M1 N10 H locs ls hP hD hS (lv_sub hl [] rfl) h
    · have h := h.1 c11
      refine lv_iconst (v := 1) hx hb dX5_total_58 (by decide) ?_
      refine lv_goto (tgt := 63) hx hb dX5_total_59 (by decide) ?_
      exact b63  p3 (mg N7 2) r9 x8 p4 (1 : Int32) N3 M1 N10 H locs ls hP hD hS (lv_sub hl [] rfl) h
  have hl := lv_entry ([.ref h0, .ref h1, .ref h2, .int p3, .int p4, .int p5]) (n := 7) (Nat.le_of_ble_eq_true rfl)
  rw [lg_entry_eq]
  generalize (lg_sl ([.ref h0, .ref h1, .ref h2, .int p3, .int p4, .int p5]) ++ List.replicate (7 - (lg_sl ([.ref h0, .ref h1, .ref h2, .int p3, .int p4, .int p5])).length) Slot.unset).toArray = ls at hl ⊢
  have hl : lv_has ls 7 [(0, .ref h0), (1, .ref h1), (2, .ref h2), (3, .int p3), (4, .int p4), (5, .int p5)] := hl
  exact bE M0 M1 M2 s.heap [] ls hP hD hS hl h
