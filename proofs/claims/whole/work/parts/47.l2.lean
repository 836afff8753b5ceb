def wX11_turnHas (p1 : Int32) (p2 : Int32) (M0 : gS) (M1 : gS) (M2 : gS) (M3 : gS) (M4 : gS) (M5 : gS) (M6 : gS) (M7 : gS) (M8 : gS) (M9 : gS) (Q : Bool → gS → gS → gS → gS → gS → gS → gS → gS → gS → gS → Prop) : Prop :=
 (wX6_myPurse  M3 (fun (r1 : Int32) (N2 : gS) => (wX6_theirPurse  N2 (fun (r3 : Int32) (N4 : gS) => (wX6_lasts  N4 (fun (r5 : Int32) (N6 : gS) => (wX0_winners p1 p2 r5 (r1 + r3) M7 M2 (fun (r7 : Int64) (N8 : gS) (N9 : gS) => (wX0_holds r7 r1 r3  (fun (b11 : Bool)  => (Q b11 M0 M1 N9 N6 M4 M5 M6 N8 M8 M9)))))))))))
def rmX11_turnHas : Room := { frames := 4, cells := 0, slots := 0, locals := 102 }
set_option maxHeartbeats 4000000 in
set_option maxRecDepth 100000 in
theorem kX11_turnHas (l : Launch) (dC : Nat → ClassId) (dI : Nat → Nat → Nat) (cB cI cJ cZ : ClassId) (h0 : Nat) (a0 : Nat → Nat) (a1 : Nat → Nat) (a2 : Nat → Nat) (a3 : Nat → Nat) (a4 : Nat → Nat) (a5 : Nat → Nat) (a6 : Nat → Nat) (a7 : Nat → Nat) (o7 : Option Nat) (a8 : Nat → Nat) (o8 : Option Nat) (a9 : Nat → Nat) (sz : Nat) (p1 : Int32) (p2 : Int32) (M0 : gS) (M1 : gS) (M2 : gS) (M3 : gS) (M4 : gS) (M5 : gS) (M6 : gS) (M7 : gS) (M8 : gS) (M9 : gS) (Q : Bool → gS → gS → gS → gS → gS → gS → gS → gS → gS → gS → Prop) (h : wX11_turnHas p1 p2 M0 M1 M2 M3 M4 M5 M6 M7 M8 M9 Q) : Met l yX11_turnHas wsX11_turnHas rmX11_turnHas (va_Pc [.ref h0, .int p1, .int p2] (lwI dC dI cB cI cJ cZ h0 a0 a1 a2 a3 a4 a5 a6 a7 o7 a8 o8 a9 M0 M1 M2 M3 M4 M5 M6 M7 M8 M9 sz)) (va_Qi (fun (r : Int32) (u : gS × gS × gS × gS × gS × gS × gS × gS × gS × gS) => ∃ b : Bool, r = bI b ∧ Q b u.1 u.2.1 u.2.2.1 u.2.2.2.1 u.2.2.2.2.1 u.2.2.2.2.2.1 u.2.2.2.2.2.2.1 u.2.2.2.2.2.2.2.1 u.2.2.2.2.2.2.2.2.1 u.2.2.2.2.2.2.2.2.2) (lwB dC dI cB cI cJ cZ h0 a0 a1 a2 a3 a4 a5 a6 a7 a8 a9 (va_A (lwW cB cI cJ cZ h0 a0 a1 a2 a3 a4 a5 a6 a7 o7 a8 o8 a9 M0 M1 M2 M3 M4 M5 M6 M7 M8 M9) sz)) (va_A (lwW cB cI cJ cZ h0 a0 a1 a2 a3 a4 a5 a6 a7 o7 a8 o8 a9 M0 M1 M2 M3 M4 M5 M6 M7 M8 M9) sz)) 0 0 (va_A (lwW cB cI cJ cZ h0 a0 a1 a2 a3 a4 a5 a6 a7 o7 a8 o8 a9 M0 M1 M2 M3 M4 M5 M6 M7 M8 M9) sz) := by
  refine Met.ofW (cc := cX11_turnHas) (maxL := 8) (ret := (some .boolean)) (by decide) rfl ?_
  intro p e s m args below meth c s₁ B hml hv
  obtain ⟨rfl, hsz, hP, hK, hD0⟩ := hv
  have hx := B.exec
  have hb := B.bytes
  have hr := B.returns
  have hts := atoms_spec (ws := wsX11_turnHas) B.pre
  have hown : s.vm.findClass RX11 = some m.cls := findClass_of_methodNamed B.named
  have hlocks := B.notSynchronized
  subst hsz
  have hD := hD0.self (sz := s.heap.size)
  generalize hAe : va_A (lwW cB cI cJ cZ h0 a0 a1 a2 a3 a4 a5 a6 a7 o7 a8 o8 a9 M0 M1 M2 M3 M4 M5 M6 M7 M8 M9) s.heap.size = A at hD ⊢
  have hA : ∀ q : Nat, s.heap.size ≤ q → A q := fun q h => by rw [← hAe]; exact Or.inr h
  have hS : va_S A s.heap s.heap [] := va_S.rf
  have hinX10 : ∀ w ∈ wsX100, w ∈ wsX11_turnHas := by decide +kernel
  have hinX11 : ∀ w ∈ wsX110, w ∈ wsX11_turnHas := by decide +kernel
  have f1 := hts (.fieldLink RX11 22 "LastWords" "now" "LLastWords$State;") (by decide +kernel)
  have f2 := hts (.fieldLink RX11 118 "LastWords$State" "quarrel" "LLastWords$Quarrel;") (by decide +kernel)
  have f3 := hts (.fieldLink RX11 47 "LastWords" "bestPlay" "LLastWords$BestPlay;") (by decide +kernel)
  have f4 := hts (.fieldLink RX11 108 "LastWords$State" "corner" "LLastWords$Corner;") (by decide +kernel)
  have bE : ∀ (M0 : gS) (M1 : gS) (M2 : gS) (M3 : gS) (M4 : gS) (M5 : gS) (M6 : gS) (M7 : gS) (M8 : gS) (M9 : gS) (H : Heap) (locs : List Loc) (ls : Array Slot), va_P (dC, dI) vwCl (lwW cB cI cJ cZ h0 a0 a1 a2 a3 a4 a5 a6 a7 o7 a8 o8 a9 M0 M1 M2 M3 M4 M5 M6 M7 M8 M9) H → va_D A (lwW cB cI cJ cZ h0 a0 a1 a2 a3 a4 a5 a6 a7 o7 a8 o8 a9 M0 M1 M2 M3 M4 M5 M6 M7 M8 M9) → va_S A s.heap H locs → lv_has ls 8 [(0, .ref h0), (1, .int p1), (2, .int p2)] → wX11_turnHas p1 p2 M0 M1 M2 M3 M4 M5 M6 M7 M8 M9 Q → W p l e (headSpec wsX11_turnHas rmX11_turnHas).room s m ([.ref h0, .int p1, .int p2] : List Value).toArray below meth c H locs 0 0 (MQ below (va_Qi (fun (r : Int32) (u : gS × gS × gS × gS × gS × gS × gS × gS × gS × gS) => ∃ b : Bool, r = bI b ∧ Q b u.1 u.2.1 u.2.2.1 u.2.2.2.1 u.2.2.2.2.1 u.2.2.2.2.2.1 u.2.2.2.2.2.2.1 u.2.2.2.2.2.2.2.1 u.2.2.2.2.2.2.2.2.1 u.2.2.2.2.2.2.2.2.2) (lwB dC dI cB cI cJ cZ h0 a0 a1 a2 a3 a4 a5 a6 a7 a8 a9 A) A) ([.ref h0, .int p1, .int p2] : List Value).toArray s 0 0 A) (F0 m 0 ls []) := by
    intro M0 M1 M2 M3 M4 M5 M6 M7 M8 M9 H locs ls hP hD hS hl h
    unfold wX11_turnHas at h
    refine lv_aload_n hx hb dX11_turnHas_0 rfl (lv_at hl 0 rfl) ?_
    refine va_get (D := (dC, dI)) (ci := 11) (v := .ref (a0 4)) (C := RX11) (T := TX11) (N := 12) hx hb hts hinX11 hown hK hP 0 rfl rfl 4 (by decide) f1 (fun _ h9 => h9) rfl dX11_turnHas_1 ?_
    refine va_get (D := (dC, dI)) (ci := 10) (v := .ref (a1 1)) (C := RX10) (T := TX10) (N := 5) hx hb hts hinX10 hown hK hP 3 rfl rfl 1 (by decide) f2 (fun _ h9 => h9) rfl dX11_turnHas_4 ?_
    refine lv_astore_n (lv' := [(3, .ref (a1 1)), (0, .ref h0), (1, .int p1), (2, .int p2)]) hx hb dX11_turnHas_7 rfl hl (by decide) rfl (fun ls hl => ?_)
    refine lv_aload_n hx hb dX11_turnHas_8 rfl (lv_at hl 0 rfl) ?_
    have hPc := hP.sub (ws' := (qrW cB cI cJ cZ (a1 1) a3 M3)) [9, 10, 11, 12] rfl
    have hDc := hD.sub (ws' := (qrW cB cI cJ cZ (a1 1) a3 M3)) [9, 10, 11, 12] (by decide) rfl
    have hFc := va_free (wc := (qrW cB cI cJ cZ (a1 1) a3 M3)) hD hS hA [9, 10, 11, 12] rfl
    refine va_calli (va_runV (As := []) (rest := []) ⟨hx, hb, hml, hown, hts⟩ (kX6_myPurse l dC dI cB cI cJ cZ (a1 1) a3 H.size  M3 _ h) (cwV 0 hts gX11_turnHas_X6_myPurse rfl rfl rfl (by decide +kernel) ⟨Nat.le_of_ble_eq_true rfl, Nat.le_of_ble_eq_true rfl⟩) (qrpV hK hPc hDc) rfl rfl hl.1 rfl (lv_room (Nat.le_of_ble_eq_true rfl)) dX11_turnHas_9 ⟨Nat.le_of_ble_eq_true rfl, Nat.le_of_ble_eq_true rfl⟩) hS (fun q _ z => hFc q z) hFc (fun r1 u t H1 locs ht hvm hw hB hz1 hk1 hS => ?_)
    obtain ⟨N2, rfl⟩ : ∃ z, z = u := ⟨_, rfl⟩
    obtain ⟨hP1, hK1, hD1⟩ := hB
    rw [ht] at hP1
    obtain ⟨hP, hD⟩ := va_join (wr := [(h0, .inr (11, [.ref (a0 0), .int (mg M0 1), .ref (a0 2), .int (mg M0 3), .ref (a0 4), .ref (a0 5), .ref (a0 6), .ref (a0 7), .ref (a0 8), .ref (a0 9), .ref (a0 10), .ref (a0 11)])), (a0 0, .inl (cI, 400, .inl (ma M0 0))), (a0 11, .inl (cJ, 4, .inr (.inl (ml M0 11)))), (a0 4, .inr (10, [.ref (a1 0), .ref (a1 1), .ref (a1 2), .ref (a1 3), .int (mg M1 4)])), (a1 3, .inl (cI, 2, .inl (ma M1 3))), (a1 0, .inr (1, [.int (mg M2 0), .ref (a2 1), .int (mg M2 2), .ref (a2 3), .int (mg M2 4), .ref (a2 5)])), (a2 1, .inl (cI, 4, .inl (ma M2 1))), (a2 3, .inl (cI, 4, .inl (ma M2 3))), (a2 5, .inl (cI, 2, .inl (ma M2 5))), (a1 2, .inr (4, [.int (mg M4 0), .ref (a4 1), .ref (a4 2), .ref (a4 3)])), (a4 1, .inl (cI, 6, .inl (ma M4 1))), (a4 2, .inl (cI, 6, .inl (ma M4 2))), (a4 3, .inl (cI, 6, .inl (ma M4 3))), (a0 6, .inr (1, [.int (mg M5 0), .ref (a5 1), .int (mg M5 2), .ref (a5 3), .int (mg M5 4), .ref (a5 5)])), (a5 1, .inl (cI, 4, .inl (ma M5 1))), (a5 3, .inl (cI, 4, .inl (ma M5 3))), (a5 5, .inl (cI, 2, .inl (ma M5 5))), (a0 7, .inr (6, [.int (mg M6 0), .int (mg M6 1), .int (mg M6 2), .int (mg M6 3), .int (mg M6 4), .int (mg M6 5), .int (mg M6 6), .ref (a6 7), .ref (a6 8), .ref (a6 9)])), (a6 7, .inl (cI, 2, .inl (ma M6 7))), (a6 8, .inl (cI, 2, .inl (ma M6 8))), (a6 9, .inl (cI, 2, .inl (ma M6 9))), (a0 8, .inr (0, [.ref (a7 0), .ref (a7 1), .ref (a7 2), .ref (a7 3), .int (mg M7 4), va_rf o7, .int (mg M7 6), .int (mg M7 7), .int (mg M7 8), .int (mg M7 9), .int (mg M7 10)])), (a7 0, .inl (cJ, 15, .inr (.inl (ml M7 0)))), (a7 1, .inl (cJ, 800, .inr (.inl (ml M7 1)))), (a7 2, .inl (cI, 4, .inl (ma M7 2))), (a7 3, .inl (cJ, 4, .inr (.inl (ml M7 3)))), (a0 9, .inr (5, [.ref (a8 0), .ref (a8 1), va_rf o8, .int (mg M8 3)])), (a8 0, .inl (cI, 2048, .inl (ma M8 0))), (a8 1, .inl (cI, 2048, .inl (ma M8 1))), (a0 10, .inr (3, [.int (mg M9 0), .int (mg M9 1), .int (mg M9 2), .int (mg M9 3), .int (mg M9 4)]))]) (w1 := (qrW cB cI cJ cZ (a1 1) a3 N2)) hP hD [9, 10, 11, 12] [0, 1, 2, 3, 4, 5, 6, 7, 8, 13, 14, 15, 16, 17, 18, 19, 20, 21, 22, 23, 24, 25, 26, 27, 28, 29, 30, 31, 32, 33] rfl rfl (by decide) (by decide) hk1 hFc hP1 hD1
    have hP := hP.sub (ws' := (lwW cB cI cJ cZ h0 a0 a1 a2 a3 a4 a5 a6 a7 o7 a8 o8 a9 M0 M1 M2 N2 M4 M5 M6 M7 M8 M9)) [0, 1, 2, 3, 4, 5, 6, 7, 8, 30, 31, 32, 33, 9, 10, 11, 12, 13, 14, 15, 16, 17, 18, 19, 20, 21, 22, 23, 24, 25, 26, 27, 28, 29] rfl
    have hD := hD.sub (ws' := (lwW cB cI cJ cZ h0 a0 a1 a2 a3 a4 a5 a6 a7 o7 a8 o8 a9 M0 M1 M2 N2 M4 M5 M6 M7 M8 M9)) [0, 1, 2, 3, 4, 5, 6, 7, 8, 30, 31, 32, 33, 9, 10, 11, 12, 13, 14, 15, 16, 17, 18, 19, 20, 21, 22, 23, 24, 25, 26, 27, 28, 29] (by decide) rfl
    generalize H1 = H at hP hS ⊢
    have h := hw
    try dsimp only at h
    refine lv_istore (lv' := [(4, .int r1), (3, .ref (a1 1)), (0, .ref h0), (1, .int p1), (2, .int p2)]) hx hb dX11_turnHas_12 hl (by decide) rfl (fun ls hl => ?_)
    refine lv_aload_n hx hb dX11_turnHas_14 rfl (lv_at hl 1 rfl) ?_
    have hPc := hP.sub (ws' := (qrW cB cI cJ cZ (a1 1) a3 N2)) [9, 10, 11, 12] rfl
    have hDc := hD.sub (ws' := (qrW cB cI cJ cZ (a1 1) a3 N2)) [9, 10, 11, 12] (by decide) rfl
    have hFc := va_free (wc := (qrW cB cI cJ cZ (a1 1) a3 N2)) hD hS hA [9, 10, 11, 12] rfl
    refine va_calli (va_runV (As := []) (rest := []) ⟨hx, hb, hml, hown, hts⟩ (kX6_theirPurse l dC dI cB cI cJ cZ (a1 1) a3 H.size  N2 _ h) (cwV 0 hts gX11_turnHas_X6_theirPurse rfl rfl rfl (by decide +kernel) ⟨Nat.le_of_ble_eq_true rfl, Nat.le_of_ble_eq_true rfl⟩) (qrpV hK hPc hDc) rfl rfl hl.1 rfl (lv_room (Nat.le_of_ble_eq_true rfl)) dX11_turnHas_15 ⟨Nat.le_of_ble_eq_true rfl, Nat.le_of_ble_eq_true rfl⟩) hS (fun q _ z => hFc q z) hFc (fun r3 u t H1 locs ht hvm hw hB hz1 hk1 hS => ?_)
    obtain ⟨N4, rfl⟩ : ∃ z, z = u := ⟨_, rfl⟩
    obtain ⟨hP1, hK1, hD1⟩ := hB
    rw [ht] at hP1
    obtain ⟨hP, hD⟩ := va_join (wr := [(h0, .inr (11, [.ref (a0 0), .int (mg M0 1), .ref (a0 2), .int (mg M0 3), .ref (a0 4), .ref (a0 5), .ref (a0 6), .ref (a0 7), .ref (a0 8), .ref (a0 9), .ref (a0 10), .ref (a0 11)])), (a0 0, .inl (cI, 400, .inl (ma M0 0))), (a0 11, .inl (cJ, 4, .inr (.inl (ml M0 11)))), (a0 4, .inr (10, [.ref (a1 0), .ref (a1 1), .ref (a1 2), .ref (a1 3), .int (mg M1 4)])), (a1 3, .inl (cI, 2, .inl (ma M1 3))), (a1 0, .inr (1, [.int (mg M2 0), .ref (a2 1), .int (mg M2 2), .ref (a2 3), .int (mg M2 4), .ref (a2 5)])), (a2 1, .inl (cI, 4, .inl (ma M2 1))), (a2 3, .inl (cI, 4, .inl (ma M2 3))), (a2 5, .inl (cI, 2, .inl (ma M2 5))), (a1 2, .inr (4, [.int (mg M4 0), .ref (a4 1), .ref (a4 2), .ref (a4 3)])), (a4 1, .inl (cI, 6, .inl (ma M4 1))), (a4 2, .inl (cI, 6, .inl (ma M4 2))), (a4 3, .inl (cI, 6, .inl (ma M4 3))), (a0 6, .inr (1, [.int (mg M5 0), .ref (a5 1), .int (mg M5 2), .ref (a5 3), .int (mg M5 4), .ref (a5 5)])), (a5 1, .inl (cI, 4, .inl (ma M5 1))), (a5 3, .inl (cI, 4, .inl (ma M5 3))), (a5 5, .inl (cI, 2, .inl (ma M5 5))), (a0 7, .inr (6, [.int (mg M6 0), .int (mg M6 1), .int (mg M6 2), .int (mg M6 3), .int (mg M6 4), .int (mg M6 5), .int (mg M6 6), .ref (a6 7), .ref (a6 8), .ref (a6 9)])), (a6 7, .inl (cI, 2, .inl (ma M6 7))), (a6 8, .inl (cI, 2, .inl (ma M6 8))), (a6 9, .inl (cI, 2, .inl (ma M6 9))), (a0 8, .inr (0, [.ref (a7 0), .ref (a7 1), .ref (a7 2), .ref (a7 3), .int (mg M7 4), va_rf o7, .int (mg M7 6), .int (mg M7 7), .int (mg M7 8), .int (mg M7 9), .int (mg M7 10)])), (a7 0, .inl (cJ, 15, .inr (.inl (ml M7 0)))), (a7 1, .inl (cJ, 800, .inr (.inl (ml M7 1)))), (a7 2, .inl (cI, 4, .inl (ma M7 2))), (a7 3, .inl (cJ, 4, .inr (.inl (ml M7 3)))), (a0 9, .inr (5, [.ref (a8 0), .ref (a8 1), va_rf o8, .int (mg M8 3)])), (a8 0, .inl (cI, 2048, .inl (ma M8 0))), (a8 1, .inl (cI, 2048, .inl (ma M8 1))), (a0 10, .inr (3, [.int (mg M9 0), .int (mg M9 1), .int (mg M9 2), .int (mg M9 3), .int (mg M9 4)]))]) (w1 := (qrW cB cI cJ cZ (a1 1) a3 N4)) hP hD [9, 10, 11, 12] [0, 1, 2, 3, 4, 5, 6, 7, 8, 13, 14, 15, 16, 17, 18, 19, 20, 21, 22, 23, 24, 25, 26, 27, 28, 29, 30, 31, 32, 33] rfl rfl (by decide) (by decide) hk1 hFc hP1 hD1
    have hP := hP.sub (ws' := (lwW cB cI cJ cZ h0 a0 a1 a2 a3 a4 a5 a6 a7 o7 a8 o8 a9 M0 M1 M2 N4 M4 M5 M6 M7 M8 M9)) [0, 1, 2, 3, 4, 5, 6, 7, 8, 30, 31, 32, 33, 9, 10, 11, 12, 13, 14, 15, 16, 17, 18, 19, 20, 21, 22, 23, 24, 25, 26, 27, 28, 29] rfl
    have hD := hD.sub (ws' := (lwW cB cI cJ cZ h0 a0 a1 a2 a3 a4 a5 a6 a7 o7 a8 o8 a9 M0 M1 M2 N4 M4 M5 M6 M7 M8 M9)) [0, 1, 2, 3, 4, 5, 6, 7, 8, 30, 31, 32, 33, 9, 10, 11, 12, 13, 14, 15, 16, 17, 18, 19, 20, 21, 22, 23, 24, 25, 26, 27, 28, 29] (by decide) rfl
    generalize H1 = H at hP hS ⊢
    have h := hw
    try dsimp only at h
    refine lv_istore (lv' := [(5, .int r3), (4, .int r1), (3, .ref (a1 1)), (0, .ref h0), (1, .int p1), (2, .int p2)]) hx hb dX11_turnHas_18 hl (by decide) rfl (fun ls hl => ?_)
    refine lv_aload_n hx hb dX11_turnHas_20 rfl (lv_at hl 3 rfl) ?_
    refine va_get (D := (dC, dI)) (ci := 11) (v := .ref (a0 8)) (C := RX11) (T := TX11) (N := 12) hx hb hts hinX11 hown hK hP 0 rfl rfl 8 (by decide) f3 (fun _ h9 => h9) rfl dX11_turnHas_21 ?_
    refine lv_aload_n hx hb dX11_turnHas_24 rfl (lv_at hl 3 rfl) ?_
    refine va_get (D := (dC, dI)) (ci := 11) (v := .ref (a0 4)) (C := RX11) (T := TX11) (N := 12) hx hb hts hinX11 hown hK hP 0 rfl rfl 4 (by decide) f1 (fun _ h9 => h9) rfl dX11_turnHas_25 ?_
    refine va_get (D := (dC, dI)) (ci := 10) (v := .ref (a1 0)) (C := RX10) (T := TX10) (N := 5) hx hb hts hinX10 hown hK hP 3 rfl rfl 0 (by decide) f4 (fun _ h9 => h9) rfl dX11_turnHas_28 ?_
    refine lv_iload_n hx hb dX11_turnHas_31 rfl (lv_at hl 4 rfl) ?_
    refine lv_iload_n hx hb dX11_turnHas_32 rfl (lv_at hl 5 rfl) ?_
    refine lv_aload_n hx hb dX11_turnHas_33 rfl (lv_at hl 2 rfl) ?_
    have hPc := hP.sub (ws' := (qrW cB cI cJ cZ (a1 1) a3 N4)) [9, 10, 11, 12] rfl
    have hDc := hD.sub (ws' := (qrW cB cI cJ cZ (a1 1) a3 N4)) [9, 10, 11, 12] (by decide) rfl
    have hFc := va_free (wc := (qrW cB cI cJ cZ (a1 1) a3 N4)) hD hS hA [9, 10, 11, 12] rfl
    refine va_calli (va_runV (As := []) (rest := [.int p2, .int p1, .ref (a1 0), .ref (a0 8)]) ⟨hx, hb, hml, hown, hts⟩ (kX6_lasts l dC dI cB cI cJ cZ (a1 1) a3 H.size  N4 _ h) (cwV 0 hts gX11_turnHas_X6_lasts rfl rfl rfl (by decide +kernel) ⟨Nat.le_of_ble_eq_true rfl, Nat.le_of_ble_eq_true rfl⟩) (qrpV hK hPc hDc) rfl rfl hl.1 rfl (lv_room (Nat.le_of_ble_eq_true rfl)) dX11_turnHas_34 ⟨Nat.le_of_ble_eq_true rfl, Nat.le_of_ble_eq_true rfl⟩) hS (fun q _ z => hFc q z) hFc (fun r5 u t H1 locs ht hvm hw hB hz1 hk1 hS => ?_)
    obtain ⟨N6, rfl⟩ : ∃ z, z = u := ⟨_, rfl⟩
    obtain ⟨hP1, hK1, hD1⟩ := hB
    rw [ht] at hP1
    obtain ⟨hP, hD⟩ := va_join (wr := [(h0, .inr (11, [.ref (a0 0), .int (mg M0 1), .ref (a0 2), .int (mg M0 3), .ref (a0 4), .ref (a0 5), .ref (a0 6), .ref (a0 7), .ref (a0 8), .ref (a0 9), .ref (a0 10), .ref (a0 11)])), (a0 0, .inl (cI, 400, .inl (ma M0 0))), (a0 11, .inl (cJ, 4, .inr (.inl (ml M0 11)))), (a0 4, .inr (10, [.ref (a1 0), .ref (a1 1), .ref (a1 2), .ref (a1 3), .int (mg M1 4)])), (a1 3, .inl (cI, 2, .inl (ma M1 3))), (a1 0, .inr (1, [.int (mg M2 0), .ref (a2 1), .int (mg M2 2), .ref (a2 3), .int (mg M2 4), .ref (a2 5)])), (a2 1, .inl (cI, 4, .inl (ma M2 1))), (a2 3, .inl (cI, 4, .inl (ma M2 3))), (a2 5, .inl (cI, 2, .inl (ma M2 5))), (a1 2, .inr (4, [.int (mg M4 0), .ref (a4 1), .ref (a4 2), .ref (a4 3)])), (a4 1, .inl (cI, 6, .inl (ma M4 1))), (a4 2, .inl (cI, 6, .inl (ma M4 2))), (a4 3, .inl (cI, 6, .inl (ma M4 3))), (a0 6, .inr (1, [.int (mg M5 0), .ref (a5 1), .int (mg M5 2), .ref (a5 3), .int (mg M5 4), .ref (a5 5)])), (a5 1, .inl (cI, 4, .inl (ma M5 1))), (a5 3, .inl (cI, 4, .inl (ma M5 3))), (a5 5, .inl (cI, 2, .inl (ma M5 5))), (a0 7, .inr (6, [.int (mg M6 0), .int (mg M6 1), .int (mg M6 2), .int (mg M6 3), .int (mg M6 4), .int (mg M6 5), .int (mg M6 6), .ref (a6 7), .ref (a6 8), .ref (a6 9)])), (a6 7, .inl (cI, 2, .inl (ma M6 7))), (a6 8, .inl (cI, 2, .inl (ma M6 8))), (a6 9, .inl (cI, 2, .inl (ma M6 9))), (a0 8, .inr (0, [.ref (a7 0), .ref (a7 1), .ref (a7 2), .ref (a7 3), .int (mg M7 4), va_rf o7, .int (mg M7 6), .int (mg M7 7), .int (mg M7 8), .int (mg M7 9), .int (mg M7 10)])), (a7 0, .inl (cJ, 15, .inr (.inl (ml M7 0)))), (a7 1, .inl (cJ, 800, .inr (.inl (ml M7 1)))), (a7 2, .inl (cI, 4, .inl (ma M7 2))), (a7 3, .inl (cJ, 4, .inr (.inl (ml M7 3)))), (a0 9, .inr (5, [.ref (a8 0), .ref (a8 1), va_rf o8, .int (mg M8 3)])), (a8 0, .inl (cI, 2048, .inl (ma M8 0))), (a8 1, .inl (cI, 2048, .inl (ma M8 1))), (a0 10, .inr (3, [.int (mg M9 0), .int (mg M9 1), .int (mg M9 2), .int (mg M9 3), .int (mg M9 4)]))]) (w1 := (qrW cB cI cJ cZ (a1 1) a3 N6)) hP hD [9, 10, 11, 12] [0, 1, 2, 3, 4, 5, 6, 7, 8, 13, 14, 15, 16, 17, 18, 19, 20, 21, 22, 23, 24, 25, 26, 27, 28, 29, 30, 31, 32, 33] rfl rfl (by decide) (by decide) hk1 hFc hP1 hD1
    have hP := hP.sub (ws' := (lwW cB cI cJ cZ h0 a0 a1 a2 a3 a4 a5 a6 a7 o7 a8 o8 a9 M0 M1 M2 N6 M4 M5 M6 M7 M8 M9)) [0, 1, 2, 3, 4, 5, 6, 7, 8, 30, 31, 32, 33, 9, 10, 11, 12, 13, 14, 15, 16, 17, 18, 19, 20, 21, 22, 23, 24, 25, 26, 27, 28, 29] rfl
    have hD := hD.sub (ws' := (lwW cB cI cJ cZ h0 a0 a1 a2 a3 a4 a5 a6 a7 o7 a8 o8 a9 M0 M1 M2 N6 M4 M5 M6 M7 M8 M9)) [0, 1, 2, 3, 4, 5, 6, 7, 8, 30, 31, 32, 33, 9, 10, 11, 12, 13, 14, 15, 16, 17, 18, 19, 20, 21, 22, 23, 24, 25, 26, 27, 28, 29] (by decide) rfl
    generalize H1 = H at hP hS ⊢
    have h := hw
    try dsimp only at h
    refine lv_iload hx hb dX11_turnHas_37 (lv_at hl 1 rfl) ?_
    refine lv_iload hx hb dX11_turnHas_39 (lv_at hl 0 rfl) ?_
    refine lv_iadd hx hb dX11_turnHas_41 ?_
    have hPc := hP.sub (ws' := (boW cB cI cJ cZ (a0 8) a7 o7 (a1 0) a2 M7 M2)) [25, 26, 27, 28, 29, 5, 6, 7, 8] rfl
    have hDc := hD.sub (ws' := (boW cB cI cJ cZ (a0 8) a7 o7 (a1 0) a2 M7 M2)) [25, 26, 27, 28, 29, 5, 6, 7, 8] (by decide) rfl
    have hFc := va_free (wc := (boW cB cI cJ cZ (a0 8) a7 o7 (a1 0) a2 M7 M2)) hD hS hA [25, 26, 27, 28, 29, 5, 6, 7, 8] rfl
    refine va_calll (va_runV (As := [.ref (a1 0), .int p1, .int p2, .int r5, .int (r1 + r3)]) (rest := []) ⟨hx, hb, hml, hown, hts⟩ (kX0_winners l dC dI cB cI cJ cZ (a0 8) a7 o7 (a1 0) a2 H.size p1 p2 r5 (r1 + r3) M7 M2 _ h) (cwV 5 hts gX11_turnHas_X0_winners rfl rfl rfl (by decide +kernel) ⟨Nat.le_of_ble_eq_true rfl, Nat.le_of_ble_eq_true rfl⟩) (bopV hK hPc hDc) rfl rfl hl.1 rfl (lv_room (Nat.le_of_ble_eq_true rfl)) dX11_turnHas_42 ⟨Nat.le_of_ble_eq_true rfl, Nat.le_of_ble_eq_true rfl⟩) hS (fun q _ z => hFc q z) hFc (fun r7 u t H1 locs ht hvm hw hB hz1 hk1 hS => ?_)
    obtain ⟨N8, N9⟩ := u
    obtain ⟨hP1, hK1, hD1⟩ := hB
    rw [ht] at hP1
    obtain ⟨hP, hD⟩ := va_join (wr := [(h0, .inr (11, [.ref (a0 0), .int (mg M0 1), .ref (a0 2), .int (mg M0 3), .ref (a0 4), .ref (a0 5), .ref (a0 6), .ref (a0 7), .ref (a0 8), .ref (a0 9), .ref (a0 10), .ref (a0 11)])), (a0 0, .inl (cI, 400, .inl (ma M0 0))), (a0 11, .inl (cJ, 4, .inr (.inl (ml M0 11)))), (a0 4, .inr (10, [.ref (a1 0), .ref (a1 1), .ref (a1 2), .ref (a1 3), .int (mg M1 4)])), (a1 3, .inl (cI, 2, .inl (ma M1 3))), (a1 1, .inr (6, [.int (mg N6 0), .int (mg N6 1), .int (mg N6 2), .int (mg N6 3), .int (mg N6 4), .int (mg N6 5), .int (mg N6 6), .ref (a3 7), .ref (a3 8), .ref (a3 9)])), (a3 7, .inl (cI, 2, .inl (ma N6 7))), (a3 8, .inl (cI, 2, .inl (ma N6 8))), (a3 9, .inl (cI, 2, .inl (ma N6 9))), (a1 2, .inr (4, [.int (mg M4 0), .ref (a4 1), .ref (a4 2), .ref (a4 3)])), (a4 1, .inl (cI, 6, .inl (ma M4 1))), (a4 2, .inl (cI, 6, .inl (ma M4 2))), (a4 3, .inl (cI, 6, .inl (ma M4 3))), (a0 6, .inr (1, [.int (mg M5 0), .ref (a5 1), .int (mg M5 2), .ref (a5 3), .int (mg M5 4), .ref (a5 5)])), (a5 1, .inl (cI, 4, .inl (ma M5 1))), (a5 3, .inl (cI, 4, .inl (ma M5 3))), (a5 5, .inl (cI, 2, .inl (ma M5 5))), (a0 7, .inr (6, [.int (mg M6 0), .int (mg M6 1), .int (mg M6 2), .int (mg M6 3), .int (mg M6 4), .int (mg M6 5), .int (mg M6 6), .ref (a6 7), .ref (a6 8), .ref (a6 9)])), (a6 7, .inl (cI, 2, .inl (ma M6 7))), (a6 8, .inl (cI, 2, .inl (ma M6 8))), (a6 9, .inl (cI, 2, .inl (ma M6 9))), (a0 9, .inr (5, [.ref (a8 0), .ref (a8 1), va_rf o8, .int (mg M8 3)])), (a8 0, .inl (cI, 2048, .inl (ma M8 0))), (a8 1, .inl (cI, 2048, .inl (ma M8 1))), (a0 10, .inr (3, [.int (mg M9 0), .int (mg M9 1), .int (mg M9 2), .int (mg M9 3), .int (mg M9 4)]))]) (w1 := (boW cB cI cJ cZ (a0 8) a7 (some (a1 0)) (a1 0) a2 N8 N9)) hP hD [25, 26, 27, 28, 29, 5, 6, 7, 8] [0, 1, 2, 3, 4, 9, 10, 11, 12, 13, 14, 15, 16, 17, 18, 19, 20, 21, 22, 23, 24, 30, 31, 32, 33] rfl rfl (by decide) (by decide) hk1 hFc hP1 hD1
    have hP := hP.sub (ws' := (lwW cB cI cJ cZ h0 a0 a1 a2 a3 a4 a5 a6 a7 (some (a1 0)) a8 o8 a9 M0 M1 N9 N6 M4 M5 M6 N8 M8 M9)) [0, 1, 2, 3, 4, 30, 31, 32, 33, 5, 6, 7, 8, 9, 10, 11, 12, 13, 14, 15, 16, 17, 18, 19, 20, 25, 26, 27, 28, 29, 21, 22, 23, 24] rfl
    have hD := hD.sub (ws' := (lwW cB cI cJ cZ h0 a0 a1 a2 a3 a4 a5 a6 a7 (some (a1 0)) a8 o8 a9 M0 M1 N9 N6 M4 M5 M6 N8 M8 M9)) [0, 1, 2, 3, 4, 30, 31, 32, 33, 5, 6, 7, 8, 9, 10, 11, 12, 13, 14, 15, 16, 17, 18, 19, 20, 25, 26, 27, 28, 29, 21, 22, 23, 24] (by decide) rfl
    generalize H1 = H at hP hS ⊢
    have h := hw
    try dsimp only at h
    refine lv_lstore (lv' := [(6, .long r7), (5, .int r3), (4, .int r1), (3, .ref (a1 1)), (0, .ref h0), (1, .int p1), (2, .int p2)]) hx hb dX11_turnHas_45 hl (by decide) rfl (fun ls hl => ?_)
    refine lv_lload hx hb dX11_turnHas_47 (lv_at hl 0 rfl) ?_
    refine lv_iload hx hb dX11_turnHas_49 (lv_at hl 2 rfl) ?_
    refine lv_iload hx hb dX11_turnHas_51 (lv_at hl 1 rfl) ?_
    have hPc := hP.sub (ws' := (e0W cB cI cJ cZ  )) [] rfl
    have hDc := hD.sub (ws' := (e0W cB cI cJ cZ  )) [] (by decide) rfl
    have hFc := va_free (wc := (e0W cB cI cJ cZ  )) hD hS hA [] rfl
    refine va_calli (va_runS (As := [.long r7, .int r1, .int r3]) (rest := []) ⟨hx, hb, hml, hown, hts⟩ (kX0_holds l dC dI cB cI cJ cZ  H.size r7 r1 r3  _ h) (va_cwS 3 hts gX11_turnHas_X0_holds rfl rfl rfl (by decide +kernel) ⟨Nat.le_of_ble_eq_true rfl, Nat.le_of_ble_eq_true rfl⟩) (e0pS hK hPc hDc) rfl rfl hl.1 rfl (lv_room (Nat.le_of_ble_eq_true rfl)) dX11_turnHas_53 ⟨Nat.le_of_ble_eq_true rfl, Nat.le_of_ble_eq_true rfl⟩) hS (fun q _ z => hFc q z) hFc (fun r10 u t H1 locs ht hvm hw hB hz1 hk1 hS => ?_)
    obtain ⟨hP1, hK1, hD1⟩ := hB
    rw [ht] at hP1
    obtain ⟨hP, hD⟩ := va_join (wr := [(h0, .inr (11, [.ref (a0 0), .int (mg M0 1), .ref (a0 2), .int (mg M0 3), .ref (a0 4), .ref (a0 5), .ref (a0 6), .ref (a0 7), .ref (a0 8), .ref (a0 9), .ref (a0 10), .ref (a0 11)])), (a0 0, .inl (cI, 400, .inl (ma M0 0))), (a0 11, .inl (cJ, 4, .inr (.inl (ml M0 11)))), (a0 4, .inr (10, [.ref (a1 0), .ref (a1 1), .ref (a1 2), .ref (a1 3), .int (mg M1 4)])), (a1 3, .inl (cI, 2, .inl (ma M1 3))), (a1 0, .inr (1, [.int (mg N9 0), .ref (a2 1), .int (mg N9 2), .ref (a2 3), .int (mg N9 4), .ref (a2 5)])), (a2 1, .inl (cI, 4, .inl (ma N9 1))), (a2 3, .inl (cI, 4, .inl (ma N9 3))), (a2 5, .inl (cI, 2, .inl (ma N9 5))), (a1 1, .inr (6, [.int (mg N6 0), .int (mg N6 1), .int (mg N6 2), .int (mg N6 3), .int (mg N6 4), .int (mg N6 5), .int (mg N6 6), .ref (a3 7), .ref (a3 8), .ref (a3 9)])), (a3 7, .inl (cI, 2, .inl (ma N6 7))), (a3 8, .inl (cI, 2, .inl (ma N6 8))), (a3 9, .inl (cI, 2, .inl (ma N6 9))), (a1 2, .inr (4, [.int (mg M4 0), .ref (a4 1), .ref (a4 2), .ref (a4 3)])), (a4 1, .inl (cI, 6, .inl (ma M4 1))), (a4 2, .inl (cI, 6, .inl (ma M4 2))), (a4 3, .inl (cI, 6, .inl (ma M4 3))), (a0 6, .inr (1, [.int (mg M5 0), .ref (a5 1), .int (mg M5 2), .ref (a5 3), .int (mg M5 4), .ref (a5 5)])), (a5 1, .inl (cI, 4, .inl (ma M5 1))), (a5 3, .inl (cI, 4, .inl (ma M5 3))), (a5 5, .inl (cI, 2, .inl (ma M5 5))), (a0 7, .inr (6, [.int (mg M6 0), .int (mg M6 1), .int (mg M6 2), .int (mg M6 3), .int (mg M6 4), .int (mg M6 5), .int (mg M6 6), .ref (a6 7), .ref (a6 8), .ref (a6 9)])), (a6 7, .inl (cI, 2, .inl (ma M6 7))), (a6 8, .inl (cI, 2, .inl (ma M6 8))), (a6 9, .inl (cI, 2, .inl (ma M6 9))), (a0 8, .inr (0, [.ref (a7 0), .ref (a7 1), .ref (a7 2), .ref (a7 3), .int (mg N8 4), va_rf (some (a1 0)), .int (mg N8 6), .int (mg N8 7), .int (mg N8 8), .int (mg N8 9), .int (mg N8 10)])), (a7 0, .inl (cJ, 15, .inr (.inl (ml N8 0)))), (a7 1, .inl (cJ, 800, .inr (.inl (ml N8 1)))), (a7 2, .inl (cI, 4, .inl (ma N8 2))), (a7 3, .inl (cJ, 4, .inr (.inl (ml N8 3)))), (a0 9, .inr (5, [.ref (a8 0), .ref (a8 1), va_rf o8, .int (mg M8 3)])), (a8 0, .inl (cI, 2048, .inl (ma M8 0))), (a8 1, .inl (cI, 2048, .inl (ma M8 1))), (a0 10, .inr (3, [.int (mg M9 0), .int (mg M9 1), .int (mg M9 2), .int (mg M9 3), .int (mg M9 4)]))]) (w1 := (e0W cB cI cJ cZ  )) hP hD [] [0, 1, 2, 3, 4, 5, 6, 7, 8, 9, 10, 11, 12, 13, 14, 15, 16, 17, 18, 19, 20, 21, 22, 23, 24, 25, 26, 27, 28, 29, 30, 31, 32, 33] rfl rfl (by decide) (by decide) hk1 hFc hP1 hD1
    have hP := hP.sub (ws' := (lwW cB cI cJ cZ h0 a0 a1 a2 a3 a4 a5 a6 a7 (some (a1 0)) a8 o8 a9 M0 M1 N9 N6 M4 M5 M6 N8 M8 M9)) [0, 1, 2, 3, 4, 5, 6, 7, 8, 9, 10, 11, 12, 13, 14, 15, 16, 17, 18, 19, 20, 21, 22, 23, 24, 25, 26, 27, 28, 29, 30, 31, 32, 33] rfl
    have hD := hD.sub (ws' := (lwW cB cI cJ cZ h0 a0 a1 a2 a3 a4 a5 a6 a7 (some (a1 0)) a8 o8 a9 M0 M1 N9 N6 M4 M5 M6 N8 M8 M9)) [0, 1, 2, 3, 4, 5, 6, 7, 8, 9, 10, 11, 12, 13, 14, 15, 16, 17, 18, 19, 20, 21, 22, 23, 24, 25, 26, 27, 28, 29, 30, 31, 32, 33] (by decide) rfl
    generalize H1 = H at hP hS ⊢
    obtain ⟨b11, rfl, h⟩ := hw
    try dsimp only at h
    exact W.zret (v := (bI b11)) hx hb hr (nar_bI b11) (fun t ht hW => ⟨⟨_, (M0, M1, N9, N6, M4, M5, M6, N8, M8, M9), rfl, ⟨b11, rfl, h⟩, (some (a1 0)), o8, by rw [ht]; exact hP, va_K.moved hW.alike hK, hD⟩, hS.F ht⟩) hS.2.2 dX11_turnHas_56
  have hl := lv_entry ([.ref h0, .int p1, .int p2]) (n := 8) (Nat.le_of_ble_eq_true rfl)
  rw [lg_entry_eq]
  generalize (lg_sl ([.ref h0, .int p1, .int p2]) ++ List.replicate (8 - (lg_sl ([.ref h0, .int p1, .int p2])).length) Slot.unset).toArray = ls at hl ⊢
  have hl : lv_has ls 8 [(0, .ref h0), (1, .int p1), (2, .int p2)] := hl
  exact bE M0 M1 M2 M3 M4 M5 M6 M7 M8 M9 s.heap [] ls hP hD hS hl h
def wX11_have  (M0 : gS) (M1 : gS) (M2 : gS) (M3 : gS) (M4 : gS) (M5 : gS) (M6 : gS) (M7 : gS) (M8 : gS) (M9 : gS) (Q : Int32 → gS → gS → gS → gS → gS → gS → gS → gS → gS → gS → Prop) : Prop :=
 (((mg M3 0) = 0 → (Q (-2 : Int32) M0 M1 M2 M3 M4 M5 M6 M7 M8 M9))
 ∧ (¬ (mg M3 0) = 0 → (wX11_turnHas (mg M3 1) (mg M3 2) M0 M1 M2 M3 M4 M5 M6 M7 M8 M9 (fun (b15 : Bool) (N3 : gS) (N4 : gS) (N5 : gS) (N6 : gS) (N7 : gS) (N8 : gS) (N9 : gS) (N10 : gS) (N11 : gS) (N12 : gS) => (((bI b15) = 0 → (Q ((1 : Int32) - (mg N6 3)) N3 N4 N5 N6 N7 N8 N9 N10 N11 N12))
 ∧ (¬ (bI b15) = 0 → (Q (mg N6 3) N3 N4 N5 N6 N7 N8 N9 N10 N11 N12)))))))
def rmX11_have : Room := { frames := 5, cells := 0, slots := 0, locals := 129 }
set_option maxHeartbeats 4000000 in
set_option maxRecDepth 100000 in
theorem kX11_have (l : Launch) (dC : Nat → ClassId) (dI : Nat → Nat → Nat) (cB cI cJ cZ : ClassId) (h0 : Nat) (a0 : Nat → Nat) (a1 : Nat → Nat) (a2 : Nat → Nat) (a3 : Nat → Nat) (a4 : Nat → Nat) (a5 : Nat → Nat) (a6 : Nat → Nat) (a7 : Nat → Nat) (o7 : Option Nat) (a8 : Nat → Nat) (o8 : Option Nat) (a9 : Nat → Nat) (sz : Nat)  (M0 : gS) (M1 : gS) (M2 : gS) (M3 : gS) (M4 : gS) (M5 : gS) (M6 : gS) (M7 : gS) (M8 : gS) (M9 : gS) (Q : Int32 → gS → gS → gS → gS → gS → gS → gS → gS → gS → gS → Prop) (h : wX11_have  M0 M1 M2 M3 M4 M5 M6 M7 M8 M9 Q) : Met l yX11_have wsX11_have rmX11_have (va_Pc [.ref h0] (lwI dC dI cB cI cJ cZ h0 a0 a1 a2 a3 a4 a5 a6 a7 o7 a8 o8 a9 M0 M1 M2 M3 M4 M5 M6 M7 M8 M9 sz)) (va_Qi (fun (r : Int32) (u : gS × gS × gS × gS × gS × gS × gS × gS × gS × gS) => Q r u.1 u.2.1 u.2.2.1 u.2.2.2.1 u.2.2.2.2.1 u.2.2.2.2.2.1 u.2.2.2.2.2.2.1 u.2.2.2.2.2.2.2.1 u.2.2.2.2.2.2.2.2.1 u.2.2.2.2.2.2.2.2.2) (lwB dC dI cB cI cJ cZ h0 a0 a1 a2 a3 a4 a5 a6 a7 a8 a9 (va_A (lwW cB cI cJ cZ h0 a0 a1 a2 a3 a4 a5 a6 a7 o7 a8 o8 a9 M0 M1 M2 M3 M4 M5 M6 M7 M8 M9) sz)) (va_A (lwW cB cI cJ cZ h0 a0 a1 a2 a3 a4 a5 a6 a7 o7 a8 o8 a9 M0 M1 M2 M3 M4 M5 M6 M7 M8 M9) sz)) 0 0 (va_A (lwW cB cI cJ cZ h0 a0 a1 a2 a3 a4 a5 a6 a7 o7 a8 o8 a9 M0 M1 M2 M3 M4 M5 M6 M7 M8 M9) sz) := by
  refine Met.ofW (cc := cX11_have) (maxL := 2) (ret := (some .int)) (by decide) rfl ?_
  intro p e s m args below meth c s₁ B hml hv
  obtain ⟨rfl, hsz, hP, hK, hD0⟩ := hv
  have hx := B.exec
  have hb := B.bytes
  have hr := B.returns
  have hts := atoms_spec (ws := wsX11_have) B.pre
  have hown : s.vm.findClass RX11 = some m.cls := findClass_of_methodNamed B.named
  have hlocks := B.notSynchronized
  subst hsz
  have hD := hD0.self (sz := s.heap.size)
  generalize hAe : va_A (lwW cB cI cJ cZ h0 a0 a1 a2 a3 a4 a5 a6 a7 o7 a8 o8 a9 M0 M1 M2 M3 M4 M5 M6 M7 M8 M9) s.heap.size = A at hD ⊢
  have hA : ∀ q : Nat, s.heap.size ≤ q → A q := fun q h => by rw [← hAe]; exact Or.inr h
  have hS : va_S A s.heap s.heap [] := va_S.rf
  have hinX10 : ∀ w ∈ wsX100, w ∈ wsX11_have := by decide +kernel
  have hinX11 : ∀ w ∈ wsX110, w ∈ wsX11_have := by decide +kernel
  have hinX6 : ∀ w ∈ wsX60, w ∈ wsX11_have := by decide +kernel
  have f1 := hts (.fieldLink RX11 22 "LastWords" "now" "LLastWords$State;") (by decide +kernel)
  have f2 := hts (.fieldLink RX11 118 "LastWords$State" "quarrel" "LLastWords$Quarrel;") (by decide +kernel)
  have f3 := hts (.fieldLink RX11 149 "LastWords$Quarrel" "goesOn" "Z") (by decide +kernel)
  have f4 := hts (.fieldLink RX11 201 "LastWords$Quarrel" "verse" "I") (by decide +kernel)
  have f5 := hts (.fieldLink RX11 128 "LastWords$Quarrel" "left" "I") (by decide +kernel)
  have f6 := hts (.fieldLink RX11 208 "LastWords$Quarrel" "turn" "I") (by decide +kernel)
  have bE : ∀ (M0 : gS) (M1 : gS) (M2 : gS) (M3 : gS) (M4 : gS) (M5 : gS) (M6 : gS) (M7 : gS) (M8 : gS) (M9 : gS) (H : Heap) (locs : List Loc) (ls : Array Slot), va_P (dC, dI) vwCl (lwW cB cI cJ cZ h0 a0 a1 a2 a3 a4 a5 a6 a7 o7 a8 o8 a9 M0 M1 M2 M3 M4 M5 M6 M7 M8 M9) H → va_D A (lwW cB cI cJ cZ h0 a0 a1 a2 a3 a4 a5 a6 a7 o7 a8 o8 a9 M0 M1 M2 M3 M4 M5 M6 M7 M8 M9) → va_S A s.heap H locs → lv_has ls 2 [(0, .ref h0)] → wX11_have  M0 M1 M2 M3 M4 M5 M6 M7 M8 M9 Q → W p l e (headSpec wsX11_have rmX11_have).room s m ([.ref h0] : List Value).toArray below meth c H locs 0 0 (MQ below (va_Qi (fun (r : Int32) (u : gS × gS × gS × gS × gS × gS × gS × gS × gS × gS) => Q r u.1 u.2.1 u.2.2.1 u.2.2.2.1 u.2.2.2.2.1 u.2.2.2.2.2.1 u.2.2.2.2.2.2.1 u.2.2.2.2.2.2.2.1 u.2.2.2.2.2.2.2.2.1 u.2.2.2.2.2.2.2.2.2) (lwB dC dI cB cI cJ cZ h0 a0 a1 a2 a3 a4 a5 a6 a7 a8 a9 A) A) ([.ref h0] : List Value).toArray s 0 0 A) (F0 m 0 ls []) := by
    intro M0 M1 M2 M3 M4 M5 M6 M7 M8 M9 H locs ls hP hD hS hl h
    unfold wX11_have at h
    refine lv_aload_n hx hb dX11_have_0 rfl (lv_at hl 0 rfl) ?_
    refine va_get (D := (dC, dI)) (ci := 11) (v := .ref (a0 4)) (C := RX11) (T := TX11) (N := 12) hx hb hts hinX11 hown hK hP 0 rfl rfl 4 (by decide) f1 (fun _ h9 => h9) rfl dX11_have_1 ?_
    refine va_get (D := (dC, dI)) (ci := 10) (v := .ref (a1 1)) (C := RX10) (T := TX10) (N := 5) hx hb hts hinX10 hown hK hP 3 rfl rfl 1 (by decide) f2 (fun _ h9 => h9) rfl dX11_have_4 ?_
    refine lv_astore_n (lv' := [(1, .ref (a1 1)), (0, .ref h0)]) hx hb dX11_have_7 rfl hl (by decide) rfl (fun ls hl => ?_)
    refine lv_aload_n hx hb dX11_have_8 rfl (lv_at hl 0 rfl) ?_
    refine va_get (D := (dC, dI)) (ci := 6) (v := .int (mg M3 0)) (C := RX6) (T := TX6) (N := 10) hx hb hts hinX6 hown hK hP 9 rfl rfl 0 (by decide) f3 (fun _ h9 => h9) rfl dX11_have_9 ?_
    refine lv_if_ne (tgt := 18) hx hb dX11_have_12 (by decide) (fun c1 => ?_) (fun c1 => ?_)
    · have h := h.2 c1
      refine lv_aload_n hx hb dX11_have_18 rfl (lv_at hl 1 rfl) ?_
      refine lv_aload_n hx hb dX11_have_19 rfl (lv_at hl 0 rfl) ?_
      refine va_get (D := (dC, dI)) (ci := 6) (v := .int (mg M3 1)) (C := RX6) (T := TX6) (N := 10) hx hb hts hinX6 hown hK hP 9 rfl rfl 1 (by decide) f4 (fun _ h9 => h9) rfl dX11_have_20 ?_
      refine lv_aload_n hx hb dX11_have_23 rfl (lv_at hl 0 rfl) ?_
      refine va_get (D := (dC, dI)) (ci := 6) (v := .int (mg M3 2)) (C := RX6) (T := TX6) (N := 10) hx hb hts hinX6 hown hK hP 9 rfl rfl 2 (by decide) f5 (fun _ h9 => h9) rfl dX11_have_24 ?_
      have hFc := gs_free hD hS hA
      refine va_calli (va_runV (As := [.int (mg M3 1), .int (mg M3 2)]) (rest := []) ⟨hx, hb, hml, hown, hts⟩ (kX11_turnHas l dC dI cB cI cJ cZ h0 a0 a1 a2 a3 a4 a5 a6 a7 o7 a8 o8 a9 H.size (mg M3 1) (mg M3 2) M0 M1 M2 M3 M4 M5 M6 M7 M8 M9 _ h) (cwV 2 hts gX11_have_X11_turnHas rfl rfl rfl (by decide +kernel) ⟨Nat.le_of_ble_eq_true rfl, Nat.le_of_ble_eq_true rfl⟩) (lwpV hK hP hD) rfl rfl hl.1 rfl (lv_room (Nat.le_of_ble_eq_true rfl)) dX11_have_27 ⟨Nat.le_of_ble_eq_true rfl, Nat.le_of_ble_eq_true rfl⟩) hS (fun q _ z => hFc q z) hFc (fun r2 u t H1 locs ht hvm hw hB hz1 hk1 hS => ?_)
      obtain ⟨N3, N4, N5, N6, N7, N8, N9, N10, N11, N12⟩ := u
      obtain ⟨v13, v14, hP, hK1, hD1⟩ := hB
      rw [ht] at hP
      have hD := hD1.weaken (fun _ _ _ z => hFc _ z)
      generalize H1 = H at hP hS ⊢
      obtain ⟨b15, rfl, h⟩ := hw
      try dsimp only at h
      refine lv_if_eq (tgt := 40) hx hb dX11_have_30 (by decide) (fun c16 => ?_) (fun c16 => ?_)
      · have h := h.1 c16
        refine lv_iconst (v := 1) hx hb dX11_have_40 (by decide) ?_
        refine lv_aload_n hx hb dX11_have_41 rfl (lv_at hl 0 rfl) ?_
        refine va_get (D := (dC, dI)) (ci := 6) (v := .int (mg N6 3)) (C := RX6) (T := TX6) (N := 10) hx hb hts hinX6 hown hK hP 9 rfl rfl 3 (by decide) f6 (fun _ h9 => h9) rfl dX11_have_42 ?_
        refine lv_isub hx hb dX11_have_45 ?_
        exact W.iret (v := ((1 : Int32) - (mg N6 3))) hx hb hr (fun t ht hW => ⟨⟨_, (N3, N4, N5, N6, N7, N8, N9, N10, N11, N12), rfl, h, v13, v14, by rw [ht]; exact hP, va_K.moved hW.alike hK, hD⟩, hS.F ht⟩) hS.2.2 dX11_have_46
      · have h := h.2 c16
        refine lv_aload_n hx hb dX11_have_33 rfl (lv_at hl 0 rfl) ?_
        refine va_get (D := (dC, dI)) (ci := 6) (v := .int (mg N6 3)) (C := RX6) (T := TX6) (N := 10) hx hb hts hinX6 hown hK hP 9 rfl rfl 3 (by decide) f6 (fun _ h9 => h9) rfl dX11_have_34 ?_
        refine lv_goto (tgt := 46) hx hb dX11_have_37 (by decide) ?_
        exact W.iret (v := (mg N6 3)) hx hb hr (fun t ht hW => ⟨⟨_, (N3, N4, N5, N6, N7, N8, N9, N10, N11, N12), rfl, h, v13, v14, by rw [ht]; exact hP, va_K.moved hW.alike hK, hD⟩, hS.F ht⟩) hS.2.2 dX11_have_46
    · have h := h.1 c1
      refine lv_bipush (v := (-2)) hx hb dX11_have_15 (by decide) ?_
      exact W.iret (v := (-2 : Int32)) hx hb hr (fun t ht hW => ⟨⟨_, (M0, M1, M2, M3, M4, M5, M6, M7, M8, M9), rfl, h, o7, o8, by rw [ht]; exact hP, va_K.moved hW.alike hK, hD⟩, hS.F ht⟩) hS.2.2 dX11_have_17
  have hl := lv_entry ([.ref h0]) (n := 2) (Nat.le_of_ble_eq_true rfl)
  rw [lg_entry_eq]
  generalize (lg_sl ([.ref h0]) ++ List.replicate (2 - (lg_sl ([.ref h0])).length) Slot.unset).toArray = ls at hl ⊢
  have hl : lv_has ls 2 [(0, .ref h0)] := hl
  exact bE M0 M1 M2 M3 M4 M5 M6 M7 M8 M9 s.heap [] ls hP hD hS hl h
def wX11_move  (M0 : gS) (M1 : gS) (M2 : gS) (M3 : gS) (M4 : gS) (M5 : gS) (M6 : gS) (M7 : gS) (M8 : gS) (M9 : gS) (Q : Int32 → gS → gS → gS → gS → gS → gS → gS → gS → gS → gS → Prop) : Prop :=
 (((mg M3 0) = 0 → (Q (-2 : Int32) M0 M1 M2 M3 M4 M5 M6 M7 M8 M9))
 ∧ (¬ (mg M3 0) = 0 → (wX0_firstMove  M7 M2 M3 (fun (r2 : Int32) (N3 : gS) (N4 : gS) (N5 : gS) => (Q r2 M0 M1 N4 N5 M4 M5 M6 N3 M8 M9)))))
def rmX11_move : Room := { frames := 4, cells := 0, slots := 0, locals := 100 }
set_option maxHeartbeats 4000000 in
set_option maxRecDepth 100000 in
theorem kX11_move (l : Launch) (dC : Nat → ClassId) (dI : Nat → Nat → Nat) (cB cI cJ cZ : ClassId) (h0 : Nat) (a0 : Nat → Nat) (a1 : Nat → Nat) (a2 : Nat → Nat) (a3 : Nat → Nat) (a4 : Nat → Nat) (a5 : Nat → Nat) (a6 : Nat → Nat) (a7 : Nat → Nat) (o7 : Option Nat) (a8 : Nat → Nat) (o8 : Option Nat) (a9 : Nat → Nat) (sz : Nat)  (M0 : gS) (M1 : gS) (M2 : gS) (M3 : gS) (M4 : gS) (M5 : gS) (M6 : gS) (M7 : gS) (M8 : gS) (M9 : gS) (Q : Int32 → gS → gS → gS → gS → gS → gS → gS → gS → gS → gS → Prop) (h : wX11_move  M0 M1 M2 M3 M4 M5 M6 M7 M8 M9 Q) : Met l yX11_move wsX11_move rmX11_move (va_Pc [.ref h0] (lwI dC dI cB cI cJ cZ h0 a0 a1 a2 a3 a4 a5 a6 a7 o7 a8 o8 a9 M0 M1 M2 M3 M4 M5 M6 M7 M8 M9 sz)) (va_Qi (fun (r : Int32) (u : gS × gS × gS × gS × gS × gS × gS × gS × gS × gS) => Q r u.1 u.2.1 u.2.2.1 u.2.2.2.1 u.2.2.2.2.1 u.2.2.2.2.2.1 u.2.2.2.2.2.2.1 u.2.2.2.2.2.2.2.1 u.2.2.2.2.2.2.2.2.1 u.2.2.2.2.2.2.2.2.2) (lwB dC dI cB cI cJ cZ h0 a0 a1 a2 a3 a4 a5 a6 a7 a8 a9 (va_A (lwW cB cI cJ cZ h0 a0 a1 a2 a3 a4 a5 a6 a7 o7 a8 o8 a9 M0 M1 M2 M3 M4 M5 M6 M7 M8 M9) sz)) (va_A (lwW cB cI cJ cZ h0 a0 a1 a2 a3 a4 a5 a6 a7 o7 a8 o8 a9 M0 M1 M2 M3 M4 M5 M6 M7 M8 M9) sz)) 0 0 (va_A (lwW cB cI cJ cZ h0 a0 a1 a2 a3 a4 a5 a6 a7 o7 a8 o8 a9 M0 M1 M2 M3 M4 M5 M6 M7 M8 M9) sz) := by
  refine Met.ofW (cc := cX11_move) (maxL := 1) (ret := (some .int)) (by decide) rfl ?_
  intro p e s m args below meth c s₁ B hml hv
  obtain ⟨rfl, hsz, hP, hK, hD0⟩ := hv
  have hx := B.exec
  have hb := B.bytes
  have hr := B.returns
  have hts := atoms_spec (ws := wsX11_move) B.pre
  have hown : s.vm.findClass RX11 = some m.cls := findClass_of_methodNamed B.named
  have hlocks := B.notSynchronized
  subst hsz
  have hD := hD0.self (sz := s.heap.size)
  generalize hAe : va_A (lwW cB cI cJ cZ h0 a0 a1 a2 a3 a4 a5 a6 a7 o7 a8 o8 a9 M0 M1 M2 M3 M4 M5 M6 M7 M8 M9) s.heap.size = A at hD ⊢
  have hA : ∀ q : Nat, s.heap.size ≤ q → A q := fun q h => by rw [← hAe]; exact Or.inr h
  have hS : va_S A s.heap s.heap [] := va_S.rf
  have hinX10 : ∀ w ∈ wsX100, w ∈ wsX11_move := by decide +kernel
  have hinX11 : ∀ w ∈ wsX110, w ∈ wsX11_move := by decide +kernel
  have hinX6 : ∀ w ∈ wsX60, w ∈ wsX11_move := by decide +kernel
  have f1 := hts (.fieldLink RX11 22 "LastWords" "now" "LLastWords$State;") (by decide +kernel)
  have f2 := hts (.fieldLink RX11 118 "LastWords$State" "quarrel" "LLastWords$Quarrel;") (by decide +kernel)
  have f3 := hts (.fieldLink RX11 149 "LastWords$Quarrel" "goesOn" "Z") (by decide +kernel)
  have f4 := hts (.fieldLink RX11 47 "LastWords" "bestPlay" "LLastWords$BestPlay;") (by decide +kernel)
  have f5 := hts (.fieldLink RX11 108 "LastWords$State" "corner" "LLastWords$Corner;") (by decide +kernel)
  have bE : ∀ (M0 : gS) (M1 : gS) (M2 : gS) (M3 : gS) (M4 : gS) (M5 : gS) (M6 : gS) (M7 : gS) (M8 : gS) (M9 : gS) (H : Heap) (locs : List Loc) (ls : Array Slot), va_P (dC, dI) vwCl (lwW cB cI cJ cZ h0 a0 a1 a2 a3 a4 a5 a6 a7 o7 a8 o8 a9 M0 M1 M2 M3 M4 M5 M6 M7 M8 M9) H → va_D A (lwW cB cI cJ cZ h0 a0 a1 a2 a3 a4 a5 a6 a7 o7 a8 o8 a9 M0 M1 M2 M3 M4 M5 M6 M7 M8 M9) → va_S A s.heap H locs → lv_has ls 1 [(0, .ref h0)] → wX11_move  M0 M1 M2 M3 M4 M5 M6 M7 M8 M9 Q → W p l e (headSpec wsX11_move rmX11_move).room s m ([.ref h0] : List Value).toArray below meth c H locs 0 0 (MQ below (va_Qi (fun (r : Int32) (u : gS × gS × gS × gS × gS × gS × gS × gS × gS × gS) => Q r u.1 u.2.1 u.2.2.1 u.2.2.2.1 u.2.2.2.2.1 u.2.2.2.2.2.1 u.2.2.2.2.2.2.1 u.2.2.2.2.2.2.2.1 u.2.2.2.2.2.2.2.2.1 u.2.2.2.2.2.2.2.2.2) (lwB dC dI cB cI cJ cZ h0 a0 a1 a2 a3 a4 a5 a6 a7 a8 a9 A) A) ([.ref h0] : List Value).toArray s 0 0 A) (F0 m 0 ls []) := by
    intro M0 M1 M2 M3 M4 M5 M6 M7 M8 M9 H locs ls hP hD hS hl h
    unfold wX11_move at h
    refine lv_aload_n hx hb dX11_move_0 rfl (lv_at hl 0 rfl) ?_
    refine va_get (D := (dC, dI)) (ci := 11) (v := .ref (a0 4)) (C := RX11) (T := TX11) (N := 12) hx hb hts hinX11 hown hK hP 0 rfl rfl 4 (by decide) f1 (fun _ h9 => h9) rfl dX11_move_1 ?_
    refine va_get (D := (dC, dI)) (ci := 10) (v := .ref (a1 1)) (C := RX10) (T := TX10) (N := 5) hx hb hts hinX10 hown hK hP 3 rfl rfl 1 (by decide) f2 (fun _ h9 => h9) rfl dX11_move_4 ?_
    refine va_get (D := (dC, dI)) (ci := 6) (v := .int (mg M3 0)) (C := RX6) (T := TX6) (N := 10) hx hb hts hinX6 hown hK hP 9 rfl rfl 0 (by decide) f3 (fun _ h9 => h9) rfl dX11_move_7 ?_
    refine lv_if_eq (tgt := 37) hx hb dX11_move_10 (by decide) (fun c1 => ?_) (fun c1 => ?_)
    · have h := h.1 c1
      refine lv_bipush (v := (-2)) hx hb dX11_move_37 (by decide) ?_
      exact W.iret (v := (-2 : Int32)) hx hb hr (fun t ht hW => ⟨⟨_, (M0, M1, M2, M3, M4, M5, M6, M7, M8, M9), rfl, h, o7, o8, by rw [ht]; exact hP, va_K.moved hW.alike hK, hD⟩, hS.F ht⟩) hS.2.2 dX11_move_39
    · have h := h.2 c1
      refine lv_aload_n hx hb dX11_move_13 rfl (lv_at hl 0 rfl) ?_
      refine va_get (D := (dC, dI)) (ci := 11) (v := .ref (a0 8)) (C := RX11) (T := TX11) (N := 12) hx hb hts hinX11 hown hK hP 0 rfl rfl 8 (by decide) f4 (fun _ h9 => h9) rfl dX11_move_14 ?_
      refine lv_aload_n hx hb dX11_move_17 rfl (lv_at hl 0 rfl) ?_
      refine va_get (D := (dC, dI)) (ci := 11) (v := .ref (a0 4)) (C := RX11) (T := TX11) (N := 12) hx hb hts hinX11 hown hK hP 0 rfl rfl 4 (by decide) f1 (fun _ h9 => h9) rfl dX11_move_18 ?_
      refine va_get (D := (dC, dI)) (ci := 10) (v := .ref (a1 0)) (C := RX10) (T := TX10) (N := 5) hx hb hts hinX10 hown hK hP 3 rfl rfl 0 (by decide) f5 (fun _ h9 => h9) rfl dX11_move_21 ?_
      refine lv_aload_n hx hb dX11_move_24 rfl (lv_at hl 0 rfl) ?_
      refine va_get (D := (dC, dI)) (ci := 11) (v := .ref (a0 4)) (C := RX11) (T := TX11) (N := 12) hx hb hts hinX11 hown hK hP 0 rfl rfl 4 (by decide) f1 (fun _ h9 => h9) rfl dX11_move_25 ?_
      refine va_get (D := (dC, dI)) (ci := 10) (v := .ref (a1 1)) (C := RX10) (T := TX10) (N := 5) hx hb hts hinX10 hown hK hP 3 rfl rfl 1 (by decide) f2 (fun _ h9 => h9) rfl dX11_move_28 ?_
      have hPc := hP.sub (ws' := (bqW cB cI cJ cZ (a0 8) a7 o7 (a1 0) a2 (a1 1) a3 M7 M2 M3)) [25, 26, 27, 28, 29, 5, 6, 7, 8, 9, 10, 11, 12] rfl
      have hDc := hD.sub (ws' := (bqW cB cI cJ cZ (a0 8) a7 o7 (a1 0) a2 (a1 1) a3 M7 M2 M3)) [25, 26, 27, 28, 29, 5, 6, 7, 8, 9, 10, 11, 12] (by decide) rfl
      have hFc := va_free (wc := (bqW cB cI cJ cZ (a0 8) a7 o7 (a1 0) a2 (a1 1) a3 M7 M2 M3)) hD hS hA [25, 26, 27, 28, 29, 5, 6, 7, 8, 9, 10, 11, 12] rfl
      refine va_calli (va_runV (As := [.ref (a1 0), .ref (a1 1)]) (rest := []) ⟨hx, hb, hml, hown, hts⟩ (kX0_firstMove l dC dI cB cI cJ cZ (a0 8) a7 o7 (a1 0) a2 (a1 1) a3 H.size  M7 M2 M3 _ h) (cwV 2 hts gX11_move_X0_firstMove rfl rfl rfl (by decide +kernel) ⟨Nat.le_of_ble_eq_true rfl, Nat.le_of_ble_eq_true rfl⟩) (bqpV hK hPc hDc) rfl rfl hl.1 rfl (lv_room (Nat.le_of_ble_eq_true rfl)) dX11_move_31 ⟨Nat.le_of_ble_eq_true rfl, Nat.le_of_ble_eq_true rfl⟩) hS (fun q _ z => hFc q z) hFc (fun r2 u t H1 locs ht hvm hw hB hz1 hk1 hS => ?_)
      obtain ⟨N3, N4, N5⟩ := u
      obtain ⟨hP1, hK1, hD1⟩ := hB
      rw [ht] at hP1
      obtain ⟨hP, hD⟩ := va_join (wr := [(h0, .inr (11, [.ref (a0 0), .int (mg M0 1), .ref (a0 2), .int (mg M0 3), .ref (a0 4), .ref (a0 5), .ref (a0 6), .ref (a0 7), .ref (a0 8), .ref (a0 9), .ref (a0 10), .ref (a0 11)])), (a0 0, .inl (cI, 400, .inl (ma M0 0))), (a0 11, .inl (cJ, 4, .inr (.inl (ml M0 11)))), (a0 4, .inr (10, [.ref (a1 0), .ref (a1 1), .ref (a1 2), .ref (a1 3), .int (mg M1 4)])), (a1 3, .inl (cI, 2, .inl (ma M1 3))), (a1 2, .inr (4, [.int (mg M4 0), .ref (a4 1), .ref (a4 2), .ref (a4 3)])), (a4 1, .inl (cI, 6, .inl (ma M4 1))), (a4 2, .inl (cI, 6, .inl (ma M4 2))), (a4 3, .inl (cI, 6, .inl (ma M4 3))), (a0 6, .inr (1, [.int (mg M5 0), .ref (a5 1), .int (mg M5 2), .ref (a5 3), .int (mg M5 4), .ref (a5 5)])), (a5 1, .inl (cI, 4, .inl (ma M5 1))), (a5 3, .inl (cI, 4, .inl (ma M5 3))), (a5 5, .inl (cI, 2, .inl (ma M5 5))), (a0 7, .inr (6, [.int (mg M6 0), .int (mg M6 1), .int (mg M6 2), .int (mg M6 3), .int (mg M6 4), .int (mg M6 5), .int (mg M6 6), .ref (a6 7), .ref (a6 8), .ref (a6 9)])), (a6 7, .inl (cI, 2, .inl (ma M6 7))), (a6 8, .inl (cI, 2, .inl (ma M6 8))), (a6 9, .inl (cI, 2, .inl (ma M6 9))), (a0 9, .inr (5, [.ref (a8 0), .ref (a8 1), va_rf o8, .int (mg M8 3)])), (a8 0, .inl (cI, 2048, .inl (ma M8 0))), (a8 1, .inl (cI, 2048, .inl (ma M8 1))), (a0 10, .inr (3, [.int (mg M9 0), .int (mg M9 1), .int (mg M9 2), .int (mg M9 3), .int (mg M9 4)]))]) (w1 := (bqW cB cI cJ cZ (a0 8) a7 (some (a1 0)) (a1 0) a2 (a1 1) a3 N3 N4 N5)) hP hD [25, 26, 27, 28, 29, 5, 6, 7, 8, 9, 10, 11, 12] [0, 1, 2, 3, 4, 13, 14, 15, 16, 17, 18, 19, 20, 21, 22, 23, 24, 30, 31, 32, 33] rfl rfl (by decide) (by decide) hk1 hFc hP1 hD1
      have hP := hP.sub (ws' := (lwW cB cI cJ cZ h0 a0 a1 a2 a3 a4 a5 a6 a7 (some (a1 0)) a8 o8 a9 M0 M1 N4 N5 M4 M5 M6 N3 M8 M9)) [0, 1, 2, 3, 4, 26, 27, 28, 29, 30, 31, 32, 33, 5, 6, 7, 8, 9, 10, 11, 12, 13, 14, 15, 16, 21, 22, 23, 24, 25, 17, 18, 19, 20] rfl
      have hD := hD.sub (ws' := (lwW cB cI cJ cZ h0 a0 a1 a2 a3 a4 a5 a6 a7 (some (a1 0)) a8 o8 a9 M0 M1 N4 N5 M4 M5 M6 N3 M8 M9)) [0, 1, 2, 3, 4, 26, 27, 28, 29, 30, 31, 32, 33, 5, 6, 7, 8, 9, 10, 11, 12, 13, 14, 15, 16, 21, 22, 23, 24, 25, 17, 18, 19, 20] (by decide) rfl
      generalize H1 = H at hP hS ⊢
      have h := hw
      try dsimp only at h
      refine lv_goto (tgt := 39) hx hb dX11_move_34 (by decide) ?_
      exact W.iret (v := r2) hx hb hr (fun t ht hW => ⟨⟨_, (M0, M1, N4, N5, M4, M5, M6, N3, M8, M9), rfl, h, (some (a1 0)), o8, by rw [ht]; exact hP, va_K.moved hW.alike hK, hD⟩, hS.F ht⟩) hS.2.2 dX11_move_39
  have hl := lv_entry ([.ref h0]) (n := 1) (Nat.le_of_ble_eq_true rfl)
  rw [lg_entry_eq]
  generalize (lg_sl ([.ref h0]) ++ List.replicate (1 - (lg_sl ([.ref h0])).length) Slot.unset).toArray = ls at hl ⊢
  have hl : lv_has ls 1 [(0, .ref h0)] := hl
  exact bE M0 M1 M2 M3 M4 M5 M6 M7 M8 M9 s.heap [] ls hP hD hS hl h
def wX11_hasWith (p1 : Int64) (p2 : Int32) (p3 : Int32) (p4 : Int32) (M0 : gS) (M1 : gS) (M2 : gS) (M3 : gS) (M4 : gS) (M5 : gS) (M6 : gS) (M7 : gS) (M8 : gS) (M9 : gS) (Q : Bool → gS → gS → gS → gS → gS → gS → gS → gS → gS → gS → Prop) : Prop :=
 ((p2 = (mg M3 3) → (wX0_holds p1 p3 p4  (fun (b6 : Bool)  => (Q b6 M0 M1 M2 M3 M4 M5 M6 M7 M8 M9))))
 ∧ (¬ p2 = (mg M3 3) → (wX0_holds p1 p4 p3  (fun (b3 : Bool)  => (((bI b3) = 0 → (Q true M0 M1 M2 M3 M4 M5 M6 M7 M8 M9))
 ∧ (¬ (bI b3) = 0 → (Q false M0 M1 M2 M3 M4 M5 M6 M7 M8 M9)))))))
def rmX11_hasWith : Room := { frames := 1, cells := 0, slots := 0, locals := 23 }
set_option maxHeartbeats 4000000 in
set_option maxRecDepth 100000 in
theorem kX11_hasWith (l : Launch) (dC : Nat → ClassId) (dI : Nat → Nat → Nat) (cB cI cJ cZ : ClassId) (h0 : Nat) (a0 : Nat → Nat) (a1 : Nat → Nat) (a2 : Nat → Nat) (a3 : Nat → Nat) (a4 : Nat → Nat) (a5 : Nat → Nat) (a6 : Nat → Nat) (a7 : Nat → Nat) (o7 : Option Nat) (a8 : Nat → Nat) (o8 : Option Nat) (a9 : Nat → Nat) (sz : Nat) (p1 : Int64) (p2 : Int32) (p3 : Int32) (p4 : Int32) (M0 : gS) (M1 : gS) (M2 : gS) (M3 : gS) (M4 : gS) (M5 : gS) (M6 : gS) (M7 : gS) (M8 : gS) (M9 : gS) (Q : Bool → gS → gS → gS → gS → gS → gS → gS → gS → gS → gS → Prop) (h : wX11_hasWith p1 p2 p3 p4 M0 M1 M2 M3 M4 M5 M6 M7 M8 M9 Q) : Met l yX11_hasWith wsX11_hasWith rmX11_hasWith (va_Pc [.ref h0, .long p1, .int p2, .int p3, .int p4] (lwI dC dI cB cI cJ cZ h0 a0 a1 a2 a3 a4 a5 a6 a7 o7 a8 o8 a9 M0 M1 M2 M3 M4 M5 M6 M7 M8 M9 sz)) (va_Qi (fun (r : Int32) (u : gS × gS × gS × gS × gS × gS × gS × gS × gS × gS) => ∃ b : Bool, r = bI b ∧ Q b u.1 u.2.1 u.2.2.1 u.2.2.2.1 u.2.2.2.2.1 u.2.2.2.2.2.1 u.2.2.2.2.2.2.1 u.2.2.2.2.2.2.2.1 u.2.2.2.2.2.2.2.2.1 u.2.2.2.2.2.2.2.2.2) (lwB dC dI cB cI cJ cZ h0 a0 a1 a2 a3 a4 a5 a6 a7 a8 a9 (va_A (lwW cB cI cJ cZ h0 a0 a1 a2 a3 a4 a5 a6 a7 o7 a8 o8 a9 M0 M1 M2 M3 M4 M5 M6 M7 M8 M9) sz)) (va_A (lwW cB cI cJ cZ h0 a0 a1 a2 a3 a4 a5 a6 a7 o7 a8 o8 a9 M0 M1 M2 M3 M4 M5 M6 M7 M8 M9) sz)) 0 0 (va_A (lwW cB cI cJ cZ h0 a0 a1 a2 a3 a4 a5 a6 a7 o7 a8 o8 a9 M0 M1 M2 M3 M4 M5 M6 M7 M8 M9) sz) := by
  refine Met.ofW (cc := cX11_hasWith) (maxL := 6) (ret := (some .boolean)) (by decide) rfl ?_
  intro p e s m args below meth c s₁ B hml hv
  obtain ⟨rfl, hsz, hP, hK, hD0⟩ := hv
  have hx := B.exec
  have hb := B.bytes
  have hr := B.returns
  have hts := atoms_spec (ws := wsX11_hasWith) B.pre
  have hown : s.vm.findClass RX11 = some m.cls := findClass_of_methodNamed B.named
  have hlocks := B.notSynchronized
  subst hsz
  have hD := hD0.self (sz := s.heap.size)
  generalize hAe : va_A (lwW cB cI cJ cZ h0 a0 a1 a2 a3 a4 a5 a6 a7 o7 a8 o8 a9 M0 M1 M2 M3 M4 M5 M6 M7 M8 M9) s.heap.size = A at hD ⊢
  have hA : ∀ q : Nat, s.heap.size ≤ q → A q := fun q h => by rw [← hAe]; exact Or.inr h
  have hS : va_S A s.heap s.heap [] := va_S.rf
  have hinX10 : ∀ w ∈ wsX100, w ∈ wsX11_hasWith := by decide +kernel
  have hinX11 : ∀ w ∈ wsX110, w ∈ wsX11_hasWith := by decide +kernel
  have hinX6 : ∀ w ∈ wsX60, w ∈ wsX11_hasWith := by decide +kernel
  have f1 := hts (.fieldLink RX11 22 "LastWords" "now" "LLastWords$State;") (by decide +kernel)
  have f2 := hts (.fieldLink RX11 118 "LastWords$State" "quarrel" "LLastWords$Quarrel;") (by decide +kernel)
  have f3 := hts (.fieldLink RX11 208 "LastWords$Quarrel" "turn" "I") (by decide +kernel)
  have bE : ∀ (M0 : gS) (M1 : gS) (M2 : gS) (M3 : gS) (M4 : gS) (M5 : gS) (M6 : gS) (M7 : gS) (M8 : gS) (M9 : gS) (H : Heap) (locs : List Loc) (ls : Array Slot), va_P (dC, dI) vwCl (lwW cB cI cJ cZ h0 a0 a1 a2 a3 a4 a5 a6 a7 o7 a8 o8 a9 M0 M1 M2 M3 M4 M5 M6 M7 M8 M9) H → va_D A (lwW cB cI cJ cZ h0 a0 a1 a2 a3 a4 a5 a6 a7 o7 a8 o8 a9 M0 M1 M2 M3 M4 M5 M6 M7 M8 M9) → va_S A s.heap H locs → lv_has ls 6 [(0, .ref h0), (1, .long p1), (3, .int p2), (4, .int p3), (5, .int p4)] → wX11_hasWith p1 p2 p3 p4 M0 M1 M2 M3 M4 M5 M6 M7 M8 M9 Q → W p l e (headSpec wsX11_hasWith rmX11_hasWith).room s m ([.ref h0, .long p1, .int p2, .int p3, .int p4] : List Value).toArray below meth c H locs 0 0 (MQ below (va_Qi (fun (r : Int32) (u : gS × gS × gS × gS × gS × gS × gS × gS × gS × gS) => ∃ b : Bool, r = bI b ∧ Q b u.1 u.2.1 u.2.2.1 u.2.2.2.1 u.2.2.2.2.1 u.2.2.2.2.2.1 u.2.2.2.2.2.2.1 u.2.2.2.2.2.2.2.1 u.2.2.2.2.2.2.2.2.1 u.2.2.2.2.2.2.2.2.2) (lwB dC dI cB cI cJ cZ h0 a0 a1 a2 a3 a4 a5 a6 a7 a8 a9 A) A) ([.ref h0, .long p1, .int p2, .int p3, .int p4] : List Value).toArray s 0 0 A) (F0 m 0 ls []) := by
    intro M0 M1 M2 M3 M4 M5 M6 M7 M8 M9 H locs ls hP hD hS hl h
    unfold wX11_hasWith at h
    refine lv_iload_n hx hb dX11_hasWith_0 rfl (lv_at hl 2 rfl) ?_
    refine lv_aload_n hx hb dX11_hasWith_1 rfl (lv_at hl 0 rfl) ?_
    refine va_get (D := (dC, dI)) (ci := 11) (v := .ref (a0 4)) (C := RX11) (T := TX11) (N := 12) hx hb hts hinX11 hown hK hP 0 rfl rfl 4 (by decide) f1 (fun _ h9 => h9) rfl dX11_hasWith_2 ?_
    refine va_get (D := (dC, dI)) (ci := 10) (v := .ref (a1 1)) (C := RX10) (T := TX10) (N := 5) hx hb hts hinX10 hown hK hP 3 rfl rfl 1 (by decide) f2 (fun _ h9 => h9) rfl dX11_hasWith_5 ?_
    refine va_get (D := (dC, dI)) (ci := 6) (v := .int (mg M3 3)) (C := RX6) (T := TX6) (N := 10) hx hb hts hinX6 hown hK hP 9 rfl rfl 3 (by decide) f3 (fun _ h9 => h9) rfl dX11_hasWith_8 ?_
    refine lv_icmp_ne (tgt := 23) hx hb dX11_hasWith_11 (by decide) (fun c1 => ?_) (fun c1 => ?_)
    · have h := h.2 c1
      refine lv_lload_n hx hb dX11_hasWith_23 rfl (lv_at hl 1 rfl) ?_
      refine lv_iload hx hb dX11_hasWith_24 (lv_at hl 4 rfl) ?_
      refine lv_iload hx hb dX11_hasWith_26 (lv_at hl 3 rfl) ?_
      have hPc := hP.sub (ws' := (e0W cB cI cJ cZ  )) [] rfl
      have hDc := hD.sub (ws' := (e0W cB cI cJ cZ  )) [] (by decide) rfl
      have hFc := va_free (wc := (e0W cB cI cJ cZ  )) hD hS hA [] rfl
      refine va_calli (va_runS (As := [.long p1, .int p4, .int p3]) (rest := []) ⟨hx, hb, hml, hown, hts⟩ (kX0_holds l dC dI cB cI cJ cZ  H.size p1 p4 p3  _ h) (va_cwS 3 hts gX11_hasWith_X0_holds rfl rfl rfl (by decide +kernel) ⟨Nat.le_of_ble_eq_true rfl, Nat.le_of_ble_eq_true rfl⟩) (e0pS hK hPc hDc) rfl rfl hl.1 rfl (lv_room (Nat.le_of_ble_eq_true rfl)) dX11_hasWith_28 ⟨Nat.le_of_ble_eq_true rfl, Nat.le_of_ble_eq_true rfl⟩) hS (fun q _ z => hFc q z) hFc (fun r2 u t H1 locs ht hvm hw hB hz1 hk1 hS => ?_)
      obtain ⟨hP1, hK1, hD1⟩ := hB
      rw [ht] at hP1
      obtain ⟨hP, hD⟩ := va_join (wr := [(h0, .inr (11, [.ref (a0 0), .int (mg M0 1), .ref (a0 2), .int (mg M0 3), .ref (a0 4), .ref (a0 5), .ref (a0 6), .ref (a0 7), .ref (a0 8), .ref (a0 9), .ref (a0 10), .ref (a0 11)])), (a0 0, .inl (cI, 400, .inl (ma M0 0))), (a0 11, .inl (cJ, 4, .inr (.inl (ml M0 11)))), (a0 4, .inr (10, [.ref (a1 0), .ref (a1 1), .ref (a1 2), .ref (a1 3), .int (mg M1 4)])), (a1 3, .inl (cI, 2, .inl (ma M1 3))), (a1 0, .inr (1, [.int (mg M2 0), .ref (a2 1), .int (mg M2 2), .ref (a2 3), .int (mg M2 4), .ref (a2 5)])), (a2 1, .inl (cI, 4, .inl (ma M2 1))), (a2 3, .inl (cI, 4, .inl (ma M2 3))), (a2 5, .inl (cI, 2, .inl (ma M2 5))), (a1 1, .inr (6, [.int (mg M3 0), .int (mg M3 1), .int (mg M3 2), .int (mg M3 3), .int (mg M3 4), .int (mg M3 5), .int (mg M3 6), .ref (a3 7), .ref (a3 8), .ref (a3 9)])), (a3 7, .inl (cI, 2, .inl (ma M3 7))), (a3 8, .inl (cI, 2, .inl (ma M3 8))), (a3 9, .inl (cI, 2, .inl (ma M3 9))), (a1 2, .inr (4, [.int (mg M4 0), .ref (a4 1), .ref (a4 2), .ref (a4 3)])), (a4 1, .inl (cI, 6, .inl (ma M4 1))), (a4 2, .inl (cI, 6, .inl (ma M4 2))), (a4 3, .inl (cI, 6, .inl (ma M4 3))), (a0 6, .inr (1, [.int (mg M5 0), .ref (a5 1), .int (mg M5 2), .ref (a5 3), .int (mg M5 4), .ref (a5 5)])), (a5 1, .inl (cI, 4, .inl (ma M5 1))), (a5 3, .inl (cI, 4, .inl (ma M5 3))), (a5 5, .inl (cI, 2, .inl (ma M5 5))), (a0 7, .inr (6, [.int (mg M6 0), .int (mg M6 1), .int (mg M6 2), .int (mg M6 3), .int (mg M6 4), .int (mg M6 5), .int (mg M6 6), .ref (a6 7), .ref (a6 8), .ref (a6 9)])), (a6 7, .inl (cI, 2, .inl (ma M6 7))), (a6 8, .inl (cI, 2, .inl (ma M6 8))), (a6 9, .inl (cI, 2, .inl (ma M6 9))), (a0 8, .inr (0, [.ref (a7 0), .ref (a7 1), .ref (a7 2), .ref (a7 3), .int (mg M7 4), va_rf o7, .int (mg M7 6), .int (mg M7 7), .int (mg M7 8), .int (mg M7 9), .int (mg M7 10)])), (a7 0, .inl (cJ, 15, .inr (.inl (ml M7 0)))), (a7 1, .inl (cJ, 800, .inr (.inl (ml M7 1)))), (a7 2, .inl (cI, 4, .inl (ma M7 2))), (a7 3, .inl (cJ, 4, .inr (.inl (ml M7 3)))), (a0 9, .inr (5, [.ref (a8 0), .ref (a8 1), va_rf o8, .int (mg M8 3)])), (a8 0, .inl (cI, 2048, .inl (ma M8 0))), (a8 1, .inl (cI, 2048, .inl (ma M8 1))), (a0 10, .inr (3, [.int (mg M9 0), .int (mg M9 1), .int (mg M9 2), .int (mg M9 3), .int (mg M9 4)]))]) (w1 := (e0W cB cI cJ cZ  )) hP hD [] [0, 1, 2, 3, 4, 5, 6, 7, 8, 9, 10, 11, 12, 13, 14, 15, 16, 17, 18, 19, 20, 21, 22, 23, 24, 25, 26, 27, 28, 29, 30, 31, 32, 33] rfl rfl (by decide) (by decide) hk1 hFc hP1 hD1
      have hP := hP.sub (ws' := (lwW cB cI cJ cZ h0 a0 a1 a2 a3 a4 a5 a6 a7 o7 a8 o8 a9 M0 M1 M2 M3 M4 M5 M6 M7 M8 M9)) [0, 1, 2, 3, 4, 5, 6, 7, 8, 9, 10, 11, 12, 13, 14, 15, 16, 17, 18, 19, 20, 21, 22, 23, 24, 25, 26, 27, 28, 29, 30, 31, 32, 33] rfl
      have hD := hD.sub (ws' := (lwW cB cI cJ cZ h0 a0 a1 a2 a3 a4 a5 a6 a7 o7 a8 o8 a9 M0 M1 M2 M3 M4 M5 M6 M7 M8 M9)) [0, 1, 2, 3, 4, 5, 6, 7, 8, 9, 10, 11, 12, 13, 14, 15, 16, 17, 18, 19, 20, 21, 22, 23, 24, 25, 26, 27, 28, 29, 30, 31, 32, 33] (by decide) rfl
      generalize H1 = H at hP hS ⊢
      obtain ⟨b3, rfl, h⟩ := hw
      try dsimp only at h
      refine lv_if_ne (tgt := 38) hx hb dX11_hasWith_31 (by decide) (fun c4 => ?_) (fun c4 => ?_)
      · have h := h.2 c4
        refine lv_iconst (v := 0) hx hb dX11_hasWith_38 (by decide) ?_
        exact W.zret (v := (bI false)) hx hb hr (nar_bI false) (fun t ht hW => ⟨⟨_, (M0, M1, M2, M3, M4, M5, M6, M7, M8, M9), rfl, ⟨false, rfl, h⟩, o7, o8, by rw [ht]; exact hP, va_K.moved hW.alike hK, hD⟩, hS.F ht⟩) hS.2.2 dX11_hasWith_39
      · have h := h.1 c4
        refine lv_iconst (v := 1) hx hb dX11_hasWith_34 (by decide) ?_
        refine lv_goto (tgt := 39) hx hb dX11_hasWith_35 (by decide) ?_
        exact W.zret (v := (bI true)) hx hb hr (nar_bI true) (fun t ht hW => ⟨⟨_, (M0, M1, M2, M3, M4, M5, M6, M7, M8, M9), rfl, ⟨true, rfl, h⟩, o7, o8, by rw [ht]; exact hP, va_K.moved hW.alike hK, hD⟩, hS.F ht⟩) hS.2.2 dX11_hasWith_39
    · have h := h.1 c1
      refine lv_lload_n hx hb dX11_hasWith_14 rfl (lv_at hl 1 rfl) ?_
      refine lv_iload hx hb dX11_hasWith_15 (lv_at hl 3 rfl) ?_
      refine lv_iload hx hb dX11_hasWith_17 (lv_at hl 4 rfl) ?_
      have hPc := hP.sub (ws' := (e0W cB cI cJ cZ  )) [] rfl
      have hDc := hD.sub (ws' := (e0W cB cI cJ cZ  )) [] (by decide) rfl
      have hFc := va_free (wc := (e0W cB cI cJ cZ  )) hD hS hA [] rfl
      refine va_calli (va_runS (As := [.long p1, .int p3, .int p4]) (rest := []) ⟨hx, hb, hml, hown, hts⟩ (kX0_holds l dC dI cB cI cJ cZ  H.size p1 p3 p4  _ h) (va_cwS 3 hts gX11_hasWith_X0_holds rfl rfl rfl (by decide +kernel) ⟨Nat.le_of_ble_eq_true rfl, Nat.le_of_ble_eq_true rfl⟩) (e0pS hK hPc hDc) rfl rfl hl.1 rfl (lv_room (Nat.le_of_ble_eq_true rfl)) dX11_hasWith_19 ⟨Nat.le_of_ble_eq_true rfl, Nat.le_of_ble_eq_true rfl⟩) hS (fun q _ z => hFc q z) hFc (fun r5 u t H1 locs ht hvm hw hB hz1 hk1 hS => ?_)
      obtain ⟨hP1, hK1, hD1⟩ := hB
      rw [ht] at hP1
      obtain ⟨hP, hD⟩ := va_join (wr := [(h0, .inr (11, [.ref (a0 0), .int (mg M0 1), .ref (a0 2), .int (mg M0 3), .ref (a0 4), .ref (a0 5), .ref (a0 6), .ref (a0 7), .ref (a0 8), .ref (a0 9), .ref (a0 10), .ref (a0 11)])), (a0 0, .inl (cI, 400, .inl (ma M0 0))), (a0 11, .inl (cJ, 4, .inr (.inl (ml M0 11)))), (a0 4, .inr (10, [.ref (a1 0), .ref (a1 1), .ref (a1 2), .ref (a1 3), .int (mg M1 4)])), (a1 3, .inl (cI, 2, .inl (ma M1 3))), (a1 0, .inr (1, [.int (mg M2 0), .ref (a2 1), .int (mg M2 2), .ref (a2 3), .int (mg M2 4), .ref (a2 5)])), (a2 1, .inl (cI, 4, .inl (ma M2 1))), (a2 3, .inl (cI, 4, .inl (ma M2 3))), (a2 5, .inl (cI, 2, .inl (ma M2 5))), (a1 1, .inr (6, [.int (mg M3 0), .int (mg M3 1), .int (mg M3 2), .int (mg M3 3), .int (mg M3 4), .int (mg M3 5), .int (mg M3 6), .ref (a3 7), .ref (a3 8), .ref (a3 9)])), (a3 7, .inl (cI, 2, .inl (ma M3 7))), (a3 8, .inl (cI, 2, .inl (ma M3 8))), (a3 9, .inl (cI, 2, .inl (ma M3 9))), (a1 2, .inr (4, [.int (mg M4 0), .ref (a4 1), .ref (a4 2), .ref (a4 3)])), (a4 1, .inl (cI, 6, .inl (ma M4 1))), (a4 2, .inl (cI, 6, .inl (ma M4 2))), (a4 3, .inl (cI, 6, .inl (ma M4 3))), (a0 6, .inr (1, [.int (mg M5 0), .ref (a5 1), .int (mg M5 2), .ref (a5 3), .int (mg M5 4), .ref (a5 5)])), (a5 1, .inl (cI, 4, .inl (ma M5 1))), (a5 3, .inl (cI, 4, .inl (ma M5 3))), (a5 5, .inl (cI, 2, .inl (ma M5 5))), (a0 7, .inr (6, [.int (mg M6 0), .int (mg M6 1), .int (mg M6 2), .int (mg M6 3), .int (mg M6 4), .int (mg M6 5), .int (mg M6 6), .ref (a6 7), .ref (a6 8), .ref (a6 9)])), (a6 7, .inl (cI, 2, .inl (ma M6 7))), (a6 8, .inl (cI, 2, .inl (ma M6 8))), (a6 9, .inl (cI, 2, .inl (ma M6 9))), (a0 8, .inr (0, [.ref (a7 0), .ref (a7 1), .ref (a7 2), .ref (a7 3), .int (mg M7 4), va_rf o7, .int (mg M7 6), .int (mg M7 7), .int (mg M7 8), .int (mg M7 9), .int (mg M7 10)])), (a7 0, .inl (cJ, 15, .inr (.inl (ml M7 0)))), (a7 1, .inl (cJ, 800, .inr (.inl (ml M7 1)))), (a7 2, .inl (cI, 4, .inl (ma M7 2))), (a7 3, .inl (cJ, 4, .inr (.inl (ml M7 3)))), (a0 9, .inr (5, [.ref (a8 0), .ref (a8 1), va_rf o8, .int (mg M8 3)])), (a8 0, .inl (cI, 2048, .inl (ma M8 0))), (a8 1, .inl (cI, 2048, .inl (ma M8 1))), (a0 10, .inr (3, [.int (mg M9 0), .int (mg M9 1), .int (mg M9 2), .int (mg M9 3), .int (mg M9 4)]))]) (w1 := (e0W cB cI cJ cZ  )) hP hD [] [0, 1, 2, 3, 4, 5, 6, 7, 8, 9, 10, 11, 12, 13, 14, 15, 16, 17, 18, 19, 20, 21, 22, 23, 24, 25, 26, 27, 28, 29, 30, 31, 32, 33] rfl rfl (by decide) (by decide) hk1 hFc hP1 hD1
      have hP := hP.sub (ws' := (lwW cB cI cJ cZ h0 a0 a1 a2 a3 a4 a5 a6 a7 o7 a8 o8 a9 M0 M1 M2 M3 M4 M5 M6 M7 M8 M9)) [0, 1, 2, 3, 4, 5, 6, 7, 8, 9, 10, 11, 12, 13, 14, 15, 16, 17, 18, 19, 20, 21, 22, 23, 24, 25, 26, 27, 28, 29, 30, 31, 32, 33] rfl
      have hD := hD.sub (ws' := (lwW cB cI cJ cZ h0 a0 a1 a2 a3 a4 a5 a6 a7 o7 a8 o8 a9 M0 M1 M2 M3 M4 M5 M6 M7 M8 M9)) [0, 1, 2, 3, 4, 5, 6, 7, 8, 9, 10, 11, 12, 13, 14, 15, 16, 17, 18, 19, 20, 21, 22, 23, 24, 25, 26, 27, 28, 29, 30, 31, 32, 33] (by decide) rfl
      generalize H1 = H at hP hS ⊢
      obtain ⟨b6, rfl, h⟩ := hw
      try dsimp only at h
      exact W.zret (v := (bI b6)) hx hb hr (nar_bI b6) (fun t ht hW => ⟨⟨_, (M0, M1, M2, M3, M4, M5, M6, M7, M8, M9), rfl, ⟨b6, rfl, h⟩, o7, o8, by rw [ht]; exact hP, va_K.moved hW.alike hK, hD⟩, hS.F ht⟩) hS.2.2 dX11_hasWith_22
  have hl := lv_entry ([.ref h0, .long p1, .int p2, .int p3, .int p4]) (n := 6) (Nat.le_of_ble_eq_true rfl)
  rw [lg_entry_eq]
  generalize (lg_sl ([.ref h0, .long p1, .int p2, .int p3, .int p4]) ++ List.replicate (6 - (lg_sl ([.ref h0, .long p1, .int p2, .int p3, .int p4])).length) Slot.unset).toArray = ls at hl ⊢
  have hl : lv_has ls 6 [(0, .ref h0), (1, .long p1), (3, .int p2), (4, .int p3), (5, .int p4)] := hl
  exact bE M0 M1 M2 M3 M4 M5 M6 M7 M8 M9 s.heap [] ls hP hD hS hl h
def wX11_enough_69  (Q : Int32 → gS → gS → gS → gS → gS → gS → gS → gS → gS → gS → Prop) : Nat → Int32 → Int32 → Int64 → Int32 → gS → gS → gS → gS → gS → gS → gS → gS → gS → gS → Prop
 | 0, _, _, _, _, _, _, _, _, _, _, _, _, _, _ => False
 | n + 1, y1, y3, y4, y6, M0, M1, M2, M3, M4, M5, M6, M7, M8, M9 => (((7 : Int32) < y6 → (Q (-1 : Int32) M0 M1 M2 M3 M4 M5 M6 M7 M8 M9))
 ∧ (¬ (7 : Int32) < y6 → (wX11_hasWith y4 y1 y6 y3 M0 M1 M2 M3 M4 M5 M6 M7 M8 M9 (fun (b15 : Bool) (N3 : gS) (N4 : gS) (N5 : gS) (N6 : gS) (N7 : gS) (N8 : gS) (N9 : gS) (N10 : gS) (N11 : gS) (N12 : gS) => (((bI b15) = 0 → (∀ x17 : Int32, x17 = y6 + (1 : Int32) → (wX11_enough_69  Q n y1 y3 y4 x17 N3 N4 N5 N6 N7 N8 N9 N10 N11 N12)))
 ∧ (¬ (bI b15) = 0 → (Q y6 N3 N4 N5 N6 N7 N8 N9 N10 N11 N12)))))))
def wX11_enough (p1 : Int32) (M0 : gS) (M1 : gS) (M2 : gS) (M3 : gS) (M4 : gS) (M5 : gS) (M6 : gS) (M7 : gS) (M8 : gS) (M9 : gS) (Q : Int32 → gS → gS → gS → gS → gS → gS → gS → gS → gS → gS → Prop) : Prop :=
 (wX11_isSide p1  (fun (b2 : Bool)  => (((bI b2) = 0 → (Q (-2 : Int32) M0 M1 M2 M3 M4 M5 M6 M7 M8 M9))
 ∧ (¬ (bI b2) = 0 → (((mg M3 0) = 0 → (Q (-2 : Int32) M0 M1 M2 M3 M4 M5 M6 M7 M8 M9))
 ∧ (¬ (mg M3 0) = 0 → (vp_in ((1 : Int32) - p1) 2 ∧ (∀ x5 : Int32, x5 = (ma M3 7 (Int32.toNatClampNeg ((1 : Int32) - p1))) → (wX6_lasts  M3 (fun (r6 : Int32) (N7 : gS) => (wX0_winners (mg M3 1) (mg M3 2) r6 (x5 + (7 : Int32)) M7 M2 (fun (r8 : Int64) (N9 : gS) (N10 : gS) => (∃ k69 : Nat, wX11_enough_69  Q k69 p1 x5 r8 (0 : Int32) M0 M1 N10 N7 M4 M5 M6 N9 M8 M9)))))))))))))
def rmX11_enough : Room := { frames := 4, cells := 0, slots := 0, locals := 102 }
set_option maxHeartbeats 4000000 in
set_option maxRecDepth 100000 in
theorem kX11_enough (l : Launch) (dC : Nat → ClassId) (dI : Nat → Nat → Nat) (cB cI cJ cZ : ClassId) (h0 : Nat) (a0 : Nat → Nat) (a1 : Nat → Nat) (a2 : Nat → Nat) (a3 : Nat → Nat) (a4 : Nat → Nat) (a5 : Nat → Nat) (a6 : Nat → Nat) (a7 : Nat → Nat) (o7 : Option Nat) (a8 : Nat → Nat) (o8 : Option Nat) (a9 : Nat → Nat) (sz : Nat) (p1 : Int32) (M0 : gS) (M1 : gS) (M2 : gS) (M3 : gS) (M4 : gS) (M5 : gS) (M6 : gS) (M7 : gS) (M8 : gS) (M9 : gS) (Q : Int32 → gS → gS → gS → gS → gS → gS → gS → gS → gS → gS → Prop) (h : wX11_enough p1 M0 M1 M2 M3 M4 M5 M6 M7 M8 M9 Q) : Met l yX11_enough wsX11_enough rmX11_enough (va_Pc [.ref h0, .int p1] (lwI dC dI cB cI cJ cZ h0 a0 a1 a2 a3 a4 a5 a6 a7 o7 a8 o8 a9 M0 M1 M2 M3 M4 M5 M6 M7 M8 M9 sz)) (va_Qi (fun (r : Int32) (u : gS × gS × gS × gS × gS × gS × gS × gS × gS × gS) => Q r u.1 u.2.1 u.2.2.1 u.2.2.2.1 u.2.2.2.2.1 u.2.2.2.2.2.1 u.2.2.2.2.2.2.1 u.2.2.2.2.2.2.2.1 u.2.2.2.2.2.2.2.2.1 u.2.2.2.2.2.2.2.2.2) (lwB dC dI cB cI cJ cZ h0 a0 a1 a2 a3 a4 a5 a6 a7 a8 a9 (va_A (lwW cB cI cJ cZ h0 a0 a1 a2 a3 a4 a5 a6 a7 o7 a8 o8 a9 M0 M1 M2 M3 M4 M5 M6 M7 M8 M9) sz)) (va_A (lwW cB cI cJ cZ h0 a0 a1 a2 a3 a4 a5 a6 a7 o7 a8 o8 a9 M0 M1 M2 M3 M4 M5 M6 M7 M8 M9) sz)) 0 0 (va_A (lwW cB cI cJ cZ h0 a0 a1 a2 a3 a4 a5 a6 a7 o7 a8 o8 a9 M0 M1 M2 M3 M4 M5 M6 M7 M8 M9) sz) := by
  refine Met.ofW (cc := cX11_enough) (maxL := 7) (ret := (some .int)) (by decide) rfl ?_
  intro p e s m args below meth c s₁ B hml hv
  obtain ⟨rfl, hsz, hP, hK, hD0⟩ := hv
  have hx := B.exec
  have hb := B.bytes
  have hr := B.returns
  have hts := atoms_spec (ws := wsX11_enough) B.pre
  have hown : s.vm.findClass RX11 = some m.cls := findClass_of_methodNamed B.named
  have hlocks := B.notSynchronized
  subst hsz
  have hD := hD0.self (sz := s.heap.size)
  generalize hAe : va_A (lwW cB cI cJ cZ h0 a0 a1 a2 a3 a4 a5 a6 a7 o7 a8 o8 a9 M0 M1 M2 M3 M4 M5 M6 M7 M8 M9) s.heap.size = A at hD ⊢
  have hA : ∀ q : Nat, s.heap.size ≤ q → A q := fun q h => by rw [← hAe]; exact Or.inr h
  have hS : va_S A s.heap s.heap [] := va_S.rf
  have hinX10 : ∀ w ∈ wsX100, w ∈ wsX11_enough := by decide +kernel
  have hinX11 : ∀ w ∈ wsX110, w ∈ wsX11_enough := by decide +kernel
  have hinX6 : ∀ w ∈ wsX60, w ∈ wsX11_enough := by decide +kernel
  have f1 := hts (.fieldLink RX11 22 "LastWords" "now" "LLastWords$State;") (by decide +kernel)
  have f2 := hts (.fieldLink RX11 118 "LastWords$State" "quarrel" "LLastWords$Quarrel;") (by decide +kernel)
  have f3 := hts (.fieldLink RX11 149 "LastWords$Quarrel" "goesOn" "Z") (by decide +kernel)
  have f4 := hts (.fieldLink RX11 183 "LastWords$Quarrel" "purse" "[I") (by decide +kernel)
  have f5 := hts (.fieldLink RX11 47 "LastWords" "bestPlay" "LLastWords$BestPlay;") (by decide +kernel)
  have f6 := hts (.fieldLink RX11 108 "LastWords$State" "corner" "LLastWords$Corner;") (by decide +kernel)
  have f7 := hts (.fieldLink RX11 201 "LastWords$Quarrel" "verse" "I") (by decide +kernel)
  have f8 := hts (.fieldLink RX11 128 "LastWords$Quarrel" "left" "I") (by decide +kernel)
  have b69 : ∀ (n : Nat) (y1 : Int32) (y3 : Int32) (y4 : Int64) (y6 : Int32) (o7 o8 : Option Nat) (M0 : gS) (M1 : gS) (M2 : gS) (M3 : gS) (M4 : gS) (M5 : gS) (M6 : gS) (M7 : gS) (M8 : gS) (M9 : gS) (H : Heap) (locs : List Loc) (ls : Array Slot), va_P (dC, dI) vwCl (lwW cB cI cJ cZ h0 a0 a1 a2 a3 a4 a5 a6 a7 o7 a8 o8 a9 M0 M1 M2 M3 M4 M5 M6 M7 M8 M9) H → va_D A (lwW cB cI cJ cZ h0 a0 a1 a2 a3 a4 a5 a6 a7 o7 a8 o8 a9 M0 M1 M2 M3 M4 M5 M6 M7 M8 M9) → va_S A s.heap H locs → lv_has ls 7 [(0, .ref h0), (1, .int y1), (3, .int y3), (4, .long y4), (6, .int y6)] → wX11_enough_69  Q n y1 y3 y4 y6 M0 M1 M2 M3 M4 M5 M6 M7 M8 M9 → W p l e (headSpec wsX11_enough rmX11_enough).room s m ([.ref h0, .int p1] : List Value).toArray below meth c H locs 0 0 (MQ below (va_Qi (fun (r : Int32) (u : gS × gS × gS × gS × gS × gS × gS × gS × gS × gS) => Q r u.1 u.2.1 u.2.2.1 u.2.2.2.1 u.2.2.2.2.1 u.2.2.2.2.2.1 u.2.2.2.2.2.2.1 u.2.2.2.2.2.2.2.1 u.2.2.2.2.2.2.2.2.1 u.2.2.2.2.2.2.2.2.2) (lwB dC dI cB cI cJ cZ h0 a0 a1 a2 a3 a4 a5 a6 a7 a8 a9 A) A) ([.ref h0, .int p1] : List Value).toArray s 0 0 A) (F0 m 69 ls []) := by
    intro  n
    induction n with
    | zero => intro y1 y3 y4 y6 o7 o8  M0 M1 M2 M3 M4 M5 M6 M7 M8 M9 H locs ls hP hD hS hl h; exact absurd h (by simp [wX11_enough_69])
    | succ n hB690 =>
      intro y1 y3 y4 y6 o7 o8  M0 M1 M2 M3 M4 M5 M6 M7 M8 M9 H locs ls hP hD hS hl h
      have hB69 := hB690
      rw [wX11_enough_69] at h
      refine lv_iload hx hb dX11_enough_69 (lv_at hl 4 rfl) ?_
      refine lv_bipush (v := (7)) hx hb dX11_enough_71 (by decide) ?_
      refine lv_icmp_gt (tgt := 98) hx hb dX11_enough_73 (by decide) (fun c1 => ?_) (fun c1 => ?_)
      · have h := h.1 c1
        refine lv_iconst (v := (-1)) hx hb dX11_enough_98 (by decide) ?_
        exact W.iret (v := (-1 : Int32)) hx hb hr (fun t ht hW => ⟨⟨_, (M0, M1, M2, M3, M4, M5, M6, M7, M8, M9), rfl, h, o7, o8, by rw [ht]; exact hP, va_K.moved hW.alike hK, hD⟩, hS.F ht⟩) hS.2.2 dX11_enough_99
      · have h := h.2 c1
        refine lv_aload_n hx hb dX11_enough_76 rfl (lv_at hl 0 rfl) ?_
        refine lv_lload hx hb dX11_enough_77 (lv_at hl 3 rfl) ?_
        refine lv_iload_n hx hb dX11_enough_79 rfl (lv_at hl 1 rfl) ?_
        refine lv_iload hx hb dX11_enough_80 (lv_at hl 4 rfl) ?_
        refine lv_iload_n hx hb dX11_enough_82 rfl (lv_at hl 2 rfl) ?_
        have hFc := gs_free hD hS hA
        refine va_calli (va_runV (As := [.long y4, .int y1, .int y6, .int y3]) (rest := []) ⟨hx, hb, hml, hown, hts⟩ (kX11_hasWith l dC dI cB cI cJ cZ h0 a0 a1 a2 a3 a4 a5 a6 a7 o7 a8 o8 a9 H.size y4 y1 y6 y3 M0 M1 M2 M3 M4 M5 M6 M7 M8 M9 _ h) (cwV 4 hts gX11_enough_X11_hasWith rfl rfl rfl (by decide +kernel) ⟨Nat.le_of_ble_eq_true rfl, Nat.le_of_ble_eq_true rfl⟩) (lwpV hK hP hD) rfl rfl hl.1 rfl (lv_room (Nat.le_of_ble_eq_true rfl)) dX11_enough_83 ⟨Nat.le_of_ble_eq_true rfl, Nat.le_of_ble_eq_true rfl⟩) hS (fun q _ z => hFc q z) hFc (fun r2 u t H1 locs ht hvm hw hB hz1 hk1 hS => ?_)
        obtain ⟨N3, N4, N5, N6, N7, N8, N9, N10, N11, N12⟩ := u
        obtain ⟨v13, v14, hP, hK1, hD1⟩ := hB
        rw [ht] at hP
        have hD := hD1.weaken (fun _ _ _ z => hFc _ z)
        generalize H1 = H at hP hS ⊢
        obtain ⟨b15, rfl, h⟩ := hw
        try dsimp only at h
        refine lv_if_eq (tgt := 92) hx hb dX11_enough_86 (by decide) (fun c16 => ?_) (fun c16 => ?_)
        · have h := h.1 c16
          obtain ⟨x17, ex17⟩ : ∃ y : Int32, y = y6 + (1 : Int32) := ⟨_, rfl⟩
          have h := h x17 ex17
          refine lv_iinc (v := x17) (lv' := [(6, .int x17), (0, .ref h0), (1, .int y1), (3, .int y3), (4, .long y4)]) hx hb dX11_enough_92 hl (k := 4) rfl (by rw [ex17]; rfl) (by decide) rfl (fun ls hl => ?_)
          refine lv_goto (tgt := 69) hx hb dX11_enough_95 (by decide) ?_
          exact hB69 y1 y3 y4 x17 v13 v14 N3 N4 N5 N6 N7 N8 N9 N10 N11 N12 H locs ls hP hD hS (lv_sub hl [1, 2, 3, 4, 0] rfl) h
        · have h := h.2 c16
          refine lv_iload hx hb dX11_enough_89 (lv_at hl 4 rfl) ?_
          exact W.iret (v := y6) hx hb hr (fun t ht hW => ⟨⟨_, (N3, N4, N5, N6, N7, N8, N9, N10, N11, N12), rfl, h, v13, v14, by rw [ht]; exact hP, va_K.moved hW.alike hK, hD⟩, hS.F ht⟩) hS.2.2 dX11_enough_91
  have bE : ∀ (M0 : gS) (M1 : gS) (M2 : gS) (M3 : gS) (M4 : gS) (M5 : gS) (M6 : gS) (M7 : gS) (M8 : gS) (M9 : gS) (H : Heap) (locs : List Loc) (ls : Array Slot), va_P (dC, dI) vwCl (lwW cB cI cJ cZ h0 a0 a1 a2 a3 a4 a5 a6 a7 o7 a8 o8 a9 M0 M1 M2 M3 M4 M5 M6 M7 M8 M9) H → va_D A (lwW cB cI cJ cZ h0 a0 a1 a2 a3 a4 a5 a6 a7 o7 a8 o8 a9 M0 M1 M2 M3 M4 M5 M6 M7 M8 M9) → va_S A s.heap H locs → lv_has ls 7 [(0, .ref h0), (1, .int p1)] → wX11_enough p1 M0 M1 M2 M3 M4 M5 M6 M7 M8 M9 Q → W p l e (headSpec wsX11_enough rmX11_enough).room s m ([.ref h0, .int p1] : List Value).toArray below meth c H locs 0 0 (MQ below (va_Qi (fun (r : Int32) (u : gS × gS × gS × gS × gS × gS × gS × gS × gS × gS) => Q r u.1 u.2.1 u.2.2.1 u.2.2.2.1 u.2.2.2.2.1 u.2.2.2.2.2.1 u.2.2.2.2.2.2.1 u.2.2.2.2.2.2.2.1 u.2.2.2.2.2.2.2.2.1 u.2.2.2.2.2.2.2.2.2) (lwB dC dI cB cI cJ cZ h0 a0 a1 a2 a3 a4 a5 a6 a7 a8 a9 A) A) ([.ref h0, .int p1] : List Value).toArray s 0 0 A) (F0 m 0 ls []) := by
    intro M0 M1 M2 M3 M4 M5 M6 M7 M8 M9 H locs ls hP hD hS hl h
    unfold wX11_enough at h
    refine lv_aload_n hx hb dX11_enough_0 rfl (lv_at hl 0 rfl) ?_
    refine va_get (D := (dC, dI)) (ci := 11) (v := .ref (a0 4)) (C := RX11) (T := TX11) (N := 12) hx hb hts hinX11 hown hK hP 0 rfl rfl 4 (by decide) f1 (fun _ h9 => h9) rfl dX11_enough_1 ?_
    refine va_get (D := (dC, dI)) (ci := 10) (v := .ref (a1 1)) (C := RX10) (T := TX10) (N := 5) hx hb hts hinX10 hown hK hP 3 rfl rfl 1 (by decide) f2 (fun _ h9 => h9) rfl dX11_enough_4 ?_
    refine lv_astore_n (lv' := [(2, .ref (a1 1)), (0, .ref h0), (1, .int p1)]) hx hb dX11_enough_7 rfl hl (by decide) rfl (fun ls hl => ?_)
    refine lv_iload_n hx hb dX11_enough_8 rfl (lv_at hl 2 rfl) ?_
    have hPc := hP.sub (ws' := (e0W cB cI cJ cZ  )) [] rfl
    have hDc := hD.sub (ws' := (e0W cB cI cJ cZ  )) [] (by decide) rfl
    have hFc := va_free (wc := (e0W cB cI cJ cZ  )) hD hS hA [] rfl
    refine va_calli (va_runS (As := [.int p1]) (rest := []) ⟨hx, hb, hml, hown, hts⟩ (kX11_isSide l dC dI cB cI cJ cZ  H.size p1  _ h) (cwS 1 hts gX11_enough_X11_isSide rfl rfl rfl (by decide +kernel) ⟨Nat.le_of_ble_eq_true rfl, Nat.le_of_ble_eq_true rfl⟩) (e0pS hK hPc hDc) rfl rfl hl.1 rfl (lv_room (Nat.le_of_ble_eq_true rfl)) dX11_enough_9 ⟨Nat.le_of_ble_eq_true rfl, Nat.le_of_ble_eq_true rfl⟩) hS (fun q _ z => hFc q z) hFc (fun r1 u t H1 locs ht hvm hw hB hz1 hk1 hS => ?_)
    obtain ⟨hP1, hK1, hD1⟩ := hB
    rw [ht] at hP1
    obtain ⟨hP, hD⟩ := va_join (wr := [(h0, .inr (11, [.ref (a0 0), .int (mg M0 1), .ref (a0 2), .int (mg M0 3), .ref (a0 4), .ref (a0 5), .ref (a0 6), .ref (a0 7), .ref (a0 8), .ref (a0 9), .ref (a0 10), .ref (a0 11)])), (a0 0, .inl (cI, 400, .inl (ma M0 0))), (a0 11, .inl (cJ, 4, .inr (.inl (ml M0 11)))), (a0 4, .inr (10, [.ref (a1 0), .ref (a1 1), .ref (a1 2), .ref (a1 3), .int (mg M1 4)])), (a1 3, .inl (cI, 2, .inl (ma M1 3))), (a1 0, .inr (1, [.int (mg M2 0), .ref (a2 1), .int (mg M2 2), .ref (a2 3), .int (mg M2 4), .ref (a2 5)])), (a2 1, .inl (cI, 4, .inl (ma M2 1))), (a2 3, .inl (cI, 4, .inl (ma M2 3))), (a2 5, .inl (cI, 2, .inl (ma M2 5))), (a1 1, .inr (6, [.int (mg M3 0), .int (mg M3 1), .int (mg M3 2), .int (mg M3 3), .int (mg M3 4), .int (mg M3 5), .int (mg M3 6), .ref (a3 7), .ref (a3 8), .ref (a3 9)])), (a3 7, .inl (cI, 2, .inl (ma M3 7))), (a3 8, .inl (cI, 2, .inl (ma M3 8))), (a3 9, .inl (cI, 2, .inl (ma M3 9))), (a1 2, .inr (4, [.int (mg M4 0), .ref (a4 1), .ref (a4 2), .ref (a4 3)])), (a4 1, .inl (cI, 6, .inl (ma M4 1))), (a4 2, .inl (cI, 6, .inl (ma M4 2))), (a4 3, .inl (cI, 6, .inl (ma M4 3))), (a0 6, .inr (1, [.int (mg M5 0), .ref (a5 1), .int (mg M5 2), .ref (a5 3), .int (mg M5 4), .ref (a5 5)])), (a5 1, .inl (cI, 4, .inl (ma M5 1))), (a5 3, .inl (cI, 4, .inl (ma M5 3))), (a5 5, .inl (cI, 2, .inl (ma M5 5))), (a0 7, .inr (6, [.int (mg M6 0), .int (mg M6 1), .int (mg M6 2), .int (mg M6 3), .int (mg M6 4), .int (mg M6 5), .int (mg M6 6), .ref (a6 7), .ref (a6 8), .ref (a6 9)])), (a6 7, .inl (cI, 2, .inl (ma M6 7))), (a6 8, .inl (cI, 2, .inl (ma M6 8))), (a6 9, .inl (cI, 2, .inl (ma M6 9))), (a0 8, .inr (0, [.ref (a7 0), .ref (a7 1), .ref (a7 2), .ref (a7 3), .int (mg M7 4), va_rf o7, .int (mg M7 6), .int (mg M7 7), .int (mg M7 8), .int (mg M7 9), .int (mg M7 10)])), (a7 0, .inl (cJ, 15, .inr (.inl (ml M7 0)))), (a7 1, .inl (cJ, 800, .inr (.inl (ml M7 1)))), (a7 2, .inl (cI, 4, .inl (ma M7 2))), (a7 3, .inl (cJ, 4, .inr (.inl (ml M7 3)))), (a0 9, .inr (5, [.ref (a8 0), .ref (a8 1), va_rf o8, .int (mg M8 3)])), (a8 0, .inl (cI, 2048, .inl (ma M8 0))), (a8 1, .inl (cI, 2048, .inl (ma M8 1))), (a0 10, .inr (3, [.int (mg M9 0), .int (mg M9 1), .int (mg M9 2), .int (mg M9 3), .int (mg M9 4)]))]) (w1 := (e0W cB cI cJ cZ  )) hP hD [] [0, 1, 2, 3, 4, 5, 6, 7, 8, 9, 10, 11, 12, 13, 14, 15, 16, 17, 18, 19, 20, 21, 22, 23, 24, 25, 26, 27, 28, 29, 30, 31, 32, 33] rfl rfl (by decide) (by decide) hk1 hFc hP1 hD1
    have hP := hP.sub (ws' := (lwW cB cI cJ cZ h0 a0 a1 a2 a3 a4 a5 a6 a7 o7 a8 o8 a9 M0 M1 M2 M3 M4 M5 M6 M7 M8 M9)) [0, 1, 2, 3, 4, 5, 6, 7, 8, 9, 10, 11, 12, 13, 14, 15, 16, 17, 18, 19, 20, 21, 22, 23, 24, 25, 26, 27, 28, 29, 30, 31, 32, 33] rfl
    have hD := hD.sub (ws' := (lwW cB cI cJ cZ h0 a0 a1 a2 a3 a4 a5 a6 a7 o7 a8 o8 a9 M0 M1 M2 M3 M4 M5 M6 M7 M8 M9)) [0, 1, 2, 3, 4, 5, 6, 7, 8, 9, 10, 11, 12, 13, 14, 15, 16, 17, 18, 19, 20, 21, 22, 23, 24, 25, 26, 27, 28, 29, 30, 31, 32, 33] (by decide) rfl
    generalize H1 = H at hP hS ⊢
    obtain ⟨b2, rfl, h⟩ := hw
    try dsimp only at h
    refine lv_if_eq (tgt := 22) hx hb dX11_enough_12 (by decide) (fun c3 => ?_) (fun c3 => ?_)
    · have h := h.1 c3
      refine lv_bipush (v := (-2)) hx hb dX11_enough_22 (by decide) ?_
      exact W.iret (v := (-2 : Int32)) hx hb hr (fun t ht hW => ⟨⟨_, (M0, M1, M2, M3, M4, M5, M6, M7, M8, M9), rfl, h, o7, o8, by rw [ht]; exact hP, va_K.moved hW.alike hK, hD⟩, hS.F ht⟩) hS.2.2 dX11_enough_24
    · have h := h.2 c3
      refine lv_aload_n hx hb dX11_enough_15 rfl (lv_at hl 0 rfl) ?_
      refine va_get (D := (dC, dI)) (ci := 6) (v := .int (mg M3 0)) (C := RX6) (T := TX6) (N := 10) hx hb hts hinX6 hown hK hP 9 rfl rfl 0 (by decide) f3 (fun _ h9 => h9) rfl dX11_enough_16 ?_
      refine lv_if_ne (tgt := 25) hx hb dX11_enough_19 (by decide) (fun c4 => ?_) (fun c4 => ?_)
      · have h := h.2 c4
        refine lv_aload_n hx hb dX11_enough_25 rfl (lv_at hl 0 rfl) ?_
        refine va_get (D := (dC, dI)) (ci := 6) (v := .ref (a3 7)) (C := RX6) (T := TX6) (N := 10) hx hb hts hinX6 hown hK hP 9 rfl rfl 7 (by decide) f4 (fun _ h9 => h9) rfl dX11_enough_26 ?_
        refine lv_iconst (v := 1) hx hb dX11_enough_29 (by decide) ?_
        refine lv_iload_n hx hb dX11_enough_30 rfl (lv_at hl 2 rfl) ?_
        refine lv_isub hx hb dX11_enough_31 ?_
        refine va_iald hx hb hK hP 10 1 (f := ma M3 7) rfl rfl h.1 dX11_enough_32 ?_
        have h := h.2
        refine lv_topi (fun x5 ex5 => ?_)
        have h := h x5 ex5
        refine lv_istore_n (lv' := [(3, .int x5), (2, .ref (a1 1)), (0, .ref h0), (1, .int p1)]) hx hb dX11_enough_33 rfl hl (by decide) rfl (fun ls hl => ?_)
        refine lv_aload_n hx hb dX11_enough_34 rfl (lv_at hl 2 rfl) ?_
        refine va_get (D := (dC, dI)) (ci := 11) (v := .ref (a0 8)) (C := RX11) (T := TX11) (N := 12) hx hb hts hinX11 hown hK hP 0 rfl rfl 8 (by decide) f5 (fun _ h9 => h9) rfl dX11_enough_35 ?_
        refine lv_aload_n hx hb dX11_enough_38 rfl (lv_at hl 2 rfl) ?_
        refine va_get (D := (dC, dI)) (ci := 11) (v := .ref (a0 4)) (C := RX11) (T := TX11) (N := 12) hx hb hts hinX11 hown hK hP 0 rfl rfl 4 (by decide) f1 (fun _ h9 => h9) rfl dX11_enough_39 ?_
        refine va_get (D := (dC, dI)) (ci := 10) (v := .ref (a1 0)) (C := RX10) (T := TX10) (N := 5) hx hb hts hinX10 hown hK hP 3 rfl rfl 0 (by decide) f6 (fun _ h9 => h9) rfl dX11_enough_42 ?_
        refine lv_aload_n hx hb dX11_enough_45 rfl (lv_at hl 1 rfl) ?_
        refine va_get (D := (dC, dI)) (ci := 6) (v := .int (mg M3 1)) (C := RX6) (T := TX6) (N := 10) hx hb hts hinX6 hown hK hP 9 rfl rfl 1 (by decide) f7 (fun _ h9 => h9) rfl dX11_enough_46 ?_
        refine lv_aload_n hx hb dX11_enough_49 rfl (lv_at hl 1 rfl) ?_
        refine va_get (D := (dC, dI)) (ci := 6) (v := .int (mg M3 2)) (C := RX6) (T := TX6) (N := 10) hx hb hts hinX6 hown hK hP 9 rfl rfl 2 (by decide) f8 (fun _ h9 => h9) rfl dX11_enough_50 ?_
        refine lv_aload_n hx hb dX11_enough_53 rfl (lv_at hl 1 rfl) ?_
        have hPc := hP.sub (ws' := (qrW cB cI cJ cZ (a1 1) a3 M3)) [9, 10, 11, 12] rfl
        have hDc := hD.sub (ws' := (qrW cB cI cJ cZ (a1 1) a3 M3)) [9, 10, 11, 12] (by decide) rfl
        have hFc := va_free (wc := (qrW cB cI cJ cZ (a1 1) a3 M3)) hD hS hA [9, 10, 11, 12] rfl
        refine va_calli (va_runV (As := []) (rest := [.int (mg M3 2), .int (mg M3 1), .ref (a1 0), .ref (a0 8)]) ⟨hx, hb, hml, hown, hts⟩ (kX6_lasts l dC dI cB cI cJ cZ (a1 1) a3 H.size  M3 _ h) (cwV 0 hts gX11_enough_X6_lasts rfl rfl rfl (by decide +kernel) ⟨Nat.le_of_ble_eq_true rfl, Nat.le_of_ble_eq_true rfl⟩) (qrpV hK hPc hDc) rfl rfl hl.1 rfl (lv_room (Nat.le_of_ble_eq_true rfl)) dX11_enough_54 ⟨Nat.le_of_ble_eq_true rfl, Nat.le_of_ble_eq_true rfl⟩) hS (fun q _ z => hFc q z) hFc (fun r6 u t H1 locs ht hvm hw hB hz1 hk1 hS => ?_)
        obtain ⟨N7, rfl⟩ : ∃ z, z = u := ⟨_, rfl⟩
        obtain ⟨hP1, hK1, hD1⟩ := hB
        rw [ht] at hP1
        obtain ⟨hP, hD⟩ := va_join (wr := [(h0, .inr (11, [.ref (a0 0), .int (mg M0 1), .ref (a0 2), .int (mg M0 3), .ref (a0 4), .ref (a0 5), .ref (a0 6), .ref (a0 7), .ref (a0 8), .ref (a0 9), .ref (a0 10), .ref (a0 11)])), (a0 0, .inl (cI, 400, .inl (ma M0 0))), (a0 11, .inl (cJ, 4, .inr (.inl (ml M0 11)))), (a0 4, .inr (10, [.ref (a1 0), .ref (a1 1), .ref (a1 2), .ref (a1 3), .int (mg M1 4)])), (a1 3, .inl (cI, 2, .inl (ma M1 3))), (a1 0, .inr (1, [.int (mg M2 0), .ref (a2 1), .int (mg M2 2), .ref (a2 3), .int (mg M2 4), .ref (a2 5)])), (a2 1, .inl (cI, 4, .inl (ma M2 1))), (a2 3, .inl (cI, 4, .inl (ma M2 3))), (a2 5, .inl (cI, 2, .inl (ma M2 5))), (a1 2, .inr (4, [.int (mg M4 0), .ref (a4 1), .ref (a4 2), .ref (a4 3)])), (a4 1, .inl (cI, 6, .inl (ma M4 1))), (a4 2, .inl (cI, 6, .inl (ma M4 2))), (a4 3, .inl (cI, 6, .inl (ma M4 3))), (a0 6, .inr (1, [.int (mg M5 0), .ref (a5 1), .int (mg M5 2), .ref (a5 3), .int (mg M5 4), .ref (a5 5)])), (a5 1, .inl (cI, 4, .inl (ma M5 1))), (a5 3, .inl (cI, 4, .inl (ma M5 3))), (a5 5, .inl (cI, 2, .inl (ma M5 5))), (a0 7, .inr (6, [.int (mg M6 0), .int (mg M6 1), .int (mg M6 2), .int (mg M6 3), .int (mg M6 4), .int (mg M6 5), .int (mg M6 6), .ref (a6 7), .ref (a6 8), .ref (a6 9)])), (a6 7, .inl (cI, 2, .inl (ma M6 7))), (a6 8, .inl (cI, 2, .inl (ma M6 8))), (a6 9, .inl (cI, 2, .inl (ma M6 9))), (a0 8, .inr (0, [.ref (a7 0), .ref (a7 1), .ref (a7 2), .ref (a7 3), .int (mg M7 4), va_rf o7, .int (mg M7 6), .int (mg M7 7), .int (mg M7 8), .int (mg M7 9), .int (mg M7 10)])), (a7 0, .inl (cJ, 15, .inr (.inl (ml M7 0)))), (a7 1, .inl (cJ, 800, .inr (.inl (ml M7 1)))), (a7 2, .inl (cI, 4, .inl (ma M7 2))), (a7 3, .inl (cJ, 4, .inr (.inl (ml M7 3)))), (a0 9, .inr (5, [.ref (a8 0), .ref (a8 1), va_rf o8, .int (mg M8 3)])), (a8 0, .inl (cI, 2048, .inl (ma M8 0))), (a8 1, .inl (cI, 2048, .inl (ma M8 1))), (a0 10, .inr (3, [.int (mg M9 0), .int (mg M9 1), .int (mg M9 2), .int (mg M9 3), .int (mg M9 4)]))]) (w1 := (qrW cB cI cJ cZ (a1 1) a3 N7)) hP hD [9, 10, 11, 12] [0, 1, 2, 3, 4, 5, 6, 7, 8, 13, 14, 15, 16, 17, 18, 19, 20, 21, 22, 23, 24, 25, 26, 27, 28, 29, 30, 31, 32, 33] rfl rfl (by decide) (by decide) hk1 hFc hP1 hD1
        have hP := hP.sub (ws' := (lwW cB cI cJ cZ h0 a0 a1 a2 a3 a4 a5 a6 a7 o7 a8 o8 a9 M0 M1 M2 N7 M4 M5 M6 M7 M8 M9)) [0, 1, 2, 3, 4, 5, 6, 7, 8, 30, 31, 32, 33, 9, 10, 11, 12, 13, 14, 15, 16, 17, 18, 19, 20, 21, 22, 23, 24, 25, 26, 27, 28, 29] rfl
        have hD := hD.sub (ws' := (lwW cB cI cJ cZ h0 a0 a1 a2 a3 a4 a5 a6 a7 o7 a8 o8 a9 M0 M1 M2 N7 M4 M5 M6 M7 M8 M9)) [0, 1, 2, 3, 4, 5, 6, 7, 8, 30, 31, 32, 33, 9, 10, 11, 12, 13, 14, 15, 16, 17, 18, 19, 20, 21, 22, 23, 24, 25, 26, 27, 28, 29] (by decide) rfl
        generalize H1 = H at hP hS ⊢
        have h := hw
        try dsimp only at h
        refine lv_iload_n hx hb dX11_enough_57 rfl (lv_at hl 0 rfl) ?_
        refine lv_bipush (v := (7)) hx hb dX11_enough_58 (by decide) ?_
        refine lv_iadd hx hb dX11_enough_60 ?_
        have hPc := hP.sub (ws' := (boW cB cI cJ cZ (a0 8) a7 o7 (a1 0) a2 M7 M2)) [25, 26, 27, 28, 29, 5, 6, 7, 8] rfl
        have hDc := hD.sub (ws' := (boW cB cI cJ cZ (a0 8) a7 o7 (a1 0) a2 M7 M2)) [25, 26, 27, 28, 29, 5, 6, 7, 8] (by decide) rfl
        have hFc := va_free (wc := (boW cB cI cJ cZ (a0 8) a7 o7 (a1 0) a2 M7 M2)) hD hS hA [25, 26, 27, 28, 29, 5, 6, 7, 8] rfl
        refine va_calll (va_runV (As := [.ref (a1 0), .int (mg M3 1), .int (mg M3 2), .int r6, .int (x5 + (7 : Int32))]) (rest := []) ⟨hx, hb, hml, hown, hts⟩ (kX0_winners l dC dI cB cI cJ cZ (a0 8) a7 o7 (a1 0) a2 H.size (mg M3 1) (mg M3 2) r6 (x5 + (7 : Int32)) M7 M2 _ h) (cwV 5 hts gX11_enough_X0_winners rfl rfl rfl (by decide +kernel) ⟨Nat.le_of_ble_eq_true rfl, Nat.le_of_ble_eq_true rfl⟩) (bopV hK hPc hDc) rfl rfl hl.1 rfl (lv_room (Nat.le_of_ble_eq_true rfl)) dX11_enough_61 ⟨Nat.le_of_ble_eq_true rfl, Nat.le_of_ble_eq_true rfl⟩) hS (fun q _ z => hFc q z) hFc (fun r8 u t H1 locs ht hvm hw hB hz1 hk1 hS => ?_)
        obtain ⟨N9, N10⟩ := u
        obtain ⟨hP1, hK1, hD1⟩ := hB
        rw [ht] at hP1
        obtain ⟨hP, hD⟩ := va_join (wr := [(h0, .inr (11, [.ref (a0 0), .int (mg M0 1), .ref (a0 2), .int (mg M0 3), .ref (a0 4), .ref (a0 5), .ref (a0 6), .ref (a0 7), .ref (a0 8), .ref (a0 9), .ref (a0 10), .ref (a0 11)])), (a0 0, .inl (cI, 400, .inl (ma M0 0))), (a0 11, .inl (cJ, 4, .inr (.inl (ml M0 11)))), (a0 4, .inr (10, [.ref (a1 0), .ref (a1 1), .ref (a1 2), .ref (a1 3), .int (mg M1 4)])), (a1 3, .inl (cI, 2, .inl (ma M1 3))), (a1 1, .inr (6, [.int (mg N7 0), .int (mg N7 1), .int (mg N7 2), .int (mg N7 3), .int (mg N7 4), .int (mg N7 5), .int (mg N7 6), .ref (a3 7), .ref (a3 8), .ref (a3 9)])), (a3 7, .inl (cI, 2, .inl (ma N7 7))), (a3 8, .inl (cI, 2, .inl (ma N7 8))), (a3 9, .inl (cI, 2, .inl (ma N7 9))), (a1 2, .inr (4, [.int (mg M4 0), .ref (a4 1), .ref (a4 2), .ref (a4 3)])), (a4 1, .inl (cI, 6, .inl (ma M4 1))), (a4 2, .inl (cI, 6, .inl (ma M4 2))), (a4 3, .inl (cI, 6, .inl (ma M4 3))), (a0 6, .inr (1, [.int (mg M5 0), .ref (a5 1), .int (mg M5 2), .ref (a5 3), .int (mg M5 4), .ref (a5 5)])), (a5 1, .inl (cI, 4, .inl (ma M5 1))), (a5 3, .inl (cI, 4, .inl (ma M5 3))), (a5 5, .inl (cI, 2, .inl (ma M5 5))), (a0 7, .inr (6, [.int (mg M6 0), .int (mg M6 1), .int (mg M6 2), .int (mg M6 3), .int (mg M6 4), .int (mg M6 5), .int (mg M6 6), .ref (a6 7), .ref (a6 8), .ref (a6 9)])), (a6 7, .inl (cI, 2, .inl (ma M6 7))), (a6 8, .inl (cI, 2, .inl (ma M6 8))), (a6 9, .inl (cI, 2, .inl (ma M6 9))), (a0 9, .inr (5, [.ref (a8 0), .ref (a8 1), va_rf o8, .int (mg M8 3)])), (a8 0, .inl (cI, 2048, .inl (ma M8 0))), (a8 1, .inl (cI, 2048, .inl (ma M8 1))), (a0 10, .inr (3, [.int (mg M9 0), .int (mg M9 1), .int (mg M9 2), .int (mg M9 3), .int (mg M9 4)]))]) (w1 := (boW cB cI cJ cZ (a0 8) a7 (some (a1 0)) (a1 0) a2 N9 N10)) hP hD [25, 26, 27, 28, 29, 5, 6, 7, 8] [0, 1, 2, 3, 4, 9, 10, 11, 12, 13, 14, 15, 16, 17, 18, 19, 20, 21, 22, 23, 24, 30, 31, 32, 33] rfl rfl (by decide) (by decide) hk1 hFc hP1 hD1
        have hP := hP.sub (ws' := (lwW cB cI cJ cZ h0 a0 a1 a2 a3 a4 a5 a6 a7 (some (a1 0)) a8 o8 a9 M0 M1 N10 N7 M4 M5 M6 N9 M8 M9)) [0, 1, 2, 3, 4, 30, 31, 32, 33, 5, 6, 7, 8, 9, 10, 11, 12, 13, 14, 15, 16, 17, 18, 19, 20, 25, 26, 27, 28, 29, 21, 22, 23, 24] rfl
        have hD := hD.sub (ws' := (lwW cB cI cJ cZ h0 a0 a1 a2 a3 a4 a5 a6 a7 (some (a1 0)) a8 o8 a9 M0 M1 N10 N7 M4 M5 M6 N9 M8 M9)) [0, 1, 2, 3, 4, 30, 31, 32, 33, 5, 6, 7, 8, 9, 10, 11, 12, 13, 14, 15, 16, 17, 18, 19, 20, 25, 26, 27, 28, 29, 21, 22, 23, 24] (by decide) rfl
        generalize H1 = H at hP hS ⊢
        have h := hw
        try dsimp only at h
        refine lv_lstore (lv' := [(4, .long r8), (3, .int x5), (2, .ref (a1 1)), (0, .ref h0), (1, .int p1)]) hx hb dX11_enough_64 hl (by decide) rfl (fun ls hl => ?_)
        refine lv_iconst (v := 0) hx hb dX11_enough_66 (by decide) ?_
        refine lv_istore (lv' := [(6, .int (0 : Int32)), (4, .long r8), (3, .int x5), (2, .ref (a1 1)), (0, .ref h0), (1, .int p1)]) hx hb dX11_enough_67 hl (by decide) rfl (fun ls hl => ?_)
        obtain ⟨n9, h⟩ := h
        exact b69  n9 p1 x5 r8 (0 : Int32) (some (a1 0)) o8 M0 M1 N10 N7 M4 M5 M6 N9 M8 M9 H locs ls hP hD hS (lv_sub hl [4, 5, 2, 1, 0] rfl) h
      · have h := h.1 c4
        refine lv_bipush (v := (-2)) hx hb dX11_enough_22 (by decide) ?_
        exact W.iret (v := (-2 : Int32)) hx hb hr (fun t ht hW => ⟨⟨_, (M0, M1, M2, M3, M4, M5, M6, M7, M8, M9), rfl, h, o7, o8, by rw [ht]; exact hP, va_K.moved hW.alike hK, hD⟩, hS.F ht⟩) hS.2.2 dX11_enough_24
  have hl := lv_entry ([.ref h0, .int p1]) (n := 7) (Nat.le_of_ble_eq_true rfl)
  rw [lg_entry_eq]
  generalize (lg_sl ([.ref h0, .int p1]) ++ List.replicate (7 - (lg_sl ([.ref h0, .int p1])).length) Slot.unset).toArray = ls at hl ⊢
  have hl : lv_has ls 7 [(0, .ref h0), (1, .int p1)] := hl
  exact bE M0 M1 M2 M3 M4 M5 M6 M7 M8 M9 s.heap [] ls hP hD hS hl h
def wX11_hidden_144  (Q : Int32 → gS → gS → gS → gS → gS → gS → gS → gS → gS → gS → Prop) (y9 : Int32) (z0 : Int32) (M0 : gS) (M1 : gS) (M2 : gS) (M3 : gS) (M4 : gS) (M5 : gS) (M6 : gS) (M7 : gS) (M8 : gS) (M9 : gS) : Prop :=
 ((y9 ≤ 0 → (Q (-2 : Int32) M0 M1 M2 M3 M4 M5 M6 M7 M8 M9))
 ∧ (¬ y9 ≤ 0 → (¬ y9 = 0 ∧ (Q (z0 / y9) M0 M1 M2 M3 M4 M5 M6 M7 M8 M9))))
def wX11_hidden_116 (B93 : Int32 → Int32 → Int32 → Int32 → Int64 → Int32 → Int32 → gS → gS → gS → gS → gS → gS → gS → gS → gS → gS → Prop) (Q : Int32 → gS → gS → gS → gS → gS → gS → gS → gS → gS → gS → Prop) (y1 : Int32) (y2 : Int32) (y3 : Int32) (y5 : Int32) (y6 : Int64) (y8 : Int32) (y9 : Int32) (M0 : gS) (M1 : gS) (M2 : gS) (M3 : gS) (M4 : gS) (M5 : gS) (M6 : gS) (M7 : gS) (M8 : gS) (M9 : gS) : Prop :=
 (∀ x1 : Int32, x1 = y9 + (1 : Int32) → (B93 y1 y2 y3 y5 y6 y8 x1 M0 M1 M2 M3 M4 M5 M6 M7 M8 M9))
def wX11_hidden_93  (Q : Int32 → gS → gS → gS → gS → gS → gS → gS → gS → gS → gS → Prop) : Nat → Int32 → Int32 → Int32 → Int32 → Int64 → Int32 → Int32 → gS → gS → gS → gS → gS → gS → gS → gS → gS → gS → Prop
 | 0, _, _, _, _, _, _, _, _, _, _, _, _, _, _, _, _, _ => False
 | n + 1, y1, y2, y3, y5, y6, y8, y9, M0, M1, M2, M3, M4, M5, M6, M7, M8, M9 => ((y2 < y9 → (wX11_commonDivisor y8 (y2 + (1 : Int32))  (fun (r2 : Int32)  => ((y3 = 0 → (wX11_hidden_144  Q r2 y8 M0 M1 M2 M3 M4 M5 M6 M7 M8 M9))
 ∧ (¬ y3 = 0 → (wX11_hidden_144  Q r2 (y2 + (1 : Int32)) M0 M1 M2 M3 M4 M5 M6 M7 M8 M9))))))
 ∧ (¬ y2 < y9 → (wX11_hasWith y6 y1 y5 y9 M0 M1 M2 M3 M4 M5 M6 M7 M8 M9 (fun (b17 : Bool) (N5 : gS) (N6 : gS) (N7 : gS) (N8 : gS) (N9 : gS) (N10 : gS) (N11 : gS) (N12 : gS) (N13 : gS) (N14 : gS) => (((bI b17) = 0 → (wX11_hidden_116 (fun (y1 : Int32) (y2 : Int32) (y3 : Int32) (y5 : Int32) (y6 : Int64) (y8 : Int32) (y9 : Int32) (M0 : gS) (M1 : gS) (M2 : gS) (M3 : gS) (M4 : gS) (M5 : gS) (M6 : gS) (M7 : gS) (M8 : gS) (M9 : gS) => wX11_hidden_93  Q n y1 y2 y3 y5 y6 y8 y9 M0 M1 M2 M3 M4 M5 M6 M7 M8 M9) Q y1 y2 y3 y5 y6 y8 y9 N5 N6 N7 N8 N9 N10 N11 N12 N13 N14))
 ∧ (¬ (bI b17) = 0 → (∀ x19 : Int32, x19 = y8 + (1 : Int32) → (wX11_hidden_116 (fun (y1 : Int32) (y2 : Int32) (y3 : Int32) (y5 : Int32) (y6 : Int64) (y8 : Int32) (y9 : Int32) (M0 : gS) (M1 : gS) (M2 : gS) (M3 : gS) (M4 : gS) (M5 : gS) (M6 : gS) (M7 : gS) (M8 : gS) (M9 : gS) => wX11_hidden_93  Q n y1 y2 y3 y5 y6 y8 y9 M0 M1 M2 M3 M4 M5 M6 M7 M8 M9) Q y1 y2 y3 y5 y6 x19 y9 N5 N6 N7 N8 N9 N10 N11 N12 N13 N14))))))))
def wX11_hidden (p1 : Int32) (p2 : Int32) (p3 : Int32) (M0 : gS) (M1 : gS) (M2 : gS) (M3 : gS) (M4 : gS) (M5 : gS) (M6 : gS) (M7 : gS) (M8 : gS) (M9 : gS) (Q : Int32 → gS → gS → gS → gS → gS → gS → gS → gS → gS → gS → Prop) : Prop :=
 (wX11_isSide p1  (fun (b2 : Bool)  => (((bI b2) = 0 → (Q (-2 : Int32) M0 M1 M2 M3 M4 M5 M6 M7 M8 M9))
 ∧ (¬ (bI b2) = 0 → (wX11_isPurse p2  (fun (b5 : Bool)  => (((bI b5) = 0 → (Q (-2 : Int32) M0 M1 M2 M3 M4 M5 M6 M7 M8 M9))
 ∧ (¬ (bI b5) = 0 → ((p3 < 0 → (Q (-2 : Int32) M0 M1 M2 M3 M4 M5 M6 M7 M8 M9))
 ∧ (¬ p3 < 0 → (((1 : Int32) < p3 → (Q (-2 : Int32) M0 M1 M2 M3 M4 M5 M6 M7 M8 M9))
 ∧ (¬ (1 : Int32) < p3 → (((mg M3 0) = 0 → (Q (-2 : Int32) M0 M1 M2 M3 M4 M5 M6 M7 M8 M9))
 ∧ (¬ (mg M3 0) = 0 → (vp_in p1 2 ∧ (∀ x10 : Int32, x10 = (ma M3 7 (Int32.toNatClampNeg p1)) → (wX6_lasts  M3 (fun (r11 : Int32) (N12 : gS) => (wX0_winners (mg M3 1) (mg M3 2) r11 (x10 + p2) M7 M2 (fun (r13 : Int64) (N14 : gS) (N15 : gS) => (∃ k93 : Nat, wX11_hidden_93  Q k93 p1 p2 p3 x10 r13 (0 : Int32) (0 : Int32) M0 M1 N15 N12 M4 M5 M6 N14 M8 M9)))))))))))))))))))))
def rmX11_hidden : Room := { frames := 4, cells := 0, slots := 0, locals := 102 }
set_option maxHeartbeats 4000000 in
set_option maxRecDepth 100000 in
theorem kX11_hidden (l : Launch) (dC : Nat → ClassId) (dI : Nat → Nat → Nat) (cB cI cJ cZ : ClassId) (h0 : Nat) (a0 : Nat → Nat) (a1 : Nat → Nat) (a2 : Nat → Nat) (a3 : Nat → Nat) (a4 : Nat → Nat) (a5 : Nat → Nat) (a6 : Nat → Nat) (a7 : Nat → Nat) (o7 : Option Nat) (a8 : Nat → Nat) (o8 : Option Nat) (a9 : Nat → Nat) (sz : Nat) (p1 : Int32) (p2 : Int32) (p3 : Int32) (M0 : gS) (M1 : gS) (M2 : gS) (M3 : gS) (M4 : gS) (M5 : gS) (M6 : gS) (M7 : gS) (M8 : gS) (M9 : gS) (Q : Int32 → gS → gS → gS → gS → gS → gS → gS → gS → gS → gS → Prop) (h : wX11_hidden p1 p2 p3 M0 M1 M2 M3 M4 M5 M6 M7 M8 M9 Q) : Met l yX11_hidden wsX11_hidden rmX11_hidden (va_Pc [.ref h0, .int p1, .int p2, .int p3] (lwI dC dI cB cI cJ cZ h0 a0 a1 a2 a3 a4 a5 a6 a7 o7 a8 o8 a9 M0 M1 M2 M3 M4 M5 M6 M7 M8 M9 sz)) (va_Qi (fun (r : Int32) (u : gS × gS × gS × gS × gS × gS × gS × gS × gS × gS) => Q r u.1 u.2.1 u.2.2.1 u.2.2.2.1 u.2.2.2.2.1 u.2.2.2.2.2.1 u.2.2.2.2.2.2.1 u.2.2.2.2.2.2.2.1 u.2.2.2.2.2.2.2.2.1 u.2.2.2.2.2.2.2.2.2) (lwB dC dI cB cI cJ cZ h0 a0 a1 a2 a3 a4 a5 a6 a7 a8 a9 (va_A (lwW cB cI cJ cZ h0 a0 a1 a2 a3 a4 a5 a6 a7 o7 a8 o8 a9 M0 M1 M2 M3 M4 M5 M6 M7 M8 M9) sz)) (va_A (lwW cB cI cJ cZ h0 a0 a1 a2 a3 a4 a5 a6 a7 o7 a8 o8 a9 M0 M1 M2 M3 M4 M5 M6 M7 M8 M9) sz)) 0 0 (va_A (lwW cB cI cJ cZ h0 a0 a1 a2 a3 a4 a5 a6 a7 o7 a8 o8 a9 M0 M1 M2 M3 M4 M5 M6 M7 M8 M9) sz) := by
  refine Met.ofW (cc := cX11_hidden) (maxL := 11) (ret := (some .int)) (by decide) rfl ?_
  intro p e s m args below meth c s₁ B hml hv
  obtain ⟨rfl, hsz, hP, hK, hD0⟩ := hv
  have hx := B.exec
  have hb := B.bytes
  have hr := B.returns
  have hts := atoms_spec (ws := wsX11_hidden) B.pre
  have hown : s.vm.findClass RX11 = some m.cls := findClass_of_methodNamed B.named
  have hlocks := B.notSynchronized
  subst hsz
  have hD := hD0.self (sz := s.heap.size)
  generalize hAe : va_A (lwW cB cI cJ cZ h0 a0 a1 a2 a3 a4 a5 a6 a7 o7 a8 o8 a9 M0 M1 M2 M3 M4 M5 M6 M7 M8 M9) s.heap.size = A at hD ⊢
  have hA : ∀ q : Nat, s.heap.size ≤ q → A q := fun q h => by rw [← hAe]; exact Or.inr h
  have hS : va_S A s.heap s.heap [] := va_S.rf
  have hinX10 : ∀ w ∈ wsX100, w ∈ wsX11_hidden := by decide +kernel
  have hinX11 : ∀ w ∈ wsX110, w ∈ wsX11_hidden := by decide +kernel
  have hinX6 : ∀ w ∈ wsX60, w ∈ wsX11_hidden := by decide +kernel
  have f1 := hts (.fieldLink RX11 22 "LastWords" "now" "LLastWords$State;") (by decide +kernel)
  have f2 := hts (.fieldLink RX11 118 "LastWords$State" "quarrel" "LLastWords$Quarrel;") (by decide +kernel)
  have f3 := hts (.fieldLink RX11 149 "LastWords$Quarrel" "goesOn" "Z") (by decide +kernel)
  have f4 := hts (.fieldLink RX11 183 "LastWords$Quarrel" "purse" "[I") (by decide +kernel)
  have f5 := hts (.fieldLink RX11 47 "LastWords" "bestPlay" "LLastWords$BestPlay;") (by decide +kernel)
  have f6 := hts (.fieldLink RX11 108 "LastWords$State" "corner" "LLastWords$Corner;") (by decide +kernel)
  have f7 := hts (.fieldLink RX11 201 "LastWords$Quarrel" "verse" "I") (by decide +kernel)
  have f8 := hts (.fieldLink RX11 128 "LastWords$Quarrel" "left" "I") (by decide +kernel)
  have b144 : ∀ (y9 : Int32) (z0 : Int32) (o7 o8 : Option Nat) (M0 : gS) (M1 : gS) (M2 : gS) (M3 : gS) (M4 : gS) (M5 : gS) (M6 : gS) (M7 : gS) (M8 : gS) (M9 : gS) (H : Heap) (locs : List Loc) (ls : Array Slot), va_P (dC, dI) vwCl (lwW cB cI cJ cZ h0 a0 a1 a2 a3 a4 a5 a6 a7 o7 a8 o8 a9 M0 M1 M2 M3 M4 M5 M6 M7 M8 M9) H → va_D A (lwW cB cI cJ cZ h0 a0 a1 a2 a3 a4 a5 a6 a7 o7 a8 o8 a9 M0 M1 M2 M3 M4 M5 M6 M7 M8 M9) → va_S A s.heap H locs → lv_has ls 11 [(9, .int y9)] → wX11_hidden_144  Q y9 z0 M0 M1 M2 M3 M4 M5 M6 M7 M8 M9 → W p l e (headSpec wsX11_hidden rmX11_hidden).room s m ([.ref h0, .int p1, .int p2, .int p3] : List Value).toArray below meth c H locs 0 0 (MQ below (va_Qi (fun (r : Int32) (u : gS × gS × gS × gS × gS × gS × gS × gS × gS × gS) => Q r u.1 u.2.1 u.2.2.1 u.2.2.2.1 u.2.2.2.2.1 u.2.2.2.2.2.1 u.2.2.2.2.2.2.1 u.2.2.2.2.2.2.2.1 u.2.2.2.2.2.2.2.2.1 u.2.2.2.2.2.2.2.2.2) (lwB dC dI cB cI cJ cZ h0 a0 a1 a2 a3 a4 a5 a6 a7 a8 a9 A) A) ([.ref h0, .int p1, .int p2, .int p3] : List Value).toArray s 0 0 A) (F0 m 144 ls [.int z0]) := by
    intro  y9 z0 o7 o8  M0 M1 M2 M3 M4 M5 M6 M7 M8 M9 H locs ls hP hD hS hl h
    unfold wX11_hidden_144 at h
    refine lv_istore (lv' := [(10, .int z0), (9, .int y9)]) hx hb dX11_hidden_144 hl (by decide) rfl (fun ls hl => ?_)
    refine lv_iload hx hb dX11_hidden_146 (lv_at hl 1 rfl) ?_
    refine lv_if_le (tgt := 159) hx hb dX11_hidden_148 (by decide) (fun c1 => ?_) (fun c1 => ?_)
    · have h := h.1 c1
      refine lv_bipush (v := (-2)) hx hb dX11_hidden_159 (by decide) ?_
      exact W.iret (v := (-2 : Int32)) hx hb hr (fun t ht hW => ⟨⟨_, (M0, M1, M2, M3, M4, M5, M6, M7, M8, M9), rfl, h, o7, o8, by rw [ht]; exact hP, va_K.moved hW.alike hK, hD⟩, hS.F ht⟩) hS.2.2 dX11_hidden_161
    · have h := h.2 c1
      refine lv_iload hx hb dX11_hidden_151 (lv_at hl 0 rfl) ?_
      refine lv_iload hx hb dX11_hidden_153 (lv_at hl 1 rfl) ?_
      refine lv_idiv hx hb dX11_hidden_155 h.1 ?_
      have h := h.2
      refine lv_goto (tgt := 161) hx hb dX11_hidden_156 (by decide) ?_
      exact W.iret (v := (z0 / y9)) hx hb hr (fun t ht hW => ⟨⟨_, (M0, M1, M2, M3, M4, M5, M6, M7, M8, M9), rfl, h, o7, o8, by rw [ht]; exact hP, va_K.moved hW.alike hK, hD⟩, hS.F ht⟩) hS.2.2 dX11_hidden_161
  have b116 : ∀ (B93 : Int32 → Int32 → Int32 → Int32 → Int64 → Int32 → Int32 → gS → gS → gS → gS → gS → gS → gS → gS → gS → gS → Prop) (hB93 : ∀ (y1 : Int32) (y2 : Int32) (y3 : Int32) (y5 : Int32) (y6 : Int64) (y8 : Int32) (y9 : Int32) (o7 o8 : Option Nat) (M0 : gS) (M1 : gS) (M2 : gS) (M3 : gS) (M4 : gS) (M5 : gS) (M6 : gS) (M7 : gS) (M8 : gS) (M9 : gS) (H : Heap) (locs : List Loc) (ls : Array Slot), va_P (dC, dI) vwCl (lwW cB cI cJ cZ h0 a0 a1 a2 a3 a4 a5 a6 a7 o7 a8 o8 a9 M0 M1 M2 M3 M4 M5 M6 M7 M8 M9) H → va_D A (lwW cB cI cJ cZ h0 a0 a1 a2 a3 a4 a5 a6 a7 o7 a8 o8 a9 M0 M1 M2 M3 M4 M5 M6 M7 M8 M9) → va_S A s.heap H locs → lv_has ls 11 [(0, .ref h0), (1, .int y1), (2, .int y2), (3, .int y3), (5, .int y5), (6, .long y6), (8, .int y8), (9, .int y9)] → B93 y1 y2 y3 y5 y6 y8 y9 M0 M1 M2 M3 M4 M5 M6 M7 M8 M9 → W p l e (headSpec wsX11_hidden rmX11_hidden).room s m ([.ref h0, .int p1, .int p2, .int p3] : List Value).toArray below meth c H locs 0 0 (MQ below (va_Qi (fun (r : Int32) (u : gS × gS × gS × gS × gS × gS × gS × gS × gS × gS) => Q r u.1 u.2.1 u.2.2.1 u.2.2.2.1 u.2.2.2.2.1 u.2.2.2.2.2.1 u.2.2.2.2.2.2.1 u.2.2.2.2.2.2.2.1 u.2.2.2.2.2.2.2.2.1 u.2.2.2.2.2.2.2.2.2) (lwB dC dI cB cI cJ cZ h0 a0 a1 a2 a3 a4 a5 a6 a7 a8 a9 A) A) ([.ref h0, .int p1, .int p2, .int p3] : List Value).toArray s 0 0 A) (F0 m 93 ls [])) (y1 : Int32) (y2 : Int32) (y3 : Int32) (y5 : Int32) (y6 : Int64) (y8 : Int32) (y9 : Int32) (o7 o8 : Option Nat) (M0 : gS) (M1 : gS) (M2 : gS) (M3 : gS) (M4 : gS) (M5 : gS) (M6 : gS) (M7 : gS) (M8 : gS) (M9 : gS) (H : Heap) (locs : List Loc) (ls : Array Slot), va_P (dC, dI) vwCl (lwW cB cI cJ cZ h0 a0 a1 a2 a3 a4 a5 a6 a7 o7 a8 o8 a9 M0 M1 M2 M3 M4 M5 M6 M7 M8 M9) H → va_D A (lwW cB cI cJ cZ h0 a0 a1 a2 a3 a4 a5 a6 a7 o7 a8 o8 a9 M0 M1 M2 M3 M4 M5 M6 M7 M8 M9) → va_S A s.heap H locs → lv_has ls 11 [(0, .ref h0), (1, .int y1), (2, .int y2), (3, .int y3), (5, .int y5), (6, .long y6), (8, .int y8), (9, .int y9)] → wX11_hidden_116 B93 Q y1 y2 y3 y5 y6 y8 y9 M0 M1 M2 M3 M4 M5 M6 M7 M8 M9 → W p l e (headSpec wsX11_hidden rmX11_hidden).room s m ([.ref h0, .int p1, .int p2, .int p3] : List Value).toArray below meth c H locs 0 0 (MQ below (va_Qi (fun (r : Int32) (u : gS × gS × gS × gS × gS × gS × gS × gS × gS × gS) => Q r u.1 u.2.1 u.2.2.1 u.2.2.2.1 u.2.2.2.2.1 u.2.2.2.2.2.1 u.2.2.2.2.2.2.1 u.2.2.2.2.2.2.2.1 u.2.2.2.2.2.2.2.2.1 u.2.2.2.2.2.2.2.2.2) (lwB dC dI cB cI cJ cZ h0 a0 a1 a2 a3 a4 a5 a6 a7 a8 a9 A) A) ([.ref h0, .int p1, .int p2, .int p3] : List Value).toArray s 0 0 A) (F0 m 116 ls []) := by
    intro B93 hB93 y1 y2 y3 y5 y6 y8 y9 o7 o8  M0 M1 M2 M3 M4 M5 M6 M7 M8 M9 H locs ls hP hD hS hl h
    unfold wX11_hidden_116 at h
    obtain ⟨x1, ex1⟩ : ∃ y : Int32, y = y9 + (1 : Int32) := ⟨_, rfl⟩
    have h := h x1 ex1
    refine lv_iinc (v := x1) (lv' := [(9, .int x1), (0, .ref h0), (1, .int y1), (2, .int y2), (3, .int y3), (5, .int y5), (6, .long y6), (8, .int y8)]) hx hb dX11_hidden_116 hl (k := 7) rfl (by rw [ex1]; rfl) (by decide) rfl (fun ls hl => ?_)
    refine lv_goto (tgt := 93) hx hb dX11_hidden_119 (by decide) ?_
    exact hB93 y1 y2 y3 y5 y6 y8 x1 o7 o8 M0 M1 M2 M3 M4 M5 M6 M7 M8 M9 H locs ls hP hD hS (lv_sub hl [1, 2, 3, 4, 5, 6, 7, 0] rfl) h
  have b93 : ∀ (n : Nat) (y1 : Int32) (y2 : Int32) (y3 : Int32) (y5 : Int32) (y6 : Int64) (y8 : Int32) (y9 : Int32) (o7 o8 : Option Nat) (M0 : gS) (M1 : gS) (M2 : gS) (M3 : gS) (M4 : gS) (M5 : gS) (M6 : gS) (M7 : gS) (M8 : gS) (M9 : gS) (H : Heap) (locs : List Loc) (ls : Array Slot), va_P (dC, dI) vwCl (lwW cB cI cJ cZ h0 a0 a1 a2 a3 a4 a5 a6 a7 o7 a8 o8 a9 M0 M1 M2 M3 M4 M5 M6 M7 M8 M9) H → va_D A (lwW cB cI cJ cZ h0 a0 a1 a2 a3 a4 a5 a6 a7 o7 a8 o8 a9 M0 M1 M2 M3 M4 M5 M6 M7 M8 M9) → va_S A s.heap H locs → lv_has ls 11 [(0, .ref h0), (1, .int y1), (2, .int y2), (3, .int y3), (5, .int y5), (6, .long y6), (8, .int y8), (9, .int y9)] → wX11_hidden_93  Q n y1 y2 y3 y5 y6 y8 y9 M0 M1 M2 M3 M4 M5 M6 M7 M8 M9 → W p l e (headSpec wsX11_hidden rmX11_hidden).room s m ([.ref h0, .int p1, .int p2, .int p3] : List Value).toArray below meth c H locs 0 0 (MQ below (va_Qi (fun (r : Int32) (u : gS × gS × gS × gS × gS × gS × gS × gS × gS × gS) => Q r u.1 u.2.1 u.2.2.1 u.2.2.2.1 u.2.2.2.2.1 u.2.2.2.2.2.1 u.2.2.2.2.2.2.1 u.2.2.2.2.2.2.2.1 u.2.2.2.2.2.2.2.2.1 u.2.2.2.2.2.2.2.2.2) (lwB dC dI cB cI cJ cZ h0 a0 a1 a2 a3 a4 a5 a6 a7 a8 a9 A) A) ([.ref h0, .int p1, .int p2, .int p3] : List Value).toArray s 0 0 A) (F0 m 93 ls []) := by
    intro  n
    induction n with
    | zero => intro y1 y2 y3 y5 y6 y8 y9 o7 o8  M0 M1 M2 M3 M4 M5 M6 M7 M8 M9 H locs ls hP hD hS hl h; exact absurd h (by simp [wX11_hidden_93])
    | succ n hB930 =>
      intro y1 y2 y3 y5 y6 y8 y9 o7 o8  M0 M1 M2 M3 M4 M5 M6 M7 M8 M9 H locs ls hP hD hS hl h
      have hB93 := hB930
      rw [wX11_hidden_93] at h
      refine lv_iload hx hb dX11_hidden_93 (lv_at hl 7 rfl) ?_
      refine lv_iload_n hx hb dX11_hidden_95 rfl (lv_at hl 2 rfl) ?_
      refine lv_icmp_gt (tgt := 122) hx hb dX11_hidden_96 (by decide) (fun c1 => ?_) (fun c1 => ?_)
      · have h := h.1 c1
        refine lv_iload hx hb dX11_hidden_122 (lv_at hl 6 rfl) ?_
        refine lv_iload_n hx hb dX11_hidden_124 rfl (lv_at hl 2 rfl) ?_
        refine lv_iconst (v := 1) hx hb dX11_hidden_125 (by decide) ?_
        refine lv_iadd hx hb dX11_hidden_126 ?_
        have hPc := hP.sub (ws' := (e0W cB cI cJ cZ  )) [] rfl
        have hDc := hD.sub (ws' := (e0W cB cI cJ cZ  )) [] (by decide) rfl
        have hFc := va_free (wc := (e0W cB cI cJ cZ  )) hD hS hA [] rfl
        refine va_calli (va_runS (As := [.int y8, .int (y2 + (1 : Int32))]) (rest := []) ⟨hx, hb, hml, hown, hts⟩ (kX11_commonDivisor l dC dI cB cI cJ cZ  H.size y8 (y2 + (1 : Int32))  _ h) (cwS 2 hts gX11_hidden_X11_commonDivisor rfl rfl rfl (by decide +kernel) ⟨Nat.le_of_ble_eq_true rfl, Nat.le_of_ble_eq_true rfl⟩) (e0pS hK hPc hDc) rfl rfl hl.1 rfl (lv_room (Nat.le_of_ble_eq_true rfl)) dX11_hidden_127 ⟨Nat.le_of_ble_eq_true rfl, Nat.le_of_ble_eq_true rfl⟩) hS (fun q _ z => hFc q z) hFc (fun r2 u t H1 locs ht hvm hw hB hz1 hk1 hS => ?_)
        obtain ⟨hP1, hK1, hD1⟩ := hB
        rw [ht] at hP1
        obtain ⟨hP, hD⟩ := va_join (wr := [(h0, .inr (11, [.ref (a0 0), .int (mg M0 1), .ref (a0 2), .int (mg M0 3), .ref (a0 4), .ref (a0 5), .ref (a0 6), .ref (a0 7), .ref (a0 8), .ref (a0 9), .ref (a0 10), .ref (a0 11)])), (a0 0, .inl (cI, 400, .inl (ma M0 0))), (a0 11, .inl (cJ, 4, .inr (.inl (ml M0 11)))), (a0 4, .inr (10, [.ref (a1 0), .ref (a1 1), .ref (a1 2), .ref (a1 3), .int (mg M1 4)])), (a1 3, .inl (cI, 2, .inl (ma M1 3))), (a1 0, .inr (1, [.int (mg M2 0), .ref (a2 1), .int (mg M2 2), .ref (a2 3), .int (mg M2 4), .ref (a2 5)])), (a2 1, .inl (cI, 4, .inl (ma M2 1))), (a2 3, .inl (cI, 4, .inl (ma M2 3))), (a2 5, .inl (cI, 2, .inl (ma M2 5))), (a1 1, .inr (6, [.int (mg M3 0), .int (mg M3 1), .int (mg M3 2), .int (mg M3 3), .int (mg M3 4), .int (mg M3 5), .int (mg M3 6), .ref (a3 7), .ref (a3 8), .ref (a3 9)])), (a3 7, .inl (cI, 2, .inl (ma M3 7))), (a3 8, .inl (cI, 2, .inl (ma M3 8))), (a3 9, .inl (cI, 2, .inl (ma M3 9))), (a1 2, .inr (4, [.int (mg M4 0), .ref (a4 1), .ref (a4 2), .ref (a4 3)])), (a4 1, .inl (cI, 6, .inl (ma M4 1))), (a4 2, .inl (cI, 6, .inl (ma M4 2))), (a4 3, .inl (cI, 6, .inl (ma M4 3))), (a0 6, .inr (1, [.int (mg M5 0), .ref (a5 1), .int (mg M5 2), .ref (a5 3), .int (mg M5 4), .ref (a5 5)])), (a5 1, .inl (cI, 4, .inl (ma M5 1))), (a5 3, .inl (cI, 4, .inl (ma M5 3))), (a5 5, .inl (cI, 2, .inl (ma M5 5))), (a0 7, .inr (6, [.int (mg M6 0), .int (mg M6 1), .int (mg M6 2), .int (mg M6 3), .int (mg M6 4), .int (mg M6 5), .int (mg M6 6), .ref (a6 7), .ref (a6 8), .ref (a6 9)])), (a6 7, .inl (cI, 2, .inl (ma M6 7))), (a6 8, .inl (cI, 2, .inl (ma M6 8))), (a6 9, .inl (cI, 2, .inl (ma M6 9))), (a0 8, .inr (0, [.ref (a7 0), .ref (a7 1), .ref (a7 2), .ref (a7 3), .int (mg M7 4), va_rf o7, .int (mg M7 6), .int (mg M7 7), .int (mg M7 8), .int (mg M7 9), .int (mg M7 10)])), (a7 0, .inl (cJ, 15, .inr (.inl (ml M7 0)))), (a7 1, .inl (cJ, 800, .inr (.inl (ml M7 1)))), (a7 2, .inl (cI, 4, .inl (ma M7 2))), (a7 3, .inl (cJ, 4, .inr (.inl (ml M7 3)))), (a0 9, .inr (5, [.ref (a8 0), .ref (a8 1), va_rf o8, .int (mg M8 3)])), (a8 0, .inl (cI, 2048, .inl (ma M8 0))), (a8 1, .inl (cI, 2048, .inl (ma M8 1))), (a0 10, .inr (3, [.int (mg M9 0), .int (mg M9 1), .int (mg M9 2), .int (mg M9 3), .int (mg M9 4)]))]) (w1 := (e0W cB cI cJ cZ  )) hP hD [] [0, 1, 2, 3, 4, 5, 6, 7, 8, 9, 10, 11, 12, 13, 14, 15, 16, 17, 18, 19, 20, 21, 22, 23, 24, 25, 26, 27, 28, 29, 30, 31, 32, 33] rfl rfl (by decide) (by decide) hk1 hFc hP1 hD1
        have hP := hP.sub (ws' := (lwW cB cI cJ cZ h0 a0 a1 a2 a3 a4 a5 a6 a7 o7 a8 o8 a9 M0 M1 M2 M3 M4 M5 M6 M7 M8 M9)) [0, 1, 2, 3, 4, 5, 6, 7, 8, 9, 10, 11, 12, 13, 14, 15, 16, 17, 18, 19, 20, 21, 22, 23, 24, 25, 26, 27, 28, 29, 30, 31, 32, 33] rfl
        have hD := hD.sub (ws' := (lwW cB cI cJ cZ h0 a0 a1 a2 a3 a4 a5 a6 a7 o7 a8 o8 a9 M0 M1 M2 M3 M4 M5 M6 M7 M8 M9)) [0, 1, 2, 3, 4, 5, 6, 7, 8, 9, 10, 11, 12, 13, 14, 15, 16, 17, 18, 19, 20, 21, 22, 23, 24, 25, 26, 27, 28, 29, 30, 31, 32, 33] (by decide) rfl
        generalize H1 = H at hP hS ⊢
        have h := hw
        try dsimp only at h
        refine lv_istore (lv' := [(9, .int r2), (0, .ref h0), (1, .int y1), (2, .int y2), (3, .int y3), (5, .int y5), (6, .long y6), (8, .int y8)]) hx hb dX11_hidden_130 hl (by decide) rfl (fun ls hl => ?_)
        refine lv_iload_n hx hb dX11_hidden_132 rfl (lv_at hl 4 rfl) ?_
        refine lv_if_ne (tgt := 141) hx hb dX11_hidden_133 (by decide) (fun c3 => ?_) (fun c3 => ?_)
        · have h := h.2 c3
          refine lv_iload_n hx hb dX11_hidden_141 rfl (lv_at hl 3 rfl) ?_
          refine lv_iconst (v := 1) hx hb dX11_hidden_142 (by decide) ?_
          refine lv_iadd hx hb dX11_hidden_143 ?_
          exact b144  r2 (y2 + (1 : Int32)) o7 o8 M0 M1 M2 M3 M4 M5 M6 M7 M8 M9 H locs ls hP hD hS (lv_sub hl [0] rfl) h
        · have h := h.1 c3
          refine lv_iload hx hb dX11_hidden_136 (lv_at hl 7 rfl) ?_
          refine lv_goto (tgt := 144) hx hb dX11_hidden_138 (by decide) ?_
          exact b144  r2 y8 o7 o8 M0 M1 M2 M3 M4 M5 M6 M7 M8 M9 H locs ls hP hD hS (lv_sub hl [0] rfl) h
      · have h := h.2 c1
        refine lv_aload_n hx hb dX11_hidden_99 rfl (lv_at hl 0 rfl) ?_
        refine lv_lload hx hb dX11_hidden_100 (lv_at hl 5 rfl) ?_
        refine lv_iload_n hx hb dX11_hidden_102 rfl (lv_at hl 1 rfl) ?_
        refine lv_iload hx hb dX11_hidden_103 (lv_at hl 4 rfl) ?_
        refine lv_iload hx hb dX11_hidden_105 (lv_at hl 7 rfl) ?_
        have hFc := gs_free hD hS hA
        refine va_calli (va_runV (As := [.long y6, .int y1, .int y5, .int y9]) (rest := []) ⟨hx, hb, hml, hown, hts⟩ (kX11_hasWith l dC dI cB cI cJ cZ h0 a0 a1 a2 a3 a4 a5 a6 a7 o7 a8 o8 a9 H.size y6 y1 y5 y9 M0 M1 M2 M3 M4 M5 M6 M7 M8 M9 _ h) (cwV 4 hts gX11_hidden_X11_hasWith rfl rfl rfl (by decide +kernel) ⟨Nat.le_of_ble_eq_true rfl, Nat.le_of_ble_eq_true rfl⟩) (lwpV hK hP hD) rfl rfl hl.1 rfl (lv_room (Nat.le_of_ble_eq_true rfl)) dX11_hidden_107 ⟨Nat.le_of_ble_eq_true rfl, Nat.le_of_ble_eq_true rfl⟩) hS (fun q _ z => hFc q z) hFc (fun r4 u t H1 locs ht hvm hw hB hz1 hk1 hS => ?_)
        obtain ⟨N5, N6, N7, N8, N9, N10, N11, N12, N13, N14⟩ := u
        obtain ⟨v15, v16, hP, hK1, hD1⟩ := hB
        rw [ht] at hP
        have hD := hD1.weaken (fun _ _ _ z => hFc _ z)
        generalize H1 = H at hP hS ⊢
        obtain ⟨b17, rfl, h⟩ := hw
        try dsimp only at h
        refine lv_if_eq (tgt := 116) hx hb dX11_hidden_110 (by decide) (fun c18 => ?_) (fun c18 => ?_)
        · have h := h.1 c18
          exact b116 _ hB93 y1 y2 y3 y5 y6 y8 y9 v15 v16 N5 N6 N7 N8 N9 N10 N11 N12 N13 N14 H locs ls hP hD hS (lv_sub hl [0, 1, 2, 3, 4, 5, 6, 7] rfl) h
        · have h := h.2 c18
          obtain ⟨x19, ex19⟩ : ∃ y : Int32, y = y8 + (1 : Int32) := ⟨_, rfl⟩
          have h := h x19 ex19
          refine lv_iinc (v := x19) (lv' := [(8, .int x19), (0, .ref h0), (1, .int y1), (2, .int y2), (3, .int y3), (5, .int y5), (6, .long y6), (9, .int y9)]) hx hb dX11_hidden_113 hl (k := 6) rfl (by rw [ex19]; rfl) (by decide) rfl (fun ls hl => ?_)
          exact b116 _ hB93 y1 y2 y3 y5 y6 x19 y9 v15 v16 N5 N6 N7 N8 N9 N10 N11 N12 N13 N14 H locs ls hP hD hS (lv_sub hl [1, 2, 3, 4, 5, 6, 0, 7] rfl) h
  have bE : ∀ (M0 : gS) (M1 : gS) (M2 : gS) (M3 : gS) (M4 : gS) (M5 : gS) (M6 : gS) (M7 : gS) (M8 : gS) (M9 : gS) (H : Heap) (locs : List Loc) (ls : Array Slot), va_P (dC, dI) vwCl (lwW cB cI cJ cZ h0 a0 a1 a2 a3 a4 a5 a6 a7 o7 a8 o8 a9 M0 M1 M2 M3 M4 M5 M6 M7 M8 M9) H → va_D A (lwW cB cI cJ cZ h0 a0 a1 a2 a3 a4 a5 a6 a7 o7 a8 o8 a9 M0 M1 M2 M3 M4 M5 M6 M7 M8 M9) → va_S A s.heap H locs → lv_has ls 11 [(0, .ref h0), (1, .int p1), (2, .int p2), (3, .int p3)] → wX11_hidden p1 p2 p3 M0 M1 M2 M3 M4 M5 M6 M7 M8 M9 Q → W p l e (headSpec wsX11_hidden rmX11_hidden).room s m ([.ref h0, .int p1, .int p2, .int p3] : List Value).toArray below meth c H locs 0 0 (MQ below (va_Qi (fun (r : Int32) (u : gS × gS × gS × gS × gS × gS × gS × gS × gS × gS) => Q r u.1 u.2.1 u.2.2.1 u.2.2.2.1 u.2.2.2.2.1 u.2.2.2.2.2.1 u.2.2.2.2.2.2.1 u.2.2.2.2.2.2.2.1 u.2.2.2.2.2.2.2.2.1 u.2.2.2.2.2.2.2.2.2) (lwB dC dI cB cI cJ cZ h0 a0 a1 a2 a3 a4 a5 a6 a7 a8 a9 A) A) ([.ref h0, .int p1, .int p2, .int p3] : List Value).toArray s 0 0 A) (F0 m 0 ls []) := by
    intro M0 M1 M2 M3 M4 M5 M6 M7 M8 M9 H locs ls hP hD hS hl h
    unfold wX11_hidden at h
    refine lv_aload_n hx hb dX11_hidden_0 rfl (lv_at hl 0 rfl) ?_
    refine va_get (D := (dC, dI)) (ci := 11) (v := .ref (a0 4)) (C := RX11) (T := TX11) (N := 12) hx hb hts hinX11 hown hK hP 0 rfl rfl 4 (by decide) f1 (fun _ h9 => h9) rfl dX11_hidden_1 ?_
    refine va_get (D := (dC, dI)) (ci := 10) (v := .ref (a1 1)) (C := RX10) (T := TX10) (N := 5) hx hb hts hinX10 hown hK hP 3 rfl rfl 1 (by decide) f2 (fun _ h9 => h9) rfl dX11_hidden_4 ?_
    refine lv_astore (lv' := [(4, .ref (a1 1)), (0, .ref h0), (1, .int p1), (2, .int p2), (3, .int p3)]) hx hb dX11_hidden_7 hl (by decide) rfl (fun ls hl => ?_)
    refine lv_iload_n hx hb dX11_hidden_9 rfl (lv_at hl 2 rfl) ?_
    have hPc := hP.sub (ws' := (e0W cB cI cJ cZ  )) [] rfl
    have hDc := hD.sub (ws' := (e0W cB cI cJ cZ  )) [] (by decide) rfl
    have hFc := va_free (wc := (e0W cB cI cJ cZ  )) hD hS hA [] rfl
    refine va_calli (va_runS (As := [.int p1]) (rest := []) ⟨hx, hb, hml, hown, hts⟩ (kX11_isSide l dC dI cB cI cJ cZ  H.size p1  _ h) (cwS 1 hts gX11_hidden_X11_isSide rfl rfl rfl (by decide +kernel) ⟨Nat.le_of_ble_eq_true rfl, Nat.le_of_ble_eq_true rfl⟩) (e0pS hK hPc hDc) rfl rfl hl.1 rfl (lv_room (Nat.le_of_ble_eq_true rfl)) dX11_hidden_10 ⟨Nat.le_of_ble_eq_true rfl, Nat.le_of_ble_eq_true rfl⟩) hS (fun q _ z => hFc q z) hFc (fun r1 u t H1 locs ht hvm hw hB hz1 hk1 hS => ?_)
    obtain ⟨hP1, hK1, hD1⟩ := hB
    rw [ht] at hP1
    obtain ⟨hP, hD⟩ := va_join (wr := [(h0, .inr (11, [.ref (a0 0), .int (mg M0 1), .ref (a0 2), .int (mg M0 3), .ref (a0 4), .ref (a0 5), .ref (a0 6), .ref (a0 7), .ref (a0 8), .ref (a0 9), .ref (a0 10), .ref (a0 11)])), (a0 0, .inl (cI, 400, .inl (ma M0 0))), (a0 11, .inl (cJ, 4, .inr (.inl (ml M0 11)))), (a0 4, .inr (10, [.ref (a1 0), .ref (a1 1), .ref (a1 2), .ref (a1 3), .int (mg M1 4)])), (a1 3, .inl (cI, 2, .inl (ma M1 3))), (a1 0, .inr (1, [.int (mg M2 0), .ref (a2 1), .int (mg M2 2), .ref (a2 3), .int (mg M2 4), .ref (a2 5)])), (a2 1, .inl (cI, 4, .inl (ma M2 1))), (a2 3, .inl (cI, 4, .inl (ma M2 3))), (a2 5, .inl (cI, 2, .inl (ma M2 5))), (a1 1, .inr (6, [.int (mg M3 0), .int (mg M3 1), .int (mg M3 2), .int (mg M3 3), .int (mg M3 4), .int (mg M3 5), .int (mg M3 6), .ref (a3 7), .ref (a3 8), .ref (a3 9)])), (a3 7, .inl (cI, 2, .inl (ma M3 7))), (a3 8, .inl (cI, 2, .inl (ma M3 8))), (a3 9, .inl (cI, 2, .inl (ma M3 9))), (a1 2, .inr (4, [.int (mg M4 0), .ref (a4 1), .ref (a4 2), .ref (a4 3)])), (a4 1, .inl (cI, 6, .inl (ma M4 1))), (a4 2, .inl (cI, 6, .inl (ma M4 2))), (a4 3, .inl (cI, 6, .inl (ma M4 3))), (a0 6, .inr (1, [.int (mg M5 0), .ref (a5 1), .int (mg M5 2), .ref (a5 3), .int (mg M5 4), .ref (a5 5)])), (a5 1, .inl (cI, 4, .inl (ma M5 1))), (a5 3, .inl (cI, 4, .inl (ma M5 3))), (a5 5, .inl (cI, 2, .inl (ma M5 5))), (a0 7, .inr (6, [.int (mg M6 0), .int (mg M6 1), .int (mg M6 2), .int (mg M6 3), .int (mg M6 4), .int (mg M6 5), .int (mg M6 6), .ref (a6 7), .ref (a6 8), .ref (a6 9)])), (a6 7, .inl (cI, 2, .inl (ma M6 7))), (a6 8, .inl (cI, 2, .inl (ma M6 8))), (a6 9, .inl (cI, 2, .inl (ma M6 9))), (a0 8, .inr (0, [.ref (a7 0), .ref (a7 1), .ref (a7 2), .ref (a7 3), .int (mg M7 4), va_rf o7, .int (mg M7 6), .int (mg M7 7), .int (mg M7 8), .int (mg M7 9), .int (mg M7 10)])), (a7 0, .inl (cJ, 15, .inr (.inl (ml M7 0)))), (a7 1, .inl (cJ, 800, .inr (.inl (ml M7 1)))), (a7 2, .inl (cI, 4, .inl (ma M7 2))), (a7 3, .inl (cJ, 4, .inr (.inl (ml M7 3)))), (a0 9, .inr (5, [.ref (a8 0), .ref (a8 1), va_rf o8, .int (mg M8 3)])), (a8 0, .inl (cI, 2048, .inl (ma M8 0))), (a8 1, .inl (cI, 2048, .inl (ma M8 1))), (a0 10, .inr (3, [.int (mg M9 0), .int (mg M9 1), .int (mg M9 2), .int (mg M9 3), .int (mg M9 4)]))]) (w1 := (e0W cB cI cJ cZ  )) hP hD [] [0, 1, 2, 3, 4, 5, 6, 7, 8, 9, 10, 11, 12, 13, 14, 15, 16, 17, 18, 19, 20, 21, 22, 23, 24, 25, 26, 27, 28, 29, 30, 31, 32, 33] rfl rfl (by decide) (by decide) hk1 hFc hP1 hD1
    have hP := hP.sub (ws' := (lwW cB cI cJ cZ h0 a0 a1 a2 a3 a4 a5 a6 a7 o7 a8 o8 a9 M0 M1 M2 M3 M4 M5 M6 M7 M8 M9)) [0, 1, 2, 3, 4, 5, 6, 7, 8, 9, 10, 11, 12, 13, 14, 15, 16, 17, 18, 19, 20, 21, 22, 23, 24, 25, 26, 27, 28, 29, 30, 31, 32, 33] rfl
    have hD := hD.sub (ws' := (lwW cB cI cJ cZ h0 a0 a1 a2 a3 a4 a5 a6 a7 o7 a8 o8 a9 M0 M1 M2 M3 M4 M5 M6 M7 M8 M9)) [0, 1, 2, 3, 4, 5, 6, 7, 8, 9, 10, 11, 12, 13, 14, 15, 16, 17, 18, 19, 20, 21, 22, 23, 24, 25, 26, 27, 28, 29, 30, 31, 32, 33] (by decide) rfl
    generalize H1 = H at hP hS ⊢
    obtain ⟨b2, rfl, h⟩ := hw
    try dsimp only at h
    refine lv_if_eq (tgt := 40) hx hb dX11_hidden_13 (by decide) (fun c3 => ?_) (fun c3 => ?_)
    · have h := h.1 c3
      refine lv_bipush (v := (-2)) hx hb dX11_hidden_40 (by decide) ?_
      exact W.iret (v := (-2 : Int32)) hx hb hr (fun t ht hW => ⟨⟨_, (M0, M1, M2, M3, M4, M5, M6, M7, M8, M9), rfl, h, o7, o8, by rw [ht]; exact hP, va_K.moved hW.alike hK, hD⟩, hS.F ht⟩) hS.2.2 dX11_hidden_42
    · have h := h.2 c3
      refine lv_iload_n hx hb dX11_hidden_16 rfl (lv_at hl 3 rfl) ?_
      have hPc := hP.sub (ws' := (e0W cB cI cJ cZ  )) [] rfl
      have hDc := hD.sub (ws' := (e0W cB cI cJ cZ  )) [] (by decide) rfl
      have hFc := va_free (wc := (e0W cB cI cJ cZ  )) hD hS hA [] rfl
      refine va_calli (va_runS (As := [.int p2]) (rest := []) ⟨hx, hb, hml, hown, hts⟩ (kX11_isPurse l dC dI cB cI cJ cZ  H.size p2  _ h) (cwS 1 hts gX11_hidden_X11_isPurse rfl rfl rfl (by decide +kernel) ⟨Nat.le_of_ble_eq_true rfl, Nat.le_of_ble_eq_true rfl⟩) (e0pS hK hPc hDc) rfl rfl hl.1 rfl (lv_room (Nat.le_of_ble_eq_true rfl)) dX11_hidden_17 ⟨Nat.le_of_ble_eq_true rfl, Nat.le_of_ble_eq_true rfl⟩) hS (fun q _ z => hFc q z) hFc (fun r4 u t H1 locs ht hvm hw hB hz1 hk1 hS => ?_)
      obtain ⟨hP1, hK1, hD1⟩ := hB
      rw [ht] at hP1
      obtain ⟨hP, hD⟩ := va_join (wr := [(h0, .inr (11, [.ref (a0 0), .int (mg M0 1), .ref (a0 2), .int (mg M0 3), .ref (a0 4), .ref (a0 5), .ref (a0 6), .ref (a0 7), .ref (a0 8), .ref (a0 9), .ref (a0 10), .ref (a0 11)])), (a0 0, .inl (cI, 400, .inl (ma M0 0))), (a0 11, .inl (cJ, 4, .inr (.inl (ml M0 11)))), (a0 4, .inr (10, [.ref (a1 0), .ref (a1 1), .ref (a1 2), .ref (a1 3), .int (mg M1 4)])), (a1 3, .inl (cI, 2, .inl (ma M1 3))), (a1 0, .inr (1, [.int (mg M2 0), .ref (a2 1), .int (mg M2 2), .ref (a2 3), .int (mg M2 4), .ref (a2 5)])), (a2 1, .inl (cI, 4, .inl (ma M2 1))), (a2 3, .inl (cI, 4, .inl (ma M2 3))), (a2 5, .inl (cI, 2, .inl (ma M2 5))), (a1 1, .inr (6, [.int (mg M3 0), .int (mg M3 1), .int (mg M3 2), .int (mg M3 3), .int (mg M3 4), .int (mg M3 5), .int (mg M3 6), .ref (a3 7), .ref (a3 8), .ref (a3 9)])), (a3 7, .inl (cI, 2, .inl (ma M3 7))), (a3 8, .inl (cI, 2, .inl (ma M3 8))), (a3 9, .inl (cI, 2, .inl (ma M3 9))), (a1 2, .inr (4, [.int (mg M4 0), .ref (a4 1), .ref (a4 2), .ref (a4 3)])), (a4 1, .inl (cI, 6, .inl (ma M4 1))), (a4 2, .inl (cI, 6, .inl (ma M4 2))), (a4 3, .inl (cI, 6, .inl (ma M4 3))), (a0 6, .inr (1, [.int (mg M5 0), .ref (a5 1), .int (mg M5 2), .ref (a5 3), .int (mg M5 4), .ref (a5 5)])), (a5 1, .inl (cI, 4, .inl (ma M5 1))), (a5 3, .inl (cI, 4, .inl (ma M5 3))), (a5 5, .inl (cI, 2, .inl (ma M5 5))), (a0 7, .inr (6, [.int (mg M6 0), .int (mg M6 1), .int (mg M6 2), .int (mg M6 3), .int (mg M6 4), .int (mg M6 5), .int (mg M6 6), .ref (a6 7), .ref (a6 8), .ref (a6 9)])), (a6 7, .inl (cI, 2, .inl (ma M6 7))), (a6 8, .inl (cI, 2, .inl (ma M6 8))), (a6 9, .inl (cI, 2, .inl (ma M6 9))), (a0 8, .inr (0, [.ref (a7 0), .ref (a7 1), .ref (a7 2), .ref (a7 3), .int (mg M7 4), va_rf o7, .int (mg M7 6), .int (mg M7 7), .int (mg M7 8), .int (mg M7 9), .int (mg M7 10)])), (a7 0, .inl (cJ, 15, .inr (.inl (ml M7 0)))), (a7 1, .inl (cJ, 800, .inr (.inl (ml M7 1)))), (a7 2, .inl (cI, 4, .inl (ma M7 2))), (a7 3, .inl (cJ, 4, .inr (.inl (ml M7 3)))), (a0 9, .inr (5, [.ref (a8 0), .ref (a8 1), va_rf o8, .int (mg M8 3)])), (a8 0, .inl (cI, 2048, .inl (ma M8 0))), (a8 1, .inl (cI, 2048, .inl (ma M8 1))), (a0 10, .inr (3, [.int (mg M9 0), .int (mg M9 1), .int (mg M9 2), .int (mg M9 3), .int (mg M9 4)]))]) (w1 := (e0W cB cI cJ cZ  )) hP hD [] [0, 1, 2, 3, 4, 5, 6, 7, 8, 9, 10, 11, 12, 13, 14, 15, 16, 17, 18, 19, 20, 21, 22, 23, 24, 25, 26, 27, 28, 29, 30, 31, 32, 33] rfl rfl (by decide) (by decide) hk1 hFc hP1 hD1
      have hP := hP.sub (ws' := (lwW cB cI cJ cZ h0 a0 a1 a2 a3 a4 a5 a6 a7 o7 a8 o8 a9 M0 M1 M2 M3 M4 M5 M6 M7 M8 M9)) [0, 1, 2, 3, 4, 5, 6, 7, 8, 9, 10, 11, 12, 13, 14, 15, 16, 17, 18, 19, 20, 21, 22, 23, 24, 25, 26, 27, 28, 29, 30, 31, 32, 33] rfl
      have hD := hD.sub (ws' := (lwW cB cI cJ cZ h0 a0 a1 a2 a3 a4 a5 a6 a7 o7 a8 o8 a9 M0 M1 M2 M3 M4 M5 M6 M7 M8 M9)) [0, 1, 2, 3, 4, 5, 6, 7, 8, 9, 10, 11, 12, 13, 14, 15, 16, 17, 18, 19, 20, 21, 22, 23, 24, 25, 26, 27, 28, 29, 30, 31, 32, 33] (by decide) rfl
      generalize H1 = H at hP hS ⊢
      obtain ⟨b5, rfl, h⟩ := hw
      try dsimp only at h
      refine lv_if_eq (tgt := 40) hx hb dX11_hidden_20 (by decide) (fun c6 => ?_) (fun c6 => ?_)
      · have h := h.1 c6
        refine lv_bipush (v := (-2)) hx hb dX11_hidden_40 (by decide) ?_
        exact W.iret (v := (-2 : Int32)) hx hb hr (fun t ht hW => ⟨⟨_, (M0, M1, M2, M3, M4, M5, M6, M7, M8, M9), rfl, h, o7, o8, by rw [ht]; exact hP, va_K.moved hW.alike hK, hD⟩, hS.F ht⟩) hS.2.2 dX11_hidden_42
      · have h := h.2 c6
        refine lv_iload_n hx hb dX11_hidden_23 rfl (lv_at hl 4 rfl) ?_
        refine lv_if_lt (tgt := 40) hx hb dX11_hidden_24 (by decide) (fun c7 => ?_) (fun c7 => ?_)
        · have h := h.1 c7
          refine lv_bipush (v := (-2)) hx hb dX11_hidden_40 (by decide) ?_
          exact W.iret (v := (-2 : Int32)) hx hb hr (fun t ht hW => ⟨⟨_, (M0, M1, M2, M3, M4, M5, M6, M7, M8, M9), rfl, h, o7, o8, by rw [ht]; exact hP, va_K.moved hW.alike hK, hD⟩, hS.F ht⟩) hS.2.2 dX11_hidden_42
        · have h := h.2 c7
          refine lv_iload_n hx hb dX11_hidden_27 rfl (lv_at hl 4 rfl) ?_
          refine lv_iconst (v := 1) hx hb dX11_hidden_28 (by decide) ?_
          refine lv_icmp_gt (tgt := 40) hx hb dX11_hidden_29 (by decide) (fun c8 => ?_) (fun c8 => ?_)
          · have h := h.1 c8
            refine lv_bipush (v := (-2)) hx hb dX11_hidden_40 (by decide) ?_
            exact W.iret (v := (-2 : Int32)) hx hb hr (fun t ht hW => ⟨⟨_, (M0, M1, M2, M3, M4, M5, M6, M7, M8, M9), rfl, h, o7, o8, by rw [ht]; exact hP, va_K.moved hW.alike hK, hD⟩, hS.F ht⟩) hS.2.2 dX11_hidden_42
          · have h := h.2 c8
            refine lv_aload hx hb dX11_hidden_32 (lv_at hl 0 rfl) ?_
            refine va_get (D := (dC, dI)) (ci := 6) (v := .int (mg M3 0)) (C := RX6) (T := TX6) (N := 10) hx hb hts hinX6 hown hK hP 9 rfl rfl 0 (by decide) f3 (fun _ h9 => h9) rfl dX11_hidden_34 ?_
            refine lv_if_ne (tgt := 43) hx hb dX11_hidden_37 (by decide) (fun c9 => ?_) (fun c9 => ?_)
            · have h := h.2 c9
              refine lv_aload hx hb dX11_hidden_43 (lv_at hl 0 rfl) ?_
              refine va_get (D := (dC, dI)) (ci := 6) (v := .ref (a3 7)) (C := RX6) (T := TX6) (N := 10) hx hb hts hinX6 hown hK hP 9 rfl rfl 7 (by decide) f4 (fun _ h9 => h9) rfl dX11_hidden_45 ?_
              refine lv_iload_n hx hb dX11_hidden_48 rfl (lv_at hl 2 rfl) ?_
              refine va_iald hx hb hK hP 10 1 (f := ma M3 7) rfl rfl h.1 dX11_hidden_49 ?_
              have h := h.2
              refine lv_topi (fun x10 ex10 => ?_)
              have h := h x10 ex10
              refine lv_istore (lv' := [(5, .int x10), (4, .ref (a1 1)), (0, .ref h0), (1, .int p1), (2, .int p2), (3, .int p3)]) hx hb dX11_hidden_50 hl (by decide) rfl (fun ls hl => ?_)
              refine lv_aload_n hx hb dX11_hidden_52 rfl (lv_at hl 2 rfl) ?_
              refine va_get (D := (dC, dI)) (ci := 11) (v := .ref (a0 8)) (C := RX11) (T := TX11) (N := 12) hx hb hts hinX11 hown hK hP 0 rfl rfl 8 (by decide) f5 (fun _ h9 => h9) rfl dX11_hidden_53 ?_
              refine lv_aload_n hx hb dX11_hidden_56 rfl (lv_at hl 2 rfl) ?_
              refine va_get (D := (dC, dI)) (ci := 11) (v := .ref (a0 4)) (C := RX11) (T := TX11) (N := 12) hx hb hts hinX11 hown hK hP 0 rfl rfl 4 (by decide) f1 (fun _ h9 => h9) rfl dX11_hidden_57 ?_
              refine va_get (D := (dC, dI)) (ci := 10) (v := .ref (a1 0)) (C := RX10) (T := TX10) (N := 5) hx hb hts hinX10 hown hK hP 3 rfl rfl 0 (by decide) f6 (fun _ h9 => h9) rfl dX11_hidden_60 ?_
              refine lv_aload hx hb dX11_hidden_63 (lv_at hl 1 rfl) ?_
              refine va_get (D := (dC, dI)) (ci := 6) (v := .int (mg M3 1)) (C := RX6) (T := TX6) (N := 10) hx hb hts hinX6 hown hK hP 9 rfl rfl 1 (by decide) f7 (fun _ h9 => h9) rfl dX11_hidden_65 ?_
              refine lv_aload hx hb dX11_hidden_68 (lv_at hl 1 rfl) ?_
              refine va_get (D := (dC, dI)) (ci := 6) (v := .int (mg M3 2)) (C := RX6) (T := TX6) (N := 10) hx hb hts hinX6 hown hK hP 9 rfl rfl 2 (by decide) f8 (fun _ h9 => h9) rfl dX11_hidden_70 ?_
              refine lv_aload hx hb dX11_hidden_73 (lv_at hl 1 rfl) ?_
              have hPc := hP.sub (ws' := (qrW cB cI cJ cZ (a1 1) a3 M3)) [9, 10, 11, 12] rfl
              have hDc := hD.sub (ws' := (qrW cB cI cJ cZ (a1 1) a3 M3)) [9, 10, 11, 12] (by decide) rfl
              have hFc := va_free (wc := (qrW cB cI cJ cZ (a1 1) a3 M3)) hD hS hA [9, 10, 11, 12] rfl
              refine va_calli (va_runV (As := []) (rest := [.int (mg M3 2), .int (mg M3 1), .ref (a1 0), .ref (a0 8)]) ⟨hx, hb, hml, hown, hts⟩ (kX6_lasts l dC dI cB cI cJ cZ (a1 1) a3 H.size  M3 _ h) (cwV 0 hts gX11_hidden_X6_lasts rfl rfl rfl (by decide +kernel) ⟨Nat.le_of_ble_eq_true rfl, Nat.le_of_ble_eq_true rfl⟩) (qrpV hK hPc hDc) rfl rfl hl.1 rfl (lv_room (Nat.le_of_ble_eq_true rfl)) dX11_hidden_75 ⟨Nat.le_of_ble_eq_true rfl, Nat.le_of_ble_eq_true rfl⟩) hS (fun q _ z => hFc q z) hFc (fun r11 u t H1 locs ht hvm hw hB hz1 hk1 hS => ?_)
              obtain ⟨N12, rfl⟩ : ∃ z, z = u := ⟨_, rfl⟩
              obtain ⟨hP1, hK1, hD1⟩ := hB
              rw [ht] at hP1
              obtain ⟨hP, hD⟩ := va_join (wr := [(h0, .inr (11, [.ref (a0 0), .int (mg M0 1), .ref (a0 2), .int (mg M0 3), .ref (a0 4), .ref (a0 5), .ref (a0 6), .ref (a0 7), .ref (a0 8), .ref (a0 9), .ref (a0 10), .ref (a0 11)])), (a0 0, .inl (cI, 400, .inl (ma M0 0))), (a0 11, .inl (cJ, 4, .inr (.inl (ml M0 11)))), (a0 4, .inr (10, [.ref (a1 0), .ref (a1 1), .ref (a1 2), .ref (a1 3), .int (mg M1 4)])), (a1 3, .inl (cI, 2, .inl (ma M1 3))), (a1 0, .inr (1, [.int (mg M2 0), .ref (a2 1), .int (mg M2 2), .ref (a2 3), .int (mg M2 4), .ref (a2 5)])), (a2 1, .inl (cI, 4, .inl (ma M2 1))), (a2 3, .inl (cI, 4, .inl (ma M2 3))), (a2 5, .inl (cI, 2, .inl (ma M2 5))), (a1 2, .inr (4, [.int (mg M4 0), .ref (a4 1), .ref (a4 2), .ref (a4 3)])), (a4 1, .inl (cI, 6, .inl (ma M4 1))), (a4 2, .inl (cI, 6, .inl (ma M4 2))), (a4 3, .inl (cI, 6, .inl (ma M4 3))), (a0 6, .inr (1, [.int (mg M5 0), .ref (a5 1), .int (mg M5 2), .ref (a5 3), .int (mg M5 4), .ref (a5 5)])), (a5 1, .inl (cI, 4, .inl (ma M5 1))), (a5 3, .inl (cI, 4, .inl (ma M5 3))), (a5 5, .inl (cI, 2, .inl (ma M5 5))), (a0 7, .inr (6, [.int (mg M6 0), .int (mg M6 1), .int (mg M6 2), .int (mg M6 3), .int (mg M6 4), .int (mg M6 5), .int (mg M6 6), .ref (a6 7), .ref (a6 8), .ref (a6 9)])), (a6 7, .inl (cI, 2, .inl (ma M6 7))), (a6 8, .inl (cI, 2, .inl (ma M6 8))), (a6 9, .inl (cI, 2, .inl (ma M6 9))), (a0 8, .inr (0, [.ref (a7 0), .ref (a7 1), .ref (a7 2), .ref (a7 3), .int (mg M7 4), va_rf o7, .int (mg M7 6), .int (mg M7 7), .int (mg M7 8), .int (mg M7 9), .int (mg M7 10)])), (a7 0, .inl (cJ, 15, .inr (.inl (ml M7 0)))), (a7 1, .inl (cJ, 800, .inr (.inl (ml M7 1)))), (a7 2, .inl (cI, 4, .inl (ma M7 2))), (a7 3, .inl (cJ, 4, .inr (.inl (ml M7 3)))), (a0 9, .inr (5, [.ref (a8 0), .ref (a8 1), va_rf o8, .int (mg M8 3)])), (a8 0, .inl (cI, 2048, .inl (ma M8 0))), (a8 1, .inl (cI, 2048, .inl (ma M8 1))), (a0 10, .inr (3, [.int (mg M9 0), .int (mg M9 1), .int (mg M9 2), .int (mg M9 3), .int (mg M9 4)]))]) (w1 := (qrW cB cI cJ cZ (a1 1) a3 N12)) hP hD [9, 10, 11, 12] [0, 1, 2, 3, 4, 5, 6, 7, 8, 13, 14, 15, 16, 17, 18, 19, 20, 21, 22, 23, 24, 25, 26, 27, 28, 29, 30, 31, 32, 33] rfl rfl (by decide) (by decide) hk1 hFc hP1 hD1
              have hP := hP.sub (ws' := (lwW cB cI cJ cZ h0 a0 a1 a2 a3 a4 a5 a6 a7 o7 a8 o8 a9 M0 M1 M2 N12 M4 M5 M6 M7 M8 M9)) [0, 1, 2, 3, 4, 5, 6, 7, 8, 30, 31, 32, 33, 9, 10, 11, 12, 13, 14, 15, 16, 17, 18, 19, 20, 21, 22, 23, 24, 25, 26, 27, 28, 29] rfl
              have hD := hD.sub (ws' := (lwW cB cI cJ cZ h0 a0 a1 a2 a3 a4 a5 a6 a7 o7 a8 o8 a9 M0 M1 M2 N12 M4 M5 M6 M7 M8 M9)) [0, 1, 2, 3, 4, 5, 6, 7, 8, 30, 31, 32, 33, 9, 10, 11, 12, 13, 14, 15, 16, 17, 18, 19, 20, 21, 22, 23, 24, 25, 26, 27, 28, 29] (by decide) rfl
              generalize H1 = H at hP hS ⊢
              have h := hw
              try dsimp only at h
              refine lv_iload hx hb dX11_hidden_78 (lv_at hl 0 rfl) ?_
              refine lv_iload_n hx hb dX11_hidden_80 rfl (lv_at hl 4 rfl) ?_
              refine lv_iadd hx hb dX11_hidden_81 ?_
              have hPc := hP.sub (ws' := (boW cB cI cJ cZ (a0 8) a7 o7 (a1 0) a2 M7 M2)) [25, 26, 27, 28, 29, 5, 6, 7, 8] rfl
              have hDc := hD.sub (ws' := (boW cB cI cJ cZ (a0 8) a7 o7 (a1 0) a2 M7 M2)) [25, 26, 27, 28, 29, 5, 6, 7, 8] (by decide) rfl
              have hFc := va_free (wc := (boW cB cI cJ cZ (a0 8) a7 o7 (a1 0) a2 M7 M2)) hD hS hA [25, 26, 27, 28, 29, 5, 6, 7, 8] rfl
              refine va_calll (va_runV (As := [.ref (a1 0), .int (mg M3 1), .int (mg M3 2), .int r11, .int (x10 + p2)]) (rest := []) ⟨hx, hb, hml, hown, hts⟩ (kX0_winners l dC dI cB cI cJ cZ (a0 8) a7 o7 (a1 0) a2 H.size (mg M3 1) (mg M3 2) r11 (x10 + p2) M7 M2 _ h) (cwV 5 hts gX11_hidden_X0_winners rfl rfl rfl (by decide +kernel) ⟨Nat.le_of_ble_eq_true rfl, Nat.le_of_ble_eq_true rfl⟩) (bopV hK hPc hDc) rfl rfl hl.1 rfl (lv_room (Nat.le_of_ble_eq_true rfl)) dX11_hidden_82 ⟨Nat.le_of_ble_eq_true rfl, Nat.le_of_ble_eq_true rfl⟩) hS (fun q _ z => hFc q z) hFc (fun r13 u t H1 locs ht hvm hw hB hz1 hk1 hS => ?_)
              obtain ⟨N14, N15⟩ := u
              obtain ⟨hP1, hK1, hD1⟩ := hB
              rw [ht] at hP1
              obtain ⟨hP, hD⟩ := va_join (wr := [(h0, .inr (11, [.ref (a0 0), .int (mg M0 1), .ref (a0 2), .int (mg M0 3), .ref (a0 4), .ref (a0 5), .ref (a0 6), .ref (a0 7), .ref (a0 8), .ref (a0 9), .ref (a0 10), .ref (a0 11)])), (a0 0, .inl (cI, 400, .inl (ma M0 0))), (a0 11, .inl (cJ, 4, .inr (.inl (ml M0 11)))), (a0 4, .inr (10, [.ref (a1 0), .ref (a1 1), .ref (a1 2), .ref (a1 3), .int (mg M1 4)])), (a1 3, .inl (cI, 2, .inl (ma M1 3))), (a1 1, .inr (6, [.int (mg N12 0), .int (mg N12 1), .int (mg N12 2), .int (mg N12 3), .int (mg N12 4), .int (mg N12 5), .int (mg N12 6), .ref (a3 7), .ref (a3 8), .ref (a3 9)])), (a3 7, .inl (cI, 2, .inl (ma N12 7))), (a3 8, .inl (cI, 2, .inl (ma N12 8))), (a3 9, .inl (cI, 2, .inl (ma N12 9))), (a1 2, .inr (4, [.int (mg M4 0), .ref (a4 1), .ref (a4 2), .ref (a4 3)])), (a4 1, .inl (cI, 6, .inl (ma M4 1))), (a4 2, .inl (cI, 6, .inl (ma M4 2))), (a4 3, .inl (cI, 6, .inl (ma M4 3))), (a0 6, .inr (1, [.int (mg M5 0), .ref (a5 1), .int (mg M5 2), .ref (a5 3), .int (mg M5 4), .ref (a5 5)])), (a5 1, .inl (cI, 4, .inl (ma M5 1))), (a5 3, .inl (cI, 4, .inl (ma M5 3))), (a5 5, .inl (cI, 2, .inl (ma M5 5))), (a0 7, .inr (6, [.int (mg M6 0), .int (mg M6 1), .int (mg M6 2), .int (mg M6 3), .int (mg M6 4), .int (mg M6 5), .int (mg M6 6), .ref (a6 7), .ref (a6 8), .ref (a6 9)])), (a6 7, .inl (cI, 2, .inl (ma M6 7))), (a6 8, .inl (cI, 2, .inl (ma M6 8))), (a6 9, .inl (cI, 2, .inl (ma M6 9))), (a0 9, .inr (5, [.ref (a8 0), .ref (a8 1), va_rf o8, .int (mg M8 3)])), (a8 0, .inl (cI, 2048, .inl (ma M8 0))), (a8 1, .inl (cI, 2048, .inl (ma M8 1))), (a0 10, .inr (3, [.int (mg M9 0), .int (mg M9 1), .int (mg M9 2), .int (mg M9 3), .int (mg M9 4)]))]) (w1 := (boW cB cI cJ cZ (a0 8) a7 (some (a1 0)) (a1 0) a2 N14 N15)) hP hD [25, 26, 27, 28, 29, 5, 6, 7, 8] [0, 1, 2, 3, 4, 9, 10, 11, 12, 13, 14, 15, 16, 17, 18, 19, 20, 21, 22, 23, 24, 30, 31, 32, 33] rfl rfl (by decide) (by decide) hk1 hFc hP1 hD1
              have hP := hP.sub (ws' := (lwW cB cI cJ cZ h0 a0 a1 a2 a3 a4 a5 a6 a7 (some (a1 0)) a8 o8 a9 M0 M1 N15 N12 M4 M5 M6 N14 M8 M9)) [0, 1, 2, 3, 4, 30, 31, 32, 33, 5, 6, 7, 8, 9, 10, 11, 12, 13, 14, 15, 16, 17, 18, 19, 20, 25, 26, 27, 28, 29, 21, 22, 23, 24] rfl
              have hD := hD.sub (ws' := (lwW cB cI cJ cZ h0 a0 a1 a2 a3 a4 a5 a6 a7 (some (a1 0)) a8 o8 a9 M0 M1 N15 N12 M4 M5 M6 N14 M8 M9)) [0, 1, 2, 3, 4, 30, 31, 32, 33, 5, 6, 7, 8, 9, 10, 11, 12, 13, 14, 15, 16, 17, 18, 19, 20, 25, 26, 27, 28, 29, 21, 22, 23, 24] (by decide) rfl
              generalize H1 = H at hP hS ⊢
              have h := hw
              try dsimp only at h
              refine lv_lstore (lv' := [(6, .long r13), (5, .int x10), (4, .ref (a1 1)), (0, .ref h0), (1, .int p1), (2, .int p2), (3, .int p3)]) hx hb dX11_hidden_85 hl (by decide) rfl (fun ls hl => ?_)
              refine lv_iconst (v := 0) hx hb dX11_hidden_87 (by decide) ?_
              refine lv_istore (lv' := [(8, .int (0 : Int32)), (6, .long r13), (5, .int x10), (4, .ref (a1 1)), (0, .ref h0), (1, .int p1), (2, .int p2), (3, .int p3)]) hx hb dX11_hidden_88 hl (by decide) rfl (fun ls hl => ?_)
              refine lv_iconst (v := 0) hx hb dX11_hidden_90 (by decide) ?_
              refine lv_istore (lv' := [(9, .int (0 : Int32)), (8, .int (0 : Int32)), (6, .long r13), (5, .int x10), (4, .ref (a1 1)), (0, .ref h0), (1, .int p1), (2, .int p2), (3, .int p3)]) hx hb dX11_hidden_91 hl (by decide) rfl (fun ls hl => ?_)
              obtain ⟨n9, h⟩ := h
              exact b93  n9 p1 p2 p3 x10 r13 (0 : Int32) (0 : Int32) (some (a1 0)) o8 M0 M1 N15 N12 M4 M5 M6 N14 M8 M9 H locs ls hP hD hS (lv_sub hl [5, 6, 7, 8, 3, 2, 1, 0] rfl) h
            · have h := h.1 c9
              refine lv_bipush (v := (-2)) hx hb dX11_hidden_40 (by decide) ?_
              exact W.iret (v := (-2 : Int32)) hx hb hr (fun t ht hW => ⟨⟨_, (M0, M1, M2, M3, M4, M5, M6, M7, M8, M9), rfl, h, o7, o8, by rw [ht]; exact hP, va_K.moved hW.alike hK, hD⟩, hS.F ht⟩) hS.2.2 dX11_hidden_42
  have hl := lv_entry ([.ref h0, .int p1, .int p2, .int p3]) (n := 11) (Nat.le_of_ble_eq_true rfl)
  rw [lg_entry_eq]
  generalize (lg_sl ([.ref h0, .int p1, .int p2, .int p3]) ++ List.replicate (11 - (lg_sl ([.ref h0, .int p1, .int p2, .int p3])).length) Slot.unset).toArray = ls at hl ⊢
  have hl : lv_has ls 11 [(0, .ref h0), (1, .int p1), (2, .int p2), (3, .int p3)] := hl
  exact bE M0 M1 M2 M3 M4 M5 M6 M7 M8 M9 s.heap [] ls hP hD hS hl h
def wX11_startWinners (p1 : Int32) (p2 : Int32) (M0 : gS) (M1 : gS) (M2 : gS) (M3 : gS) (M4 : gS) (M5 : gS) (M6 : gS) (M7 : gS) (M8 : gS) (M9 : gS) (Q : Int64 → gS → gS → gS → gS → gS → gS → gS → gS → gS → gS → Prop) : Prop :=
 (wX1_verseOf p1 M2 (fun (r1 : Int32) (N2 : gS) => (wX0_winners r1 r1 (0 : Int32) p2 M7 N2 (fun (r3 : Int64) (N4 : gS) (N5 : gS) => (Q r3 M0 M1 N5 M3 M4 M5 M6 N4 M8 M9)))))
def rmX11_startWinners : Room := { frames := 4, cells := 0, slots := 0, locals := 102 }
set_option maxHeartbeats 4000000 in
set_option maxRecDepth 100000 in
theorem kX11_startWinners (l : Launch) (dC : Nat → ClassId) (dI : Nat → Nat → Nat) (cB cI cJ cZ : ClassId) (h0 : Nat) (a0 : Nat → Nat) (a1 : Nat → Nat) (a2 : Nat → Nat) (a3 : Nat → Nat) (a4 : Nat → Nat) (a5 : Nat → Nat) (a6 : Nat → Nat) (a7 : Nat → Nat) (o7 : Option Nat) (a8 : Nat → Nat) (o8 : Option Nat) (a9 : Nat → Nat) (sz : Nat) (p1 : Int32) (p2 : Int32) (M0 : gS) (M1 : gS) (M2 : gS) (M3 : gS) (M4 : gS) (M5 : gS) (M6 : gS) (M7 : gS) (M8 : gS) (M9 : gS) (Q : Int64 → gS → gS → gS → gS → gS → gS → gS → gS → gS → gS → Prop) (h : wX11_startWinners p1 p2 M0 M1 M2 M3 M4 M5 M6 M7 M8 M9 Q) : Met l yX11_startWinners wsX11_startWinners rmX11_startWinners (va_Pc [.ref h0, .int p1, .int p2] (lwI dC dI cB cI cJ cZ h0 a0 a1 a2 a3 a4 a5 a6 a7 o7 a8 o8 a9 M0 M1 M2 M3 M4 M5 M6 M7 M8 M9 sz)) (va_Ql (fun (r : Int64) (u : gS × gS × gS × gS × gS × gS × gS × gS × gS × gS) => Q r u.1 u.2.1 u.2.2.1 u.2.2.2.1 u.2.2.2.2.1 u.2.2.2.2.2.1 u.2.2.2.2.2.2.1 u.2.2.2.2.2.2.2.1 u.2.2.2.2.2.2.2.2.1 u.2.2.2.2.2.2.2.2.2) (lwB dC dI cB cI cJ cZ h0 a0 a1 a2 a3 a4 a5 a6 a7 a8 a9 (va_A (lwW cB cI cJ cZ h0 a0 a1 a2 a3 a4 a5 a6 a7 o7 a8 o8 a9 M0 M1 M2 M3 M4 M5 M6 M7 M8 M9) sz)) (va_A (lwW cB cI cJ cZ h0 a0 a1 a2 a3 a4 a5 a6 a7 o7 a8 o8 a9 M0 M1 M2 M3 M4 M5 M6 M7 M8 M9) sz)) 0 0 (va_A (lwW cB cI cJ cZ h0 a0 a1 a2 a3 a4 a5 a6 a7 o7 a8 o8 a9 M0 M1 M2 M3 M4 M5 M6 M7 M8 M9) sz) := by
  refine Met.ofW (cc := cX11_startWinners) (maxL := 4) (ret := (some .long)) (by decide) rfl ?_
  intro p e s m args below meth c s₁ B hml hv
  obtain ⟨rfl, hsz, hP, hK, hD0⟩ := hv
  have hx := B.exec
  have hb := B.bytes
  have hr := B.returns
  have hts := atoms_spec (ws := wsX11_startWinners) B.pre
  have hown : s.vm.findClass RX11 = some m.cls := findClass_of_methodNamed B.named
  have hlocks := B.notSynchronized
  subst hsz
  have hD := hD0.self (sz := s.heap.size)
  generalize hAe : va_A (lwW cB cI cJ cZ h0 a0 a1 a2 a3 a4 a5 a6 a7 o7 a8 o8 a9 M0 M1 M2 M3 M4 M5 M6 M7 M8 M9) s.heap.size = A at hD ⊢
  have hA : ∀ q : Nat, s.heap.size ≤ q → A q := fun q h => by rw [← hAe]; exact Or.inr h
  have hS : va_S A s.heap s.heap [] := va_S.rf
  have hinX10 : ∀ w ∈ wsX100, w ∈ wsX11_startWinners := by decide +kernel
  have hinX11 : ∀ w ∈ wsX110, w ∈ wsX11_startWinners := by decide +kernel
  have f1 := hts (.fieldLink RX11 22 "LastWords" "now" "LLastWords$State;") (by decide +kernel)
  have f2 := hts (.fieldLink RX11 108 "LastWords$State" "corner" "LLastWords$Corner;") (by decide +kernel)
  have f3 := hts (.fieldLink RX11 47 "LastWords" "bestPlay" "LLastWords$BestPlay;") (by decide +kernel)
  have bE : ∀ (M0 : gS) (M1 : gS) (M2 : gS) (M3 : gS) (M4 : gS) (M5 : gS) (M6 : gS) (M7 : gS) (M8 : gS) (M9 : gS) (H : Heap) (locs : List Loc) (ls : Array Slot), va_P (dC, dI) vwCl (lwW cB cI cJ cZ h0 a0 a1 a2 a3 a4 a5 a6 a7 o7 a8 o8 a9 M0 M1 M2 M3 M4 M5 M6 M7 M8 M9) H → va_D A (lwW cB cI cJ cZ h0 a0 a1 a2 a3 a4 a5 a6 a7 o7 a8 o8 a9 M0 M1 M2 M3 M4 M5 M6 M7 M8 M9) → va_S A s.heap H locs → lv_has ls 4 [(0, .ref h0), (1, .int p1), (2, .int p2)] → wX11_startWinners p1 p2 M0 M1 M2 M3 M4 M5 M6 M7 M8 M9 Q → W p l e (headSpec wsX11_startWinners rmX11_startWinners).room s m ([.ref h0, .int p1, .int p2] : List Value).toArray below meth c H locs 0 0 (MQ below (va_Ql (fun (r : Int64) (u : gS × gS × gS × gS × gS × gS × gS × gS × gS × gS) => Q r u.1 u.2.1 u.2.2.1 u.2.2.2.1 u.2.2.2.2.1 u.2.2.2.2.2.1 u.2.2.2.2.2.2.1 u.2.2.2.2.2.2.2.1 u.2.2.2.2.2.2.2.2.1 u.2.2.2.2.2.2.2.2.2) (lwB dC dI cB cI cJ cZ h0 a0 a1 a2 a3 a4 a5 a6 a7 a8 a9 A) A) ([.ref h0, .int p1, .int p2] : List Value).toArray s 0 0 A) (F0 m 0 ls []) := by
    intro M0 M1 M2 M3 M4 M5 M6 M7 M8 M9 H locs ls hP hD hS hl h
    unfold wX11_startWinners at h
    refine lv_aload_n hx hb dX11_startWinners_0 rfl (lv_at hl 0 rfl) ?_
    refine va_get (D := (dC, dI)) (ci := 11) (v := .ref (a0 4)) (C := RX11) (T := TX11) (N := 12) hx hb hts hinX11 hown hK hP 0 rfl rfl 4 (by decide) f1 (fun _ h9 => h9) rfl dX11_startWinners_1 ?_
    refine va_get (D := (dC, dI)) (ci := 10) (v := .ref (a1 0)) (C := RX10) (T := TX10) (N := 5) hx hb hts hinX10 hown hK hP 3 rfl rfl 0 (by decide) f2 (fun _ h9 => h9) rfl dX11_startWinners_4 ?_
    refine lv_iload_n hx hb dX11_startWinners_7 rfl (lv_at hl 1 rfl) ?_
    have hPc := hP.sub (ws' := (cnW cB cI cJ cZ (a1 0) a2 M2)) [5, 6, 7, 8] rfl
    have hDc := hD.sub (ws' := (cnW cB cI cJ cZ (a1 0) a2 M2)) [5, 6, 7, 8] (by decide) rfl
    have hFc := va_free (wc := (cnW cB cI cJ cZ (a1 0) a2 M2)) hD hS hA [5, 6, 7, 8] rfl
    refine va_calli (va_runV (As := [.int p1]) (rest := []) ⟨hx, hb, hml, hown, hts⟩ (kX1_verseOf l dC dI cB cI cJ cZ (a1 0) a2 H.size p1 M2 _ h) (cwV 1 hts gX11_startWinners_X1_verseOf rfl rfl rfl (by decide +kernel) ⟨Nat.le_of_ble_eq_true rfl, Nat.le_of_ble_eq_true rfl⟩) (cnpV hK hPc hDc) rfl rfl hl.1 rfl (lv_room (Nat.le_of_ble_eq_true rfl)) dX11_startWinners_8 ⟨Nat.le_of_ble_eq_true rfl, Nat.le_of_ble_eq_true rfl⟩) hS (fun q _ z => hFc q z) hFc (fun r1 u t H1 locs ht hvm hw hB hz1 hk1 hS => ?_)
    obtain ⟨N2, rfl⟩ : ∃ z, z = u := ⟨_, rfl⟩
    obtain ⟨hP1, hK1, hD1⟩ := hB
    rw [ht] at hP1
    obtain ⟨hP, hD⟩ := va_join (wr := [(h0, .inr (11, [.ref (a0 0), .int (mg M0 1), .ref (a0 2), .int (mg M0 3), .ref (a0 4), .ref (a0 5), .ref (a0 6), .ref (a0 7), .ref (a0 8), .ref (a0 9), .ref (a0 10), .ref (a0 11)])), (a0 0, .inl (cI, 400, .inl (ma M0 0))), (a0 11, .inl (cJ, 4, .inr (.inl (ml M0 11)))), (a0 4, .inr (10, [.ref (a1 0), .ref (a1 1), .ref (a1 2), .ref (a1 3), .int (mg M1 4)])), (a1 3, .inl (cI, 2, .inl (ma M1 3))), (a1 1, .inr (6, [.int (mg M3 0), .int (mg M3 1), .int (mg M3 2), .int (mg M3 3), .int (mg M3 4), .int (mg M3 5), .int (mg M3 6), .ref (a3 7), .ref (a3 8), .ref (a3 9)])), (a3 7, .inl (cI, 2, .inl (ma M3 7))), (a3 8, .inl (cI, 2, .inl (ma M3 8))), (a3 9, .inl (cI, 2, .inl (ma M3 9))), (a1 2, .inr (4, [.int (mg M4 0), .ref (a4 1), .ref (a4 2), .ref (a4 3)])), (a4 1, .inl (cI, 6, .inl (ma M4 1))), (a4 2, .inl (cI, 6, .inl (ma M4 2))), (a4 3, .inl (cI, 6, .inl (ma M4 3))), (a0 6, .inr (1, [.int (mg M5 0), .ref (a5 1), .int (mg M5 2), .ref (a5 3), .int (mg M5 4), .ref (a5 5)])), (a5 1, .inl (cI, 4, .inl (ma M5 1))), (a5 3, .inl (cI, 4, .inl (ma M5 3))), (a5 5, .inl (cI, 2, .inl (ma M5 5))), (a0 7, .inr (6, [.int (mg M6 0), .int (mg M6 1), .int (mg M6 2), .int (mg M6 3), .int (mg M6 4), .int (mg M6 5), .int (mg M6 6), .ref (a6 7), .ref (a6 8), .ref (a6 9)])), (a6 7, .inl (cI, 2, .inl (ma M6 7))), (a6 8, .inl (cI, 2, .inl (ma M6 8))), (a6 9, .inl (cI, 2, .inl (ma M6 9))), (a0 8, .inr (0, [.ref (a7 0), .ref (a7 1), .ref (a7 2), .ref (a7 3), .int (mg M7 4), va_rf o7, .int (mg M7 6), .int (mg M7 7), .int (mg M7 8), .int (mg M7 9), .int (mg M7 10)])), (a7 0, .inl (cJ, 15, .inr (.inl (ml M7 0)))), (a7 1, .inl (cJ, 800, .inr (.inl (ml M7 1)))), (a7 2, .inl (cI, 4, .inl (ma M7 2))), (a7 3, .inl (cJ, 4, .inr (.inl (ml M7 3)))), (a0 9, .inr (5, [.ref (a8 0), .ref (a8 1), va_rf o8, .int (mg M8 3)])), (a8 0, .inl (cI, 2048, .inl (ma M8 0))), (a8 1, .inl (cI, 2048, .inl (ma M8 1))), (a0 10, .inr (3, [.int (mg M9 0), .int (mg M9 1), .int (mg M9 2), .int (mg M9 3), .int (mg M9 4)]))]) (w1 := (cnW cB cI cJ cZ (a1 0) a2 N2)) hP hD [5, 6, 7, 8] [0, 1, 2, 3, 4, 9, 10, 11, 12, 13, 14, 15, 16, 17, 18, 19, 20, 21, 22, 23, 24, 25, 26, 27, 28, 29, 30, 31, 32, 33] rfl rfl (by decide) (by decide) hk1 hFc hP1 hD1
    have hP := hP.sub (ws' := (lwW cB cI cJ cZ h0 a0 a1 a2 a3 a4 a5 a6 a7 o7 a8 o8 a9 M0 M1 N2 M3 M4 M5 M6 M7 M8 M9)) [0, 1, 2, 3, 4, 30, 31, 32, 33, 5, 6, 7, 8, 9, 10, 11, 12, 13, 14, 15, 16, 17, 18, 19, 20, 21, 22, 23, 24, 25, 26, 27, 28, 29] rfl
    have hD := hD.sub (ws' := (lwW cB cI cJ cZ h0 a0 a1 a2 a3 a4 a5 a6 a7 o7 a8 o8 a9 M0 M1 N2 M3 M4 M5 M6 M7 M8 M9)) [0, 1, 2, 3, 4, 30, 31, 32, 33, 5, 6, 7, 8, 9, 10, 11, 12, 13, 14, 15, 16, 17, 18, 19, 20, 21, 22, 23, 24, 25, 26, 27, 28, 29] (by decide) rfl
    generalize H1 = H at hP hS ⊢
    have h := hw
    try dsimp only at h
    refine lv_istore_n (lv' := [(3, .int r1), (0, .ref h0), (1, .int p1), (2, .int p2)]) hx hb dX11_startWinners_11 rfl hl (by decide) rfl (fun ls hl => ?_)
    refine lv_aload_n hx hb dX11_startWinners_12 rfl (lv_at hl 1 rfl) ?_
    refine va_get (D := (dC, dI)) (ci := 11) (v := .ref (a0 8)) (C := RX11) (T := TX11) (N := 12) hx hb hts hinX11 hown hK hP 0 rfl rfl 8 (by decide) f3 (fun _ h9 => h9) rfl dX11_startWinners_13 ?_
    refine lv_aload_n hx hb dX11_startWinners_16 rfl (lv_at hl 1 rfl) ?_
    refine va_get (D := (dC, dI)) (ci := 11) (v := .ref (a0 4)) (C := RX11) (T := TX11) (N := 12) hx hb hts hinX11 hown hK hP 0 rfl rfl 4 (by decide) f1 (fun _ h9 => h9) rfl dX11_startWinners_17 ?_
    refine va_get (D := (dC, dI)) (ci := 10) (v := .ref (a1 0)) (C := RX10) (T := TX10) (N := 5) hx hb hts hinX10 hown hK hP 3 rfl rfl 0 (by decide) f2 (fun _ h9 => h9) rfl dX11_startWinners_20 ?_
    refine lv_iload_n hx hb dX11_startWinners_23 rfl (lv_at hl 0 rfl) ?_
    refine lv_iload_n hx hb dX11_startWinners_24 rfl (lv_at hl 0 rfl) ?_
    refine lv_iconst (v := 0) hx hb dX11_startWinners_25 (by decide) ?_
    refine lv_iload_n hx hb dX11_startWinners_26 rfl (lv_at hl 3 rfl) ?_
    have hPc := hP.sub (ws' := (boW cB cI cJ cZ (a0 8) a7 o7 (a1 0) a2 M7 N2)) [25, 26, 27, 28, 29, 5, 6, 7, 8] rfl
    have hDc := hD.sub (ws' := (boW cB cI cJ cZ (a0 8) a7 o7 (a1 0) a2 M7 N2)) [25, 26, 27, 28, 29, 5, 6, 7, 8] (by decide) rfl
    have hFc := va_free (wc := (boW cB cI cJ cZ (a0 8) a7 o7 (a1 0) a2 M7 N2)) hD hS hA [25, 26, 27, 28, 29, 5, 6, 7, 8] rfl
    refine va_calll (va_runV (As := [.ref (a1 0), .int r1, .int r1, .int (0 : Int32), .int p2]) (rest := []) ⟨hx, hb, hml, hown, hts⟩ (kX0_winners l dC dI cB cI cJ cZ (a0 8) a7 o7 (a1 0) a2 H.size r1 r1 (0 : Int32) p2 M7 N2 _ h) (cwV 5 hts gX11_startWinners_X0_winners rfl rfl rfl (by decide +kernel) ⟨Nat.le_of_ble_eq_true rfl, Nat.le_of_ble_eq_true rfl⟩) (bopV hK hPc hDc) rfl rfl hl.1 rfl (lv_room (Nat.le_of_ble_eq_true rfl)) dX11_startWinners_27 ⟨Nat.le_of_ble_eq_true rfl, Nat.le_of_ble_eq_true rfl⟩) hS (fun q _ z => hFc q z) hFc (fun r3 u t H1 locs ht hvm hw hB hz1 hk1 hS => ?_)
    obtain ⟨N4, N5⟩ := u
    obtain ⟨hP1, hK1, hD1⟩ := hB
    rw [ht] at hP1
    obtain ⟨hP, hD⟩ := va_join (wr := [(h0, .inr (11, [.ref (a0 0), .int (mg M0 1), .ref (a0 2), .int (mg M0 3), .ref (a0 4), .ref (a0 5), .ref (a0 6), .ref (a0 7), .ref (a0 8), .ref (a0 9), .ref (a0 10), .ref (a0 11)])), (a0 0, .inl (cI, 400, .inl (ma M0 0))), (a0 11, .inl (cJ, 4, .inr (.inl (ml M0 11)))), (a0 4, .inr (10, [.ref (a1 0), .ref (a1 1), .ref (a1 2), .ref (a1 3), .int (mg M1 4)])), (a1 3, .inl (cI, 2, .inl (ma M1 3))), (a1 1, .inr (6, [.int (mg M3 0), .int (mg M3 1), .int (mg M3 2), .int (mg M3 3), .int (mg M3 4), .int (mg M3 5), .int (mg M3 6), .ref (a3 7), .ref (a3 8), .ref (a3 9)])), (a3 7, .inl (cI, 2, .inl (ma M3 7))), (a3 8, .inl (cI, 2, .inl (ma M3 8))), (a3 9, .inl (cI, 2, .inl (ma M3 9))), (a1 2, .inr (4, [.int (mg M4 0), .ref (a4 1), .ref (a4 2), .ref (a4 3)])), (a4 1, .inl (cI, 6, .inl (ma M4 1))), (a4 2, .inl (cI, 6, .inl (ma M4 2))), (a4 3, .inl (cI, 6, .inl (ma M4 3))), (a0 6, .inr (1, [.int (mg M5 0), .ref (a5 1), .int (mg M5 2), .ref (a5 3), .int (mg M5 4), .ref (a5 5)])), (a5 1, .inl (cI, 4, .inl (ma M5 1))), (a5 3, .inl (cI, 4, .inl (ma M5 3))), (a5 5, .inl (cI, 2, .inl (ma M5 5))), (a0 7, .inr (6, [.int (mg M6 0), .int (mg M6 1), .int (mg M6 2), .int (mg M6 3), .int (mg M6 4), .int (mg M6 5), .int (mg M6 6), .ref (a6 7), .ref (a6 8), .ref (a6 9)])), (a6 7, .inl (cI, 2, .inl (ma M6 7))), (a6 8, .inl (cI, 2, .inl (ma M6 8))), (a6 9, .inl (cI, 2, .inl (ma M6 9))), (a0 9, .inr (5, [.ref (a8 0), .ref (a8 1), va_rf o8, .int (mg M8 3)])), (a8 0, .inl (cI, 2048, .inl (ma M8 0))), (a8 1, .inl (cI, 2048, .inl (ma M8 1))), (a0 10, .inr (3, [.int (mg M9 0), .int (mg M9 1), .int (mg M9 2), .int (mg M9 3), .int (mg M9 4)]))]) (w1 := (boW cB cI cJ cZ (a0 8) a7 (some (a1 0)) (a1 0) a2 N4 N5)) hP hD [25, 26, 27, 28, 29, 5, 6, 7, 8] [0, 1, 2, 3, 4, 9, 10, 11, 12, 13, 14, 15, 16, 17, 18, 19, 20, 21, 22, 23, 24, 30, 31, 32, 33] rfl rfl (by decide) (by decide) hk1 hFc hP1 hD1
    have hP := hP.sub (ws' := (lwW cB cI cJ cZ h0 a0 a1 a2 a3 a4 a5 a6 a7 (some (a1 0)) a8 o8 a9 M0 M1 N5 M3 M4 M5 M6 N4 M8 M9)) [0, 1, 2, 3, 4, 30, 31, 32, 33, 5, 6, 7, 8, 9, 10, 11, 12, 13, 14, 15, 16, 17, 18, 19, 20, 25, 26, 27, 28, 29, 21, 22, 23, 24] rfl
    have hD := hD.sub (ws' := (lwW cB cI cJ cZ h0 a0 a1 a2 a3 a4 a5 a6 a7 (some (a1 0)) a8 o8 a9 M0 M1 N5 M3 M4 M5 M6 N4 M8 M9)) [0, 1, 2, 3, 4, 30, 31, 32, 33, 5, 6, 7, 8, 9, 10, 11, 12, 13, 14, 15, 16, 17, 18, 19, 20, 25, 26, 27, 28, 29, 21, 22, 23, 24] (by decide) rfl
    generalize H1 = H at hP hS ⊢
    have h := hw
    try dsimp only at h
    exact W.lret (v := r3) hx hb hr (fun t ht hW => ⟨⟨_, (M0, M1, N5, M3, M4, M5, M6, N4, M8, M9), rfl, h, (some (a1 0)), o8, by rw [ht]; exact hP, va_K.moved hW.alike hK, hD⟩, hS.F ht⟩) hS.2.2 dX11_startWinners_30
  have hl := lv_entry ([.ref h0, .int p1, .int p2]) (n := 4) (Nat.le_of_ble_eq_true rfl)
  rw [lg_entry_eq]
  generalize (lg_sl ([.ref h0, .int p1, .int p2]) ++ List.replicate (4 - (lg_sl ([.ref h0, .int p1, .int p2])).length) Slot.unset).toArray = ls at hl ⊢
  have hl : lv_has ls 4 [(0, .ref h0), (1, .int p1), (2, .int p2)] := hl
  exact bE M0 M1 M2 M3 M4 M5 M6 M7 M8 M9 s.heap [] ls hP hD hS hl h
def wX11_fair_114 (B50 : Int32 → Int32 → Int32 → Int32 → Int32 → gS → gS → gS → gS → gS → gS → gS → gS → gS → gS → Prop) (Q : Int32 → gS → gS → gS → gS → gS → gS → gS → gS → gS → gS → Prop) (y1 : Int32) (y2 : Int32) (y3 : Int32) (y4 : Int32) (y5 : Int32) (M0 : gS) (M1 : gS) (M2 : gS) (M3 : gS) (M4 : gS) (M5 : gS) (M6 : gS) (M7 : gS) (M8 : gS) (M9 : gS) : Prop :=
 (∀ x1 : Int32, x1 = y5 + (1 : Int32) → (B50 y1 y2 y3 y4 x1 M0 M1 M2 M3 M4 M5 M6 M7 M8 M9))
def wX11_fair_50  (Q : Int32 → gS → gS → gS → gS → gS → gS → gS → gS → gS → gS → Prop) : Nat → Int32 → Int32 → Int32 → Int32 → Int32 → gS → gS → gS → gS → gS → gS → gS → gS → gS → gS → Prop
 | 0, _, _, _, _, _, _, _, _, _, _, _, _, _, _, _ => False
 | n + 1, y1, y2, y3, y4, y5, M0, M1, M2, M3, M4, M5, M6, M7, M8, M9 => (((mg M2 0) ≤ y5 → (Q y4 M0 M1 M2 M3 M4 M5 M6 M7 M8 M9))
 ∧ (¬ (mg M2 0) ≤ y5 → (wX11_startWinners y5 (y2 + y3) M0 M1 M2 M3 M4 M5 M6 M7 M8 M9 (fun (r2 : Int64) (N3 : gS) (N4 : gS) (N5 : gS) (N6 : gS) (N7 : gS) (N8 : gS) (N9 : gS) (N10 : gS) (N11 : gS) (N12 : gS) => (wX0_holds r2 y2 y3  (fun (b16 : Bool)  => (wX0_holds r2 y3 y2  (fun (b18 : Bool)  => (wX11_fairness (bI b16) (bI b18)  (fun (r19 : Int32)  => ((r19 = y1 → (∀ x21 : Int32, x21 = (y4 ||| ((1 : Int32) <<< (y5 &&& 31))) → (wX11_fair_114 (fun (y1 : Int32) (y2 : Int32) (y3 : Int32) (y4 : Int32) (y5 : Int32) (M0 : gS) (M1 : gS) (M2 : gS) (M3 : gS) (M4 : gS) (M5 : gS) (M6 : gS) (M7 : gS) (M8 : gS) (M9 : gS) => wX11_fair_50  Q n y1 y2 y3 y4 y5 M0 M1 M2 M3 M4 M5 M6 M7 M8 M9) Q y1 y2 y3 x21 y5 N3 N4 N5 N6 N7 N8 N9 N10 N11 N12)))
 ∧ (¬ r19 = y1 → (wX11_fair_114 (fun (y1 : Int32) (y2 : Int32) (y3 : Int32) (y4 : Int32) (y5 : Int32) (M0 : gS) (M1 : gS) (M2 : gS) (M3 : gS) (M4 : gS) (M5 : gS) (M6 : gS) (M7 : gS) (M8 : gS) (M9 : gS) => wX11_fair_50  Q n y1 y2 y3 y4 y5 M0 M1 M2 M3 M4 M5 M6 M7 M8 M9) Q y1 y2 y3 y4 y5 N3 N4 N5 N6 N7 N8 N9 N10 N11 N12)))))))))))))
def wX11_fair (p1 : Int32) (M0 : gS) (M1 : gS) (M2 : gS) (M3 : gS) (M4 : gS) (M5 : gS) (M6 : gS) (M7 : gS) (M8 : gS) (M9 : gS) (Q : Int32 → gS → gS → gS → gS → gS → gS → gS → gS → gS → gS → Prop) : Prop :=
 ((p1 < 0 → (Q (-1 : Int32) M0 M1 M2 M3 M4 M5 M6 M7 M8 M9))
 ∧ (¬ p1 < 0 → (((3 : Int32) < p1 → (Q (-1 : Int32) M0 M1 M2 M3 M4 M5 M6 M7 M8 M9))
 ∧ (¬ (3 : Int32) < p1 → (wX11_hasCorner  M0 M1 M2 M3 M4 M5 M6 M7 M8 M9 (fun (b16 : Bool) (N4 : gS) (N5 : gS) (N6 : gS) (N7 : gS) (N8 : gS) (N9 : gS) (N10 : gS) (N11 : gS) (N12 : gS) (N13 : gS) => (((bI b16) = 0 → (Q (-1 : Int32) N4 N5 N6 N7 N8 N9 N10 N11 N12 N13))
 ∧ (¬ (bI b16) = 0 → (∀ x18 : Int32, x18 = (ma N7 7 0) → (∀ x19 : Int32, x19 = (ma N7 7 1) → (∃ k50 : Nat, wX11_fair_50  Q k50 p1 x18 x19 (0 : Int32) (0 : Int32) N4 N5 N6 N7 N8 N9 N10 N11 N12 N13)))))))))))
def rmX11_fair : Room := { frames := 5, cells := 0, slots := 0, locals := 125 }
set_option maxHeartbeats 4000000 in
set_option maxRecDepth 100000 in
theorem kX11_fair (l : Launch) (dC : Nat → ClassId) (dI : Nat → Nat → Nat) (cB cI cJ cZ : ClassId) (h0 : Nat) (a0 : Nat → Nat) (a1 : Nat → Nat) (a2 : Nat → Nat) (a3 : Nat → Nat) (a4 : Nat → Nat) (a5 : Nat → Nat) (a6 : Nat → Nat) (a7 : Nat → Nat) (o7 : Option Nat) (a8 : Nat → Nat) (o8 : Option Nat) (a9 : Nat → Nat) (sz : Nat) (p1 : Int32) (M0 : gS) (M1 : gS) (M2 : gS) (M3 : gS) (M4 : gS) (M5 : gS) (M6 : gS) (M7 : gS) (M8 : gS) (M9 : gS) (Q : Int32 → gS → gS → gS → gS → gS → gS → gS → gS → gS → gS → Prop) (h : wX11_fair p1 M0 M1 M2 M3 M4 M5 M6 M7 M8 M9 Q) : Met l yX11_fair wsX11_fair rmX11_fair (va_Pc [.ref h0, .int p1] (lwI dC dI cB cI cJ cZ h0 a0 a1 a2 a3 a4 a5 a6 a7 o7 a8 o8 a9 M0 M1 M2 M3 M4 M5 M6 M7 M8 M9 sz)) (va_Qi (fun (r : Int32) (u : gS × gS × gS × gS × gS × gS × gS × gS × gS × gS) => Q r u.1 u.2.1 u.2.2.1 u.2.2.2.1 u.2.2.2.2.1 u.2.2.2.2.2.1 u.2.2.2.2.2.2.1 u.2.2.2.2.2.2.2.1 u.2.2.2.2.2.2.2.2.1 u.2.2.2.2.2.2.2.2.2) (lwB dC dI cB cI cJ cZ h0 a0 a1 a2 a3 a4 a5 a6 a7 a8 a9 (va_A (lwW cB cI cJ cZ h0 a0 a1 a2 a3 a4 a5 a6 a7 o7 a8 o8 a9 M0 M1 M2 M3 M4 M5 M6 M7 M8 M9) sz)) (va_A (lwW cB cI cJ cZ h0 a0 a1 a2 a3 a4 a5 a6 a7 o7 a8 o8 a9 M0 M1 M2 M3 M4 M5 M6 M7 M8 M9) sz)) 0 0 (va_A (lwW cB cI cJ cZ h0 a0 a1 a2 a3 a4 a5 a6 a7 o7 a8 o8 a9 M0 M1 M2 M3 M4 M5 M6 M7 M8 M9) sz) := by
  refine Met.ofW (cc := cX11_fair) (maxL := 10) (ret := (some .int)) (by decide) rfl ?_
  intro p e s m args below meth c s₁ B hml hv
  obtain ⟨rfl, hsz, hP, hK, hD0⟩ := hv
  have hx := B.exec
  have hb := B.bytes
  have hr := B.returns
  have hts := atoms_spec (ws := wsX11_fair) B.pre
  have hown : s.vm.findClass RX11 = some m.cls := findClass_of_methodNamed B.named
  have hlocks := B.notSynchronized
  subst hsz
  have hD := hD0.self (sz := s.heap.size)
  generalize hAe : va_A (lwW cB cI cJ cZ h0 a0 a1 a2 a3 a4 a5 a6 a7 o7 a8 o8 a9 M0 M1 M2 M3 M4 M5 M6 M7 M8 M9) s.heap.size = A at hD ⊢
  have hA : ∀ q : Nat, s.heap.size ≤ q → A q := fun q h => by rw [← hAe]; exact Or.inr h
  have hS : va_S A s.heap s.heap [] := va_S.rf
  have hinX1 : ∀ w ∈ wsX10, w ∈ wsX11_fair := by decide +kernel
  have hinX10 : ∀ w ∈ wsX100, w ∈ wsX11_fair := by decide +kernel
  have hinX11 : ∀ w ∈ wsX110, w ∈ wsX11_fair := by decide +kernel
  have hinX6 : ∀ w ∈ wsX60, w ∈ wsX11_fair := by decide +kernel
  have f1 := hts (.fieldLink RX11 22 "LastWords" "now" "LLastWords$State;") (by decide +kernel)
  have f2 := hts (.fieldLink RX11 108 "LastWords$State" "corner" "LLastWords$Corner;") (by decide +kernel)
  have f3 := hts (.fieldLink RX11 95 "LastWords$Corner" "tunes" "I") (by decide +kernel)
  have f4 := hts (.fieldLink RX11 118 "LastWords$State" "quarrel" "LLastWords$Quarrel;") (by decide +kernel)
  have f5 := hts (.fieldLink RX11 183 "LastWords$Quarrel" "purse" "[I") (by decide +kernel)
  have b114 : ∀ (B50 : Int32 → Int32 → Int32 → Int32 → Int32 → gS → gS → gS → gS → gS → gS → gS → gS → gS → gS → Prop) (hB50 : ∀ (y1 : Int32) (y2 : Int32) (y3 : Int32) (y4 : Int32) (y5 : Int32) (o7 o8 : Option Nat) (M0 : gS) (M1 : gS) (M2 : gS) (M3 : gS) (M4 : gS) (M5 : gS) (M6 : gS) (M7 : gS) (M8 : gS) (M9 : gS) (H : Heap) (locs : List Loc) (ls : Array Slot), va_P (dC, dI) vwCl (lwW cB cI cJ cZ h0 a0 a1 a2 a3 a4 a5 a6 a7 o7 a8 o8 a9 M0 M1 M2 M3 M4 M5 M6 M7 M8 M9) H → va_D A (lwW cB cI cJ cZ h0 a0 a1 a2 a3 a4 a5 a6 a7 o7 a8 o8 a9 M0 M1 M2 M3 M4 M5 M6 M7 M8 M9) → va_S A s.heap H locs → lv_has ls 10 [(0, .ref h0), (1, .int y1), (2, .int y2), (3, .int y3), (4, .int y4), (5, .int y5)] → B50 y1 y2 y3 y4 y5 M0 M1 M2 M3 M4 M5 M6 M7 M8 M9 → W p l e (headSpec wsX11_fair rmX11_fair).room s m ([.ref h0, .int p1] : List Value).toArray below meth c H locs 0 0 (MQ below (va_Qi (fun (r : Int32) (u : gS × gS × gS × gS × gS × gS × gS × gS × gS × gS) => Q r u.1 u.2.1 u.2.2.1 u.2.2.2.1 u.2.2.2.2.1 u.2.2.2.2.2.1 u.2.2.2.2.2.2.1 u.2.2.2.2.2.2.2.1 u.2.2.2.2.2.2.2.2.1 u.2.2.2.2.2.2.2.2.2) (lwB dC dI cB cI cJ cZ h0 a0 a1 a2 a3 a4 a5 a6 a7 a8 a9 A) A) ([.ref h0, .int p1] : List Value).toArray s 0 0 A) (F0 m 50 ls [])) (y1 : Int32) (y2 : Int32) (y3 : Int32) (y4 : Int32) (y5 : Int32) (o7 o8 : Option Nat) (M0 : gS) (M1 : gS) (M2 : gS) (M3 : gS) (M4 : gS) (M5 : gS) (M6 : gS) (M7 : gS) (M8 : gS) (M9 : gS) (H : Heap) (locs : List Loc) (ls : Array Slot), va_P (dC, dI) vwCl (lwW cB cI cJ cZ h0 a0 a1 a2 a3 a4 a5 a6 a7 o7 a8 o8 a9 M0 M1 M2 M3 M4 M5 M6 M7 M8 M9) H → va_D A (lwW cB cI cJ cZ h0 a0 a1 a2 a3 a4 a5 a6 a7 o7 a8 o8 a9 M0 M1 M2 M3 M4 M5 M6 M7 M8 M9) → va_S A s.heap H locs → lv_has ls 10 [(0, .ref h0), (1, .int y1), (2, .int y2), (3, .int y3), (4, .int y4), (5, .int y5)] → wX11_fair_114 B50 Q y1 y2 y3 y4 y5 M0 M1 M2 M3 M4 M5 M6 M7 M8 M9 → W p l e (headSpec wsX11_fair rmX11_fair).room s m ([.ref h0, .int p1] : List Value).toArray below meth c H locs 0 0 (MQ below (va_Qi (fun (r : Int32) (u : gS × gS × gS × gS × gS × gS × gS × gS × gS × gS) => Q r u.1 u.2.1 u.2.2.1 u.2.2.2.1 u.2.2.2.2.1 u.2.2.2.2.2.1 u.2.2.2.2.2.2.1 u.2.2.2.2.2.2.2.1 u.2.2.2.2.2.2.2.2.1 u.2.2.2.2.2.2.2.2.2) (lwB dC dI cB cI cJ cZ h0 a0 a1 a2 a3 a4 a5 a6 a7 a8 a9 A) A) ([.ref h0, .int p1] : List Value).toArray s 0 0 A) (F0 m 114 ls []) := by
    intro B50 hB50 y1 y2 y3 y4 y5 o7 o8  M0 M1 M2 M3 M4 M5 M6 M7 M8 M9 H locs ls hP hD hS hl h
    unfold wX11_fair_114 at h
    obtain ⟨x1, ex1⟩ : ∃ y : Int32, y = y5 + (1 : Int32) := ⟨_, rfl⟩
    have h := h x1 ex1
    refine lv_iinc (v := x1) (lv' := [(5, .int x1), (0, .ref h0), (1, .int y1), (2, .int y2), (3, .int y3), (4, .int y4)]) hx hb dX11_fair_114 hl (k := 5) rfl (by rw [ex1]; rfl) (by decide) rfl (fun ls hl => ?_)
    refine lv_goto (tgt := 50) hx hb dX11_fair_117 (by decide) ?_
    exact hB50 y1 y2 y3 y4 x1 o7 o8 M0 M1 M2 M3 M4 M5 M6 M7 M8 M9 H locs ls hP hD hS (lv_sub hl [1, 2, 3, 4, 5, 0] rfl) h
  have b50 : ∀ (n : Nat) (y1 : Int32) (y2 : Int32) (y3 : Int32) (y4 : Int32) (y5 : Int32) (o7 o8 : Option Nat) (M0 : gS) (M1 : gS) (M2 : gS) (M3 : gS) (M4 : gS) (M5 : gS) (M6 : gS) (M7 : gS) (M8 : gS) (M9 : gS) (H : Heap) (locs : List Loc) (ls : Array Slot), va_P (dC, dI) vwCl (lwW cB cI cJ cZ h0 a0 a1 a2 a3 a4 a5 a6 a7 o7 a8 o8 a9 M0 M1 M2 M3 M4 M5 M6 M7 M8 M9) H → va_D A (lwW cB cI cJ cZ h0 a0 a1 a2 a3 a4 a5 a6 a7 o7 a8 o8 a9 M0 M1 M2 M3 M4 M5 M6 M7 M8 M9) → va_S A s.heap H locs → lv_has ls 10 [(0, .ref h0), (1, .int y1), (2, .int y2), (3, .int y3), (4, .int y4), (5, .int y5)] → wX11_fair_50  Q n y1 y2 y3 y4 y5 M0 M1 M2 M3 M4 M5 M6 M7 M8 M9 → W p l e (headSpec wsX11_fair rmX11_fair).room s m ([.ref h0, .int p1] : List Value).toArray below meth c H locs 0 0 (MQ below (va_Qi (fun (r : Int32) (u : gS × gS × gS × gS × gS × gS × gS × gS × gS × gS) => Q r u.1 u.2.1 u.2.2.1 u.2.2.2.1 u.2.2.2.2.1 u.2.2.2.2.2.1 u.2.2.2.2.2.2.1 u.2.2.2.2.2.2.2.1 u.2.2.2.2.2.2.2.2.1 u.2.2.2.2.2.2.2.2.2) (lwB dC dI cB cI cJ cZ h0 a0 a1 a2 a3 a4 a5 a6 a7 a8 a9 A) A) ([.ref h0, .int p1] : List Value).toArray s 0 0 A) (F0 m 50 ls []) := by
    intro  n
    induction n with
    | zero => intro y1 y2 y3 y4 y5 o7 o8  M0 M1 M2 M3 M4 M5 M6 M7 M8 M9 H locs ls hP hD hS hl h; exact absurd h (by simp [wX11_fair_50])
    | succ n hB500 =>
      intro y1 y2 y3 y4 y5 o7 o8  M0 M1 M2 M3 M4 M5 M6 M7 M8 M9 H locs ls hP hD hS hl h
      have hB50 := hB500
      rw [wX11_fair_50] at h
      refine lv_iload hx hb dX11_fair_50 (lv_at hl 5 rfl) ?_
      refine lv_aload_n hx hb dX11_fair_52 rfl (lv_at hl 0 rfl) ?_
      refine va_get (D := (dC, dI)) (ci := 11) (v := .ref (a0 4)) (C := RX11) (T := TX11) (N := 12) hx hb hts hinX11 hown hK hP 0 rfl rfl 4 (by decide) f1 (fun _ h9 => h9) rfl dX11_fair_53 ?_
      refine va_get (D := (dC, dI)) (ci := 10) (v := .ref (a1 0)) (C := RX10) (T := TX10) (N := 5) hx hb hts hinX10 hown hK hP 3 rfl rfl 0 (by decide) f2 (fun _ h9 => h9) rfl dX11_fair_56 ?_
      refine va_get (D := (dC, dI)) (ci := 1) (v := .int (mg M2 0)) (C := RX1) (T := TX1) (N := 6) hx hb hts hinX1 hown hK hP 5 rfl rfl 0 (by decide) f3 (fun _ h9 => h9) rfl dX11_fair_59 ?_
      refine lv_icmp_ge (tgt := 120) hx hb dX11_fair_62 (by decide) (fun c1 => ?_) (fun c1 => ?_)
      · have h := h.1 c1
        refine lv_iload hx hb dX11_fair_120 (lv_at hl 4 rfl) ?_
        exact W.iret (v := y4) hx hb hr (fun t ht hW => ⟨⟨_, (M0, M1, M2, M3, M4, M5, M6, M7, M8, M9), rfl, h, o7, o8, by rw [ht]; exact hP, va_K.moved hW.alike hK, hD⟩, hS.F ht⟩) hS.2.2 dX11_fair_122
      · have h := h.2 c1
        refine lv_aload_n hx hb dX11_fair_65 rfl (lv_at hl 0 rfl) ?_
        refine lv_iload hx hb dX11_fair_66 (lv_at hl 5 rfl) ?_
        refine lv_iload_n hx hb dX11_fair_68 rfl (lv_at hl 2 rfl) ?_
        refine lv_iload_n hx hb dX11_fair_69 rfl (lv_at hl 3 rfl) ?_
        refine lv_iadd hx hb dX11_fair_70 ?_
        have hFc := gs_free hD hS hA
        refine va_calll (va_runV (As := [.int y5, .int (y2 + y3)]) (rest := []) ⟨hx, hb, hml, hown, hts⟩ (kX11_startWinners l dC dI cB cI cJ cZ h0 a0 a1 a2 a3 a4 a5 a6 a7 o7 a8 o8 a9 H.size y5 (y2 + y3) M0 M1 M2 M3 M4 M5 M6 M7 M8 M9 _ h) (cwV 2 hts gX11_fair_X11_startWinners rfl rfl rfl (by decide +kernel) ⟨Nat.le_of_ble_eq_true rfl, Nat.le_of_ble_eq_true rfl⟩) (lwpV hK hP hD) rfl rfl hl.1 rfl (lv_room (Nat.le_of_ble_eq_true rfl)) dX11_fair_71 ⟨Nat.le_of_ble_eq_true rfl, Nat.le_of_ble_eq_true rfl⟩) hS (fun q _ z => hFc q z) hFc (fun r2 u t H1 locs ht hvm hw hB hz1 hk1 hS => ?_)
        obtain ⟨N3, N4, N5, N6, N7, N8, N9, N10, N11, N12⟩ := u
        obtain ⟨v13, v14, hP, hK1, hD1⟩ := hB
        rw [ht] at hP
        have hD := hD1.weaken (fun _ _ _ z => hFc _ z)
        generalize H1 = H at hP hS ⊢
        have h := hw
        try dsimp only at h
        refine lv_lstore (lv' := [(6, .long r2), (0, .ref h0), (1, .int y1), (2, .int y2), (3, .int y3), (4, .int y4), (5, .int y5)]) hx hb dX11_fair_74 hl (by decide) rfl (fun ls hl => ?_)
        refine lv_lload hx hb dX11_fair_76 (lv_at hl 0 rfl) ?_
        refine lv_iload_n hx hb dX11_fair_78 rfl (lv_at hl 3 rfl) ?_
        refine lv_iload_n hx hb dX11_fair_79 rfl (lv_at hl 4 rfl) ?_
        have hPc := hP.sub (ws' := (e0W cB cI cJ cZ  )) [] rfl
        have hDc := hD.sub (ws' := (e0W cB cI cJ cZ  )) [] (by decide) rfl
        have hFc := va_free (wc := (e0W cB cI cJ cZ  )) hD hS hA [] rfl
        refine va_calli (va_runS (As := [.long r2, .int y2, .int y3]) (rest := []) ⟨hx, hb, hml, hown, hts⟩ (kX0_holds l dC dI cB cI cJ cZ  H.size r2 y2 y3  _ h) (va_cwS 3 hts gX11_fair_X0_holds rfl rfl rfl (by decide +kernel) ⟨Nat.le_of_ble_eq_true rfl, Nat.le_of_ble_eq_true rfl⟩) (e0pS hK hPc hDc) rfl rfl hl.1 rfl (lv_room (Nat.le_of_ble_eq_true rfl)) dX11_fair_80 ⟨Nat.le_of_ble_eq_true rfl, Nat.le_of_ble_eq_true rfl⟩) hS (fun q _ z => hFc q z) hFc (fun r15 u t H1 locs ht hvm hw hB hz1 hk1 hS => ?_)
        obtain ⟨hP1, hK1, hD1⟩ := hB
        rw [ht] at hP1
        obtain ⟨hP, hD⟩ := va_join (wr := [(h0, .inr (11, [.ref (a0 0), .int (mg N3 1), .ref (a0 2), .int (mg N3 3), .ref (a0 4), .ref (a0 5), .ref (a0 6), .ref (a0 7), .ref (a0 8), .ref (a0 9), .ref (a0 10), .ref (a0 11)])), (a0 0, .inl (cI, 400, .inl (ma N3 0))), (a0 11, .inl (cJ, 4, .inr (.inl (ml N3 11)))), (a0 4, .inr (10, [.ref (a1 0), .ref (a1 1), .ref (a1 2), .ref (a1 3), .int (mg N4 4)])), (a1 3, .inl (cI, 2, .inl (ma N4 3))), (a1 0, .inr (1, [.int (mg N5 0), .ref (a2 1), .int (mg N5 2), .ref (a2 3), .int (mg N5 4), .ref (a2 5)])), (a2 1, .inl (cI, 4, .inl (ma N5 1))), (a2 3, .inl (cI, 4, .inl (ma N5 3))), (a2 5, .inl (cI, 2, .inl (ma N5 5))), (a1 1, .inr (6, [.int (mg N6 0), .int (mg N6 1), .int (mg N6 2), .int (mg N6 3), .int (mg N6 4), .int (mg N6 5), .int (mg N6 6), .ref (a3 7), .ref (a3 8), .ref (a3 9)])), (a3 7, .inl (cI, 2, .inl (ma N6 7))), (a3 8, .inl (cI, 2, .inl (ma N6 8))), (a3 9, .inl (cI, 2, .inl (ma N6 9))), (a1 2, .inr (4, [.int (mg N7 0), .ref (a4 1), .ref (a4 2), .ref (a4 3)])), (a4 1, .inl (cI, 6, .inl (ma N7 1))), (a4 2, .inl (cI, 6, .inl (ma N7 2))), (a4 3, .inl (cI, 6, .inl (ma N7 3))), (a0 6, .inr (1, [.int (mg N8 0), .ref (a5 1), .int (mg N8 2), .ref (a5 3), .int (mg N8 4), .ref (a5 5)])), (a5 1, .inl (cI, 4, .inl (ma N8 1))), (a5 3, .inl (cI, 4, .inl (ma N8 3))), (a5 5, .inl (cI, 2, .inl (ma N8 5))), (a0 7, .inr (6, [.int (mg N9 0), .int (mg N9 1), .int (mg N9 2), .int (mg N9 3), .int (mg N9 4), .int (mg N9 5), .int (mg N9 6), .ref (a6 7), .ref (a6 8), .ref (a6 9)])), (a6 7, .inl (cI, 2, .inl (ma N9 7))), (a6 8, .inl (cI, 2, .inl (ma N9 8))), (a6 9, .inl (cI, 2, .inl (ma N9 9))), (a0 8, .inr (0, [.ref (a7 0), .ref (a7 1), .ref (a7 2), .ref (a7 3), .int (mg N10 4), va_rf v13, .int (mg N10 6), .int (mg N10 7), .int (mg N10 8), .int (mg N10 9), .int (mg N10 10)])), (a7 0, .inl (cJ, 15, .inr (.inl (ml N10 0)))), (a7 1, .inl (cJ, 800, .inr (.inl (ml N10 1)))), (a7 2, .inl (cI, 4, .inl (ma N10 2))), (a7 3, .inl (cJ, 4, .inr (.inl (ml N10 3)))), (a0 9, .inr (5, [.ref (a8 0), .ref (a8 1), va_rf v14, .int (mg N11 3)])), (a8 0, .inl (cI, 2048, .inl (ma N11 0))), (a8 1, .inl (cI, 2048, .inl (ma N11 1))), (a0 10, .inr (3, [.int (mg N12 0), .int (mg N12 1), .int (mg N12 2), .int (mg N12 3), .int (mg N12 4)]))]) (w1 := (e0W cB cI cJ cZ  )) hP hD [] [0, 1, 2, 3, 4, 5, 6, 7, 8, 9, 10, 11, 12, 13, 14, 15, 16, 17, 18, 19, 20, 21, 22, 23, 24, 25, 26, 27, 28, 29, 30, 31, 32, 33] rfl rfl (by decide) (by decide) hk1 hFc hP1 hD1
        have hP := hP.sub (ws' := (lwW cB cI cJ cZ h0 a0 a1 a2 a3 a4 a5 a6 a7 v13 a8 v14 a9 N3 N4 N5 N6 N7 N8 N9 N10 N11 N12)) [0, 1, 2, 3, 4, 5, 6, 7, 8, 9, 10, 11, 12, 13, 14, 15, 16, 17, 18, 19, 20, 21, 22, 23, 24, 25, 26, 27, 28, 29, 30, 31, 32, 33] rfl
        have hD := hD.sub (ws' := (lwW cB cI cJ cZ h0 a0 a1 a2 a3 a4 a5 a6 a7 v13 a8 v14 a9 N3 N4 N5 N6 N7 N8 N9 N10 N11 N12)) [0, 1, 2, 3, 4, 5, 6, 7, 8, 9, 10, 11, 12, 13, 14, 15, 16, 17, 18, 19, 20, 21, 22, 23, 24, 25, 26, 27, 28, 29, 30, 31, 32, 33] (by decide) rfl
        generalize H1 = H at hP hS ⊢
        obtain ⟨b16, rfl, h⟩ := hw
        try dsimp only at h
        refine lv_istore (lv' := [(8, .int (bI b16)), (6, .long r2), (0, .ref h0), (1, .int y1), (2, .int y2), (3, .int y3), (4, .int y4), (5, .int y5)]) hx hb dX11_fair_83 hl (by decide) rfl (fun ls hl => ?_)
        refine lv_lload hx hb dX11_fair_85 (lv_at hl 1 rfl) ?_
        refine lv_iload_n hx hb dX11_fair_87 rfl (lv_at hl 5 rfl) ?_
        refine lv_iload_n hx hb dX11_fair_88 rfl (lv_at hl 4 rfl) ?_
        have hPc := hP.sub (ws' := (e0W cB cI cJ cZ  )) [] rfl
        have hDc := hD.sub (ws' := (e0W cB cI cJ cZ  )) [] (by decide) rfl
        have hFc := va_free (wc := (e0W cB cI cJ cZ  )) hD hS hA [] rfl
        refine va_calli (va_runS (As := [.long r2, .int y3, .int y2]) (rest := []) ⟨hx, hb, hml, hown, hts⟩ (kX0_holds l dC dI cB cI cJ cZ  H.size r2 y3 y2  _ h) (va_cwS 3 hts gX11_fair_X0_holds rfl rfl rfl (by decide +kernel) ⟨Nat.le_of_ble_eq_true rfl, Nat.le_of_ble_eq_true rfl⟩) (e0pS hK hPc hDc) rfl rfl hl.1 rfl (lv_room (Nat.le_of_ble_eq_true rfl)) dX11_fair_89 ⟨Nat.le_of_ble_eq_true rfl, Nat.le_of_ble_eq_true rfl⟩) hS (fun q _ z => hFc q z) hFc (fun r17 u t H1 locs ht hvm hw hB hz1 hk1 hS => ?_)
        obtain ⟨hP1, hK1, hD1⟩ := hB
        rw [ht] at hP1
        obtain ⟨hP, hD⟩ := va_join (wr := [(h0, .inr (11, [.ref (a0 0), .int (mg N3 1), .ref (a0 2), .int (mg N3 3), .ref (a0 4), .ref (a0 5), .ref (a0 6), .ref (a0 7), .ref (a0 8), .ref (a0 9), .ref (a0 10), .ref (a0 11)])), (a0 0, .inl (cI, 400, .inl (ma N3 0))), (a0 11, .inl (cJ, 4, .inr (.inl (ml N3 11)))), (a0 4, .inr (10, [.ref (a1 0), .ref (a1 1), .ref (a1 2), .ref (a1 3), .int (mg N4 4)])), (a1 3, .inl (cI, 2, .inl (ma N4 3))), (a1 0, .inr (1, [.int (mg N5 0), .ref (a2 1), .int (mg N5 2), .ref (a2 3), .int (mg N5 4), .ref (a2 5)])), (a2 1, .inl (cI, 4, .inl (ma N5 1))), (a2 3, .inl (cI, 4, .inl (ma N5 3))), (a2 5, .inl (cI, 2, .inl (ma N5 5))), (a1 1, .inr (6, [.int (mg N6 0), .int (mg N6 1), .int (mg N6 2), .int (mg N6 3), .int (mg N6 4), .int (mg N6 5), .int (mg N6 6), .ref (a3 7), .ref (a3 8), .ref (a3 9)])), (a3 7, .inl (cI, 2, .inl (ma N6 7))), (a3 8, .inl (cI, 2, .inl (ma N6 8))), (a3 9, .inl (cI, 2, .inl (ma N6 9))), (a1 2, .inr (4, [.int (mg N7 0), .ref (a4 1), .ref (a4 2), .ref (a4 3)])), (a4 1, .inl (cI, 6, .inl (ma N7 1))), (a4 2, .inl (cI, 6, .inl (ma N7 2))), (a4 3, .inl (cI, 6, .inl (ma N7 3))), (a0 6, .inr (1, [.int (mg N8 0), .ref (a5 1), .int (mg N8 2), .ref (a5 3), .int (mg N8 4), .ref (a5 5)])), (a5 1, .inl (cI, 4, .inl (ma N8 1))), (a5 3, .inl (cI, 4, .inl (ma N8 3))), (a5 5, .inl (cI, 2, .inl (ma N8 5))), (a0 7, .inr (6, [.int (mg N9 0), .int (mg N9 1), .int (mg N9 2), .int (mg N9 3), .int (mg N9 4), .int (mg N9 5), .int (mg N9 6), .ref (a6 7), .ref (a6 8), .ref (a6 9)])), (a6 7, .inl (cI, 2, .inl (ma N9 7))), (a6 8, .inl (cI, 2, .inl (ma N9 8))), (a6 9, .inl (cI, 2, .inl (ma N9 9))), (a0 8, .inr (0, [.ref (a7 0), .ref (a7 1), .ref (a7 2), .ref (a7 3), .int (mg N10 4), va_rf v13, .int (mg N10 6), .int (mg N10 7), .int (mg N10 8), .int (mg N10 9), .int (mg N10 10)])), (a7 0, .inl (cJ, 15, .inr (.inl (ml N10 0)))), (a7 1, .inl (cJ, 800, .inr (.inl (ml N10 1)))), (a7 2, .inl (cI, 4, .inl (ma N10 2))), (a7 3, .inl (cJ, 4, .inr (.inl (ml N10 3)))), (a0 9, .inr (5, [.ref (a8 0), .ref (a8 1), va_rf v14, .int (mg N11 3)])), (a8 0, .inl (cI, 2048, .inl (ma N11 0))), (a8 1, .inl (cI, 2048, .inl (ma N11 1))), (a0 10, .inr (3, [.int (mg N12 0), .int (mg N12 1), .int (mg N12 2), .int (mg N12 3), .int (mg N12 4)]))]) (w1 := (e0W cB cI cJ cZ  )) hP hD [] [0, 1, 2, 3, 4, 5, 6, 7, 8, 9, 10, 11, 12, 13, 14, 15, 16, 17, 18, 19, 20, 21, 22, 23, 24, 25, 26, 27, 28, 29, 30, 31, 32, 33] rfl rfl (by decide) (by decide) hk1 hFc hP1 hD1
        have hP := hP.sub (ws' := (lwW cB cI cJ cZ h0 a0 a1 a2 a3 a4 a5 a6 a7 v13 a8 v14 a9 N3 N4 N5 N6 N7 N8 N9 N10 N11 N12)) [0, 1, 2, 3, 4, 5, 6, 7, 8, 9, 10, 11, 12, 13, 14, 15, 16, 17, 18, 19, 20, 21, 22, 23, 24, 25, 26, 27, 28, 29, 30, 31, 32, 33] rfl
        have hD := hD.sub (ws' := (lwW cB cI cJ cZ h0 a0 a1 a2 a3 a4 a5 a6 a7 v13 a8 v14 a9 N3 N4 N5 N6 N7 N8 N9 N10 N11 N12)) [0, 1, 2, 3, 4, 5, 6, 7, 8, 9, 10, 11, 12, 13, 14, 15, 16, 17, 18, 19, 20, 21, 22, 23, 24, 25, 26, 27, 28, 29, 30, 31, 32, 33] (by decide) rfl
        generalize H1 = H at hP hS ⊢
        obtain ⟨b18, rfl, h⟩ := hw
        try dsimp only at h
        refine lv_istore (lv' := [(9, .int (bI b18)), (8, .int (bI b16)), (6, .long r2), (0, .ref h0), (1, .int y1), (2, .int y2), (3, .int y3), (4, .int y4), (5, .int y5)]) hx hb dX11_fair_92 hl (by decide) rfl (fun ls hl => ?_)
        refine lv_iload hx hb dX11_fair_94 (lv_at hl 1 rfl) ?_
        refine lv_iload hx hb dX11_fair_96 (lv_at hl 0 rfl) ?_
        have hPc := hP.sub (ws' := (e0W cB cI cJ cZ  )) [] rfl
        have hDc := hD.sub (ws' := (e0W cB cI cJ cZ  )) [] (by decide) rfl
        have hFc := va_free (wc := (e0W cB cI cJ cZ  )) hD hS hA [] rfl
        refine va_calli (va_runS (As := [.int (bI b16), .int (bI b18)]) (rest := []) ⟨hx, hb, hml, hown, hts⟩ (kX11_fairness l dC dI cB cI cJ cZ  H.size (bI b16) (bI b18)  _ h) (cwS 2 hts gX11_fair_X11_fairness rfl rfl rfl (by decide +kernel) ⟨Nat.le_of_ble_eq_true rfl, Nat.le_of_ble_eq_true rfl⟩) (e0pS hK hPc hDc) rfl rfl hl.1 rfl (lv_room (Nat.le_of_ble_eq_true rfl)) dX11_fair_98 ⟨Nat.le_of_ble_eq_true rfl, Nat.le_of_ble_eq_true rfl⟩) hS (fun q _ z => hFc q z) hFc (fun r19 u t H1 locs ht hvm hw hB hz1 hk1 hS => ?_)
        obtain ⟨hP1, hK1, hD1⟩ := hB
        rw [ht] at hP1
        obtain ⟨hP, hD⟩ := va_join (wr := [(h0, .inr (11, [.ref (a0 0), .int (mg N3 1), .ref (a0 2), .int (mg N3 3), .ref (a0 4), .ref (a0 5), .ref (a0 6), .ref (a0 7), .ref (a0 8), .ref (a0 9), .ref (a0 10), .ref (a0 11)])), (a0 0, .inl (cI, 400, .inl (ma N3 0))), (a0 11, .inl (cJ, 4, .inr (.inl (ml N3 11)))), (a0 4, .inr (10, [.ref (a1 0), .ref (a1 1), .ref (a1 2), .ref (a1 3), .int (mg N4 4)])), (a1 3, .inl (cI, 2, .inl (ma N4 3))), (a1 0, .inr (1, [.int (mg N5 0), .ref (a2 1), .int (mg N5 2), .ref (a2 3), .int (mg N5 4), .ref (a2 5)])), (a2 1, .inl (cI, 4, .inl (ma N5 1))), (a2 3, .inl (cI, 4, .inl (ma N5 3))), (a2 5, .inl (cI, 2, .inl (ma N5 5))), (a1 1, .inr (6, [.int (mg N6 0), .int (mg N6 1), .int (mg N6 2), .int (mg N6 3), .int (mg N6 4), .int (mg N6 5), .int (mg N6 6), .ref (a3 7), .ref (a3 8), .ref (a3 9)])), (a3 7, .inl (cI, 2, .inl (ma N6 7))), (a3 8, .inl (cI, 2, .inl (ma N6 8))), (a3 9, .inl (cI, 2, .inl (ma N6 9))), (a1 2, .inr (4, [.int (mg N7 0), .ref (a4 1), .ref (a4 2), .ref (a4 3)])), (a4 1, .inl (cI, 6, .inl (ma N7 1))), (a4 2, .inl (cI, 6, .inl (ma N7 2))), (a4 3, .inl (cI, 6, .inl (ma N7 3))), (a0 6, .inr (1, [.int (mg N8 0), .ref (a5 1), .int (mg N8 2), .ref (a5 3), .int (mg N8 4), .ref (a5 5)])), (a5 1, .inl (cI, 4, .inl (ma N8 1))), (a5 3, .inl (cI, 4, .inl (ma N8 3))), (a5 5, .inl (cI, 2, .inl (ma N8 5))), (a0 7, .inr (6, [.int (mg N9 0), .int (mg N9 1), .int (mg N9 2), .int (mg N9 3), .int (mg N9 4), .int (mg N9 5), .int (mg N9 6), .ref (a6 7), .ref (a6 8), .ref (a6 9)])), (a6 7, .inl (cI, 2, .inl (ma N9 7))), (a6 8, .inl (cI, 2, .inl (ma N9 8))), (a6 9, .inl (cI, 2, .inl (ma N9 9))), (a0 8, .inr (0, [.ref (a7 0), .ref (a7 1), .ref (a7 2), .ref (a7 3), .int (mg N10 4), va_rf v13, .int (mg N10 6), .int (mg N10 7), .int (mg N10 8), .int (mg N10 9), .int (mg N10 10)])), (a7 0, .inl (cJ, 15, .inr (.inl (ml N10 0)))), (a7 1, .inl (cJ, 800, .inr (.inl (ml N10 1)))), (a7 2, .inl (cI, 4, .inl (ma N10 2))), (a7 3, .inl (cJ, 4, .inr (.inl (ml N10 3)))), (a0 9, .inr (5, [.ref (a8 0), .ref (a8 1), va_rf v14, .int (mg N11 3)])), (a8 0, .inl (cI, 2048, .inl (ma N11 0))), (a8 1, .inl (cI, 2048, .inl (ma N11 1))), (a0 10, .inr (3, [.int (mg N12 0), .int (mg N12 1), .int (mg N12 2), .int (mg N12 3), .int (mg N12 4)]))]) (w1 := (e0W cB cI cJ cZ  )) hP hD [] [0, 1, 2, 3, 4, 5, 6, 7, 8, 9, 10, 11, 12, 13, 14, 15, 16, 17, 18, 19, 20, 21, 22, 23, 24, 25, 26, 27, 28, 29, 30, 31, 32, 33] rfl rfl (by decide) (by decide) hk1 hFc hP1 hD1
        have hP := hP.sub (ws' := (lwW cB cI cJ cZ h0 a0 a1 a2 a3 a4 a5 a6 a7 v13 a8 v14 a9 N3 N4 N5 N6 N7 N8 N9 N10 N11 N12)) [0, 1, 2, 3, 4, 5, 6, 7, 8, 9, 10, 11, 12, 13, 14, 15, 16, 17, 18, 19, 20, 21, 22, 23, 24, 25, 26, 27, 28, 29, 30, 31, 32, 33] rfl
        have hD := hD.sub (ws' := (lwW cB cI cJ cZ h0 a0 a1 a2 a3 a4 a5 a6 a7 v13 a8 v14 a9 N3 N4 N5 N6 N7 N8 N9 N10 N11 N12)) [0, 1, 2, 3, 4, 5, 6, 7, 8, 9, 10, 11, 12, 13, 14, 15, 16, 17, 18, 19, 20, 21, 22, 23, 24, 25, 26, 27, 28, 29, 30, 31, 32, 33] (by decide) rfl
        generalize H1 = H at hP hS ⊢
        have h := hw
        try dsimp only at h
        refine lv_iload_n hx hb dX11_fair_101 rfl (lv_at hl 4 rfl) ?_
        refine lv_icmp_ne (tgt := 114) hx hb dX11_fair_102 (by decide) (fun c20 => ?_) (fun c20 => ?_)
        · have h := h.2 c20
          exact b114 _ hB50 y1 y2 y3 y4 y5 v13 v14 N3 N4 N5 N6 N7 N8 N9 N10 N11 N12 H locs ls hP hD hS (lv_sub hl [3, 4, 5, 6, 7, 8] rfl) h
        · have h := h.1 c20
          refine lv_iload hx hb dX11_fair_105 (lv_at hl 7 rfl) ?_
          refine lv_iconst (v := 1) hx hb dX11_fair_107 (by decide) ?_
          refine lv_iload hx hb dX11_fair_108 (lv_at hl 8 rfl) ?_
          refine lv_ishl hx hb dX11_fair_110 ?_
          refine lv_ior hx hb dX11_fair_111 ?_
          refine lv_topi (fun x21 ex21 => ?_)
          have h := h x21 ex21
          refine lv_istore (lv' := [(4, .int x21), (9, .int (bI b18)), (8, .int (bI b16)), (6, .long r2), (0, .ref h0), (1, .int y1), (2, .int y2), (3, .int y3), (5, .int y5)]) hx hb dX11_fair_112 hl (by decide) rfl (fun ls hl => ?_)
          exact b114 _ hB50 y1 y2 y3 x21 y5 v13 v14 N3 N4 N5 N6 N7 N8 N9 N10 N11 N12 H locs ls hP hD hS (lv_sub hl [4, 5, 6, 7, 0, 8] rfl) h
  have bE : ∀ (M0 : gS) (M1 : gS) (M2 : gS) (M3 : gS) (M4 : gS) (M5 : gS) (M6 : gS) (M7 : gS) (M8 : gS) (M9 : gS) (H : Heap) (locs : List Loc) (ls : Array Slot), va_P (dC, dI) vwCl (lwW cB cI cJ cZ h0 a0 a1 a2 a3 a4 a5 a6 a7 o7 a8 o8 a9 M0 M1 M2 M3 M4 M5 M6 M7 M8 M9) H → va_D A (lwW cB cI cJ cZ h0 a0 a1 a2 a3 a4 a5 a6 a7 o7 a8 o8 a9 M0 M1 M2 M3 M4 M5 M6 M7 M8 M9) → va_S A s.heap H locs → lv_has ls 10 [(0, .ref h0), (1, .int p1)] → wX11_fair p1 M0 M1 M2 M3 M4 M5 M6 M7 M8 M9 Q → W p l e (headSpec wsX11_fair rmX11_fair).room s m ([.ref h0, .int p1] : List Value).toArray below meth c H locs 0 0 (MQ below (va_Qi (fun (r : Int32) (u : gS × gS × gS × gS × gS × gS × gS × gS × gS × gS) => Q r u.1 u.2.1 u.2.2.1 u.2.2.2.1 u.2.2.2.2.1 u.2.2.2.2.2.1 u.2.2.2.2.2.2.1 u.2.2.2.2.2.2.2.1 u.2.2.2.2.2.2.2.2.1 u.2.2.2.2.2.2.2.2.2) (lwB dC dI cB cI cJ cZ h0 a0 a1 a2 a3 a4 a5 a6 a7 a8 a9 A) A) ([.ref h0, .int p1] : List Value).toArray s 0 0 A) (F0 m 0 ls []) := by
    intro M0 M1 M2 M3 M4 M5 M6 M7 M8 M9 H locs ls hP hD hS hl h
    unfold wX11_fair at h
    refine lv_iload_n hx hb dX11_fair_0 rfl (lv_at hl 1 rfl) ?_
    refine lv_if_lt (tgt := 16) hx hb dX11_fair_1 (by decide) (fun c1 => ?_) (fun c1 => ?_)
    · have h := h.1 c1
      refine lv_iconst (v := (-1)) hx hb dX11_fair_16 (by decide) ?_
      exact W.iret (v := (-1 : Int32)) hx hb hr (fun t ht hW => ⟨⟨_, (M0, M1, M2, M3, M4, M5, M6, M7, M8, M9), rfl, h, o7, o8, by rw [ht]; exact hP, va_K.moved hW.alike hK, hD⟩, hS.F ht⟩) hS.2.2 dX11_fair_17
    · have h := h.2 c1
      refine lv_iload_n hx hb dX11_fair_4 rfl (lv_at hl 1 rfl) ?_
      refine lv_iconst (v := 3) hx hb dX11_fair_5 (by decide) ?_
      refine lv_icmp_gt (tgt := 16) hx hb dX11_fair_6 (by decide) (fun c2 => ?_) (fun c2 => ?_)
      · have h := h.1 c2
        refine lv_iconst (v := (-1)) hx hb dX11_fair_16 (by decide) ?_
        exact W.iret (v := (-1 : Int32)) hx hb hr (fun t ht hW => ⟨⟨_, (M0, M1, M2, M3, M4, M5, M6, M7, M8, M9), rfl, h, o7, o8, by rw [ht]; exact hP, va_K.moved hW.alike hK, hD⟩, hS.F ht⟩) hS.2.2 dX11_fair_17
      · have h := h.2 c2
        refine lv_aload_n hx hb dX11_fair_9 rfl (lv_at hl 0 rfl) ?_
        have hFc := gs_free hD hS hA
        refine va_calli (va_runV (As := []) (rest := []) ⟨hx, hb, hml, hown, hts⟩ (kX11_hasCorner l dC dI cB cI cJ cZ h0 a0 a1 a2 a3 a4 a5 a6 a7 o7 a8 o8 a9 H.size  M0 M1 M2 M3 M4 M5 M6 M7 M8 M9 _ h) (cwV 0 hts gX11_fair_X11_hasCorner rfl rfl rfl (by decide +kernel) ⟨Nat.le_of_ble_eq_true rfl, Nat.le_of_ble_eq_true rfl⟩) (lwpV hK hP hD) rfl rfl hl.1 rfl (lv_room (Nat.le_of_ble_eq_true rfl)) dX11_fair_10 ⟨Nat.le_of_ble_eq_true rfl, Nat.le_of_ble_eq_true rfl⟩) hS (fun q _ z => hFc q z) hFc (fun r3 u t H1 locs ht hvm hw hB hz1 hk1 hS => ?_)
        obtain ⟨N4, N5, N6, N7, N8, N9, N10, N11, N12, N13⟩ := u
        obtain ⟨v14, v15, hP, hK1, hD1⟩ := hB
        rw [ht] at hP
        have hD := hD1.weaken (fun _ _ _ z => hFc _ z)
        generalize H1 = H at hP hS ⊢
        obtain ⟨b16, rfl, h⟩ := hw
        try dsimp only at h
        refine lv_if_ne (tgt := 18) hx hb dX11_fair_13 (by decide) (fun c17 => ?_) (fun c17 => ?_)
        · have h := h.2 c17
          refine lv_aload_n hx hb dX11_fair_18 rfl (lv_at hl 0 rfl) ?_
          refine va_get (D := (dC, dI)) (ci := 11) (v := .ref (a0 4)) (C := RX11) (T := TX11) (N := 12) hx hb hts hinX11 hown hK hP 0 rfl rfl 4 (by decide) f1 (fun _ h9 => h9) rfl dX11_fair_19 ?_
          refine va_get (D := (dC, dI)) (ci := 10) (v := .ref (a1 1)) (C := RX10) (T := TX10) (N := 5) hx hb hts hinX10 hown hK hP 3 rfl rfl 1 (by decide) f4 (fun _ h9 => h9) rfl dX11_fair_22 ?_
          refine va_get (D := (dC, dI)) (ci := 6) (v := .ref (a3 7)) (C := RX6) (T := TX6) (N := 10) hx hb hts hinX6 hown hK hP 9 rfl rfl 7 (by decide) f5 (fun _ h9 => h9) rfl dX11_fair_25 ?_
          refine lv_iconst (v := 0) hx hb dX11_fair_28 (by decide) ?_
          refine wc_iald (j := 0) hx hb hK hP 10 1 (f := ma N7 7) rfl rfl (by decide) (by decide) (by decide) dX11_fair_29 ?_
          refine lv_topi (fun x18 ex18 => ?_)
          have h := h x18 ex18
          refine lv_istore_n (lv' := [(2, .int x18), (0, .ref h0), (1, .int p1)]) hx hb dX11_fair_30 rfl hl (by decide) rfl (fun ls hl => ?_)
          refine lv_aload_n hx hb dX11_fair_31 rfl (lv_at hl 1 rfl) ?_
          refine va_get (D := (dC, dI)) (ci := 11) (v := .ref (a0 4)) (C := RX11) (T := TX11) (N := 12) hx hb hts hinX11 hown hK hP 0 rfl rfl 4 (by decide) f1 (fun _ h9 => h9) rfl dX11_fair_32 ?_
          refine va_get (D := (dC, dI)) (ci := 10) (v := .ref (a1 1)) (C := RX10) (T := TX10) (N := 5) hx hb hts hinX10 hown hK hP 3 rfl rfl 1 (by decide) f4 (fun _ h9 => h9) rfl dX11_fair_35 ?_
          refine va_get (D := (dC, dI)) (ci := 6) (v := .ref (a3 7)) (C := RX6) (T := TX6) (N := 10) hx hb hts hinX6 hown hK hP 9 rfl rfl 7 (by decide) f5 (fun _ h9 => h9) rfl dX11_fair_38 ?_
          refine lv_iconst (v := 1) hx hb dX11_fair_41 (by decide) ?_
          refine wc_iald (j := 1) hx hb hK hP 10 1 (f := ma N7 7) rfl rfl (by decide) (by decide) (by decide) dX11_fair_42 ?_
          refine lv_topi (fun x19 ex19 => ?_)
          have h := h x19 ex19
          refine lv_istore_n (lv' := [(3, .int x19), (2, .int x18), (0, .ref h0), (1, .int p1)]) hx hb dX11_fair_43 rfl hl (by decide) rfl (fun ls hl => ?_)
          refine lv_iconst (v := 0) hx hb dX11_fair_44 (by decide) ?_
          refine lv_istore (lv' := [(4, .int (0 : Int32)), (3, .int x19), (2, .int x18), (0, .ref h0), (1, .int p1)]) hx hb dX11_fair_45 hl (by decide) rfl (fun ls hl => ?_)
          refine lv_iconst (v := 0) hx hb dX11_fair_47 (by decide) ?_
          refine lv_istore (lv' := [(5, .int (0 : Int32)), (4, .int (0 : Int32)), (3, .int x19), (2, .int x18), (0, .ref h0), (1, .int p1)]) hx hb dX11_fair_48 hl (by decide) rfl (fun ls hl => ?_)
          obtain ⟨n9, h⟩ := h
          exact b50  n9 p1 x18 x19 (0 : Int32) (0 : Int32) v14 v15 N4 N5 N6 N7 N8 N9 N10 N11 N12 N13 H locs ls hP hD hS (lv_sub hl [4, 5, 3, 2, 1, 0] rfl) h
        · have h := h.1 c17
          refine lv_iconst (v := (-1)) hx hb dX11_fair_16 (by decide) ?_
          exact W.iret (v := (-1 : Int32)) hx hb hr (fun t ht hW => ⟨⟨_, (N4, N5, N6, N7, N8, N9, N10, N11, N12, N13), rfl, h, v14, v15, by rw [ht]; exact hP, va_K.moved hW.alike hK, hD⟩, hS.F ht⟩) hS.2.2 dX11_fair_17
  have hl := lv_entry ([.ref h0, .int p1]) (n := 10) (Nat.le_of_ble_eq_true rfl)
  rw [lg_entry_eq]
  generalize (lg_sl ([.ref h0, .int p1]) ++ List.replicate (10 - (lg_sl ([.ref h0, .int p1])).length) Slot.unset).toArray = ls at hl ⊢
  have hl : lv_has ls 10 [(0, .ref h0), (1, .int p1)] := hl
  exact bE M0 M1 M2 M3 M4 M5 M6 M7 M8 M9 s.heap [] ls hP hD hS hl h
def wX11_bribedHas_67  (Q : Bool → gS → gS → gS → gS → gS → gS → gS → gS → gS → gS → Prop) (z1 : Int32) (z0 : Int32) (M0 : gS) (M1 : gS) (M2 : gS) (M3 : gS) (M4 : gS) (M5 : gS) (M6 : gS) (M7 : gS) (M8 : gS) (M9 : gS) : Prop :=
 ((z1 = z0 → (Q true M0 M1 M2 M3 M4 M5 M6 M7 M8 M9))
 ∧ (¬ z1 = z0 → (Q false M0 M1 M2 M3 M4 M5 M6 M7 M8 M9)))
def wX11_bribedHas (p1 : Int32) (p2 : Int32) (M0 : gS) (M1 : gS) (M2 : gS) (M3 : gS) (M4 : gS) (M5 : gS) (M6 : gS) (M7 : gS) (M8 : gS) (M9 : gS) (Q : Bool → gS → gS → gS → gS → gS → gS → gS → gS → gS → gS → Prop) : Prop :=
 (∀ x1 : Int32, x1 = (if (1 : Int32) < ((mg M3 1) + p2) then ((mg M3 1) + p2) else (1 : Int32)) → (∀ x2 : Int32, x2 = (if (0 : Int32) < (if ((mg M3 2) + p2) < (200 : Int32) then ((mg M3 2) + p2) else (200 : Int32)) then (if ((mg M3 2) + p2) < (200 : Int32) then ((mg M3 2) + p2) else (200 : Int32)) else (0 : Int32)) → (wX11_turnHas x1 x2 M0 M1 M2 M3 M4 M5 M6 M7 M8 M9 (fun (b16 : Bool) (N4 : gS) (N5 : gS) (N6 : gS) (N7 : gS) (N8 : gS) (N9 : gS) (N10 : gS) (N11 : gS) (N12 : gS) (N13 : gS) => ((p1 = (mg N7 3) → (wX11_bribedHas_67  Q (bI b16) (1 : Int32) N4 N5 N6 N7 N8 N9 N10 N11 N12 N13))
 ∧ (¬ p1 = (mg N7 3) → (wX11_bribedHas_67  Q (bI b16) (0 : Int32) N4 N5 N6 N7 N8 N9 N10 N11 N12 N13)))))))
def rmX11_bribedHas : Room := { frames := 5, cells := 0, slots := 0, locals := 129 }
set_option maxHeartbeats 4000000 in
set_option maxRecDepth 100000 in
theorem kX11_bribedHas (l : Launch) (dC : Nat → ClassId) (dI : Nat → Nat → Nat) (cB cI cJ cZ : ClassId) (h0 : Nat) (a0 : Nat → Nat) (a1 : Nat → Nat) (a2 : Nat → Nat) (a3 : Nat → Nat) (a4 : Nat → Nat) (a5 : Nat → Nat) (a6 : Nat → Nat) (a7 : Nat → Nat) (o7 : Option Nat) (a8 : Nat → Nat) (o8 : Option Nat) (a9 : Nat → Nat) (sz : Nat) (p1 : Int32) (p2 : Int32) (M0 : gS) (M1 : gS) (M2 : gS) (M3 : gS) (M4 : gS) (M5 : gS) (M6 : gS) (M7 : gS) (M8 : gS) (M9 : gS) (Q : Bool → gS → gS → gS → gS → gS → gS → gS → gS → gS → gS → Prop) (h : wX11_bribedHas p1 p2 M0 M1 M2 M3 M4 M5 M6 M7 M8 M9 Q) : Met l yX11_bribedHas wsX11_bribedHas rmX11_bribedHas (va_Pc [.ref h0, .int p1, .int p2] (lwI dC dI cB cI cJ cZ h0 a0 a1 a2 a3 a4 a5 a6 a7 o7 a8 o8 a9 M0 M1 M2 M3 M4 M5 M6 M7 M8 M9 sz)) (va_Qi (fun (r : Int32) (u : gS × gS × gS × gS × gS × gS × gS × gS × gS × gS) => ∃ b : Bool, r = bI b ∧ Q b u.1 u.2.1 u.2.2.1 u.2.2.2.1 u.2.2.2.2.1 u.2.2.2.2.2.1 u.2.2.2.2.2.2.1 u.2.2.2.2.2.2.2.1 u.2.2.2.2.2.2.2.2.1 u.2.2.2.2.2.2.2.2.2) (lwB dC dI cB cI cJ cZ h0 a0 a1 a2 a3 a4 a5 a6 a7 a8 a9 (va_A (lwW cB cI cJ cZ h0 a0 a1 a2 a3 a4 a5 a6 a7 o7 a8 o8 a9 M0 M1 M2 M3 M4 M5 M6 M7 M8 M9) sz)) (va_A (lwW cB cI cJ cZ h0 a0 a1 a2 a3 a4 a5 a6 a7 o7 a8 o8 a9 M0 M1 M2 M3 M4 M5 M6 M7 M8 M9) sz)) 0 0 (va_A (lwW cB cI cJ cZ h0 a0 a1 a2 a3 a4 a5 a6 a7 o7 a8 o8 a9 M0 M1 M2 M3 M4 M5 M6 M7 M8 M9) sz) := by
  refine Met.ofW (cc := cX11_bribedHas) (maxL := 5) (ret := (some .boolean)) (by decide) rfl ?_
  intro p e s m args below meth c s₁ B hml hv
  obtain ⟨rfl, hsz, hP, hK, hD0⟩ := hv
  have hx := B.exec
  have hb := B.bytes
  have hr := B.returns
  have hts := atoms_spec (ws := wsX11_bribedHas) B.pre
  have hown : s.vm.findClass RX11 = some m.cls := findClass_of_methodNamed B.named
  have hlocks := B.notSynchronized
  subst hsz
  have hD := hD0.self (sz := s.heap.size)
  generalize hAe : va_A (lwW cB cI cJ cZ h0 a0 a1 a2 a3 a4 a5 a6 a7 o7 a8 o8 a9 M0 M1 M2 M3 M4 M5 M6 M7 M8 M9) s.heap.size = A at hD ⊢
  have hA : ∀ q : Nat, s.heap.size ≤ q → A q := fun q h => by rw [← hAe]; exact Or.inr h
  have hS : va_S A s.heap s.heap [] := va_S.rf
  have hinX10 : ∀ w ∈ wsX100, w ∈ wsX11_bribedHas := by decide +kernel
  have hinX11 : ∀ w ∈ wsX110, w ∈ wsX11_bribedHas := by decide +kernel
  have hinX6 : ∀ w ∈ wsX60, w ∈ wsX11_bribedHas := by decide +kernel
  have f1 := hts (.fieldLink RX11 22 "LastWords" "now" "LLastWords$State;") (by decide +kernel)
  have f2 := hts (.fieldLink RX11 118 "LastWords$State" "quarrel" "LLastWords$Quarrel;") (by decide +kernel)
  have f3 := hts (.fieldLink RX11 201 "LastWords$Quarrel" "verse" "I") (by decide +kernel)
  have f4 := hts (.methodLink RX11 255 Lib.Math.max.name) (by decide +kernel)
  have f5 := hts (.static Lib.Math.max.name) (by decide +kernel)
  have f6 := hts (.initialized "java/lang/Math") (by decide +kernel)
  have f7 := hts (.code Lib.Math.max.name Lib.Math.max.code 2 (some .int)) (by decide +kernel)
  have f8 := hts (.fieldLink RX11 128 "LastWords$Quarrel" "left" "I") (by decide +kernel)
  have f9 := hts (.methodLink RX11 260 Lib.Math.min.name) (by decide +kernel)
  have f10 := hts (.static Lib.Math.min.name) (by decide +kernel)
  have f11 := hts (.code Lib.Math.min.name Lib.Math.min.code 2 (some .int)) (by decide +kernel)
  have f12 := hts (.fieldLink RX11 208 "LastWords$Quarrel" "turn" "I") (by decide +kernel)
  have b67 : ∀ (z1 : Int32) (z0 : Int32) (o7 o8 : Option Nat) (M0 : gS) (M1 : gS) (M2 : gS) (M3 : gS) (M4 : gS) (M5 : gS) (M6 : gS) (M7 : gS) (M8 : gS) (M9 : gS) (H : Heap) (locs : List Loc) (ls : Array Slot), va_P (dC, dI) vwCl (lwW cB cI cJ cZ h0 a0 a1 a2 a3 a4 a5 a6 a7 o7 a8 o8 a9 M0 M1 M2 M3 M4 M5 M6 M7 M8 M9) H → va_D A (lwW cB cI cJ cZ h0 a0 a1 a2 a3 a4 a5 a6 a7 o7 a8 o8 a9 M0 M1 M2 M3 M4 M5 M6 M7 M8 M9) → va_S A s.heap H locs → lv_has ls 5 [] → wX11_bribedHas_67  Q z1 z0 M0 M1 M2 M3 M4 M5 M6 M7 M8 M9 → W p l e (headSpec wsX11_bribedHas rmX11_bribedHas).room s m ([.ref h0, .int p1, .int p2] : List Value).toArray below meth c H locs 0 0 (MQ below (va_Qi (fun (r : Int32) (u : gS × gS × gS × gS × gS × gS × gS × gS × gS × gS) => ∃ b : Bool, r = bI b ∧ Q b u.1 u.2.1 u.2.2.1 u.2.2.2.1 u.2.2.2.2.1 u.2.2.2.2.2.1 u.2.2.2.2.2.2.1 u.2.2.2.2.2.2.2.1 u.2.2.2.2.2.2.2.2.1 u.2.2.2.2.2.2.2.2.2) (lwB dC dI cB cI cJ cZ h0 a0 a1 a2 a3 a4 a5 a6 a7 a8 a9 A) A) ([.ref h0, .int p1, .int p2] : List Value).toArray s 0 0 A) (F0 m 67 ls [.int z0, .int z1]) := by
    intro  z1 z0 o7 o8  M0 M1 M2 M3 M4 M5 M6 M7 M8 M9 H locs ls hP hD hS hl h
    unfold wX11_bribedHas_67 at h
    refine lv_icmp_ne (tgt := 74) hx hb dX11_bribedHas_67 (by decide) (fun c1 => ?_) (fun c1 => ?_)
    · have h := h.2 c1
      refine lv_iconst (v := 0) hx hb dX11_bribedHas_74 (by decide) ?_
      exact W.zret (v := (bI false)) hx hb hr (nar_bI false) (fun t ht hW => ⟨⟨_, (M0, M1, M2, M3, M4, M5, M6, M7, M8, M9), rfl, ⟨false, rfl, h⟩, o7, o8, by rw [ht]; exact hP, va_K.moved hW.alike hK, hD⟩, hS.F ht⟩) hS.2.2 dX11_bribedHas_75
    · have h := h.1 c1
      refine lv_iconst (v := 1) hx hb dX11_bribedHas_70 (by decide) ?_
      refine lv_goto (tgt := 75) hx hb dX11_bribedHas_71 (by decide) ?_
      exact W.zret (v := (bI true)) hx hb hr (nar_bI true) (fun t ht hW => ⟨⟨_, (M0, M1, M2, M3, M4, M5, M6, M7, M8, M9), rfl, ⟨true, rfl, h⟩, o7, o8, by rw [ht]; exact hP, va_K.moved hW.alike hK, hD⟩, hS.F ht⟩) hS.2.2 dX11_bribedHas_75
  have bE : ∀ (M0 : gS) (M1 : gS) (M2 : gS) (M3 : gS) (M4 : gS) (M5 : gS) (M6 : gS) (M7 : gS) (M8 : gS) (M9 : gS) (H : Heap) (locs : List Loc) (ls : Array Slot), va_P (dC, dI) vwCl (lwW cB cI cJ cZ h0 a0 a1 a2 a3 a4 a5 a6 a7 o7 a8 o8 a9 M0 M1 M2 M3 M4 M5 M6 M7 M8 M9) H → va_D A (lwW cB cI cJ cZ h0 a0 a1 a2 a3 a4 a5 a6 a7 o7 a8 o8 a9 M0 M1 M2 M3 M4 M5 M6 M7 M8 M9) → va_S A s.heap H locs → lv_has ls 5 [(0, .ref h0), (1, .int p1), (2, .int p2)] → wX11_bribedHas p1 p2 M0 M1 M2 M3 M4 M5 M6 M7 M8 M9 Q → W p l e (headSpec wsX11_bribedHas rmX11_bribedHas).room s m ([.ref h0, .int p1, .int p2] : List Value).toArray below meth c H locs 0 0 (MQ below (va_Qi (fun (r : Int32) (u : gS × gS × gS × gS × gS × gS × gS × gS × gS × gS) => ∃ b : Bool, r = bI b ∧ Q b u.1 u.2.1 u.2.2.1 u.2.2.2.1 u.2.2.2.2.1 u.2.2.2.2.2.1 u.2.2.2.2.2.2.1 u.2.2.2.2.2.2.2.1 u.2.2.2.2.2.2.2.2.1 u.2.2.2.2.2.2.2.2.2) (lwB dC dI cB cI cJ cZ h0 a0 a1 a2 a3 a4 a5 a6 a7 a8 a9 A) A) ([.ref h0, .int p1, .int p2] : List Value).toArray s 0 0 A) (F0 m 0 ls []) := by
    intro M0 M1 M2 M3 M4 M5 M6 M7 M8 M9 H locs ls hP hD hS hl h
    unfold wX11_bribedHas at h
    refine lv_iconst (v := 1) hx hb dX11_bribedHas_0 (by decide) ?_
    refine lv_aload_n hx hb dX11_bribedHas_1 rfl (lv_at hl 0 rfl) ?_
    refine va_get (D := (dC, dI)) (ci := 11) (v := .ref (a0 4)) (C := RX11) (T := TX11) (N := 12) hx hb hts hinX11 hown hK hP 0 rfl rfl 4 (by decide) f1 (fun _ h9 => h9) rfl dX11_bribedHas_2 ?_
    refine va_get (D := (dC, dI)) (ci := 10) (v := .ref (a1 1)) (C := RX10) (T := TX10) (N := 5) hx hb hts hinX10 hown hK hP 3 rfl rfl 1 (by decide) f2 (fun _ h9 => h9) rfl dX11_bribedHas_5 ?_
    refine va_get (D := (dC, dI)) (ci := 6) (v := .int (mg M3 1)) (C := RX6) (T := TX6) (N := 10) hx hb hts hinX6 hown hK hP 9 rfl rfl 1 (by decide) f3 (fun _ h9 => h9) rfl dX11_bribedHas_8 ?_
    refine lv_iload_n hx hb dX11_bribedHas_11 rfl (lv_at hl 2 rfl) ?_
    refine lv_iadd hx hb dX11_bribedHas_12 ?_
    refine va_mmax hx hb (by rw [hml]; exact hl.1.symm) hown f4 f5 f6 f7 (Nat.le_of_ble_eq_true rfl) (Nat.le_of_ble_eq_true rfl) (Nat.le_of_ble_eq_true rfl) (Nat.le_of_ble_eq_true rfl) dX11_bribedHas_13 ?_
    refine lv_topi (fun x1 ex1 => ?_)
    have h := h x1 ex1
    refine lv_istore_n (lv' := [(3, .int x1), (0, .ref h0), (1, .int p1), (2, .int p2)]) hx hb dX11_bribedHas_16 rfl hl (by decide) rfl (fun ls hl => ?_)
    refine lv_iconst (v := 0) hx hb dX11_bribedHas_17 (by decide) ?_
    refine lv_sipush (v := (200)) hx hb dX11_bribedHas_18 (by decide) ?_
    refine lv_aload_n hx hb dX11_bribedHas_21 rfl (lv_at hl 1 rfl) ?_
    refine va_get (D := (dC, dI)) (ci := 11) (v := .ref (a0 4)) (C := RX11) (T := TX11) (N := 12) hx hb hts hinX11 hown hK hP 0 rfl rfl 4 (by decide) f1 (fun _ h9 => h9) rfl dX11_bribedHas_22 ?_
    refine va_get (D := (dC, dI)) (ci := 10) (v := .ref (a1 1)) (C := RX10) (T := TX10) (N := 5) hx hb hts hinX10 hown hK hP 3 rfl rfl 1 (by decide) f2 (fun _ h9 => h9) rfl dX11_bribedHas_25 ?_
    refine va_get (D := (dC, dI)) (ci := 6) (v := .int (mg M3 2)) (C := RX6) (T := TX6) (N := 10) hx hb hts hinX6 hown hK hP 9 rfl rfl 2 (by decide) f8 (fun _ h9 => h9) rfl dX11_bribedHas_28 ?_
    refine lv_iload_n hx hb dX11_bribedHas_31 rfl (lv_at hl 3 rfl) ?_
    refine lv_iadd hx hb dX11_bribedHas_32 ?_
    refine va_mmin hx hb (by rw [hml]; exact hl.1.symm) hown f9 f10 f6 f11 (Nat.le_of_ble_eq_true rfl) (Nat.le_of_ble_eq_true rfl) (Nat.le_of_ble_eq_true rfl) (Nat.le_of_ble_eq_true rfl) dX11_bribedHas_33 ?_
    refine va_mmax hx hb (by rw [hml]; exact hl.1.symm) hown f4 f5 f6 f7 (Nat.le_of_ble_eq_true rfl) (Nat.le_of_ble_eq_true rfl) (Nat.le_of_ble_eq_true rfl) (Nat.le_of_ble_eq_true rfl) dX11_bribedHas_36 ?_
    refine lv_topi (fun x2 ex2 => ?_)
    have h := h x2 ex2
    refine lv_istore (lv' := [(4, .int x2), (3, .int x1), (0, .ref h0), (1, .int p1), (2, .int p2)]) hx hb dX11_bribedHas_39 hl (by decide) rfl (fun ls hl => ?_)
    refine lv_aload_n hx hb dX11_bribedHas_41 rfl (lv_at hl 2 rfl) ?_
    refine lv_iload_n hx hb dX11_bribedHas_42 rfl (lv_at hl 1 rfl) ?_
    refine lv_iload hx hb dX11_bribedHas_43 (lv_at hl 0 rfl) ?_
    have hFc := gs_free hD hS hA
    refine va_calli (va_runV (As := [.int x1, .int x2]) (rest := []) ⟨hx, hb, hml, hown, hts⟩ (kX11_turnHas l dC dI cB cI cJ cZ h0 a0 a1 a2 a3 a4 a5 a6 a7 o7 a8 o8 a9 H.size x1 x2 M0 M1 M2 M3 M4 M5 M6 M7 M8 M9 _ h) (cwV 2 hts gX11_bribedHas_X11_turnHas rfl rfl rfl (by decide +kernel) ⟨Nat.le_of_ble_eq_true rfl, Nat.le_of_ble_eq_true rfl⟩) (lwpV hK hP hD) rfl rfl hl.1 rfl (lv_room (Nat.le_of_ble_eq_true rfl)) dX11_bribedHas_45 ⟨Nat.le_of_ble_eq_true rfl, Nat.le_of_ble_eq_true rfl⟩) hS (fun q _ z => hFc q z) hFc (fun r3 u t H1 locs ht hvm hw hB hz1 hk1 hS => ?_)
    obtain ⟨N4, N5, N6, N7, N8, N9, N10, N11, N12, N13⟩ := u
    obtain ⟨v14, v15, hP, hK1, hD1⟩ := hB
    rw [ht] at hP
    have hD := hD1.weaken (fun _ _ _ z => hFc _ z)
    generalize H1 = H at hP hS ⊢
    obtain ⟨b16, rfl, h⟩ := hw
    try dsimp only at h
    refine lv_iload_n hx hb dX11_bribedHas_48 rfl (lv_at hl 3 rfl) ?_
    refine lv_aload_n hx hb dX11_bribedHas_49 rfl (lv_at hl 2 rfl) ?_
    refine va_get (D := (dC, dI)) (ci := 11) (v := .ref (a0 4)) (C := RX11) (T := TX11) (N := 12) hx hb hts hinX11 hown hK hP 0 rfl rfl 4 (by decide) f1 (fun _ h9 => h9) rfl dX11_bribedHas_50 ?_
    refine va_get (D := (dC, dI)) (ci := 10) (v := .ref (a1 1)) (C := RX10) (T := TX10) (N := 5) hx hb hts hinX10 hown hK hP 3 rfl rfl 1 (by decide) f2 (fun _ h9 => h9) rfl dX11_bribedHas_53 ?_
    refine va_get (D := (dC, dI)) (ci := 6) (v := .int (mg N7 3)) (C := RX6) (T := TX6) (N := 10) hx hb hts hinX6 hown hK hP 9 rfl rfl 3 (by decide) f12 (fun _ h9 => h9) rfl dX11_bribedHas_56 ?_
    refine lv_icmp_ne (tgt := 66) hx hb dX11_bribedHas_59 (by decide) (fun c17 => ?_) (fun c17 => ?_)
    · have h := h.2 c17
      refine lv_iconst (v := 0) hx hb dX11_bribedHas_66 (by decide) ?_
      exact b67  (bI b16) (0 : Int32) v14 v15 N4 N5 N6 N7 N8 N9 N10 N11 N12 N13 H locs ls hP hD hS (lv_sub hl [] rfl) h
    · have h := h.1 c17
      refine lv_iconst (v := 1) hx hb dX11_bribedHas_62 (by decide) ?_
      refine lv_goto (tgt := 67) hx hb dX11_bribedHas_63 (by decide) ?_
      exact b67  (bI b16) (1 : Int32) v14 v15 N4 N5 N6 N7 N8 N9 N10 N11 N12 N13 H locs ls hP hD hS (lv_sub hl [] rfl) h
  have hl := lv_entry ([.ref h0, .int p1, .int p2]) (n := 5) (Nat.le_of_ble_eq_true rfl)
  rw [lg_entry_eq]
  generalize (lg_sl ([.ref h0, .int p1, .int p2]) ++ List.replicate (5 - (lg_sl ([.ref h0, .int p1, .int p2])).length) Slot.unset).toArray = ls at hl ⊢
  have hl : lv_has ls 5 [(0, .ref h0), (1, .int p1), (2, .int p2)] := hl
  exact bE M0 M1 M2 M3 M4 M5 M6 M7 M8 M9 s.heap [] ls hP hD hS hl h
def wX11_bribe_60 (B26 : Int32 → Int32 → gS → gS → gS → gS → gS → gS → gS → gS → gS → gS → Prop) (Q : Int32 → gS → gS → gS → gS → gS → gS → gS → gS → gS → gS → Prop) (y1 : Int32) (y2 : Int32) (M0 : gS) (M1 : gS) (M2 : gS) (M3 : gS) (M4 : gS) (M5 : gS) (M6 : gS) (M7 : gS) (M8 : gS) (M9 : gS) : Prop :=
 (∀ x1 : Int32, x1 = y2 + (1 : Int32) → (B26 y1 x1 M0 M1 M2 M3 M4 M5 M6 M7 M8 M9))
def wX11_bribe_26  (Q : Int32 → gS → gS → gS → gS → gS → gS → gS → gS → gS → gS → Prop) : Nat → Int32 → Int32 → gS → gS → gS → gS → gS → gS → gS → gS → gS → gS → Prop
 | 0, _, _, _, _, _, _, _, _, _, _, _, _ => False
 | n + 1, y1, y2, M0, M1, M2, M3, M4, M5, M6, M7, M8, M9 => (((20 : Int32) < y2 → (Q (-100 : Int32) M0 M1 M2 M3 M4 M5 M6 M7 M8 M9))
 ∧ (¬ (20 : Int32) < y2 → (wX11_bribedHas y1 (-y2) M0 M1 M2 M3 M4 M5 M6 M7 M8 M9 (fun (b15 : Bool) (N3 : gS) (N4 : gS) (N5 : gS) (N6 : gS) (N7 : gS) (N8 : gS) (N9 : gS) (N10 : gS) (N11 : gS) (N12 : gS) => (((bI b15) = 0 → ((y2 ≤ 0 → (wX11_bribe_60 (fun (y1 : Int32) (y2 : Int32) (M0 : gS) (M1 : gS) (M2 : gS) (M3 : gS) (M4 : gS) (M5 : gS) (M6 : gS) (M7 : gS) (M8 : gS) (M9 : gS) => wX11_bribe_26  Q n y1 y2 M0 M1 M2 M3 M4 M5 M6 M7 M8 M9) Q y1 y2 N3 N4 N5 N6 N7 N8 N9 N10 N11 N12))
 ∧ (¬ y2 ≤ 0 → (wX11_bribedHas y1 y2 N3 N4 N5 N6 N7 N8 N9 N10 N11 N12 (fun (b31 : Bool) (N19 : gS) (N20 : gS) (N21 : gS) (N22 : gS) (N23 : gS) (N24 : gS) (N25 : gS) (N26 : gS) (N27 : gS) (N28 : gS) => (((bI b31) = 0 → (wX11_bribe_60 (fun (y1 : Int32) (y2 : Int32) (M0 : gS) (M1 : gS) (M2 : gS) (M3 : gS) (M4 : gS) (M5 : gS) (M6 : gS) (M7 : gS) (M8 : gS) (M9 : gS) => wX11_bribe_26  Q n y1 y2 M0 M1 M2 M3 M4 M5 M6 M7 M8 M9) Q y1 y2 N19 N20 N21 N22 N23 N24 N25 N26 N27 N28))
 ∧ (¬ (bI b31) = 0 → (Q y2 N19 N20 N21 N22 N23 N24 N25 N26 N27 N28))))))))
 ∧ (¬ (bI b15) = 0 → (Q (-y2) N3 N4 N5 N6 N7 N8 N9 N10 N11 N12)))))))
def wX11_bribe (p1 : Int32) (M0 : gS) (M1 : gS) (M2 : gS) (M3 : gS) (M4 : gS) (M5 : gS) (M6 : gS) (M7 : gS) (M8 : gS) (M9 : gS) (Q : Int32 → gS → gS → gS → gS → gS → gS → gS → gS → gS → gS → Prop) : Prop :=
 (wX11_isSide p1  (fun (b2 : Bool)  => (((bI b2) = 0 → (Q (-200 : Int32) M0 M1 M2 M3 M4 M5 M6 M7 M8 M9))
 ∧ (¬ (bI b2) = 0 → (((mg M3 0) = 0 → (Q (-200 : Int32) M0 M1 M2 M3 M4 M5 M6 M7 M8 M9))
 ∧ (¬ (mg M3 0) = 0 → (∃ k26 : Nat, wX11_bribe_26  Q k26 p1 (0 : Int32) M0 M1 M2 M3 M4 M5 M6 M7 M8 M9)))))))
def rmX11_bribe : Room := { frames := 6, cells := 0, slots := 0, locals := 153 }
set_option maxHeartbeats 4000000 in
set_option maxRecDepth 100000 in
theorem kX11_bribe (l : Launch) (dC : Nat → ClassId) (dI : Nat → Nat → Nat) (cB cI cJ cZ : ClassId) (h0 : Nat) (a0 : Nat → Nat) (a1 : Nat → Nat) (a2 : Nat → Nat) (a3 : Nat → Nat) (a4 : Nat → Nat) (a5 : Nat → Nat) (a6 : Nat → Nat) (a7 : Nat → Nat) (o7 : Option Nat) (a8 : Nat → Nat) (o8 : Option Nat) (a9 : Nat → Nat) (sz : Nat) (p1 : Int32) (M0 : gS) (M1 : gS) (M2 : gS) (M3 : gS) (M4 : gS) (M5 : gS) (M6 : gS) (M7 : gS) (M8 : gS) (M9 : gS) (Q : Int32 → gS → gS → gS → gS → gS → gS → gS → gS → gS → gS → Prop) (h : wX11_bribe p1 M0 M1 M2 M3 M4 M5 M6 M7 M8 M9 Q) : Met l yX11_bribe wsX11_bribe rmX11_bribe (va_Pc [.ref h0, .int p1] (lwI dC dI cB cI cJ cZ h0 a0 a1 a2 a3 a4 a5 a6 a7 o7 a8 o8 a9 M0 M1 M2 M3 M4 M5 M6 M7 M8 M9 sz)) (va_Qi (fun (r : Int32) (u : gS × gS × gS × gS × gS × gS × gS × gS × gS × gS) => Q r u.1 u.2.1 u.2.2.1 u.2.2.2.1 u.2.2.2.2.1 u.2.2.2.2.2.1 u.2.2.2.2.2.2.1 u.2.2.2.2.2.2.2.1 u.2.2.2.2.2.2.2.2.1 u.2.2.2.2.2.2.2.2.2) (lwB dC dI cB cI cJ cZ h0 a0 a1 a2 a3 a4 a5 a6 a7 a8 a9 (va_A (lwW cB cI cJ cZ h0 a0 a1 a2 a3 a4 a5 a6 a7 o7 a8 o8 a9 M0 M1 M2 M3 M4 M5 M6 M7 M8 M9) sz)) (va_A (lwW cB cI cJ cZ h0 a0 a1 a2 a3 a4 a5 a6 a7 o7 a8 o8 a9 M0 M1 M2 M3 M4 M5 M6 M7 M8 M9) sz)) 0 0 (va_A (lwW cB cI cJ cZ h0 a0 a1 a2 a3 a4 a5 a6 a7 o7 a8 o8 a9 M0 M1 M2 M3 M4 M5 M6 M7 M8 M9) sz) := by
  refine Met.ofW (cc := cX11_bribe) (maxL := 3) (ret := (some .int)) (by decide) rfl ?_
  intro p e s m args below meth c s₁ B hml hv
  obtain ⟨rfl, hsz, hP, hK, hD0⟩ := hv
  have hx := B.exec
  have hb := B.bytes
  have hr := B.returns
  have hts := atoms_spec (ws := wsX11_bribe) B.pre
  have hown : s.vm.findClass RX11 = some m.cls := findClass_of_methodNamed B.named
  have hlocks := B.notSynchronized
  subst hsz
  have hD := hD0.self (sz := s.heap.size)
  generalize hAe : va_A (lwW cB cI cJ cZ h0 a0 a1 a2 a3 a4 a5 a6 a7 o7 a8 o8 a9 M0 M1 M2 M3 M4 M5 M6 M7 M8 M9) s.heap.size = A at hD ⊢
  have hA : ∀ q : Nat, s.heap.size ≤ q → A q := fun q h => by rw [← hAe]; exact Or.inr h
  have hS : va_S A s.heap s.heap [] := va_S.rf
  have hinX10 : ∀ w ∈ wsX100, w ∈ wsX11_bribe := by decide +kernel
  have hinX11 : ∀ w ∈ wsX110, w ∈ wsX11_bribe := by decide +kernel
  have hinX6 : ∀ w ∈ wsX60, w ∈ wsX11_bribe := by decide +kernel
  have f1 := hts (.fieldLink RX11 22 "LastWords" "now" "LLastWords$State;") (by decide +kernel)
  have f2 := hts (.fieldLink RX11 118 "LastWords$State" "quarrel" "LLastWords$Quarrel;") (by decide +kernel)
  have f3 := hts (.fieldLink RX11 149 "LastWords$Quarrel" "goesOn" "Z") (by decide +kernel)
  have b60 : ∀ (B26 : Int32 → Int32 → gS → gS → gS → gS → gS → gS → gS → gS → gS → gS → Prop) (hB26 : ∀ (y1 : Int32) (y2 : Int32) (o7 o8 : Option Nat) (M0 : gS) (M1 : gS) (M2 : gS) (M3 : gS) (M4 : gS) (M5 : gS) (M6 : gS) (M7 : gS) (M8 : gS) (M9 : gS) (H : Heap) (locs : List Loc) (ls : Array Slot), va_P (dC, dI) vwCl (lwW cB cI cJ cZ h0 a0 a1 a2 a3 a4 a5 a6 a7 o7 a8 o8 a9 M0 M1 M2 M3 M4 M5 M6 M7 M8 M9) H → va_D A (lwW cB cI cJ cZ h0 a0 a1 a2 a3 a4 a5 a6 a7 o7 a8 o8 a9 M0 M1 M2 M3 M4 M5 M6 M7 M8 M9) → va_S A s.heap H locs → lv_has ls 3 [(0, .ref h0), (1, .int y1), (2, .int y2)] → B26 y1 y2 M0 M1 M2 M3 M4 M5 M6 M7 M8 M9 → W p l e (headSpec wsX11_bribe rmX11_bribe).room s m ([.ref h0, .int p1] : List Value).toArray below meth c H locs 0 0 (MQ below (va_Qi (fun (r : Int32) (u : gS × gS × gS × gS × gS × gS × gS × gS × gS × gS) => Q r u.1 u.2.1 u.2.2.1 u.2.2.2.1 u.2.2.2.2.1 u.2.2.2.2.2.1 u.2.2.2.2.2.2.1 u.2.2.2.2.2.2.2.1 u.2.2.2.2.2.2.2.2.1 u.2.2.2.2.2.2.2.2.2) (lwB dC dI cB cI cJ cZ h0 a0 a1 a2 a3 a4 a5 a6 a7 a8 a9 A) A) ([.ref h0, .int p1] : List Value).toArray s 0 0 A) (F0 m 26 ls [])) (y1 : Int32) (y2 : Int32) (o7 o8 : Option Nat) (M0 : gS) (M1 : gS) (M2 : gS) (M3 : gS) (M4 : gS) (M5 : gS) (M6 : gS) (M7 : gS) (M8 : gS) (M9 : gS) (H : Heap) (locs : List Loc) (ls : Array Slot), va_P (dC, dI) vwCl (lwW cB cI cJ cZ h0 a0 a1 a2 a3 a4 a5 a6 a7 o7 a8 o8 a9 M0 M1 M2 M3 M4 M5 M6 M7 M8 M9) H → va_D A (lwW cB cI cJ cZ h0 a0 a1 a2 a3 a4 a5 a6 a7 o7 a8 o8 a9 M0 M1 M2 M3 M4 M5 M6 M7 M8 M9) → va_S A s.heap H locs → lv_has ls 3 [(0, .ref h0), (1, .int y1), (2, .int y2)] → wX11_bribe_60 B26 Q y1 y2 M0 M1 M2 M3 M4 M5 M6 M7 M8 M9 → W p l e (headSpec wsX11_bribe rmX11_bribe).room s m ([.ref h0, .int p1] : List Value).toArray below meth c H locs 0 0 (MQ below (va_Qi (fun (r : Int32) (u : gS × gS × gS × gS × gS × gS × gS × gS × gS × gS) => Q r u.1 u.2.1 u.2.2.1 u.2.2.2.1 u.2.2.2.2.1 u.2.2.2.2.2.1 u.2.2.2.2.2.2.1 u.2.2.2.2.2.2.2.1 u.2.2.2.2.2.2.2.2.1 u.2.2.2.2.2.2.2.2.2) (lwB dC dI cB cI cJ cZ h0 a0 a1 a2 a3 a4 a5 a6 a7 a8 a9 A) A) ([.ref h0, .int p1] : List Value).toArray s 0 0 A) (F0 m 60 ls []) := by
    intro B26 hB26 y1 y2 o7 o8  M0 M1 M2 M3 M4 M5 M6 M7 M8 M9 H locs ls hP hD hS hl h
    unfold wX11_bribe_60 at h
    obtain ⟨x1, ex1⟩ : ∃ y : Int32, y = y2 + (1 : Int32) := ⟨_, rfl⟩
    have h := h x1 ex1
    refine lv_iinc (v := x1) (lv' := [(2, .int x1), (0, .ref h0), (1, .int y1)]) hx hb dX11_bribe_60 hl (k := 2) rfl (by rw [ex1]; rfl) (by decide) rfl (fun ls hl => ?_)
    refine lv_goto (tgt := 26) hx hb dX11_bribe_63 (by decide) ?_
    exact hB26 y1 x1 o7 o8 M0 M1 M2 M3 M4 M5 M6 M7 M8 M9 H locs ls hP hD hS (lv_sub hl [1, 2, 0] rfl) h
  have b26 : ∀ (n : Nat) (y1 : Int32) (y2 : Int32) (o7 o8 : Option Nat) (M0 : gS) (M1 : gS) (M2 : gS) (M3 : gS) (M4 : gS) (M5 : gS) (M6 : gS) (M7 : gS) (M8 : gS) (M9 : gS) (H : Heap) (locs : List Loc) (ls : Array Slot), va_P (dC, dI) vwCl (lwW cB cI cJ cZ h0 a0 a1 a2 a3 a4 a5 a6 a7 o7 a8 o8 a9 M0 M1 M2 M3 M4 M5 M6 M7 M8 M9) H → va_D A (lwW cB cI cJ cZ h0 a0 a1 a2 a3 a4 a5 a6 a7 o7 a8 o8 a9 M0 M1 M2 M3 M4 M5 M6 M7 M8 M9) → va_S A s.heap H locs → lv_has ls 3 [(0, .ref h0), (1, .int y1), (2, .int y2)] → wX11_bribe_26  Q n y1 y2 M0 M1 M2 M3 M4 M5 M6 M7 M8 M9 → W p l e (headSpec wsX11_bribe rmX11_bribe).room s m ([.ref h0, .int p1] : List Value).toArray below meth c H locs 0 0 (MQ below (va_Qi (fun (r : Int32) (u : gS × gS × gS × gS × gS × gS × gS × gS × gS × gS) => Q r u.1 u.2.1 u.2.2.1 u.2.2.2.1 u.2.2.2.2.1 u.2.2.2.2.2.1 u.2.2.2.2.2.2.1 u.2.2.2.2.2.2.2.1 u.2.2.2.2.2.2.2.2.1 u.2.2.2.2.2.2.2.2.2) (lwB dC dI cB cI cJ cZ h0 a0 a1 a2 a3 a4 a5 a6 a7 a8 a9 A) A) ([.ref h0, .int p1] : List Value).toArray s 0 0 A) (F0 m 26 ls []) := by
    intro  n
    induction n with
    | zero => intro y1 y2 o7 o8  M0 M1 M2 M3 M4 M5 M6 M7 M8 M9 H locs ls hP hD hS hl h; exact absurd h (by simp [wX11_bribe_26])
    | succ n hB260 =>
      intro y1 y2 o7 o8  M0 M1 M2 M3 M4 M5 M6 M7 M8 M9 H locs ls hP hD hS hl h
      have hB26 := hB260
      rw [wX11_bribe_26] at h
      refine lv_iload_n hx hb dX11_bribe_26 rfl (lv_at hl 2 rfl) ?_
      refine lv_bipush (v := (20)) hx hb dX11_bribe_27 (by decide) ?_
      refine lv_icmp_gt (tgt := 66) hx hb dX11_bribe_29 (by decide) (fun c1 => ?_) (fun c1 => ?_)
      · have h := h.1 c1
        refine lv_bipush (v := (-100)) hx hb dX11_bribe_66 (by decide) ?_
        exact W.iret (v := (-100 : Int32)) hx hb hr (fun t ht hW => ⟨⟨_, (M0, M1, M2, M3, M4, M5, M6, M7, M8, M9), rfl, h, o7, o8, by rw [ht]; exact hP, va_K.moved hW.alike hK, hD⟩, hS.F ht⟩) hS.2.2 dX11_bribe_68
      · have h := h.2 c1
        refine lv_aload_n hx hb dX11_bribe_32 rfl (lv_at hl 0 rfl) ?_
        refine lv_iload_n hx hb dX11_bribe_33 rfl (lv_at hl 1 rfl) ?_
        refine lv_iload_n hx hb dX11_bribe_34 rfl (lv_at hl 2 rfl) ?_
        refine lv_ineg hx hb dX11_bribe_35 ?_
        have hFc := gs_free hD hS hA
        refine va_calli (va_runV (As := [.int y1, .int (-y2)]) (rest := []) ⟨hx, hb, hml, hown, hts⟩ (kX11_bribedHas l dC dI cB cI cJ cZ h0 a0 a1 a2 a3 a4 a5 a6 a7 o7 a8 o8 a9 H.size y1 (-y2) M0 M1 M2 M3 M4 M5 M6 M7 M8 M9 _ h) (cwV 2 hts gX11_bribe_X11_bribedHas rfl rfl rfl (by decide +kernel) ⟨Nat.le_of_ble_eq_true rfl, Nat.le_of_ble_eq_true rfl⟩) (lwpV hK hP hD) rfl rfl hl.1 rfl (lv_room (Nat.le_of_ble_eq_true rfl)) dX11_bribe_36 ⟨Nat.le_of_ble_eq_true rfl, Nat.le_of_ble_eq_true rfl⟩) hS (fun q _ z => hFc q z) hFc (fun r2 u t H1 locs ht hvm hw hB hz1 hk1 hS => ?_)
        obtain ⟨N3, N4, N5, N6, N7, N8, N9, N10, N11, N12⟩ := u
        obtain ⟨v13, v14, hP, hK1, hD1⟩ := hB
        rw [ht] at hP
        have hD := hD1.weaken (fun _ _ _ z => hFc _ z)
        generalize H1 = H at hP hS ⊢
        obtain ⟨b15, rfl, h⟩ := hw
        try dsimp only at h
        refine lv_if_eq (tgt := 45) hx hb dX11_bribe_39 (by decide) (fun c16 => ?_) (fun c16 => ?_)
        · have h := h.1 c16
          refine lv_iload_n hx hb dX11_bribe_45 rfl (lv_at hl 2 rfl) ?_
          refine lv_if_le (tgt := 60) hx hb dX11_bribe_46 (by decide) (fun c17 => ?_) (fun c17 => ?_)
          · have h := h.1 c17
            exact b60 _ hB26 y1 y2 v13 v14 N3 N4 N5 N6 N7 N8 N9 N10 N11 N12 H locs ls hP hD hS (lv_sub hl [0, 1, 2] rfl) h
          · have h := h.2 c17
            refine lv_aload_n hx hb dX11_bribe_49 rfl (lv_at hl 0 rfl) ?_
            refine lv_iload_n hx hb dX11_bribe_50 rfl (lv_at hl 1 rfl) ?_
            refine lv_iload_n hx hb dX11_bribe_51 rfl (lv_at hl 2 rfl) ?_
            have hFc := gs_free hD hS hA
            refine va_calli (va_runV (As := [.int y1, .int y2]) (rest := []) ⟨hx, hb, hml, hown, hts⟩ (kX11_bribedHas l dC dI cB cI cJ cZ h0 a0 a1 a2 a3 a4 a5 a6 a7 v13 a8 v14 a9 H.size y1 y2 N3 N4 N5 N6 N7 N8 N9 N10 N11 N12 _ h) (cwV 2 hts gX11_bribe_X11_bribedHas rfl rfl rfl (by decide +kernel) ⟨Nat.le_of_ble_eq_true rfl, Nat.le_of_ble_eq_true rfl⟩) (lwpV hK hP hD) rfl rfl hl.1 rfl (lv_room (Nat.le_of_ble_eq_true rfl)) dX11_bribe_52 ⟨Nat.le_of_ble_eq_true rfl, Nat.le_of_ble_eq_true rfl⟩) hS (fun q _ z => hFc q z) hFc (fun r18 u t H1 locs ht hvm hw hB hz1 hk1 hS => ?_)
            obtain ⟨N19, N20, N21, N22, N23, N24, N25, N26, N27, N28⟩ := u
            obtain ⟨v29, v30, hP, hK1, hD1⟩ := hB
            rw [ht] at hP
            have hD := hD1.weaken (fun _ _ _ z => hFc _ z)
            generalize H1 = H at hP hS ⊢
            obtain ⟨b31, rfl, h⟩ := hw
            try dsimp only at h
            refine lv_if_eq (tgt := 60) hx hb dX11_bribe_55 (by decide) (fun c32 => ?_) (fun c32 => ?_)
            · have h := h.1 c32
              exact b60 _ hB26 y1 y2 v29 v30 N19 N20 N21 N22 N23 N24 N25 N26 N27 N28 H locs ls hP hD hS (lv_sub hl [0, 1, 2] rfl) h
            · have h := h.2 c32
              refine lv_iload_n hx hb dX11_bribe_58 rfl (lv_at hl 2 rfl) ?_
              exact W.iret (v := y2) hx hb hr (fun t ht hW => ⟨⟨_, (N19, N20, N21, N22, N23, N24, N25, N26, N27, N28), rfl, h, v29, v30, by rw [ht]; exact hP, va_K.moved hW.alike hK, hD⟩, hS.F ht⟩) hS.2.2 dX11_bribe_59
        · have h := h.2 c16
          refine lv_iload_n hx hb dX11_bribe_42 rfl (lv_at hl 2 rfl) ?_
          refine lv_ineg hx hb dX11_bribe_43 ?_
          exact W.iret (v := (-y2)) hx hb hr (fun t ht hW => ⟨⟨_, (N3, N4, N5, N6, N7, N8, N9, N10, N11, N12), rfl, h, v13, v14, by rw [ht]; exact hP, va_K.moved hW.alike hK, hD⟩, hS.F ht⟩) hS.2.2 dX11_bribe_44
  have bE : ∀ (M0 : gS) (M1 : gS) (M2 : gS) (M3 : gS) (M4 : gS) (M5 : gS) (M6 : gS) (M7 : gS) (M8 : gS) (M9 : gS) (H : Heap) (locs : List Loc) (ls : Array Slot), va_P (dC, dI) vwCl (lwW cB cI cJ cZ h0 a0 a1 a2 a3 a4 a5 a6 a7 o7 a8 o8 a9 M0 M1 M2 M3 M4 M5 M6 M7 M8 M9) H → va_D A (lwW cB cI cJ cZ h0 a0 a1 a2 a3 a4 a5 a6 a7 o7 a8 o8 a9 M0 M1 M2 M3 M4 M5 M6 M7 M8 M9) → va_S A s.heap H locs → lv_has ls 3 [(0, .ref h0), (1, .int p1)] → wX11_bribe p1 M0 M1 M2 M3 M4 M5 M6 M7 M8 M9 Q → W p l e (headSpec wsX11_bribe rmX11_bribe).room s m ([.ref h0, .int p1] : List Value).toArray below meth c H locs 0 0 (MQ below (va_Qi (fun (r : Int32) (u : gS × gS × gS × gS × gS × gS × gS × gS × gS × gS) => Q r u.1 u.2.1 u.2.2.1 u.2.2.2.1 u.2.2.2.2.1 u.2.2.2.2.2.1 u.2.2.2.2.2.2.1 u.2.2.2.2.2.2.2.1 u.2.2.2.2.2.2.2.2.1 u.2.2.2.2.2.2.2.2.2) (lwB dC dI cB cI cJ cZ h0 a0 a1 a2 a3 a4 a5 a6 a7 a8 a9 A) A) ([.ref h0, .int p1] : List Value).toArray s 0 0 A) (F0 m 0 ls []) := by
    intro M0 M1 M2 M3 M4 M5 M6 M7 M8 M9 H locs ls hP hD hS hl h
    unfold wX11_bribe at h
    refine lv_iload_n hx hb dX11_bribe_0 rfl (lv_at hl 1 rfl) ?_
    have hPc := hP.sub (ws' := (e0W cB cI cJ cZ  )) [] rfl
    have hDc := hD.sub (ws' := (e0W cB cI cJ cZ  )) [] (by decide) rfl
    have hFc := va_free (wc := (e0W cB cI cJ cZ  )) hD hS hA [] rfl
    refine va_calli (va_runS (As := [.int p1]) (rest := []) ⟨hx, hb, hml, hown, hts⟩ (kX11_isSide l dC dI cB cI cJ cZ  H.size p1  _ h) (cwS 1 hts gX11_bribe_X11_isSide rfl rfl rfl (by decide +kernel) ⟨Nat.le_of_ble_eq_true rfl, Nat.le_of_ble_eq_true rfl⟩) (e0pS hK hPc hDc) rfl rfl hl.1 rfl (lv_room (Nat.le_of_ble_eq_true rfl)) dX11_bribe_1 ⟨Nat.le_of_ble_eq_true rfl, Nat.le_of_ble_eq_true rfl⟩) hS (fun q _ z => hFc q z) hFc (fun r1 u t H1 locs ht hvm hw hB hz1 hk1 hS => ?_)
    obtain ⟨hP1, hK1, hD1⟩ := hB
    rw [ht] at hP1
    obtain ⟨hP, hD⟩ := va_join (wr := [(h0, .inr (11, [.ref (a0 0), .int (mg M0 1), .ref (a0 2), .int (mg M0 3), .ref (a0 4), .ref (a0 5), .ref (a0 6), .ref (a0 7), .ref (a0 8), .ref (a0 9), .ref (a0 10), .ref (a0 11)])), (a0 0, .inl (cI, 400, .inl (ma M0 0))), (a0 11, .inl (cJ, 4, .inr (.inl (ml M0 11)))), (a0 4, .inr (10, [.ref (a1 0), .ref (a1 1), .ref (a1 2), .ref (a1 3), .int (mg M1 4)])), (a1 3, .inl (cI, 2, .inl (ma M1 3))), (a1 0, .inr (1, [.int (mg M2 0), .ref (a2 1), .int (mg M2 2), .ref (a2 3), .int (mg M2 4), .ref (a2 5)])), (a2 1, .inl (cI, 4, .inl (ma M2 1))), (a2 3, .inl (cI, 4, .inl (ma M2 3))), (a2 5, .inl (cI, 2, .inl (ma M2 5))), (a1 1, .inr (6, [.int (mg M3 0), .int (mg M3 1), .int (mg M3 2), .int (mg M3 3), .int (mg M3 4), .int (mg M3 5), .int (mg M3 6), .ref (a3 7), .ref (a3 8), .ref (a3 9)])), (a3 7, .inl (cI, 2, .inl (ma M3 7))), (a3 8, .inl (cI, 2, .inl (ma M3 8))), (a3 9, .inl (cI, 2, .inl (ma M3 9))), (a1 2, .inr (4, [.int (mg M4 0), .ref (a4 1), .ref (a4 2), .ref (a4 3)])), (a4 1, .inl (cI, 6, .inl (ma M4 1))), (a4 2, .inl (cI, 6, .inl (ma M4 2))), (a4 3, .inl (cI, 6, .inl (ma M4 3))), (a0 6, .inr (1, [.int (mg M5 0), .ref (a5 1), .int (mg M5 2), .ref (a5 3), .int (mg M5 4), .ref (a5 5)])), (a5 1, .inl (cI, 4, .inl (ma M5 1))), (a5 3, .inl (cI, 4, .inl (ma M5 3))), (a5 5, .inl (cI, 2, .inl (ma M5 5))), (a0 7, .inr (6, [.int (mg M6 0), .int (mg M6 1), .int (mg M6 2), .int (mg M6 3), .int (mg M6 4), .int (mg M6 5), .int (mg M6 6), .ref (a6 7), .ref (a6 8), .ref (a6 9)])), (a6 7, .inl (cI, 2, .inl (ma M6 7))), (a6 8, .inl (cI, 2, .inl (ma M6 8))), (a6 9, .inl (cI, 2, .inl (ma M6 9))), (a0 8, .inr (0, [.ref (a7 0), .ref (a7 1), .ref (a7 2), .ref (a7 3), .int (mg M7 4), va_rf o7, .int (mg M7 6), .int (mg M7 7), .int (mg M7 8), .int (mg M7 9), .int (mg M7 10)])), (a7 0, .inl (cJ, 15, .inr (.inl (ml M7 0)))), (a7 1, .inl (cJ, 800, .inr (.inl (ml M7 1)))), (a7 2, .inl (cI, 4, .inl (ma M7 2))), (a7 3, .inl (cJ, 4, .inr (.inl (ml M7 3)))), (a0 9, .inr (5, [.ref (a8 0), .ref (a8 1), va_rf o8, .int (mg M8 3)])), (a8 0, .inl (cI, 2048, .inl (ma M8 0))), (a8 1, .inl (cI, 2048, .inl (ma M8 1))), (a0 10, .inr (3, [.int (mg M9 0), .int (mg M9 1), .int (mg M9 2), .int (mg M9 3), .int (mg M9 4)]))]) (w1 := (e0W cB cI cJ cZ  )) hP hD [] [0, 1, 2, 3, 4, 5, 6, 7, 8, 9, 10, 11, 12, 13, 14, 15, 16, 17, 18, 19, 20, 21, 22, 23, 24, 25, 26, 27, 28, 29, 30, 31, 32, 33] rfl rfl (by decide) (by decide) hk1 hFc hP1 hD1
    have hP := hP.sub (ws' := (lwW cB cI cJ cZ h0 a0 a1 a2 a3 a4 a5 a6 a7 o7 a8 o8 a9 M0 M1 M2 M3 M4 M5 M6 M7 M8 M9)) [0, 1, 2, 3, 4, 5, 6, 7, 8, 9, 10, 11, 12, 13, 14, 15, 16, 17, 18, 19, 20, 21, 22, 23, 24, 25, 26, 27, 28, 29, 30, 31, 32, 33] rfl
    have hD := hD.sub (ws' := (lwW cB cI cJ cZ h0 a0 a1 a2 a3 a4 a5 a6 a7 o7 a8 o8 a9 M0 M1 M2 M3 M4 M5 M6 M7 M8 M9)) [0, 1, 2, 3, 4, 5, 6, 7, 8, 9, 10, 11, 12, 13, 14, 15, 16, 17, 18, 19, 20, 21, 22, 23, 24, 25, 26, 27, 28, 29, 30, 31, 32, 33] (by decide) rfl
    generalize H1 = H at hP hS ⊢
    obtain ⟨b2, rfl, h⟩ := hw
    try dsimp only at h
    refine lv_if_eq (tgt := 20) hx hb dX11_bribe_4 (by decide) (fun c3 => ?_) (fun c3 => ?_)
    · have h := h.1 c3
      refine lv_sipush (v := (-200)) hx hb dX11_bribe_20 (by decide) ?_
      exact W.iret (v := (-200 : Int32)) hx hb hr (fun t ht hW => ⟨⟨_, (M0, M1, M2, M3, M4, M5, M6, M7, M8, M9), rfl, h, o7, o8, by rw [ht]; exact hP, va_K.moved hW.alike hK, hD⟩, hS.F ht⟩) hS.2.2 dX11_bribe_23
    · have h := h.2 c3
      refine lv_aload_n hx hb dX11_bribe_7 rfl (lv_at hl 0 rfl) ?_
      refine va_get (D := (dC, dI)) (ci := 11) (v := .ref (a0 4)) (C := RX11) (T := TX11) (N := 12) hx hb hts hinX11 hown hK hP 0 rfl rfl 4 (by decide) f1 (fun _ h9 => h9) rfl dX11_bribe_8 ?_
      refine va_get (D := (dC, dI)) (ci := 10) (v := .ref (a1 1)) (C := RX10) (T := TX10) (N := 5) hx hb hts hinX10 hown hK hP 3 rfl rfl 1 (by decide) f2 (fun _ h9 => h9) rfl dX11_bribe_11 ?_
      refine va_get (D := (dC, dI)) (ci := 6) (v := .int (mg M3 0)) (C := RX6) (T := TX6) (N := 10) hx hb hts hinX6 hown hK hP 9 rfl rfl 0 (by decide) f3 (fun _ h9 => h9) rfl dX11_bribe_14 ?_
      refine lv_if_ne (tgt := 24) hx hb dX11_bribe_17 (by decide) (fun c4 => ?_) (fun c4 => ?_)
      · have h := h.2 c4
        refine lv_iconst (v := 0) hx hb dX11_bribe_24 (by decide) ?_
        refine lv_istore_n (lv' := [(2, .int (0 : Int32)), (0, .ref h0), (1, .int p1)]) hx hb dX11_bribe_25 rfl hl (by decide) rfl (fun ls hl => ?_)
        obtain ⟨n9, h⟩ := h
        exact b26  n9 p1 (0 : Int32) o7 o8 M0 M1 M2 M3 M4 M5 M6 M7 M8 M9 H locs ls hP hD hS (lv_sub hl [1, 2, 0] rfl) h
      · have h := h.1 c4
        refine lv_sipush (v := (-200)) hx hb dX11_bribe_20 (by decide) ?_
        exact W.iret (v := (-200 : Int32)) hx hb hr (fun t ht hW => ⟨⟨_, (M0, M1, M2, M3, M4, M5, M6, M7, M8, M9), rfl, h, o7, o8, by rw [ht]; exact hP, va_K.moved hW.alike hK, hD⟩, hS.F ht⟩) hS.2.2 dX11_bribe_23
  have hl := lv_entry ([.ref h0, .int p1]) (n := 3) (Nat.le_of_ble_eq_true rfl)
  rw [lg_entry_eq]
  generalize (lg_sl ([.ref h0, .int p1]) ++ List.replicate (3 - (lg_sl ([.ref h0, .int p1])).length) Slot.unset).toArray = ls at hl ⊢
  have hl : lv_has ls 3 [(0, .ref h0), (1, .int p1)] := hl
  exact bE M0 M1 M2 M3 M4 M5 M6 M7 M8 M9 s.heap [] ls hP hD hS hl h
