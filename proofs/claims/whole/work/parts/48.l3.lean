def wX11_plays (p1 : Int32) (p2 : Int32) (p3 : Int32) (M0 : gS) (M1 : gS) (M2 : gS) (M3 : gS) (M4 : gS) (M5 : gS) (M6 : gS) (M7 : gS) (M8 : gS) (M9 : gS) (Q : Int32 → gS → gS → gS → gS → gS → gS → gS → gS → gS → gS → Prop) : Prop :=
 ((p1 < 0 → (Q (-2 : Int32) M0 M1 M2 M3 M4 M5 M6 M7 M8 M9))
 ∧ (¬ p1 < 0 → (((8 : Int32) < p1 → (Q (-2 : Int32) M0 M1 M2 M3 M4 M5 M6 M7 M8 M9))
 ∧ (¬ (8 : Int32) < p1 → ((p2 < 0 → (Q (-2 : Int32) M0 M1 M2 M3 M4 M5 M6 M7 M8 M9))
 ∧ (¬ p2 < 0 → (((14 : Int32) < p2 → (Q (-2 : Int32) M0 M1 M2 M3 M4 M5 M6 M7 M8 M9))
 ∧ (¬ (14 : Int32) < p2 → (wX11_isSide p3  (fun (b6 : Bool)  => (((bI b6) = 0 → (Q (-2 : Int32) M0 M1 M2 M3 M4 M5 M6 M7 M8 M9))
 ∧ (¬ (bI b6) = 0 → (((mg M3 0) = 0 → (Q (-2 : Int32) M0 M1 M2 M3 M4 M5 M6 M7 M8 M9))
 ∧ (¬ (mg M3 0) = 0 → (wX5_total p1 p2 p3 M8 M2 M3 (fun (r9 : Int32) (N10 : gS) (N11 : gS) (N12 : gS) => (Q r9 M0 M1 N11 N12 M4 M5 M6 M7 N10 M9)))))))))))))))))
def rmX11_plays : Room := { frames := 29, cells := 0, slots := 0, locals := 698 }
set_option maxHeartbeats 4000000 in
set_option maxRecDepth 100000 in
theorem kX11_plays (l : Launch) (dC : Nat → ClassId) (dI : Nat → Nat → Nat) (cB cI cJ cZ : ClassId) (h0 : Nat) (a0 : Nat → Nat) (a1 : Nat → Nat) (a2 : Nat → Nat) (a3 : Nat → Nat) (a4 : Nat → Nat) (a5 : Nat → Nat) (a6 : Nat → Nat) (a7 : Nat → Nat) (o7 : Option Nat) (a8 : Nat → Nat) (o8 : Option Nat) (a9 : Nat → Nat) (sz : Nat) (p1 : Int32) (p2 : Int32) (p3 : Int32) (M0 : gS) (M1 : gS) (M2 : gS) (M3 : gS) (M4 : gS) (M5 : gS) (M6 : gS) (M7 : gS) (M8 : gS) (M9 : gS) (Q : Int32 → gS → gS → gS → gS → gS → gS → gS → gS → gS → gS → Prop) (h : wX11_plays p1 p2 p3 M0 M1 M2 M3 M4 M5 M6 M7 M8 M9 Q) : Met l yX11_plays wsX11_plays rmX11_plays (va_Pc [.ref h0, .int p1, .int p2, .int p3] (lwI dC dI cB cI cJ cZ h0 a0 a1 a2 a3 a4 a5 a6 a7 o7 a8 o8 a9 M0 M1 M2 M3 M4 M5 M6 M7 M8 M9 sz)) (va_Qi (fun (r : Int32) (u : gS × gS × gS × gS × gS × gS × gS × gS × gS × gS) => Q r u.1 u.2.1 u.2.2.1 u.2.2.2.1 u.2.2.2.2.1 u.2.2.2.2.2.1 u.2.2.2.2.2.2.1 u.2.2.2.2.2.2.2.1 u.2.2.2.2.2.2.2.2.1 u.2.2.2.2.2.2.2.2.2) (lwB dC dI cB cI cJ cZ h0 a0 a1 a2 a3 a4 a5 a6 a7 a8 a9 (va_A (lwW cB cI cJ cZ h0 a0 a1 a2 a3 a4 a5 a6 a7 o7 a8 o8 a9 M0 M1 M2 M3 M4 M5 M6 M7 M8 M9) sz)) (va_A (lwW cB cI cJ cZ h0 a0 a1 a2 a3 a4 a5 a6 a7 o7 a8 o8 a9 M0 M1 M2 M3 M4 M5 M6 M7 M8 M9) sz)) 0 0 (va_A (lwW cB cI cJ cZ h0 a0 a1 a2 a3 a4 a5 a6 a7 o7 a8 o8 a9 M0 M1 M2 M3 M4 M5 M6 M7 M8 M9) sz) := by
  refine Met.ofW (cc := cX11_plays) (maxL := 4) (ret := (some .int)) (by decide) rfl ?_
  intro p e s m args below meth c s₁ B hml hv
  obtain ⟨rfl, hsz, hP, hK, hD0⟩ := hv
  have hx := B.exec
  have hb := B.bytes
  have hr := B.returns
  have hts := atoms_spec (ws := wsX11_plays) B.pre
  have hown : s.vm.findClass RX11 = some m.cls := findClass_of_methodNamed B.named
  have hlocks := B.notSynchronized
  subst hsz
  have hD := hD0.self (sz := s.heap.size)
  generalize hAe : va_A (lwW cB cI cJ cZ h0 a0 a1 a2 a3 a4 a5 a6 a7 o7 a8 o8 a9 M0 M1 M2 M3 M4 M5 M6 M7 M8 M9) s.heap.size = A at hD ⊢
  have hA : ∀ q : Nat, s.heap.size ≤ q → A q := fun q h => by rw [← hAe]; exact Or.inr h
  have hS : va_S A s.heap s.heap [] := va_S.rf
  have hinX10 : ∀ w ∈ wsX100, w ∈ wsX11_plays := by decide +kernel
  have hinX11 : ∀ w ∈ wsX110, w ∈ wsX11_plays := by decide +kernel
  have hinX6 : ∀ w ∈ wsX60, w ∈ wsX11_plays := by decide +kernel
  have f1 := hts (.fieldLink RX11 22 "LastWords" "now" "LLastWords$State;") (by decide +kernel)
  have f2 := hts (.fieldLink RX11 118 "LastWords$State" "quarrel" "LLastWords$Quarrel;") (by decide +kernel)
  have f3 := hts (.fieldLink RX11 149 "LastWords$Quarrel" "goesOn" "Z") (by decide +kernel)
  have f4 := hts (.fieldLink RX11 54 "LastWords" "playCounter" "LLastWords$PlayCounter;") (by decide +kernel)
  have f5 := hts (.fieldLink RX11 108 "LastWords$State" "corner" "LLastWords$Corner;") (by decide +kernel)
  have bE : ∀ (M0 : gS) (M1 : gS) (M2 : gS) (M3 : gS) (M4 : gS) (M5 : gS) (M6 : gS) (M7 : gS) (M8 : gS) (M9 : gS) (H : Heap) (locs : List Loc) (ls : Array Slot), va_P (dC, dI) vwCl (lwW cB cI cJ cZ h0 a0 a1 a2 a3 a4 a5 a6 a7 o7 a8 o8 a9 M0 M1 M2 M3 M4 M5 M6 M7 M8 M9) H → va_D A (lwW cB cI cJ cZ h0 a0 a1 a2 a3 a4 a5 a6 a7 o7 a8 o8 a9 M0 M1 M2 M3 M4 M5 M6 M7 M8 M9) → va_S A s.heap H locs → lv_has ls 4 [(0, .ref h0), (1, .int p1), (2, .int p2), (3, .int p3)] → wX11_plays p1 p2 p3 M0 M1 M2 M3 M4 M5 M6 M7 M8 M9 Q → W p l e (headSpec wsX11_plays rmX11_plays).room s m ([.ref h0, .int p1, .int p2, .int p3] : List Value).toArray below meth c H locs 0 0 (MQ below (va_Qi (fun (r : Int32) (u : gS × gS × gS × gS × gS × gS × gS × gS × gS × gS) => Q r u.1 u.2.1 u.2.2.1 u.2.2.2.1 u.2.2.2.2.1 u.2.2.2.2.2.1 u.2.2.2.2.2.2.1 u.2.2.2.2.2.2.2.1 u.2.2.2.2.2.2.2.2.1 u.2.2.2.2.2.2.2.2.2) (lwB dC dI cB cI cJ cZ h0 a0 a1 a2 a3 a4 a5 a6 a7 a8 a9 A) A) ([.ref h0, .int p1, .int p2, .int p3] : List Value).toArray s 0 0 A) (F0 m 0 ls []) := by
    intro M0 M1 M2 M3 M4 M5 M6 M7 M8 M9 H locs ls hP hD hS hl h
    unfold wX11_plays at h
    refine lv_iload_n hx hb dX11_plays_0 rfl (lv_at hl 1 rfl) ?_
    refine lv_if_lt (tgt := 27) hx hb dX11_plays_1 (by decide) (fun c1 => ?_) (fun c1 => ?_)
    · have h := h.1 c1
      refine lv_bipush (v := (-2)) hx hb dX11_plays_27 (by decide) ?_
      exact W.iret (v := (-2 : Int32)) hx hb hr (fun t ht hW => ⟨⟨_, (M0, M1, M2, M3, M4, M5, M6, M7, M8, M9), rfl, h, o7, o8, by rw [ht]; exact hP, va_K.moved hW.alike hK, hD⟩, hS.F ht⟩) hS.2.2 dX11_plays_29
    · have h := h.2 c1
      refine lv_iload_n hx hb dX11_plays_4 rfl (lv_at hl 1 rfl) ?_
      refine lv_bipush (v := (8)) hx hb dX11_plays_5 (by decide) ?_
      refine lv_icmp_gt (tgt := 27) hx hb dX11_plays_7 (by decide) (fun c2 => ?_) (fun c2 => ?_)
      · have h := h.1 c2
        refine lv_bipush (v := (-2)) hx hb dX11_plays_27 (by decide) ?_
        exact W.iret (v := (-2 : Int32)) hx hb hr (fun t ht hW => ⟨⟨_, (M0, M1, M2, M3, M4, M5, M6, M7, M8, M9), rfl, h, o7, o8, by rw [ht]; exact hP, va_K.moved hW.alike hK, hD⟩, hS.F ht⟩) hS.2.2 dX11_plays_29
      · have h := h.2 c2
        refine lv_iload_n hx hb dX11_plays_10 rfl (lv_at hl 2 rfl) ?_
        refine lv_if_lt (tgt := 27) hx hb dX11_plays_11 (by decide) (fun c3 => ?_) (fun c3 => ?_)
        · have h := h.1 c3
          refine lv_bipush (v := (-2)) hx hb dX11_plays_27 (by decide) ?_
          exact W.iret (v := (-2 : Int32)) hx hb hr (fun t ht hW => ⟨⟨_, (M0, M1, M2, M3, M4, M5, M6, M7, M8, M9), rfl, h, o7, o8, by rw [ht]; exact hP, va_K.moved hW.alike hK, hD⟩, hS.F ht⟩) hS.2.2 dX11_plays_29
        · have h := h.2 c3
          refine lv_iload_n hx hb dX11_plays_14 rfl (lv_at hl 2 rfl) ?_
          refine lv_bipush (v := (14)) hx hb dX11_plays_15 (by decide) ?_
          refine lv_icmp_gt (tgt := 27) hx hb dX11_plays_17 (by decide) (fun c4 => ?_) (fun c4 => ?_)
          · have h := h.1 c4
            refine lv_bipush (v := (-2)) hx hb dX11_plays_27 (by decide) ?_
            exact W.iret (v := (-2 : Int32)) hx hb hr (fun t ht hW => ⟨⟨_, (M0, M1, M2, M3, M4, M5, M6, M7, M8, M9), rfl, h, o7, o8, by rw [ht]; exact hP, va_K.moved hW.alike hK, hD⟩, hS.F ht⟩) hS.2.2 dX11_plays_29
          · have h := h.2 c4
            refine lv_iload_n hx hb dX11_plays_20 rfl (lv_at hl 3 rfl) ?_
            have hPc := hP.sub (ws' := (e0W cB cI cJ cZ  )) [] rfl
            have hDc := hD.sub (ws' := (e0W cB cI cJ cZ  )) [] (by decide) rfl
            have hFc := va_free (wc := (e0W cB cI cJ cZ  )) hD hS hA [] rfl
            refine va_calli (va_runS (As := [.int p3]) (rest := []) ⟨hx, hb, hml, hown, hts⟩ (kX11_isSide l dC dI cB cI cJ cZ  H.size p3  _ h) (cwS 1 hts gX11_plays_X11_isSide rfl rfl rfl (by decide +kernel) ⟨Nat.le_of_ble_eq_true rfl, Nat.le_of_ble_eq_true rfl⟩) (e0pS hK hPc hDc) rfl rfl hl.1 rfl (lv_room (Nat.le_of_ble_eq_true rfl)) dX11_plays_21 ⟨Nat.le_of_ble_eq_true rfl, Nat.le_of_ble_eq_true rfl⟩) hS (fun q _ z => hFc q z) hFc (fun r5 u t H1 locs ht hvm hw hB hz1 hk1 hS => ?_)
            obtain ⟨hP1, hK1, hD1⟩ := hB
            rw [ht] at hP1
            obtain ⟨hP, hD⟩ := va_join (wr := [(h0, .inr (11, [.ref (a0 0), .int (mg M0 1), .ref (a0 2), .int (mg M0 3), .ref (a0 4), .ref (a0 5), .ref (a0 6), .ref (a0 7), .ref (a0 8), .ref (a0 9), .ref (a0 10), .ref (a0 11)])), (a0 0, .inl (cI, 400, .inl (ma M0 0))), (a0 11, .inl (cJ, 4, .inr (.inl (ml M0 11)))), (a0 4, .inr (10, [.ref (a1 0), .ref (a1 1), .ref (a1 2), .ref (a1 3), .int (mg M1 4)])), (a1 3, .inl (cI, 2, .inl (ma M1 3))), (a1 0, .inr (1, [.int (mg M2 0), .ref (a2 1), .int (mg M2 2), .ref (a2 3), .int (mg M2 4), .ref (a2 5)])), (a2 1, .inl (cI, 4, .inl (ma M2 1))), (a2 3, .inl (cI, 4, .inl (ma M2 3))), (a2 5, .inl (cI, 2, .inl (ma M2 5))), (a1 1, .inr (6, [.int (mg M3 0), .int (mg M3 1), .int (mg M3 2), .int (mg M3 3), .int (mg M3 4), .int (mg M3 5), .int (mg M3 6), .ref (a3 7), .ref (a3 8), .ref (a3 9)])), (a3 7, .inl (cI, 2, .inl (ma M3 7))), (a3 8, .inl (cI, 2, .inl (ma M3 8))), (a3 9, .inl (cI, 2, .inl (ma M3 9))), (a1 2, .inr (4, [.int (mg M4 0), .ref (a4 1), .ref (a4 2), .ref (a4 3)])), (a4 1, .inl (cI, 6, .inl (ma M4 1))), (a4 2, .inl (cI, 6, .inl (ma M4 2))), (a4 3, .inl (cI, 6, .inl (ma M4 3))), (a0 6, .inr (1, [.int (mg M5 0), .ref (a5 1), .int (mg M5 2), .ref (a5 3), .int (mg M5 4), .ref (a5 5)])), (a5 1, .inl (cI, 4, .inl (ma M5 1))), (a5 3, .inl (cI, 4, .inl (ma M5 3))), (a5 5, .inl (cI, 2, .inl (ma M5 5))), (a0 7, .inr (6, [.int (mg M6 0), .int (mg M6 1), .int (mg M6 2), .int (mg M6 3), .int (mg M6 4), .int (mg M6 5), .int (mg M6 6), .ref (a6 7), .ref (a6 8), .ref (a6 9)])), (a6 7, .inl (cI, 2, .inl (ma M6 7))), (a6 8, .inl (cI, 2, .inl (ma M6 8))), (a6 9, .inl (cI, 2, .inl (ma M6 9))), (a0 8, .inr (0, [.ref (a7 0), .ref (a7 1), .ref (a7 2), .ref (a7 3), .int (mg M7 4), va_rf o7, .int (mg M7 6), .int (mg M7 7), .int (mg M7 8), .int (mg M7 9), .int (mg M7 10)])), (a7 0, .inl (cJ, 15, .inr (.inl (ml M7 0)))), (a7 1, .inl (cJ, 800, .inr (.inl (ml M7 1)))), (a7 2, .inl (cI, 4, .inl (ma M7 2))), (a7 3, .inl (cJ, 4, .inr (.inl (ml M7 3)))), (a0 9, .inr (5, [.ref (a8 0), .ref (a8 1), va_rf o8, .int (mg M8 3)])), (a8 0, .inl (cI, 2048, .inl (ma M8 0))), (a8 1, .inl (cI, 2048, .inl (ma M8 1))), (a0 10, .inr (3, [.int (mg M9 0), .int (mg M9 1), .int (mg M9 2), .int (mg M9 3), .int (mg M9 4)]))]) (w1 := (e0W cB cI cJ cZ  )) hP hD [] [0, 1, 2, 3, 4, 5, 6, 7, 8, 9, 10, 11, 12, 13, 14, 15, 16, 17, 18, 19, 20, 21, 22, 23, 24, 25, 26, 27, 28, 29, 30, 31, 32, 33] rfl rfl (by decide) (by decide) hk1 hFc hP1 hD1
            have hP := hP.sub (ws' := (lwW cB cI cJ cZ h0 a0 a1 a2 a3 a4 a5 a6 a7 o7 a8 o8 a9 M0 M1 M2 M3 M4 M5 M6 M7 M8 M9)) [0, 1, 2, 3, 4, 5, 6, 7, 8, 9, 10, 11, 12, 13, 14, 15, 16, 17, 18, 19, 20, 21, 22, 23, 24, 25, 26, 27, 28, 29, 30, 31, 32, 33] rfl
            have hD := hD.sub (ws' := (lwW cB cI cJ cZ h0 a0 a1 a2 a3 a4 a5 a6 a7 o7 a8 o8 a9 M0 M1 M2 M3 M4 M5 M6 M7 M8 M9)) [0, 1, 2, 3, 4, 5, 6, 7, 8, 9, 10, 11, 12, 13, 14, 15, 16, 17, 18, 19, 20, 21, 22, 23, 24, 25, 26, 27, 28, 29, 30, 31, 32, 33] (by decide) rfl
            generalize H1 = H at hP hS ⊢
            obtain ⟨b6, rfl, h⟩ := hw
            try dsimp only at h
            refine lv_if_ne (tgt := 30) hx hb dX11_plays_24 (by decide) (fun c7 => ?_) (fun c7 => ?_)
            · have h := h.2 c7
              refine lv_aload_n hx hb dX11_plays_30 rfl (lv_at hl 0 rfl) ?_
              refine va_get (D := (dC, dI)) (ci := 11) (v := .ref (a0 4)) (C := RX11) (T := TX11) (N := 12) hx hb hts hinX11 hown hK hP 0 rfl rfl 4 (by decide) f1 (fun _ h9 => h9) rfl dX11_plays_31 ?_
              refine va_get (D := (dC, dI)) (ci := 10) (v := .ref (a1 1)) (C := RX10) (T := TX10) (N := 5) hx hb hts hinX10 hown hK hP 3 rfl rfl 1 (by decide) f2 (fun _ h9 => h9) rfl dX11_plays_34 ?_
              refine va_get (D := (dC, dI)) (ci := 6) (v := .int (mg M3 0)) (C := RX6) (T := TX6) (N := 10) hx hb hts hinX6 hown hK hP 9 rfl rfl 0 (by decide) f3 (fun _ h9 => h9) rfl dX11_plays_37 ?_
              refine lv_if_ne (tgt := 46) hx hb dX11_plays_40 (by decide) (fun c8 => ?_) (fun c8 => ?_)
              · have h := h.2 c8
                refine lv_aload_n hx hb dX11_plays_46 rfl (lv_at hl 0 rfl) ?_
                refine va_get (D := (dC, dI)) (ci := 11) (v := .ref (a0 9)) (C := RX11) (T := TX11) (N := 12) hx hb hts hinX11 hown hK hP 0 rfl rfl 9 (by decide) f4 (fun _ h9 => h9) rfl dX11_plays_47 ?_
                refine lv_aload_n hx hb dX11_plays_50 rfl (lv_at hl 0 rfl) ?_
                refine va_get (D := (dC, dI)) (ci := 11) (v := .ref (a0 4)) (C := RX11) (T := TX11) (N := 12) hx hb hts hinX11 hown hK hP 0 rfl rfl 4 (by decide) f1 (fun _ h9 => h9) rfl dX11_plays_51 ?_
                refine va_get (D := (dC, dI)) (ci := 10) (v := .ref (a1 0)) (C := RX10) (T := TX10) (N := 5) hx hb hts hinX10 hown hK hP 3 rfl rfl 0 (by decide) f5 (fun _ h9 => h9) rfl dX11_plays_54 ?_
                refine lv_aload_n hx hb dX11_plays_57 rfl (lv_at hl 0 rfl) ?_
                refine va_get (D := (dC, dI)) (ci := 11) (v := .ref (a0 4)) (C := RX11) (T := TX11) (N := 12) hx hb hts hinX11 hown hK hP 0 rfl rfl 4 (by decide) f1 (fun _ h9 => h9) rfl dX11_plays_58 ?_
                refine va_get (D := (dC, dI)) (ci := 10) (v := .ref (a1 1)) (C := RX10) (T := TX10) (N := 5) hx hb hts hinX10 hown hK hP 3 rfl rfl 1 (by decide) f2 (fun _ h9 => h9) rfl dX11_plays_61 ?_
                refine lv_iload_n hx hb dX11_plays_64 rfl (lv_at hl 1 rfl) ?_
                refine lv_iload_n hx hb dX11_plays_65 rfl (lv_at hl 2 rfl) ?_
                refine lv_iload_n hx hb dX11_plays_66 rfl (lv_at hl 3 rfl) ?_
                have hPc := hP.sub (ws' := (poW cB cI cJ cZ (a0 9) a8 o8 (a1 0) a2 (a1 1) a3 M8 M2 M3)) [30, 31, 32, 5, 6, 7, 8, 9, 10, 11, 12] rfl
                have hDc := hD.sub (ws' := (poW cB cI cJ cZ (a0 9) a8 o8 (a1 0) a2 (a1 1) a3 M8 M2 M3)) [30, 31, 32, 5, 6, 7, 8, 9, 10, 11, 12] (by decide) rfl
                have hFc := va_free (wc := (poW cB cI cJ cZ (a0 9) a8 o8 (a1 0) a2 (a1 1) a3 M8 M2 M3)) hD hS hA [30, 31, 32, 5, 6, 7, 8, 9, 10, 11, 12] rfl
                refine va_calli (va_runV (As := [.ref (a1 0), .ref (a1 1), .int p1, .int p2, .int p3]) (rest := []) ⟨hx, hb, hml, hown, hts⟩ (kX5_total l dC dI cB cI cJ cZ (a0 9) a8 o8 (a1 0) a2 (a1 1) a3 H.size p1 p2 p3 M8 M2 M3 _ h) (cwV 5 hts gX11_plays_X5_total rfl rfl rfl (by decide +kernel) ⟨Nat.le_of_ble_eq_true rfl, Nat.le_of_ble_eq_true rfl⟩) (popV hK hPc hDc) rfl rfl hl.1 rfl (lv_room (Nat.le_of_ble_eq_true rfl)) dX11_plays_67 ⟨Nat.le_of_ble_eq_true rfl, Nat.le_of_ble_eq_true rfl⟩) hS (fun q _ z => hFc q z) hFc (fun r9 u t H1 locs ht hvm hw hB hz1 hk1 hS => ?_)
                obtain ⟨N10, N11, N12⟩ := u
                obtain ⟨hP1, hK1, hD1⟩ := hB
                rw [ht] at hP1
                obtain ⟨hP, hD⟩ := va_join (wr := [(h0, .inr (11, [.ref (a0 0), .int (mg M0 1), .ref (a0 2), .int (mg M0 3), .ref (a0 4), .ref (a0 5), .ref (a0 6), .ref (a0 7), .ref (a0 8), .ref (a0 9), .ref (a0 10), .ref (a0 11)])), (a0 0, .inl (cI, 400, .inl (ma M0 0))), (a0 11, .inl (cJ, 4, .inr (.inl (ml M0 11)))), (a0 4, .inr (10, [.ref (a1 0), .ref (a1 1), .ref (a1 2), .ref (a1 3), .int (mg M1 4)])), (a1 3, .inl (cI, 2, .inl (ma M1 3))), (a1 2, .inr (4, [.int (mg M4 0), .ref (a4 1), .ref (a4 2), .ref (a4 3)])), (a4 1, .inl (cI, 6, .inl (ma M4 1))), (a4 2, .inl (cI, 6, .inl (ma M4 2))), (a4 3, .inl (cI, 6, .inl (ma M4 3))), (a0 6, .inr (1, [.int (mg M5 0), .ref (a5 1), .int (mg M5 2), .ref (a5 3), .int (mg M5 4), .ref (a5 5)])), (a5 1, .inl (cI, 4, .inl (ma M5 1))), (a5 3, .inl (cI, 4, .inl (ma M5 3))), (a5 5, .inl (cI, 2, .inl (ma M5 5))), (a0 7, .inr (6, [.int (mg M6 0), .int (mg M6 1), .int (mg M6 2), .int (mg M6 3), .int (mg M6 4), .int (mg M6 5), .int (mg M6 6), .ref (a6 7), .ref (a6 8), .ref (a6 9)])), (a6 7, .inl (cI, 2, .inl (ma M6 7))), (a6 8, .inl (cI, 2, .inl (ma M6 8))), (a6 9, .inl (cI, 2, .inl (ma M6 9))), (a0 8, .inr (0, [.ref (a7 0), .ref (a7 1), .ref (a7 2), .ref (a7 3), .int (mg M7 4), va_rf o7, .int (mg M7 6), .int (mg M7 7), .int (mg M7 8), .int (mg M7 9), .int (mg M7 10)])), (a7 0, .inl (cJ, 15, .inr (.inl (ml M7 0)))), (a7 1, .inl (cJ, 800, .inr (.inl (ml M7 1)))), (a7 2, .inl (cI, 4, .inl (ma M7 2))), (a7 3, .inl (cJ, 4, .inr (.inl (ml M7 3)))), (a0 10, .inr (3, [.int (mg M9 0), .int (mg M9 1), .int (mg M9 2), .int (mg M9 3), .int (mg M9 4)]))]) (w1 := (poW cB cI cJ cZ (a0 9) a8 (some (a1 0)) (a1 0) a2 (a1 1) a3 N10 N11 N12)) hP hD [30, 31, 32, 5, 6, 7, 8, 9, 10, 11, 12] [0, 1, 2, 3, 4, 13, 14, 15, 16, 17, 18, 19, 20, 21, 22, 23, 24, 25, 26, 27, 28, 29, 33] rfl rfl (by decide) (by decide) hk1 hFc hP1 hD1
                have hP := hP.sub (ws' := (lwW cB cI cJ cZ h0 a0 a1 a2 a3 a4 a5 a6 a7 o7 a8 (some (a1 0)) a9 M0 M1 N11 N12 M4 M5 M6 M7 N10 M9)) [0, 1, 2, 3, 4, 26, 27, 28, 29, 30, 31, 32, 33, 5, 6, 7, 8, 9, 10, 11, 12, 13, 14, 15, 16, 17, 18, 19, 20, 21, 23, 24, 25, 22] rfl
                have hD := hD.sub (ws' := (lwW cB cI cJ cZ h0 a0 a1 a2 a3 a4 a5 a6 a7 o7 a8 (some (a1 0)) a9 M0 M1 N11 N12 M4 M5 M6 M7 N10 M9)) [0, 1, 2, 3, 4, 26, 27, 28, 29, 30, 31, 32, 33, 5, 6, 7, 8, 9, 10, 11, 12, 13, 14, 15, 16, 17, 18, 19, 20, 21, 23, 24, 25, 22] (by decide) rfl
                generalize H1 = H at hP hS ⊢
                have h := hw
                try dsimp only at h
                exact W.iret (v := r9) hx hb hr (fun t ht hW => ⟨⟨_, (M0, M1, N11, N12, M4, M5, M6, M7, N10, M9), rfl, h, o7, (some (a1 0)), by rw [ht]; exact hP, va_K.moved hW.alike hK, hD⟩, hS.F ht⟩) hS.2.2 dX11_plays_70
              · have h := h.1 c8
                refine lv_bipush (v := (-2)) hx hb dX11_plays_43 (by decide) ?_
                exact W.iret (v := (-2 : Int32)) hx hb hr (fun t ht hW => ⟨⟨_, (M0, M1, M2, M3, M4, M5, M6, M7, M8, M9), rfl, h, o7, o8, by rw [ht]; exact hP, va_K.moved hW.alike hK, hD⟩, hS.F ht⟩) hS.2.2 dX11_plays_45
            · have h := h.1 c7
              refine lv_bipush (v := (-2)) hx hb dX11_plays_27 (by decide) ?_
              exact W.iret (v := (-2 : Int32)) hx hb hr (fun t ht hW => ⟨⟨_, (M0, M1, M2, M3, M4, M5, M6, M7, M8, M9), rfl, h, o7, o8, by rw [ht]; exact hP, va_K.moved hW.alike hK, hD⟩, hS.F ht⟩) hS.2.2 dX11_plays_29
  have hl := lv_entry ([.ref h0, .int p1, .int p2, .int p3]) (n := 4) (Nat.le_of_ble_eq_true rfl)
  rw [lg_entry_eq]
  generalize (lg_sl ([.ref h0, .int p1, .int p2, .int p3]) ++ List.replicate (4 - (lg_sl ([.ref h0, .int p1, .int p2, .int p3])).length) Slot.unset).toArray = ls at hl ⊢
  have hl : lv_has ls 4 [(0, .ref h0), (1, .int p1), (2, .int p2), (3, .int p3)] := hl
  exact bE M0 M1 M2 M3 M4 M5 M6 M7 M8 M9 s.heap [] ls hP hD hS hl h
def wX11_waits (p1 : Int32) (p2 : Int32) (M0 : gS) (M1 : gS) (M2 : gS) (M3 : gS) (M4 : gS) (M5 : gS) (M6 : gS) (M7 : gS) (M8 : gS) (M9 : gS) (Q : Int32 → gS → gS → gS → gS → gS → gS → gS → gS → gS → gS → Prop) : Prop :=
 ((p1 = (-1 : Int32) → (∀ N25 : gS, N25 = sg M4 0 (0 : Int32) → (Q (0 : Int32) M0 M1 M2 M3 N25 M5 M6 M7 M8 M9)))
 ∧ (¬ p1 = (-1 : Int32) → (wX11_hasCorner  M0 M1 M2 M3 M4 M5 M6 M7 M8 M9 (fun (b15 : Bool) (N3 : gS) (N4 : gS) (N5 : gS) (N6 : gS) (N7 : gS) (N8 : gS) (N9 : gS) (N10 : gS) (N11 : gS) (N12 : gS) => (((bI b15) = 0 → (Q (-2 : Int32) N3 N4 N5 N6 N7 N8 N9 N10 N11 N12))
 ∧ (¬ (bI b15) = 0 → ((p1 < (1 : Int32) → (Q (-2 : Int32) N3 N4 N5 N6 N7 N8 N9 N10 N11 N12))
 ∧ (¬ p1 < (1 : Int32) → (((999 : Int32) < p1 → (Q (-2 : Int32) N3 N4 N5 N6 N7 N8 N9 N10 N11 N12))
 ∧ (¬ (999 : Int32) < p1 → ((p2 < 0 → (Q (-2 : Int32) N3 N4 N5 N6 N7 N8 N9 N10 N11 N12))
 ∧ (¬ p2 < 0 → (((99 : Int32) < p2 → (Q (-2 : Int32) N3 N4 N5 N6 N7 N8 N9 N10 N11 N12))
 ∧ (¬ (99 : Int32) < p2 → (wX4_add p1 p2 N7 (fun (b23 : Bool) (N22 : gS) => (((bI b23) = 0 → (Q (-2 : Int32) N3 N4 N5 N6 N22 N8 N9 N10 N11 N12))
 ∧ (¬ (bI b23) = 0 → (Q (mg N22 0) N3 N4 N5 N6 N22 N8 N9 N10 N11 N12)))))))))))))))))))
def rmX11_waits : Room := { frames := 1, cells := 0, slots := 0, locals := 22 }
set_option maxHeartbeats 4000000 in
set_option maxRecDepth 100000 in
theorem kX11_waits (l : Launch) (dC : Nat → ClassId) (dI : Nat → Nat → Nat) (cB cI cJ cZ : ClassId) (h0 : Nat) (a0 : Nat → Nat) (a1 : Nat → Nat) (a2 : Nat → Nat) (a3 : Nat → Nat) (a4 : Nat → Nat) (a5 : Nat → Nat) (a6 : Nat → Nat) (a7 : Nat → Nat) (o7 : Option Nat) (a8 : Nat → Nat) (o8 : Option Nat) (a9 : Nat → Nat) (sz : Nat) (p1 : Int32) (p2 : Int32) (M0 : gS) (M1 : gS) (M2 : gS) (M3 : gS) (M4 : gS) (M5 : gS) (M6 : gS) (M7 : gS) (M8 : gS) (M9 : gS) (Q : Int32 → gS → gS → gS → gS → gS → gS → gS → gS → gS → gS → Prop) (h : wX11_waits p1 p2 M0 M1 M2 M3 M4 M5 M6 M7 M8 M9 Q) : Met l yX11_waits wsX11_waits rmX11_waits (va_Pc [.ref h0, .int p1, .int p2] (lwI dC dI cB cI cJ cZ h0 a0 a1 a2 a3 a4 a5 a6 a7 o7 a8 o8 a9 M0 M1 M2 M3 M4 M5 M6 M7 M8 M9 sz)) (va_Qi (fun (r : Int32) (u : gS × gS × gS × gS × gS × gS × gS × gS × gS × gS) => Q r u.1 u.2.1 u.2.2.1 u.2.2.2.1 u.2.2.2.2.1 u.2.2.2.2.2.1 u.2.2.2.2.2.2.1 u.2.2.2.2.2.2.2.1 u.2.2.2.2.2.2.2.2.1 u.2.2.2.2.2.2.2.2.2) (lwB dC dI cB cI cJ cZ h0 a0 a1 a2 a3 a4 a5 a6 a7 a8 a9 (va_A (lwW cB cI cJ cZ h0 a0 a1 a2 a3 a4 a5 a6 a7 o7 a8 o8 a9 M0 M1 M2 M3 M4 M5 M6 M7 M8 M9) sz)) (va_A (lwW cB cI cJ cZ h0 a0 a1 a2 a3 a4 a5 a6 a7 o7 a8 o8 a9 M0 M1 M2 M3 M4 M5 M6 M7 M8 M9) sz)) 0 0 (va_A (lwW cB cI cJ cZ h0 a0 a1 a2 a3 a4 a5 a6 a7 o7 a8 o8 a9 M0 M1 M2 M3 M4 M5 M6 M7 M8 M9) sz) := by
  refine Met.ofW (cc := cX11_waits) (maxL := 3) (ret := (some .int)) (by decide) rfl ?_
  intro p e s m args below meth c s₁ B hml hv
  obtain ⟨rfl, hsz, hP, hK, hD0⟩ := hv
  have hx := B.exec
  have hb := B.bytes
  have hr := B.returns
  have hts := atoms_spec (ws := wsX11_waits) B.pre
  have hown : s.vm.findClass RX11 = some m.cls := findClass_of_methodNamed B.named
  have hlocks := B.notSynchronized
  subst hsz
  have hD := hD0.self (sz := s.heap.size)
  generalize hAe : va_A (lwW cB cI cJ cZ h0 a0 a1 a2 a3 a4 a5 a6 a7 o7 a8 o8 a9 M0 M1 M2 M3 M4 M5 M6 M7 M8 M9) s.heap.size = A at hD ⊢
  have hA : ∀ q : Nat, s.heap.size ≤ q → A q := fun q h => by rw [← hAe]; exact Or.inr h
  have hS : va_S A s.heap s.heap [] := va_S.rf
  have hinX10 : ∀ w ∈ wsX100, w ∈ wsX11_waits := by decide +kernel
  have hinX11 : ∀ w ∈ wsX110, w ∈ wsX11_waits := by decide +kernel
  have hinX4 : ∀ w ∈ wsX40, w ∈ wsX11_waits := by decide +kernel
  have f1 := hts (.fieldLink RX11 22 "LastWords" "now" "LLastWords$State;") (by decide +kernel)
  have f2 := hts (.fieldLink RX11 267 "LastWords$State" "organ" "LLastWords$Organ;") (by decide +kernel)
  have f3 := hts (.fieldLink RX11 271 "LastWords$Organ" "waiting" "I") (by decide +kernel)
  have bE : ∀ (M0 : gS) (M1 : gS) (M2 : gS) (M3 : gS) (M4 : gS) (M5 : gS) (M6 : gS) (M7 : gS) (M8 : gS) (M9 : gS) (H : Heap) (locs : List Loc) (ls : Array Slot), va_P (dC, dI) vwCl (lwW cB cI cJ cZ h0 a0 a1 a2 a3 a4 a5 a6 a7 o7 a8 o8 a9 M0 M1 M2 M3 M4 M5 M6 M7 M8 M9) H → va_D A (lwW cB cI cJ cZ h0 a0 a1 a2 a3 a4 a5 a6 a7 o7 a8 o8 a9 M0 M1 M2 M3 M4 M5 M6 M7 M8 M9) → va_S A s.heap H locs → lv_has ls 3 [(0, .ref h0), (1, .int p1), (2, .int p2)] → wX11_waits p1 p2 M0 M1 M2 M3 M4 M5 M6 M7 M8 M9 Q → W p l e (headSpec wsX11_waits rmX11_waits).room s m ([.ref h0, .int p1, .int p2] : List Value).toArray below meth c H locs 0 0 (MQ below (va_Qi (fun (r : Int32) (u : gS × gS × gS × gS × gS × gS × gS × gS × gS × gS) => Q r u.1 u.2.1 u.2.2.1 u.2.2.2.1 u.2.2.2.2.1 u.2.2.2.2.2.1 u.2.2.2.2.2.2.1 u.2.2.2.2.2.2.2.1 u.2.2.2.2.2.2.2.2.1 u.2.2.2.2.2.2.2.2.2) (lwB dC dI cB cI cJ cZ h0 a0 a1 a2 a3 a4 a5 a6 a7 a8 a9 A) A) ([.ref h0, .int p1, .int p2] : List Value).toArray s 0 0 A) (F0 m 0 ls []) := by
    intro M0 M1 M2 M3 M4 M5 M6 M7 M8 M9 H locs ls hP hD hS hl h
    unfold wX11_waits at h
    refine lv_iload_n hx hb dX11_waits_0 rfl (lv_at hl 1 rfl) ?_
    refine lv_iconst (v := (-1)) hx hb dX11_waits_1 (by decide) ?_
    refine lv_icmp_ne (tgt := 18) hx hb dX11_waits_2 (by decide) (fun c1 => ?_) (fun c1 => ?_)
    · have h := h.2 c1
      refine lv_aload_n hx hb dX11_waits_18 rfl (lv_at hl 0 rfl) ?_
      have hFc := gs_free hD hS hA
      refine va_calli (va_runV (As := []) (rest := []) ⟨hx, hb, hml, hown, hts⟩ (kX11_hasCorner l dC dI cB cI cJ cZ h0 a0 a1 a2 a3 a4 a5 a6 a7 o7 a8 o8 a9 H.size  M0 M1 M2 M3 M4 M5 M6 M7 M8 M9 _ h) (cwV 0 hts gX11_waits_X11_hasCorner rfl rfl rfl (by decide +kernel) ⟨Nat.le_of_ble_eq_true rfl, Nat.le_of_ble_eq_true rfl⟩) (lwpV hK hP hD) rfl rfl hl.1 rfl (lv_room (Nat.le_of_ble_eq_true rfl)) dX11_waits_19 ⟨Nat.le_of_ble_eq_true rfl, Nat.le_of_ble_eq_true rfl⟩) hS (fun q _ z => hFc q z) hFc (fun r2 u t H1 locs ht hvm hw hB hz1 hk1 hS => ?_)
      obtain ⟨N3, N4, N5, N6, N7, N8, N9, N10, N11, N12⟩ := u
      obtain ⟨v13, v14, hP, hK1, hD1⟩ := hB
      rw [ht] at hP
      have hD := hD1.weaken (fun _ _ _ z => hFc _ z)
      generalize H1 = H at hP hS ⊢
      obtain ⟨b15, rfl, h⟩ := hw
      try dsimp only at h
      refine lv_if_eq (tgt := 62) hx hb dX11_waits_22 (by decide) (fun c16 => ?_) (fun c16 => ?_)
      · have h := h.1 c16
        refine lv_bipush (v := (-2)) hx hb dX11_waits_62 (by decide) ?_
        exact W.iret (v := (-2 : Int32)) hx hb hr (fun t ht hW => ⟨⟨_, (N3, N4, N5, N6, N7, N8, N9, N10, N11, N12), rfl, h, v13, v14, by rw [ht]; exact hP, va_K.moved hW.alike hK, hD⟩, hS.F ht⟩) hS.2.2 dX11_waits_64
      · have h := h.2 c16
        refine lv_iload_n hx hb dX11_waits_25 rfl (lv_at hl 1 rfl) ?_
        refine lv_iconst (v := 1) hx hb dX11_waits_26 (by decide) ?_
        refine lv_icmp_lt (tgt := 62) hx hb dX11_waits_27 (by decide) (fun c17 => ?_) (fun c17 => ?_)
        · have h := h.1 c17
          refine lv_bipush (v := (-2)) hx hb dX11_waits_62 (by decide) ?_
          exact W.iret (v := (-2 : Int32)) hx hb hr (fun t ht hW => ⟨⟨_, (N3, N4, N5, N6, N7, N8, N9, N10, N11, N12), rfl, h, v13, v14, by rw [ht]; exact hP, va_K.moved hW.alike hK, hD⟩, hS.F ht⟩) hS.2.2 dX11_waits_64
        · have h := h.2 c17
          refine lv_iload_n hx hb dX11_waits_30 rfl (lv_at hl 1 rfl) ?_
          refine lv_sipush (v := (999)) hx hb dX11_waits_31 (by decide) ?_
          refine lv_icmp_gt (tgt := 62) hx hb dX11_waits_34 (by decide) (fun c18 => ?_) (fun c18 => ?_)
          · have h := h.1 c18
            refine lv_bipush (v := (-2)) hx hb dX11_waits_62 (by decide) ?_
            exact W.iret (v := (-2 : Int32)) hx hb hr (fun t ht hW => ⟨⟨_, (N3, N4, N5, N6, N7, N8, N9, N10, N11, N12), rfl, h, v13, v14, by rw [ht]; exact hP, va_K.moved hW.alike hK, hD⟩, hS.F ht⟩) hS.2.2 dX11_waits_64
          · have h := h.2 c18
            refine lv_iload_n hx hb dX11_waits_37 rfl (lv_at hl 2 rfl) ?_
            refine lv_if_lt (tgt := 62) hx hb dX11_waits_38 (by decide) (fun c19 => ?_) (fun c19 => ?_)
            · have h := h.1 c19
              refine lv_bipush (v := (-2)) hx hb dX11_waits_62 (by decide) ?_
              exact W.iret (v := (-2 : Int32)) hx hb hr (fun t ht hW => ⟨⟨_, (N3, N4, N5, N6, N7, N8, N9, N10, N11, N12), rfl, h, v13, v14, by rw [ht]; exact hP, va_K.moved hW.alike hK, hD⟩, hS.F ht⟩) hS.2.2 dX11_waits_64
            · have h := h.2 c19
              refine lv_iload_n hx hb dX11_waits_41 rfl (lv_at hl 2 rfl) ?_
              refine lv_bipush (v := (99)) hx hb dX11_waits_42 (by decide) ?_
              refine lv_icmp_gt (tgt := 62) hx hb dX11_waits_44 (by decide) (fun c20 => ?_) (fun c20 => ?_)
              · have h := h.1 c20
                refine lv_bipush (v := (-2)) hx hb dX11_waits_62 (by decide) ?_
                exact W.iret (v := (-2 : Int32)) hx hb hr (fun t ht hW => ⟨⟨_, (N3, N4, N5, N6, N7, N8, N9, N10, N11, N12), rfl, h, v13, v14, by rw [ht]; exact hP, va_K.moved hW.alike hK, hD⟩, hS.F ht⟩) hS.2.2 dX11_waits_64
              · have h := h.2 c20
                refine lv_aload_n hx hb dX11_waits_47 rfl (lv_at hl 0 rfl) ?_
                refine va_get (D := (dC, dI)) (ci := 11) (v := .ref (a0 4)) (C := RX11) (T := TX11) (N := 12) hx hb hts hinX11 hown hK hP 0 rfl rfl 4 (by decide) f1 (fun _ h9 => h9) rfl dX11_waits_48 ?_
                refine va_get (D := (dC, dI)) (ci := 10) (v := .ref (a1 2)) (C := RX10) (T := TX10) (N := 5) hx hb hts hinX10 hown hK hP 3 rfl rfl 2 (by decide) f2 (fun _ h9 => h9) rfl dX11_waits_51 ?_
                refine lv_iload_n hx hb dX11_waits_54 rfl (lv_at hl 1 rfl) ?_
                refine lv_iload_n hx hb dX11_waits_55 rfl (lv_at hl 2 rfl) ?_
                have hPc := hP.sub (ws' := (ogW cB cI cJ cZ (a1 2) a4 N7)) [13, 14, 15, 16] rfl
                have hDc := hD.sub (ws' := (ogW cB cI cJ cZ (a1 2) a4 N7)) [13, 14, 15, 16] (by decide) rfl
                have hFc := va_free (wc := (ogW cB cI cJ cZ (a1 2) a4 N7)) hD hS hA [13, 14, 15, 16] rfl
                refine va_calli (va_runV (As := [.int p1, .int p2]) (rest := []) ⟨hx, hb, hml, hown, hts⟩ (kX4_add l dC dI cB cI cJ cZ (a1 2) a4 H.size p1 p2 N7 _ h) (cwV 2 hts gX11_waits_X4_add rfl rfl rfl (by decide +kernel) ⟨Nat.le_of_ble_eq_true rfl, Nat.le_of_ble_eq_true rfl⟩) (ogpV hK hPc hDc) rfl rfl hl.1 rfl (lv_room (Nat.le_of_ble_eq_true rfl)) dX11_waits_56 ⟨Nat.le_of_ble_eq_true rfl, Nat.le_of_ble_eq_true rfl⟩) hS (fun q _ z => hFc q z) hFc (fun r21 u t H1 locs ht hvm hw hB hz1 hk1 hS => ?_)
                obtain ⟨N22, rfl⟩ : ∃ z, z = u := ⟨_, rfl⟩
                obtain ⟨hP1, hK1, hD1⟩ := hB
                rw [ht] at hP1
                obtain ⟨hP, hD⟩ := va_join (wr := [(h0, .inr (11, [.ref (a0 0), .int (mg N3 1), .ref (a0 2), .int (mg N3 3), .ref (a0 4), .ref (a0 5), .ref (a0 6), .ref (a0 7), .ref (a0 8), .ref (a0 9), .ref (a0 10), .ref (a0 11)])), (a0 0, .inl (cI, 400, .inl (ma N3 0))), (a0 11, .inl (cJ, 4, .inr (.inl (ml N3 11)))), (a0 4, .inr (10, [.ref (a1 0), .ref (a1 1), .ref (a1 2), .ref (a1 3), .int (mg N4 4)])), (a1 3, .inl (cI, 2, .inl (ma N4 3))), (a1 0, .inr (1, [.int (mg N5 0), .ref (a2 1), .int (mg N5 2), .ref (a2 3), .int (mg N5 4), .ref (a2 5)])), (a2 1, .inl (cI, 4, .inl (ma N5 1))), (a2 3, .inl (cI, 4, .inl (ma N5 3))), (a2 5, .inl (cI, 2, .inl (ma N5 5))), (a1 1, .inr (6, [.int (mg N6 0), .int (mg N6 1), .int (mg N6 2), .int (mg N6 3), .int (mg N6 4), .int (mg N6 5), .int (mg N6 6), .ref (a3 7), .ref (a3 8), .ref (a3 9)])), (a3 7, .inl (cI, 2, .inl (ma N6 7))), (a3 8, .inl (cI, 2, .inl (ma N6 8))), (a3 9, .inl (cI, 2, .inl (ma N6 9))), (a0 6, .inr (1, [.int (mg N8 0), .ref (a5 1), .int (mg N8 2), .ref (a5 3), .int (mg N8 4), .ref (a5 5)])), (a5 1, .inl (cI, 4, .inl (ma N8 1))), (a5 3, .inl (cI, 4, .inl (ma N8 3))), (a5 5, .inl (cI, 2, .inl (ma N8 5))), (a0 7, .inr (6, [.int (mg N9 0), .int (mg N9 1), .int (mg N9 2), .int (mg N9 3), .int (mg N9 4), .int (mg N9 5), .int (mg N9 6), .ref (a6 7), .ref (a6 8), .ref (a6 9)])), (a6 7, .inl (cI, 2, .inl (ma N9 7))), (a6 8, .inl (cI, 2, .inl (ma N9 8))), (a6 9, .inl (cI, 2, .inl (ma N9 9))), (a0 8, .inr (0, [.ref (a7 0), .ref (a7 1), .ref (a7 2), .ref (a7 3), .int (mg N10 4), va_rf v13, .int (mg N10 6), .int (mg N10 7), .int (mg N10 8), .int (mg N10 9), .int (mg N10 10)])), (a7 0, .inl (cJ, 15, .inr (.inl (ml N10 0)))), (a7 1, .inl (cJ, 800, .inr (.inl (ml N10 1)))), (a7 2, .inl (cI, 4, .inl (ma N10 2))), (a7 3, .inl (cJ, 4, .inr (.inl (ml N10 3)))), (a0 9, .inr (5, [.ref (a8 0), .ref (a8 1), va_rf v14, .int (mg N11 3)])), (a8 0, .inl (cI, 2048, .inl (ma N11 0))), (a8 1, .inl (cI, 2048, .inl (ma N11 1))), (a0 10, .inr (3, [.int (mg N12 0), .int (mg N12 1), .int (mg N12 2), .int (mg N12 3), .int (mg N12 4)]))]) (w1 := (ogW cB cI cJ cZ (a1 2) a4 N22)) hP hD [13, 14, 15, 16] [0, 1, 2, 3, 4, 5, 6, 7, 8, 9, 10, 11, 12, 17, 18, 19, 20, 21, 22, 23, 24, 25, 26, 27, 28, 29, 30, 31, 32, 33] rfl rfl (by decide) (by decide) hk1 hFc hP1 hD1
                have hP := hP.sub (ws' := (lwW cB cI cJ cZ h0 a0 a1 a2 a3 a4 a5 a6 a7 v13 a8 v14 a9 N3 N4 N5 N6 N22 N8 N9 N10 N11 N12)) [0, 1, 2, 3, 4, 5, 6, 7, 8, 9, 10, 11, 12, 30, 31, 32, 33, 13, 14, 15, 16, 17, 18, 19, 20, 21, 22, 23, 24, 25, 26, 27, 28, 29] rfl
                have hD := hD.sub (ws' := (lwW cB cI cJ cZ h0 a0 a1 a2 a3 a4 a5 a6 a7 v13 a8 v14 a9 N3 N4 N5 N6 N22 N8 N9 N10 N11 N12)) [0, 1, 2, 3, 4, 5, 6, 7, 8, 9, 10, 11, 12, 30, 31, 32, 33, 13, 14, 15, 16, 17, 18, 19, 20, 21, 22, 23, 24, 25, 26, 27, 28, 29] (by decide) rfl
                generalize H1 = H at hP hS ⊢
                obtain ⟨b23, rfl, h⟩ := hw
                try dsimp only at h
                refine lv_if_ne (tgt := 65) hx hb dX11_waits_59 (by decide) (fun c24 => ?_) (fun c24 => ?_)
                · have h := h.2 c24
                  refine lv_aload_n hx hb dX11_waits_65 rfl (lv_at hl 0 rfl) ?_
                  refine va_get (D := (dC, dI)) (ci := 11) (v := .ref (a0 4)) (C := RX11) (T := TX11) (N := 12) hx hb hts hinX11 hown hK hP 0 rfl rfl 4 (by decide) f1 (fun _ h9 => h9) rfl dX11_waits_66 ?_
                  refine va_get (D := (dC, dI)) (ci := 10) (v := .ref (a1 2)) (C := RX10) (T := TX10) (N := 5) hx hb hts hinX10 hown hK hP 3 rfl rfl 2 (by decide) f2 (fun _ h9 => h9) rfl dX11_waits_69 ?_
                  refine va_get (D := (dC, dI)) (ci := 4) (v := .int (mg N22 0)) (C := RX4) (T := TX4) (N := 4) hx hb hts hinX4 hown hK hP 13 rfl rfl 0 (by decide) f3 (fun _ h9 => h9) rfl dX11_waits_72 ?_
                  exact W.iret (v := (mg N22 0)) hx hb hr (fun t ht hW => ⟨⟨_, (N3, N4, N5, N6, N22, N8, N9, N10, N11, N12), rfl, h, v13, v14, by rw [ht]; exact hP, va_K.moved hW.alike hK, hD⟩, hS.F ht⟩) hS.2.2 dX11_waits_75
                · have h := h.1 c24
                  refine lv_bipush (v := (-2)) hx hb dX11_waits_62 (by decide) ?_
                  exact W.iret (v := (-2 : Int32)) hx hb hr (fun t ht hW => ⟨⟨_, (N3, N4, N5, N6, N22, N8, N9, N10, N11, N12), rfl, h, v13, v14, by rw [ht]; exact hP, va_K.moved hW.alike hK, hD⟩, hS.F ht⟩) hS.2.2 dX11_waits_64
    · have h := h.1 c1
      refine lv_aload_n hx hb dX11_waits_5 rfl (lv_at hl 0 rfl) ?_
      refine va_get (D := (dC, dI)) (ci := 11) (v := .ref (a0 4)) (C := RX11) (T := TX11) (N := 12) hx hb hts hinX11 hown hK hP 0 rfl rfl 4 (by decide) f1 (fun _ h9 => h9) rfl dX11_waits_6 ?_
      refine va_get (D := (dC, dI)) (ci := 10) (v := .ref (a1 2)) (C := RX10) (T := TX10) (N := 5) hx hb hts hinX10 hown hK hP 3 rfl rfl 2 (by decide) f2 (fun _ h9 => h9) rfl dX11_waits_9 ?_
      refine lv_iconst (v := 0) hx hb dX11_waits_12 (by decide) ?_
      refine va_put (D := (dC, dI)) (ci := 4) (v := .int (0 : Int32)) (ty := .int) (C := RX4) (T := TX4) (N := 4) hx hb hts hinX4 tyX4 tyX4_ok nmX4 hown hK hP hD hS 13 rfl rfl 0 (by decide) f3 (fun _ h9 => h9) rfl (by decide +kernel) rfl rfl (Nat.le_of_ble_eq_true rfl) dX11_waits_13 (fun H locs hP hD hS => ?_)
      have hP := lwP_4_f0 hP
      have hD := lwD_4_f0 hD
      have h := h _ rfl
      generalize sg M4 0 (0 : Int32) = N25 at hP hD h
      refine lv_iconst (v := 0) hx hb dX11_waits_16 (by decide) ?_
      exact W.iret (v := (0 : Int32)) hx hb hr (fun t ht hW => ⟨⟨_, (M0, M1, M2, M3, N25, M5, M6, M7, M8, M9), rfl, h, o7, o8, by rw [ht]; exact hP, va_K.moved hW.alike hK, hD⟩, hS.F ht⟩) hS.2.2 dX11_waits_17
  have hl := lv_entry ([.ref h0, .int p1, .int p2]) (n := 3) (Nat.le_of_ble_eq_true rfl)
  rw [lg_entry_eq]
  generalize (lg_sl ([.ref h0, .int p1, .int p2]) ++ List.replicate (3 - (lg_sl ([.ref h0, .int p1, .int p2])).length) Slot.unset).toArray = ls at hl ⊢
  have hl : lv_has ls 3 [(0, .ref h0), (1, .int p1), (2, .int p2)] := hl
  exact bE M0 M1 M2 M3 M4 M5 M6 M7 M8 M9 s.heap [] ls hP hD hS hl h
def wX11_order (p1 : Int32) (M0 : gS) (M1 : gS) (M2 : gS) (M3 : gS) (M4 : gS) (M5 : gS) (M6 : gS) (M7 : gS) (M8 : gS) (M9 : gS) (Q : Int32 → gS → gS → gS → gS → gS → gS → gS → gS → gS → gS → Prop) : Prop :=
 ((p1 < 0 → (Q (-1 : Int32) M0 M1 M2 M3 M4 M5 M6 M7 M8 M9))
 ∧ (¬ p1 < 0 → ((p1 ≤ (6 : Int32) → (wX4_arrange  M4 (fun (N4 : gS) => ((p1 = 0 → (wX4_leastSum  N4 (fun (r7 : Int32) (N8 : gS) => (Q r7 M0 M1 M2 M3 N8 M5 M6 M7 M8 M9))))
 ∧ (¬ p1 = 0 → (((mg N4 0) < p1 → (Q (-2 : Int32) M0 M1 M2 M3 N4 M5 M6 M7 M8 M9))
 ∧ (¬ (mg N4 0) < p1 → (vp_in (p1 - (1 : Int32)) 6 ∧ (Q (ma N4 3 (Int32.toNatClampNeg (p1 - (1 : Int32)))) M0 M1 M2 M3 N4 M5 M6 M7 M8 M9)))))))))
 ∧ (¬ p1 ≤ (6 : Int32) → (Q (-1 : Int32) M0 M1 M2 M3 M4 M5 M6 M7 M8 M9)))))
def rmX11_order : Room := { frames := 2, cells := 0, slots := 0, locals := 44 }
set_option maxHeartbeats 4000000 in
set_option maxRecDepth 100000 in
theorem kX11_order (l : Launch) (dC : Nat → ClassId) (dI : Nat → Nat → Nat) (cB cI cJ cZ : ClassId) (h0 : Nat) (a0 : Nat → Nat) (a1 : Nat → Nat) (a2 : Nat → Nat) (a3 : Nat → Nat) (a4 : Nat → Nat) (a5 : Nat → Nat) (a6 : Nat → Nat) (a7 : Nat → Nat) (o7 : Option Nat) (a8 : Nat → Nat) (o8 : Option Nat) (a9 : Nat → Nat) (sz : Nat) (p1 : Int32) (M0 : gS) (M1 : gS) (M2 : gS) (M3 : gS) (M4 : gS) (M5 : gS) (M6 : gS) (M7 : gS) (M8 : gS) (M9 : gS) (Q : Int32 → gS → gS → gS → gS → gS → gS → gS → gS → gS → gS → Prop) (h : wX11_order p1 M0 M1 M2 M3 M4 M5 M6 M7 M8 M9 Q) : Met l yX11_order wsX11_order rmX11_order (va_Pc [.ref h0, .int p1] (lwI dC dI cB cI cJ cZ h0 a0 a1 a2 a3 a4 a5 a6 a7 o7 a8 o8 a9 M0 M1 M2 M3 M4 M5 M6 M7 M8 M9 sz)) (va_Qi (fun (r : Int32) (u : gS × gS × gS × gS × gS × gS × gS × gS × gS × gS) => Q r u.1 u.2.1 u.2.2.1 u.2.2.2.1 u.2.2.2.2.1 u.2.2.2.2.2.1 u.2.2.2.2.2.2.1 u.2.2.2.2.2.2.2.1 u.2.2.2.2.2.2.2.2.1 u.2.2.2.2.2.2.2.2.2) (lwB dC dI cB cI cJ cZ h0 a0 a1 a2 a3 a4 a5 a6 a7 a8 a9 (va_A (lwW cB cI cJ cZ h0 a0 a1 a2 a3 a4 a5 a6 a7 o7 a8 o8 a9 M0 M1 M2 M3 M4 M5 M6 M7 M8 M9) sz)) (va_A (lwW cB cI cJ cZ h0 a0 a1 a2 a3 a4 a5 a6 a7 o7 a8 o8 a9 M0 M1 M2 M3 M4 M5 M6 M7 M8 M9) sz)) 0 0 (va_A (lwW cB cI cJ cZ h0 a0 a1 a2 a3 a4 a5 a6 a7 o7 a8 o8 a9 M0 M1 M2 M3 M4 M5 M6 M7 M8 M9) sz) := by
  refine Met.ofW (cc := cX11_order) (maxL := 2) (ret := (some .int)) (by decide) rfl ?_
  intro p e s m args below meth c s₁ B hml hv
  obtain ⟨rfl, hsz, hP, hK, hD0⟩ := hv
  have hx := B.exec
  have hb := B.bytes
  have hr := B.returns
  have hts := atoms_spec (ws := wsX11_order) B.pre
  have hown : s.vm.findClass RX11 = some m.cls := findClass_of_methodNamed B.named
  have hlocks := B.notSynchronized
  subst hsz
  have hD := hD0.self (sz := s.heap.size)
  generalize hAe : va_A (lwW cB cI cJ cZ h0 a0 a1 a2 a3 a4 a5 a6 a7 o7 a8 o8 a9 M0 M1 M2 M3 M4 M5 M6 M7 M8 M9) s.heap.size = A at hD ⊢
  have hA : ∀ q : Nat, s.heap.size ≤ q → A q := fun q h => by rw [← hAe]; exact Or.inr h
  have hS : va_S A s.heap s.heap [] := va_S.rf
  have hinX10 : ∀ w ∈ wsX100, w ∈ wsX11_order := by decide +kernel
  have hinX11 : ∀ w ∈ wsX110, w ∈ wsX11_order := by decide +kernel
  have hinX4 : ∀ w ∈ wsX40, w ∈ wsX11_order := by decide +kernel
  have f1 := hts (.fieldLink RX11 22 "LastWords" "now" "LLastWords$State;") (by decide +kernel)
  have f2 := hts (.fieldLink RX11 267 "LastWords$State" "organ" "LLastWords$Organ;") (by decide +kernel)
  have f3 := hts (.fieldLink RX11 271 "LastWords$Organ" "waiting" "I") (by decide +kernel)
  have f4 := hts (.fieldLink RX11 285 "LastWords$Organ" "places" "[I") (by decide +kernel)
  have bE : ∀ (M0 : gS) (M1 : gS) (M2 : gS) (M3 : gS) (M4 : gS) (M5 : gS) (M6 : gS) (M7 : gS) (M8 : gS) (M9 : gS) (H : Heap) (locs : List Loc) (ls : Array Slot), va_P (dC, dI) vwCl (lwW cB cI cJ cZ h0 a0 a1 a2 a3 a4 a5 a6 a7 o7 a8 o8 a9 M0 M1 M2 M3 M4 M5 M6 M7 M8 M9) H → va_D A (lwW cB cI cJ cZ h0 a0 a1 a2 a3 a4 a5 a6 a7 o7 a8 o8 a9 M0 M1 M2 M3 M4 M5 M6 M7 M8 M9) → va_S A s.heap H locs → lv_has ls 2 [(0, .ref h0), (1, .int p1)] → wX11_order p1 M0 M1 M2 M3 M4 M5 M6 M7 M8 M9 Q → W p l e (headSpec wsX11_order rmX11_order).room s m ([.ref h0, .int p1] : List Value).toArray below meth c H locs 0 0 (MQ below (va_Qi (fun (r : Int32) (u : gS × gS × gS × gS × gS × gS × gS × gS × gS × gS) => Q r u.1 u.2.1 u.2.2.1 u.2.2.2.1 u.2.2.2.2.1 u.2.2.2.2.2.1 u.2.2.2.2.2.2.1 u.2.2.2.2.2.2.2.1 u.2.2.2.2.2.2.2.2.1 u.2.2.2.2.2.2.2.2.2) (lwB dC dI cB cI cJ cZ h0 a0 a1 a2 a3 a4 a5 a6 a7 a8 a9 A) A) ([.ref h0, .int p1] : List Value).toArray s 0 0 A) (F0 m 0 ls []) := by
    intro M0 M1 M2 M3 M4 M5 M6 M7 M8 M9 H locs ls hP hD hS hl h
    unfold wX11_order at h
    refine lv_iload_n hx hb dX11_order_0 rfl (lv_at hl 1 rfl) ?_
    refine lv_if_lt (tgt := 10) hx hb dX11_order_1 (by decide) (fun c1 => ?_) (fun c1 => ?_)
    · have h := h.1 c1
      refine lv_iconst (v := (-1)) hx hb dX11_order_10 (by decide) ?_
      exact W.iret (v := (-1 : Int32)) hx hb hr (fun t ht hW => ⟨⟨_, (M0, M1, M2, M3, M4, M5, M6, M7, M8, M9), rfl, h, o7, o8, by rw [ht]; exact hP, va_K.moved hW.alike hK, hD⟩, hS.F ht⟩) hS.2.2 dX11_order_11
    · have h := h.2 c1
      refine lv_iload_n hx hb dX11_order_4 rfl (lv_at hl 1 rfl) ?_
      refine lv_bipush (v := (6)) hx hb dX11_order_5 (by decide) ?_
      refine lv_icmp_le (tgt := 12) hx hb dX11_order_7 (by decide) (fun c2 => ?_) (fun c2 => ?_)
      · have h := h.1 c2
        refine lv_aload_n hx hb dX11_order_12 rfl (lv_at hl 0 rfl) ?_
        refine va_get (D := (dC, dI)) (ci := 11) (v := .ref (a0 4)) (C := RX11) (T := TX11) (N := 12) hx hb hts hinX11 hown hK hP 0 rfl rfl 4 (by decide) f1 (fun _ h9 => h9) rfl dX11_order_13 ?_
        refine va_get (D := (dC, dI)) (ci := 10) (v := .ref (a1 2)) (C := RX10) (T := TX10) (N := 5) hx hb hts hinX10 hown hK hP 3 rfl rfl 2 (by decide) f2 (fun _ h9 => h9) rfl dX11_order_16 ?_
        have hPc := hP.sub (ws' := (ogW cB cI cJ cZ (a1 2) a4 M4)) [13, 14, 15, 16] rfl
        have hDc := hD.sub (ws' := (ogW cB cI cJ cZ (a1 2) a4 M4)) [13, 14, 15, 16] (by decide) rfl
        have hFc := va_free (wc := (ogW cB cI cJ cZ (a1 2) a4 M4)) hD hS hA [13, 14, 15, 16] rfl
        refine va_callv (va_runV (As := []) (rest := []) ⟨hx, hb, hml, hown, hts⟩ (kX4_arrange l dC dI cB cI cJ cZ (a1 2) a4 H.size  M4 _ h) (cwV 0 hts gX11_order_X4_arrange rfl rfl rfl (by decide +kernel) ⟨Nat.le_of_ble_eq_true rfl, Nat.le_of_ble_eq_true rfl⟩) (ogpV hK hPc hDc) rfl rfl hl.1 rfl (lv_room (Nat.le_of_ble_eq_true rfl)) dX11_order_19 ⟨Nat.le_of_ble_eq_true rfl, Nat.le_of_ble_eq_true rfl⟩) hS (fun q _ z => hFc q z) hFc (fun u t H1 locs ht hvm hw hB hz1 hk1 hS => ?_)
        obtain ⟨N4, rfl⟩ : ∃ z, z = u := ⟨_, rfl⟩
        obtain ⟨hP1, hK1, hD1⟩ := hB
        rw [ht] at hP1
        obtain ⟨hP, hD⟩ := va_join (wr := [(h0, .inr (11, [.ref (a0 0), .int (mg M0 1), .ref (a0 2), .int (mg M0 3), .ref (a0 4), .ref (a0 5), .ref (a0 6), .ref (a0 7), .ref (a0 8), .ref (a0 9), .ref (a0 10), .ref (a0 11)])), (a0 0, .inl (cI, 400, .inl (ma M0 0))), (a0 11, .inl (cJ, 4, .inr (.inl (ml M0 11)))), (a0 4, .inr (10, [.ref (a1 0), .ref (a1 1), .ref (a1 2), .ref (a1 3), .int (mg M1 4)])), (a1 3, .inl (cI, 2, .inl (ma M1 3))), (a1 0, .inr (1, [.int (mg M2 0), .ref (a2 1), .int (mg M2 2), .ref (a2 3), .int (mg M2 4), .ref (a2 5)])), (a2 1, .inl (cI, 4, .inl (ma M2 1))), (a2 3, .inl (cI, 4, .inl (ma M2 3))), (a2 5, .inl (cI, 2, .inl (ma M2 5))), (a1 1, .inr (6, [.int (mg M3 0), .int (mg M3 1), .int (mg M3 2), .int (mg M3 3), .int (mg M3 4), .int (mg M3 5), .int (mg M3 6), .ref (a3 7), .ref (a3 8), .ref (a3 9)])), (a3 7, .inl (cI, 2, .inl (ma M3 7))), (a3 8, .inl (cI, 2, .inl (ma M3 8))), (a3 9, .inl (cI, 2, .inl (ma M3 9))), (a0 6, .inr (1, [.int (mg M5 0), .ref (a5 1), .int (mg M5 2), .ref (a5 3), .int (mg M5 4), .ref (a5 5)])), (a5 1, .inl (cI, 4, .inl (ma M5 1))), (a5 3, .inl (cI, 4, .inl (ma M5 3))), (a5 5, .inl (cI, 2, .inl (ma M5 5))), (a0 7, .inr (6, [.int (mg M6 0), .int (mg M6 1), .int (mg M6 2), .int (mg M6 3), .int (mg M6 4), .int (mg M6 5), .int (mg M6 6), .ref (a6 7), .ref (a6 8), .ref (a6 9)])), (a6 7, .inl (cI, 2, .inl (ma M6 7))), (a6 8, .inl (cI, 2, .inl (ma M6 8))), (a6 9, .inl (cI, 2, .inl (ma M6 9))), (a0 8, .inr (0, [.ref (a7 0), .ref (a7 1), .ref (a7 2), .ref (a7 3), .int (mg M7 4), va_rf o7, .int (mg M7 6), .int (mg M7 7), .int (mg M7 8), .int (mg M7 9), .int (mg M7 10)])), (a7 0, .inl (cJ, 15, .inr (.inl (ml M7 0)))), (a7 1, .inl (cJ, 800, .inr (.inl (ml M7 1)))), (a7 2, .inl (cI, 4, .inl (ma M7 2))), (a7 3, .inl (cJ, 4, .inr (.inl (ml M7 3)))), (a0 9, .inr (5, [.ref (a8 0), .ref (a8 1), va_rf o8, .int (mg M8 3)])), (a8 0, .inl (cI, 2048, .inl (ma M8 0))), (a8 1, .inl (cI, 2048, .inl (ma M8 1))), (a0 10, .inr (3, [.int (mg M9 0), .int (mg M9 1), .int (mg M9 2), .int (mg M9 3), .int (mg M9 4)]))]) (w1 := (ogW cB cI cJ cZ (a1 2) a4 N4)) hP hD [13, 14, 15, 16] [0, 1, 2, 3, 4, 5, 6, 7, 8, 9, 10, 11, 12, 17, 18, 19, 20, 21, 22, 23, 24, 25, 26, 27, 28, 29, 30, 31, 32, 33] rfl rfl (by decide) (by decide) hk1 hFc hP1 hD1
        have hP := hP.sub (ws' := (lwW cB cI cJ cZ h0 a0 a1 a2 a3 a4 a5 a6 a7 o7 a8 o8 a9 M0 M1 M2 M3 N4 M5 M6 M7 M8 M9)) [0, 1, 2, 3, 4, 5, 6, 7, 8, 9, 10, 11, 12, 30, 31, 32, 33, 13, 14, 15, 16, 17, 18, 19, 20, 21, 22, 23, 24, 25, 26, 27, 28, 29] rfl
        have hD := hD.sub (ws' := (lwW cB cI cJ cZ h0 a0 a1 a2 a3 a4 a5 a6 a7 o7 a8 o8 a9 M0 M1 M2 M3 N4 M5 M6 M7 M8 M9)) [0, 1, 2, 3, 4, 5, 6, 7, 8, 9, 10, 11, 12, 30, 31, 32, 33, 13, 14, 15, 16, 17, 18, 19, 20, 21, 22, 23, 24, 25, 26, 27, 28, 29] (by decide) rfl
        generalize H1 = H at hP hS ⊢
        have h := hw
        try dsimp only at h
        refine lv_iload_n hx hb dX11_order_22 rfl (lv_at hl 1 rfl) ?_
        refine lv_if_ne (tgt := 37) hx hb dX11_order_23 (by decide) (fun c5 => ?_) (fun c5 => ?_)
        · have h := h.2 c5
          refine lv_iload_n hx hb dX11_order_37 rfl (lv_at hl 1 rfl) ?_
          refine lv_aload_n hx hb dX11_order_38 rfl (lv_at hl 0 rfl) ?_
          refine va_get (D := (dC, dI)) (ci := 11) (v := .ref (a0 4)) (C := RX11) (T := TX11) (N := 12) hx hb hts hinX11 hown hK hP 0 rfl rfl 4 (by decide) f1 (fun _ h9 => h9) rfl dX11_order_39 ?_
          refine va_get (D := (dC, dI)) (ci := 10) (v := .ref (a1 2)) (C := RX10) (T := TX10) (N := 5) hx hb hts hinX10 hown hK hP 3 rfl rfl 2 (by decide) f2 (fun _ h9 => h9) rfl dX11_order_42 ?_
          refine va_get (D := (dC, dI)) (ci := 4) (v := .int (mg N4 0)) (C := RX4) (T := TX4) (N := 4) hx hb hts hinX4 hown hK hP 13 rfl rfl 0 (by decide) f3 (fun _ h9 => h9) rfl dX11_order_45 ?_
          refine lv_icmp_gt (tgt := 68) hx hb dX11_order_48 (by decide) (fun c6 => ?_) (fun c6 => ?_)
          · have h := h.1 c6
            refine lv_bipush (v := (-2)) hx hb dX11_order_68 (by decide) ?_
            exact W.iret (v := (-2 : Int32)) hx hb hr (fun t ht hW => ⟨⟨_, (M0, M1, M2, M3, N4, M5, M6, M7, M8, M9), rfl, h, o7, o8, by rw [ht]; exact hP, va_K.moved hW.alike hK, hD⟩, hS.F ht⟩) hS.2.2 dX11_order_70
          · have h := h.2 c6
            refine lv_aload_n hx hb dX11_order_51 rfl (lv_at hl 0 rfl) ?_
            refine va_get (D := (dC, dI)) (ci := 11) (v := .ref (a0 4)) (C := RX11) (T := TX11) (N := 12) hx hb hts hinX11 hown hK hP 0 rfl rfl 4 (by decide) f1 (fun _ h9 => h9) rfl dX11_order_52 ?_
            refine va_get (D := (dC, dI)) (ci := 10) (v := .ref (a1 2)) (C := RX10) (T := TX10) (N := 5) hx hb hts hinX10 hown hK hP 3 rfl rfl 2 (by decide) f2 (fun _ h9 => h9) rfl dX11_order_55 ?_
            refine va_get (D := (dC, dI)) (ci := 4) (v := .ref (a4 3)) (C := RX4) (T := TX4) (N := 4) hx hb hts hinX4 hown hK hP 13 rfl rfl 3 (by decide) f4 (fun _ h9 => h9) rfl dX11_order_58 ?_
            refine lv_iload_n hx hb dX11_order_61 rfl (lv_at hl 1 rfl) ?_
            refine lv_iconst (v := 1) hx hb dX11_order_62 (by decide) ?_
            refine lv_isub hx hb dX11_order_63 ?_
            refine va_iald hx hb hK hP 16 1 (f := ma N4 3) rfl rfl h.1 dX11_order_64 ?_
            have h := h.2
            refine lv_goto (tgt := 70) hx hb dX11_order_65 (by decide) ?_
            exact W.iret (v := (ma N4 3 (Int32.toNatClampNeg (p1 - (1 : Int32))))) hx hb hr (fun t ht hW => ⟨⟨_, (M0, M1, M2, M3, N4, M5, M6, M7, M8, M9), rfl, h, o7, o8, by rw [ht]; exact hP, va_K.moved hW.alike hK, hD⟩, hS.F ht⟩) hS.2.2 dX11_order_70
        · have h := h.1 c5
          refine lv_aload_n hx hb dX11_order_26 rfl (lv_at hl 0 rfl) ?_
          refine va_get (D := (dC, dI)) (ci := 11) (v := .ref (a0 4)) (C := RX11) (T := TX11) (N := 12) hx hb hts hinX11 hown hK hP 0 rfl rfl 4 (by decide) f1 (fun _ h9 => h9) rfl dX11_order_27 ?_
          refine va_get (D := (dC, dI)) (ci := 10) (v := .ref (a1 2)) (C := RX10) (T := TX10) (N := 5) hx hb hts hinX10 hown hK hP 3 rfl rfl 2 (by decide) f2 (fun _ h9 => h9) rfl dX11_order_30 ?_
          have hPc := hP.sub (ws' := (ogW cB cI cJ cZ (a1 2) a4 N4)) [13, 14, 15, 16] rfl
          have hDc := hD.sub (ws' := (ogW cB cI cJ cZ (a1 2) a4 N4)) [13, 14, 15, 16] (by decide) rfl
          have hFc := va_free (wc := (ogW cB cI cJ cZ (a1 2) a4 N4)) hD hS hA [13, 14, 15, 16] rfl
          refine va_calli (va_runV (As := []) (rest := []) ⟨hx, hb, hml, hown, hts⟩ (kX4_leastSum l dC dI cB cI cJ cZ (a1 2) a4 H.size  N4 _ h) (cwV 0 hts gX11_order_X4_leastSum rfl rfl rfl (by decide +kernel) ⟨Nat.le_of_ble_eq_true rfl, Nat.le_of_ble_eq_true rfl⟩) (ogpV hK hPc hDc) rfl rfl hl.1 rfl (lv_room (Nat.le_of_ble_eq_true rfl)) dX11_order_33 ⟨Nat.le_of_ble_eq_true rfl, Nat.le_of_ble_eq_true rfl⟩) hS (fun q _ z => hFc q z) hFc (fun r7 u t H1 locs ht hvm hw hB hz1 hk1 hS => ?_)
          obtain ⟨N8, rfl⟩ : ∃ z, z = u := ⟨_, rfl⟩
          obtain ⟨hP1, hK1, hD1⟩ := hB
          rw [ht] at hP1
          obtain ⟨hP, hD⟩ := va_join (wr := [(h0, .inr (11, [.ref (a0 0), .int (mg M0 1), .ref (a0 2), .int (mg M0 3), .ref (a0 4), .ref (a0 5), .ref (a0 6), .ref (a0 7), .ref (a0 8), .ref (a0 9), .ref (a0 10), .ref (a0 11)])), (a0 0, .inl (cI, 400, .inl (ma M0 0))), (a0 11, .inl (cJ, 4, .inr (.inl (ml M0 11)))), (a0 4, .inr (10, [.ref (a1 0), .ref (a1 1), .ref (a1 2), .ref (a1 3), .int (mg M1 4)])), (a1 3, .inl (cI, 2, .inl (ma M1 3))), (a1 0, .inr (1, [.int (mg M2 0), .ref (a2 1), .int (mg M2 2), .ref (a2 3), .int (mg M2 4), .ref (a2 5)])), (a2 1, .inl (cI, 4, .inl (ma M2 1))), (a2 3, .inl (cI, 4, .inl (ma M2 3))), (a2 5, .inl (cI, 2, .inl (ma M2 5))), (a1 1, .inr (6, [.int (mg M3 0), .int (mg M3 1), .int (mg M3 2), .int (mg M3 3), .int (mg M3 4), .int (mg M3 5), .int (mg M3 6), .ref (a3 7), .ref (a3 8), .ref (a3 9)])), (a3 7, .inl (cI, 2, .inl (ma M3 7))), (a3 8, .inl (cI, 2, .inl (ma M3 8))), (a3 9, .inl (cI, 2, .inl (ma M3 9))), (a0 6, .inr (1, [.int (mg M5 0), .ref (a5 1), .int (mg M5 2), .ref (a5 3), .int (mg M5 4), .ref (a5 5)])), (a5 1, .inl (cI, 4, .inl (ma M5 1))), (a5 3, .inl (cI, 4, .inl (ma M5 3))), (a5 5, .inl (cI, 2, .inl (ma M5 5))), (a0 7, .inr (6, [.int (mg M6 0), .int (mg M6 1), .int (mg M6 2), .int (mg M6 3), .int (mg M6 4), .int (mg M6 5), .int (mg M6 6), .ref (a6 7), .ref (a6 8), .ref (a6 9)])), (a6 7, .inl (cI, 2, .inl (ma M6 7))), (a6 8, .inl (cI, 2, .inl (ma M6 8))), (a6 9, .inl (cI, 2, .inl (ma M6 9))), (a0 8, .inr (0, [.ref (a7 0), .ref (a7 1), .ref (a7 2), .ref (a7 3), .int (mg M7 4), va_rf o7, .int (mg M7 6), .int (mg M7 7), .int (mg M7 8), .int (mg M7 9), .int (mg M7 10)])), (a7 0, .inl (cJ, 15, .inr (.inl (ml M7 0)))), (a7 1, .inl (cJ, 800, .inr (.inl (ml M7 1)))), (a7 2, .inl (cI, 4, .inl (ma M7 2))), (a7 3, .inl (cJ, 4, .inr (.inl (ml M7 3)))), (a0 9, .inr (5, [.ref (a8 0), .ref (a8 1), va_rf o8, .int (mg M8 3)])), (a8 0, .inl (cI, 2048, .inl (ma M8 0))), (a8 1, .inl (cI, 2048, .inl (ma M8 1))), (a0 10, .inr (3, [.int (mg M9 0), .int (mg M9 1), .int (mg M9 2), .int (mg M9 3), .int (mg M9 4)]))]) (w1 := (ogW cB cI cJ cZ (a1 2) a4 N8)) hP hD [13, 14, 15, 16] [0, 1, 2, 3, 4, 5, 6, 7, 8, 9, 10, 11, 12, 17, 18, 19, 20, 21, 22, 23, 24, 25, 26, 27, 28, 29, 30, 31, 32, 33] rfl rfl (by decide) (by decide) hk1 hFc hP1 hD1
          have hP := hP.sub (ws' := (lwW cB cI cJ cZ h0 a0 a1 a2 a3 a4 a5 a6 a7 o7 a8 o8 a9 M0 M1 M2 M3 N8 M5 M6 M7 M8 M9)) [0, 1, 2, 3, 4, 5, 6, 7, 8, 9, 10, 11, 12, 30, 31, 32, 33, 13, 14, 15, 16, 17, 18, 19, 20, 21, 22, 23, 24, 25, 26, 27, 28, 29] rfl
          have hD := hD.sub (ws' := (lwW cB cI cJ cZ h0 a0 a1 a2 a3 a4 a5 a6 a7 o7 a8 o8 a9 M0 M1 M2 M3 N8 M5 M6 M7 M8 M9)) [0, 1, 2, 3, 4, 5, 6, 7, 8, 9, 10, 11, 12, 30, 31, 32, 33, 13, 14, 15, 16, 17, 18, 19, 20, 21, 22, 23, 24, 25, 26, 27, 28, 29] (by decide) rfl
          generalize H1 = H at hP hS ⊢
          have h := hw
          try dsimp only at h
          exact W.iret (v := r7) hx hb hr (fun t ht hW => ⟨⟨_, (M0, M1, M2, M3, N8, M5, M6, M7, M8, M9), rfl, h, o7, o8, by rw [ht]; exact hP, va_K.moved hW.alike hK, hD⟩, hS.F ht⟩) hS.2.2 dX11_order_36
      · have h := h.2 c2
        refine lv_iconst (v := (-1)) hx hb dX11_order_10 (by decide) ?_
        exact W.iret (v := (-1 : Int32)) hx hb hr (fun t ht hW => ⟨⟨_, (M0, M1, M2, M3, M4, M5, M6, M7, M8, M9), rfl, h, o7, o8, by rw [ht]; exact hP, va_K.moved hW.alike hK, hD⟩, hS.F ht⟩) hS.2.2 dX11_order_11
  have hl := lv_entry ([.ref h0, .int p1]) (n := 2) (Nat.le_of_ble_eq_true rfl)
  rw [lg_entry_eq]
  generalize (lg_sl ([.ref h0, .int p1]) ++ List.replicate (2 - (lg_sl ([.ref h0, .int p1])).length) Slot.unset).toArray = ls at hl ⊢
  have hl : lv_has ls 2 [(0, .ref h0), (1, .int p1)] := hl
  exact bE M0 M1 M2 M3 M4 M5 M6 M7 M8 M9 s.heap [] ls hP hD hS hl h
def wX11_seed (p1 : Int32) (M0 : gS) (M1 : gS) (M2 : gS) (M3 : gS) (M4 : gS) (M5 : gS) (M6 : gS) (M7 : gS) (M8 : gS) (M9 : gS) (Q : Int32 → gS → gS → gS → gS → gS → gS → gS → gS → gS → gS → Prop) : Prop :=
 ((0 ≤ p1 → (∀ x2 : Int32, x2 = (mg M1 4) → (∀ N3 : gS, N3 = sg M1 4 p1 → (Q x2 M0 N3 M2 M3 M4 M5 M6 M7 M8 M9))))
 ∧ (¬ 0 ≤ p1 → (Q (-1 : Int32) M0 M1 M2 M3 M4 M5 M6 M7 M8 M9)))
def rmX11_seed : Room := { frames := 0, cells := 0, slots := 0, locals := 0 }
set_option maxHeartbeats 4000000 in
set_option maxRecDepth 100000 in
theorem kX11_seed (l : Launch) (dC : Nat → ClassId) (dI : Nat → Nat → Nat) (cB cI cJ cZ : ClassId) (h0 : Nat) (a0 : Nat → Nat) (a1 : Nat → Nat) (a2 : Nat → Nat) (a3 : Nat → Nat) (a4 : Nat → Nat) (a5 : Nat → Nat) (a6 : Nat → Nat) (a7 : Nat → Nat) (o7 : Option Nat) (a8 : Nat → Nat) (o8 : Option Nat) (a9 : Nat → Nat) (sz : Nat) (p1 : Int32) (M0 : gS) (M1 : gS) (M2 : gS) (M3 : gS) (M4 : gS) (M5 : gS) (M6 : gS) (M7 : gS) (M8 : gS) (M9 : gS) (Q : Int32 → gS → gS → gS → gS → gS → gS → gS → gS → gS → gS → Prop) (h : wX11_seed p1 M0 M1 M2 M3 M4 M5 M6 M7 M8 M9 Q) : Met l yX11_seed wsX11_seed rmX11_seed (va_Pc [.ref h0, .int p1] (lwI dC dI cB cI cJ cZ h0 a0 a1 a2 a3 a4 a5 a6 a7 o7 a8 o8 a9 M0 M1 M2 M3 M4 M5 M6 M7 M8 M9 sz)) (va_Qi (fun (r : Int32) (u : gS × gS × gS × gS × gS × gS × gS × gS × gS × gS) => Q r u.1 u.2.1 u.2.2.1 u.2.2.2.1 u.2.2.2.2.1 u.2.2.2.2.2.1 u.2.2.2.2.2.2.1 u.2.2.2.2.2.2.2.1 u.2.2.2.2.2.2.2.2.1 u.2.2.2.2.2.2.2.2.2) (lwB dC dI cB cI cJ cZ h0 a0 a1 a2 a3 a4 a5 a6 a7 a8 a9 (va_A (lwW cB cI cJ cZ h0 a0 a1 a2 a3 a4 a5 a6 a7 o7 a8 o8 a9 M0 M1 M2 M3 M4 M5 M6 M7 M8 M9) sz)) (va_A (lwW cB cI cJ cZ h0 a0 a1 a2 a3 a4 a5 a6 a7 o7 a8 o8 a9 M0 M1 M2 M3 M4 M5 M6 M7 M8 M9) sz)) 0 0 (va_A (lwW cB cI cJ cZ h0 a0 a1 a2 a3 a4 a5 a6 a7 o7 a8 o8 a9 M0 M1 M2 M3 M4 M5 M6 M7 M8 M9) sz) := by
  refine Met.ofW (cc := cX11_seed) (maxL := 3) (ret := (some .int)) (by decide) rfl ?_
  intro p e s m args below meth c s₁ B hml hv
  obtain ⟨rfl, hsz, hP, hK, hD0⟩ := hv
  have hx := B.exec
  have hb := B.bytes
  have hr := B.returns
  have hts := atoms_spec (ws := wsX11_seed) B.pre
  have hown : s.vm.findClass RX11 = some m.cls := findClass_of_methodNamed B.named
  have hlocks := B.notSynchronized
  subst hsz
  have hD := hD0.self (sz := s.heap.size)
  generalize hAe : va_A (lwW cB cI cJ cZ h0 a0 a1 a2 a3 a4 a5 a6 a7 o7 a8 o8 a9 M0 M1 M2 M3 M4 M5 M6 M7 M8 M9) s.heap.size = A at hD ⊢
  have hA : ∀ q : Nat, s.heap.size ≤ q → A q := fun q h => by rw [← hAe]; exact Or.inr h
  have hS : va_S A s.heap s.heap [] := va_S.rf
  have hinX10 : ∀ w ∈ wsX100, w ∈ wsX11_seed := by decide +kernel
  have hinX11 : ∀ w ∈ wsX110, w ∈ wsX11_seed := by decide +kernel
  have f1 := hts (.fieldLink RX11 22 "LastWords" "now" "LLastWords$State;") (by decide +kernel)
  have f2 := hts (.fieldLink RX11 288 "LastWords$State" "x" "I") (by decide +kernel)
  have bE : ∀ (M0 : gS) (M1 : gS) (M2 : gS) (M3 : gS) (M4 : gS) (M5 : gS) (M6 : gS) (M7 : gS) (M8 : gS) (M9 : gS) (H : Heap) (locs : List Loc) (ls : Array Slot), va_P (dC, dI) vwCl (lwW cB cI cJ cZ h0 a0 a1 a2 a3 a4 a5 a6 a7 o7 a8 o8 a9 M0 M1 M2 M3 M4 M5 M6 M7 M8 M9) H → va_D A (lwW cB cI cJ cZ h0 a0 a1 a2 a3 a4 a5 a6 a7 o7 a8 o8 a9 M0 M1 M2 M3 M4 M5 M6 M7 M8 M9) → va_S A s.heap H locs → lv_has ls 3 [(0, .ref h0), (1, .int p1)] → wX11_seed p1 M0 M1 M2 M3 M4 M5 M6 M7 M8 M9 Q → W p l e (headSpec wsX11_seed rmX11_seed).room s m ([.ref h0, .int p1] : List Value).toArray below meth c H locs 0 0 (MQ below (va_Qi (fun (r : Int32) (u : gS × gS × gS × gS × gS × gS × gS × gS × gS × gS) => Q r u.1 u.2.1 u.2.2.1 u.2.2.2.1 u.2.2.2.2.1 u.2.2.2.2.2.1 u.2.2.2.2.2.2.1 u.2.2.2.2.2.2.2.1 u.2.2.2.2.2.2.2.2.1 u.2.2.2.2.2.2.2.2.2) (lwB dC dI cB cI cJ cZ h0 a0 a1 a2 a3 a4 a5 a6 a7 a8 a9 A) A) ([.ref h0, .int p1] : List Value).toArray s 0 0 A) (F0 m 0 ls []) := by
    intro M0 M1 M2 M3 M4 M5 M6 M7 M8 M9 H locs ls hP hD hS hl h
    unfold wX11_seed at h
    refine lv_iload_n hx hb dX11_seed_0 rfl (lv_at hl 1 rfl) ?_
    refine lv_if_ge (tgt := 6) hx hb dX11_seed_1 (by decide) (fun c1 => ?_) (fun c1 => ?_)
    · have h := h.1 c1
      refine lv_aload_n hx hb dX11_seed_6 rfl (lv_at hl 0 rfl) ?_
      refine va_get (D := (dC, dI)) (ci := 11) (v := .ref (a0 4)) (C := RX11) (T := TX11) (N := 12) hx hb hts hinX11 hown hK hP 0 rfl rfl 4 (by decide) f1 (fun _ h9 => h9) rfl dX11_seed_7 ?_
      refine va_get (D := (dC, dI)) (ci := 10) (v := .int (mg M1 4)) (C := RX10) (T := TX10) (N := 5) hx hb hts hinX10 hown hK hP 3 rfl rfl 4 (by decide) f2 (fun _ h9 => h9) rfl dX11_seed_10 ?_
      refine lv_topi (fun x2 ex2 => ?_)
      have h := h x2 ex2
      refine lv_istore_n (lv' := [(2, .int x2), (0, .ref h0), (1, .int p1)]) hx hb dX11_seed_13 rfl hl (by decide) rfl (fun ls hl => ?_)
      refine lv_aload_n hx hb dX11_seed_14 rfl (lv_at hl 1 rfl) ?_
      refine va_get (D := (dC, dI)) (ci := 11) (v := .ref (a0 4)) (C := RX11) (T := TX11) (N := 12) hx hb hts hinX11 hown hK hP 0 rfl rfl 4 (by decide) f1 (fun _ h9 => h9) rfl dX11_seed_15 ?_
      refine lv_iload_n hx hb dX11_seed_18 rfl (lv_at hl 2 rfl) ?_
      refine va_put (D := (dC, dI)) (ci := 10) (v := .int p1) (ty := .int) (C := RX10) (T := TX10) (N := 5) hx hb hts hinX10 tyX10 tyX10_ok nmX10 hown hK hP hD hS 3 rfl rfl 4 (by decide) f2 (fun _ h9 => h9) rfl (by decide +kernel) rfl rfl (Nat.le_of_ble_eq_true rfl) dX11_seed_19 (fun H locs hP hD hS => ?_)
      have hP := lwP_1_f4 hP
      have hD := lwD_1_f4 hD
      have h := h _ rfl
      generalize sg M1 4 p1 = N3 at hP hD h
      refine lv_iload_n hx hb dX11_seed_22 rfl (lv_at hl 0 rfl) ?_
      exact W.iret (v := x2) hx hb hr (fun t ht hW => ⟨⟨_, (M0, N3, M2, M3, M4, M5, M6, M7, M8, M9), rfl, h, o7, o8, by rw [ht]; exact hP, va_K.moved hW.alike hK, hD⟩, hS.F ht⟩) hS.2.2 dX11_seed_23
    · have h := h.2 c1
      refine lv_iconst (v := (-1)) hx hb dX11_seed_4 (by decide) ?_
      exact W.iret (v := (-1 : Int32)) hx hb hr (fun t ht hW => ⟨⟨_, (M0, M1, M2, M3, M4, M5, M6, M7, M8, M9), rfl, h, o7, o8, by rw [ht]; exact hP, va_K.moved hW.alike hK, hD⟩, hS.F ht⟩) hS.2.2 dX11_seed_5
  have hl := lv_entry ([.ref h0, .int p1]) (n := 3) (Nat.le_of_ble_eq_true rfl)
  rw [lg_entry_eq]
  generalize (lg_sl ([.ref h0, .int p1]) ++ List.replicate (3 - (lg_sl ([.ref h0, .int p1])).length) Slot.unset).toArray = ls at hl ⊢
  have hl : lv_has ls 3 [(0, .ref h0), (1, .int p1)] := hl
  exact bE M0 M1 M2 M3 M4 M5 M6 M7 M8 M9 s.heap [] ls hP hD hS hl h
def wX11_lotsByBestPlay_198 (B52 : Int32 → Int32 → Int32 → Int32 → Int32 → gS → gS → gS → gS → gS → gS → gS → gS → gS → gS → Prop) (Q : Int32 → gS → gS → gS → gS → gS → gS → gS → gS → gS → gS → Prop) (y1 : Int32) (y2 : Int32) (y3 : Int32) (y4 : Int32) (y5 : Int32) (M0 : gS) (M1 : gS) (M2 : gS) (M3 : gS) (M4 : gS) (M5 : gS) (M6 : gS) (M7 : gS) (M8 : gS) (M9 : gS) : Prop :=
 (∀ x1 : Int32, x1 = y5 + (1 : Int32) → (B52 y1 y2 y3 y4 x1 M0 M1 M2 M3 M4 M5 M6 M7 M8 M9))
def wX11_lotsByBestPlay_192 (B52 : Int32 → Int32 → Int32 → Int32 → Int32 → gS → gS → gS → gS → gS → gS → gS → gS → gS → gS → Prop) (Q : Int32 → gS → gS → gS → gS → gS → gS → gS → gS → gS → gS → Prop) (y1 : Int32) (y2 : Int32) (y3 : Int32) (y4 : Int32) (y5 : Int32) (z1 : Int32) (z0 : Int32) (M0 : gS) (M1 : gS) (M2 : gS) (M3 : gS) (M4 : gS) (M5 : gS) (M6 : gS) (M7 : gS) (M8 : gS) (M9 : gS) : Prop :=
 ((z1 = z0 → (∀ x2 : Int32, x2 = y4 + (1 : Int32) → (wX11_lotsByBestPlay_198 B52 Q y1 y2 y3 x2 y5 M0 M1 M2 M3 M4 M5 M6 M7 M8 M9)))
 ∧ (¬ z1 = z0 → (wX11_lotsByBestPlay_198 B52 Q y1 y2 y3 y4 y5 M0 M1 M2 M3 M4 M5 M6 M7 M8 M9)))
def wX11_lotsByBestPlay_172 (B52 : Int32 → Int32 → Int32 → Int32 → Int32 → gS → gS → gS → gS → gS → gS → gS → gS → gS → gS → Prop) (Q : Int32 → gS → gS → gS → gS → gS → gS → gS → gS → gS → gS → Prop) (y1 : Int32) (y2 : Int32) (y3 : Int32) (y4 : Int32) (y5 : Int32) (z0 : Int32) (M0 : gS) (M1 : gS) (M2 : gS) (M3 : gS) (M4 : gS) (M5 : gS) (M6 : gS) (M7 : gS) (M8 : gS) (M9 : gS) : Prop :=
 (((mg M9 2) = y3 → (wX11_lotsByBestPlay_192 B52 Q y1 y2 y3 y4 y5 z0 (1 : Int32) M0 M1 M2 M3 M4 M5 M6 M7 M8 M9))
 ∧ (¬ (mg M9 2) = y3 → (wX11_lotsByBestPlay_192 B52 Q y1 y2 y3 y4 y5 z0 (0 : Int32) M0 M1 M2 M3 M4 M5 M6 M7 M8 M9)))
def wX11_lotsByBestPlay_171 (B52 : Int32 → Int32 → Int32 → Int32 → Int32 → gS → gS → gS → gS → gS → gS → gS → gS → gS → gS → Prop) (Q : Int32 → gS → gS → gS → gS → gS → gS → gS → gS → gS → gS → Prop) (y1 : Int32) (y2 : Int32) (y3 : Int32) (y4 : Int32) (y5 : Int32) (M0 : gS) (M1 : gS) (M2 : gS) (M3 : gS) (M4 : gS) (M5 : gS) (M6 : gS) (M7 : gS) (M8 : gS) (M9 : gS) : Prop :=
 (wX11_lotsByBestPlay_172 B52 Q y1 y2 y3 y4 y5 (0 : Int32) M0 M1 M2 M3 M4 M5 M6 M7 M8 M9)
def wX11_lotsByBestPlay_132 (B52 : Int32 → Int32 → Int32 → Int32 → Int32 → gS → gS → gS → gS → gS → gS → gS → gS → gS → gS → Prop) (Q : Int32 → gS → gS → gS → gS → gS → gS → gS → gS → gS → gS → Prop) (y1 : Int32) (y2 : Int32) (y3 : Int32) (y4 : Int32) (y5 : Int32) (y6 : Int32) (z0 : Int32) (M0 : gS) (M1 : gS) (M2 : gS) (M3 : gS) (M4 : gS) (M5 : gS) (M6 : gS) (M7 : gS) (M8 : gS) (M9 : gS) : Prop :=
 (((4 : Int32) ≤ (mg M9 1) → (wX11_lotsByBestPlay_171 B52 Q y1 y2 y3 y4 y5 M0 M1 M2 M3 M4 M5 M6 M7 M8 M9))
 ∧ (¬ (4 : Int32) ≤ (mg M9 1) → (vp_in (mg M9 1) 4 ∧ (wX0_holds (ml M0 11 (Int32.toNatClampNeg (mg M9 1))) y6 z0  (fun (b3 : Bool)  => (((bI b3) = 0 → (wX11_lotsByBestPlay_171 B52 Q y1 y2 y3 y4 y5 M0 M1 M2 M3 M4 M5 M6 M7 M8 M9))
 ∧ (¬ (bI b3) = 0 → (wX11_lotsByBestPlay_172 B52 Q y1 y2 y3 y4 y5 (1 : Int32) M0 M1 M2 M3 M4 M5 M6 M7 M8 M9))))))))
def wX11_lotsByBestPlay_103 (B52 : Int32 → Int32 → Int32 → Int32 → Int32 → gS → gS → gS → gS → gS → gS → gS → gS → gS → gS → Prop) (Q : Int32 → gS → gS → gS → gS → gS → gS → gS → gS → gS → gS → Prop) (y1 : Int32) (y2 : Int32) (y3 : Int32) (y4 : Int32) (y5 : Int32) (z0 : Int32) (M0 : gS) (M1 : gS) (M2 : gS) (M3 : gS) (M4 : gS) (M5 : gS) (M6 : gS) (M7 : gS) (M8 : gS) (M9 : gS) : Prop :=
 (((mg M9 2) = 0 → (wX11_lotsByBestPlay_132 B52 Q y1 y2 y3 y4 y5 z0 (mg M9 4) M0 M1 M2 M3 M4 M5 M6 M7 M8 M9))
 ∧ (¬ (mg M9 2) = 0 → (wX11_lotsByBestPlay_132 B52 Q y1 y2 y3 y4 y5 z0 (mg M9 3) M0 M1 M2 M3 M4 M5 M6 M7 M8 M9)))
def wX11_lotsByBestPlay_52  (Q : Int32 → gS → gS → gS → gS → gS → gS → gS → gS → gS → gS → Prop) : Nat → Int32 → Int32 → Int32 → Int32 → Int32 → gS → gS → gS → gS → gS → gS → gS → gS → gS → gS → Prop
 | 0, _, _, _, _, _, _, _, _, _, _, _, _, _, _, _ => False
 | n + 1, y1, y2, y3, y4, y5, M0, M1, M2, M3, M4, M5, M6, M7, M8, M9 => ((y1 ≤ y5 → (Q y4 M0 M1 M2 M3 M4 M5 M6 M7 M8 M9))
 ∧ (¬ y1 ≤ y5 → (wX3_draw (mg M2 0) y2 M9 (fun (N3 : gS) => (((mg N3 2) = 0 → (wX11_lotsByBestPlay_103 (fun (y1 : Int32) (y2 : Int32) (y3 : Int32) (y4 : Int32) (y5 : Int32) (M0 : gS) (M1 : gS) (M2 : gS) (M3 : gS) (M4 : gS) (M5 : gS) (M6 : gS) (M7 : gS) (M8 : gS) (M9 : gS) => wX11_lotsByBestPlay_52  Q n y1 y2 y3 y4 y5 M0 M1 M2 M3 M4 M5 M6 M7 M8 M9) Q y1 y2 y3 y4 y5 (mg N3 3) M0 M1 M2 M3 M4 M5 M6 M7 M8 N3))
 ∧ (¬ (mg N3 2) = 0 → (wX11_lotsByBestPlay_103 (fun (y1 : Int32) (y2 : Int32) (y3 : Int32) (y4 : Int32) (y5 : Int32) (M0 : gS) (M1 : gS) (M2 : gS) (M3 : gS) (M4 : gS) (M5 : gS) (M6 : gS) (M7 : gS) (M8 : gS) (M9 : gS) => wX11_lotsByBestPlay_52  Q n y1 y2 y3 y4 y5 M0 M1 M2 M3 M4 M5 M6 M7 M8 M9) Q y1 y2 y3 y4 y5 (mg N3 4) M0 M1 M2 M3 M4 M5 M6 M7 M8 N3)))))))
def wX11_lotsByBestPlay_46  (Q : Int32 → gS → gS → gS → gS → gS → gS → gS → gS → gS → gS → Prop) (y1 : Int32) (y2 : Int32) (y3 : Int32) (M0 : gS) (M1 : gS) (M2 : gS) (M3 : gS) (M4 : gS) (M5 : gS) (M6 : gS) (M7 : gS) (M8 : gS) (M9 : gS) : Prop :=
 (∃ k52 : Nat, wX11_lotsByBestPlay_52  Q k52 y1 y2 y3 (0 : Int32) (0 : Int32) M0 M1 M2 M3 M4 M5 M6 M7 M8 M9)
def wX11_lotsByBestPlay_3  (Q : Int32 → gS → gS → gS → gS → gS → gS → gS → gS → gS → gS → Prop) : Nat → Int32 → Int32 → Int32 → Int32 → gS → gS → gS → gS → gS → gS → gS → gS → gS → gS → Prop
 | 0, _, _, _, _, _, _, _, _, _, _, _, _, _, _ => False
 | n + 1, y1, y2, y3, y4, M0, M1, M2, M3, M4, M5, M6, M7, M8, M9 => (((mg M2 0) ≤ y4 → (wX11_lotsByBestPlay_46  Q y1 y2 y3 M0 M1 M2 M3 M4 M5 M6 M7 M8 M9))
 ∧ (¬ (mg M2 0) ≤ y4 → (((4 : Int32) ≤ y4 → (wX11_lotsByBestPlay_46  Q y1 y2 y3 M0 M1 M2 M3 M4 M5 M6 M7 M8 M9))
 ∧ (¬ (4 : Int32) ≤ y4 → (wX11_startWinners y4 ((2 : Int32) * y2) M0 M1 M2 M3 M4 M5 M6 M7 M8 M9 (fun (r3 : Int64) (N4 : gS) (N5 : gS) (N6 : gS) (N7 : gS) (N8 : gS) (N9 : gS) (N10 : gS) (N11 : gS) (N12 : gS) (N13 : gS) => (vp_in y4 4 ∧ (∀ N16 : gS, N16 = sl N4 11 (Int32.toNatClampNeg y4) r3 → (∀ x17 : Int32, x17 = y4 + (1 : Int32) → (wX11_lotsByBestPlay_3  Q n y1 y2 y3 x17 N16 N5 N6 N7 N8 N9 N10 N11 N12 N13))))))))))
def wX11_lotsByBestPlay (p1 : Int32) (p2 : Int32) (p3 : Int32) (M0 : gS) (M1 : gS) (M2 : gS) (M3 : gS) (M4 : gS) (M5 : gS) (M6 : gS) (M7 : gS) (M8 : gS) (M9 : gS) (Q : Int32 → gS → gS → gS → gS → gS → gS → gS → gS → gS → gS → Prop) : Prop :=
 (∃ k3 : Nat, wX11_lotsByBestPlay_3  Q k3 p1 p2 p3 (0 : Int32) M0 M1 M2 M3 M4 M5 M6 M7 M8 M9)
def rmX11_lotsByBestPlay : Room := { frames := 5, cells := 0, slots := 0, locals := 125 }
set_option maxHeartbeats 4000000 in
set_option maxRecDepth 100000 in
theorem kX11_lotsByBestPlay (l : Launch) (dC : Nat → ClassId) (dI : Nat → Nat → Nat) (cB cI cJ cZ : ClassId) (h0 : Nat) (a0 : Nat → Nat) (a1 : Nat → Nat) (a2 : Nat → Nat) (a3 : Nat → Nat) (a4 : Nat → Nat) (a5 : Nat → Nat) (a6 : Nat → Nat) (a7 : Nat → Nat) (o7 : Option Nat) (a8 : Nat → Nat) (o8 : Option Nat) (a9 : Nat → Nat) (sz : Nat) (p1 : Int32) (p2 : Int32) (p3 : Int32) (M0 : gS) (M1 : gS) (M2 : gS) (M3 : gS) (M4 : gS) (M5 : gS) (M6 : gS) (M7 : gS) (M8 : gS) (M9 : gS) (Q : Int32 → gS → gS → gS → gS → gS → gS → gS → gS → gS → gS → Prop) (h : wX11_lotsByBestPlay p1 p2 p3 M0 M1 M2 M3 M4 M5 M6 M7 M8 M9 Q) : Met l yX11_lotsByBestPlay wsX11_lotsByBestPlay rmX11_lotsByBestPlay (va_Pc [.ref h0, .int p1, .int p2, .int p3] (lwI dC dI cB cI cJ cZ h0 a0 a1 a2 a3 a4 a5 a6 a7 o7 a8 o8 a9 M0 M1 M2 M3 M4 M5 M6 M7 M8 M9 sz)) (va_Qi (fun (r : Int32) (u : gS × gS × gS × gS × gS × gS × gS × gS × gS × gS) => Q r u.1 u.2.1 u.2.2.1 u.2.2.2.1 u.2.2.2.2.1 u.2.2.2.2.2.1 u.2.2.2.2.2.2.1 u.2.2.2.2.2.2.2.1 u.2.2.2.2.2.2.2.2.1 u.2.2.2.2.2.2.2.2.2) (lwB dC dI cB cI cJ cZ h0 a0 a1 a2 a3 a4 a5 a6 a7 a8 a9 (va_A (lwW cB cI cJ cZ h0 a0 a1 a2 a3 a4 a5 a6 a7 o7 a8 o8 a9 M0 M1 M2 M3 M4 M5 M6 M7 M8 M9) sz)) (va_A (lwW cB cI cJ cZ h0 a0 a1 a2 a3 a4 a5 a6 a7 o7 a8 o8 a9 M0 M1 M2 M3 M4 M5 M6 M7 M8 M9) sz)) 0 0 (va_A (lwW cB cI cJ cZ h0 a0 a1 a2 a3 a4 a5 a6 a7 o7 a8 o8 a9 M0 M1 M2 M3 M4 M5 M6 M7 M8 M9) sz) := by
  refine Met.ofW (cc := cX11_lotsByBestPlay) (maxL := 9) (ret := (some .int)) (by decide) rfl ?_
  intro p e s m args below meth c s₁ B hml hv
  obtain ⟨rfl, hsz, hP, hK, hD0⟩ := hv
  have hx := B.exec
  have hb := B.bytes
  have hr := B.returns
  have hts := atoms_spec (ws := wsX11_lotsByBestPlay) B.pre
  have hown : s.vm.findClass RX11 = some m.cls := findClass_of_methodNamed B.named
  have hlocks := B.notSynchronized
  subst hsz
  have hD := hD0.self (sz := s.heap.size)
  generalize hAe : va_A (lwW cB cI cJ cZ h0 a0 a1 a2 a3 a4 a5 a6 a7 o7 a8 o8 a9 M0 M1 M2 M3 M4 M5 M6 M7 M8 M9) s.heap.size = A at hD ⊢
  have hA : ∀ q : Nat, s.heap.size ≤ q → A q := fun q h => by rw [← hAe]; exact Or.inr h
  have hS : va_S A s.heap s.heap [] := va_S.rf
  have hinX1 : ∀ w ∈ wsX10, w ∈ wsX11_lotsByBestPlay := by decide +kernel
  have hinX10 : ∀ w ∈ wsX100, w ∈ wsX11_lotsByBestPlay := by decide +kernel
  have hinX11 : ∀ w ∈ wsX110, w ∈ wsX11_lotsByBestPlay := by decide +kernel
  have hinX3 : ∀ w ∈ wsX30, w ∈ wsX11_lotsByBestPlay := by decide +kernel
  have f1 := hts (.fieldLink RX11 61 "LastWords" "lot" "LLastWords$Lot;") (by decide +kernel)
  have f2 := hts (.fieldLink RX11 304 "LastWords$Lot" "first" "I") (by decide +kernel)
  have f3 := hts (.fieldLink RX11 313 "LastWords$Lot" "tune" "I") (by decide +kernel)
  have f4 := hts (.fieldLink RX11 65 "LastWords" "startWins" "[J") (by decide +kernel)
  have f5 := hts (.fieldLink RX11 307 "LastWords$Lot" "purseOfZero" "I") (by decide +kernel)
  have f6 := hts (.fieldLink RX11 310 "LastWords$Lot" "purseOfOne" "I") (by decide +kernel)
  have f7 := hts (.fieldLink RX11 22 "LastWords" "now" "LLastWords$State;") (by decide +kernel)
  have f8 := hts (.fieldLink RX11 108 "LastWords$State" "corner" "LLastWords$Corner;") (by decide +kernel)
  have f9 := hts (.fieldLink RX11 95 "LastWords$Corner" "tunes" "I") (by decide +kernel)
  have b198 : ∀ (B52 : Int32 → Int32 → Int32 → Int32 → Int32 → gS → gS → gS → gS → gS → gS → gS → gS → gS → gS → Prop) (hB52 : ∀ (y1 : Int32) (y2 : Int32) (y3 : Int32) (y4 : Int32) (y5 : Int32) (o7 o8 : Option Nat) (M0 : gS) (M1 : gS) (M2 : gS) (M3 : gS) (M4 : gS) (M5 : gS) (M6 : gS) (M7 : gS) (M8 : gS) (M9 : gS) (H : Heap) (locs : List Loc) (ls : Array Slot), va_P (dC, dI) vwCl (lwW cB cI cJ cZ h0 a0 a1 a2 a3 a4 a5 a6 a7 o7 a8 o8 a9 M0 M1 M2 M3 M4 M5 M6 M7 M8 M9) H → va_D A (lwW cB cI cJ cZ h0 a0 a1 a2 a3 a4 a5 a6 a7 o7 a8 o8 a9 M0 M1 M2 M3 M4 M5 M6 M7 M8 M9) → va_S A s.heap H locs → lv_has ls 9 [(0, .ref h0), (1, .int y1), (2, .int y2), (3, .int y3), (4, .int y4), (5, .int y5)] → B52 y1 y2 y3 y4 y5 M0 M1 M2 M3 M4 M5 M6 M7 M8 M9 → W p l e (headSpec wsX11_lotsByBestPlay rmX11_lotsByBestPlay).room s m ([.ref h0, .int p1, .int p2, .int p3] : List Value).toArray below meth c H locs 0 0 (MQ below (va_Qi (fun (r : Int32) (u : gS × gS × gS × gS × gS × gS × gS × gS × gS × gS) => Q r u.1 u.2.1 u.2.2.1 u.2.2.2.1 u.2.2.2.2.1 u.2.2.2.2.2.1 u.2.2.2.2.2.2.1 u.2.2.2.2.2.2.2.1 u.2.2.2.2.2.2.2.2.1 u.2.2.2.2.2.2.2.2.2) (lwB dC dI cB cI cJ cZ h0 a0 a1 a2 a3 a4 a5 a6 a7 a8 a9 A) A) ([.ref h0, .int p1, .int p2, .int p3] : List Value).toArray s 0 0 A) (F0 m 52 ls [])) (y1 : Int32) (y2 : Int32) (y3 : Int32) (y4 : Int32) (y5 : Int32) (o7 o8 : Option Nat) (M0 : gS) (M1 : gS) (M2 : gS) (M3 : gS) (M4 : gS) (M5 : gS) (M6 : gS) (M7 : gS) (M8 : gS) (M9 : gS) (H : Heap) (locs : List Loc) (ls : Array Slot), va_P (dC, dI) vwCl (lwW cB cI cJ cZ h0 a0 a1 a2 a3 a4 a5 a6 a7 o7 a8 o8 a9 M0 M1 M2 M3 M4 M5 M6 M7 M8 M9) H → va_D A (lwW cB cI cJ cZ h0 a0 a1 a2 a3 a4 a5 a6 a7 o7 a8 o8 a9 M0 M1 M2 M3 M4 M5 M6 M7 M8 M9) → va_S A s.heap H locs → lv_has ls 9 [(0, .ref h0), (1, .int y1), (2, .int y2), (3, .int y3), (4, .int y4), (5, .int y5)] → wX11_lotsByBestPlay_198 B52 Q y1 y2 y3 y4 y5 M0 M1 M2 M3 M4 M5 M6 M7 M8 M9 → W p l e (headSpec wsX11_lotsByBestPlay rmX11_lotsByBestPlay).room s m ([.ref h0, .int p1, .int p2, .int p3] : List Value).toArray below meth c H locs 0 0 (MQ below (va_Qi (fun (r : Int32) (u : gS × gS × gS × gS × gS × gS × gS × gS × gS × gS) => Q r u.1 u.2.1 u.2.2.1 u.2.2.2.1 u.2.2.2.2.1 u.2.2.2.2.2.1 u.2.2.2.2.2.2.1 u.2.2.2.2.2.2.2.1 u.2.2.2.2.2.2.2.2.1 u.2.2.2.2.2.2.2.2.2) (lwB dC dI cB cI cJ cZ h0 a0 a1 a2 a3 a4 a5 a6 a7 a8 a9 A) A) ([.ref h0, .int p1, .int p2, .int p3] : List Value).toArray s 0 0 A) (F0 m 198 ls []) := by
    intro B52 hB52 y1 y2 y3 y4 y5 o7 o8  M0 M1 M2 M3 M4 M5 M6 M7 M8 M9 H locs ls hP hD hS hl h
    unfold wX11_lotsByBestPlay_198 at h
    obtain ⟨x1, ex1⟩ : ∃ y : Int32, y = y5 + (1 : Int32) := ⟨_, rfl⟩
    have h := h x1 ex1
    refine lv_iinc (v := x1) (lv' := [(5, .int x1), (0, .ref h0), (1, .int y1), (2, .int y2), (3, .int y3), (4, .int y4)]) hx hb dX11_lotsByBestPlay_198 hl (k := 5) rfl (by rw [ex1]; rfl) (by decide) rfl (fun ls hl => ?_)
    refine lv_goto (tgt := 52) hx hb dX11_lotsByBestPlay_201 (by decide) ?_
    exact hB52 y1 y2 y3 y4 x1 o7 o8 M0 M1 M2 M3 M4 M5 M6 M7 M8 M9 H locs ls hP hD hS (lv_sub hl [1, 2, 3, 4, 5, 0] rfl) h
  have b192 : ∀ (B52 : Int32 → Int32 → Int32 → Int32 → Int32 → gS → gS → gS → gS → gS → gS → gS → gS → gS → gS → Prop) (hB52 : ∀ (y1 : Int32) (y2 : Int32) (y3 : Int32) (y4 : Int32) (y5 : Int32) (o7 o8 : Option Nat) (M0 : gS) (M1 : gS) (M2 : gS) (M3 : gS) (M4 : gS) (M5 : gS) (M6 : gS) (M7 : gS) (M8 : gS) (M9 : gS) (H : Heap) (locs : List Loc) (ls : Array Slot), va_P (dC, dI) vwCl (lwW cB cI cJ cZ h0 a0 a1 a2 a3 a4 a5 a6 a7 o7 a8 o8 a9 M0 M1 M2 M3 M4 M5 M6 M7 M8 M9) H → va_D A (lwW cB cI cJ cZ h0 a0 a1 a2 a3 a4 a5 a6 a7 o7 a8 o8 a9 M0 M1 M2 M3 M4 M5 M6 M7 M8 M9) → va_S A s.heap H locs → lv_has ls 9 [(0, .ref h0), (1, .int y1), (2, .int y2), (3, .int y3), (4, .int y4), (5, .int y5)] → B52 y1 y2 y3 y4 y5 M0 M1 M2 M3 M4 M5 M6 M7 M8 M9 → W p l e (headSpec wsX11_lotsByBestPlay rmX11_lotsByBestPlay).room s m ([.ref h0, .int p1, .int p2, .int p3] : List Value).toArray below meth c H locs 0 0 (MQ below (va_Qi (fun (r : Int32) (u : gS × gS × gS × gS × gS × gS × gS × gS × gS × gS) => Q r u.1 u.2.1 u.2.2.1 u.2.2.2.1 u.2.2.2.2.1 u.2.2.2.2.2.1 u.2.2.2.2.2.2.1 u.2.2.2.2.2.2.2.1 u.2.2.2.2.2.2.2.2.1 u.2.2.2.2.2.2.2.2.2) (lwB dC dI cB cI cJ cZ h0 a0 a1 a2 a3 a4 a5 a6 a7 a8 a9 A) A) ([.ref h0, .int p1, .int p2, .int p3] : List Value).toArray s 0 0 A) (F0 m 52 ls [])) (y1 : Int32) (y2 : Int32) (y3 : Int32) (y4 : Int32) (y5 : Int32) (z1 : Int32) (z0 : Int32) (o7 o8 : Option Nat) (M0 : gS) (M1 : gS) (M2 : gS) (M3 : gS) (M4 : gS) (M5 : gS) (M6 : gS) (M7 : gS) (M8 : gS) (M9 : gS) (H : Heap) (locs : List Loc) (ls : Array Slot), va_P (dC, dI) vwCl (lwW cB cI cJ cZ h0 a0 a1 a2 a3 a4 a5 a6 a7 o7 a8 o8 a9 M0 M1 M2 M3 M4 M5 M6 M7 M8 M9) H → va_D A (lwW cB cI cJ cZ h0 a0 a1 a2 a3 a4 a5 a6 a7 o7 a8 o8 a9 M0 M1 M2 M3 M4 M5 M6 M7 M8 M9) → va_S A s.heap H locs → lv_has ls 9 [(0, .ref h0), (1, .int y1), (2, .int y2), (3, .int y3), (4, .int y4), (5, .int y5)] → wX11_lotsByBestPlay_192 B52 Q y1 y2 y3 y4 y5 z1 z0 M0 M1 M2 M3 M4 M5 M6 M7 M8 M9 → W p l e (headSpec wsX11_lotsByBestPlay rmX11_lotsByBestPlay).room s m ([.ref h0, .int p1, .int p2, .int p3] : List Value).toArray below meth c H locs 0 0 (MQ below (va_Qi (fun (r : Int32) (u : gS × gS × gS × gS × gS × gS × gS × gS × gS × gS) => Q r u.1 u.2.1 u.2.2.1 u.2.2.2.1 u.2.2.2.2.1 u.2.2.2.2.2.1 u.2.2.2.2.2.2.1 u.2.2.2.2.2.2.2.1 u.2.2.2.2.2.2.2.2.1 u.2.2.2.2.2.2.2.2.2) (lwB dC dI cB cI cJ cZ h0 a0 a1 a2 a3 a4 a5 a6 a7 a8 a9 A) A) ([.ref h0, .int p1, .int p2, .int p3] : List Value).toArray s 0 0 A) (F0 m 192 ls [.int z0, .int z1]) := by
    intro B52 hB52 y1 y2 y3 y4 y5 z1 z0 o7 o8  M0 M1 M2 M3 M4 M5 M6 M7 M8 M9 H locs ls hP hD hS hl h
    unfold wX11_lotsByBestPlay_192 at h
    refine lv_icmp_ne (tgt := 198) hx hb dX11_lotsByBestPlay_192 (by decide) (fun c1 => ?_) (fun c1 => ?_)
    · have h := h.2 c1
      exact b198 _ hB52 y1 y2 y3 y4 y5 o7 o8 M0 M1 M2 M3 M4 M5 M6 M7 M8 M9 H locs ls hP hD hS (lv_sub hl [0, 1, 2, 3, 4, 5] rfl) h
    · have h := h.1 c1
      obtain ⟨x2, ex2⟩ : ∃ y : Int32, y = y4 + (1 : Int32) := ⟨_, rfl⟩
      have h := h x2 ex2
      refine lv_iinc (v := x2) (lv' := [(4, .int x2), (0, .ref h0), (1, .int y1), (2, .int y2), (3, .int y3), (5, .int y5)]) hx hb dX11_lotsByBestPlay_195 hl (k := 4) rfl (by rw [ex2]; rfl) (by decide) rfl (fun ls hl => ?_)
      exact b198 _ hB52 y1 y2 y3 x2 y5 o7 o8 M0 M1 M2 M3 M4 M5 M6 M7 M8 M9 H locs ls hP hD hS (lv_sub hl [1, 2, 3, 4, 0, 5] rfl) h
  have b172 : ∀ (B52 : Int32 → Int32 → Int32 → Int32 → Int32 → gS → gS → gS → gS → gS → gS → gS → gS → gS → gS → Prop) (hB52 : ∀ (y1 : Int32) (y2 : Int32) (y3 : Int32) (y4 : Int32) (y5 : Int32) (o7 o8 : Option Nat) (M0 : gS) (M1 : gS) (M2 : gS) (M3 : gS) (M4 : gS) (M5 : gS) (M6 : gS) (M7 : gS) (M8 : gS) (M9 : gS) (H : Heap) (locs : List Loc) (ls : Array Slot), va_P (dC, dI) vwCl (lwW cB cI cJ cZ h0 a0 a1 a2 a3 a4 a5 a6 a7 o7 a8 o8 a9 M0 M1 M2 M3 M4 M5 M6 M7 M8 M9) H → va_D A (lwW cB cI cJ cZ h0 a0 a1 a2 a3 a4 a5 a6 a7 o7 a8 o8 a9 M0 M1 M2 M3 M4 M5 M6 M7 M8 M9) → va_S A s.heap H locs → lv_has ls 9 [(0, .ref h0), (1, .int y1), (2, .int y2), (3, .int y3), (4, .int y4), (5, .int y5)] → B52 y1 y2 y3 y4 y5 M0 M1 M2 M3 M4 M5 M6 M7 M8 M9 → W p l e (headSpec wsX11_lotsByBestPlay rmX11_lotsByBestPlay).room s m ([.ref h0, .int p1, .int p2, .int p3] : List Value).toArray below meth c H locs 0 0 (MQ below (va_Qi (fun (r : Int32) (u : gS × gS × gS × gS × gS × gS × gS × gS × gS × gS) => Q r u.1 u.2.1 u.2.2.1 u.2.2.2.1 u.2.2.2.2.1 u.2.2.2.2.2.1 u.2.2.2.2.2.2.1 u.2.2.2.2.2.2.2.1 u.2.2.2.2.2.2.2.2.1 u.2.2.2.2.2.2.2.2.2) (lwB dC dI cB cI cJ cZ h0 a0 a1 a2 a3 a4 a5 a6 a7 a8 a9 A) A) ([.ref h0, .int p1, .int p2, .int p3] : List Value).toArray s 0 0 A) (F0 m 52 ls [])) (y1 : Int32) (y2 : Int32) (y3 : Int32) (y4 : Int32) (y5 : Int32) (z0 : Int32) (o7 o8 : Option Nat) (M0 : gS) (M1 : gS) (M2 : gS) (M3 : gS) (M4 : gS) (M5 : gS) (M6 : gS) (M7 : gS) (M8 : gS) (M9 : gS) (H : Heap) (locs : List Loc) (ls : Array Slot), va_P (dC, dI) vwCl (lwW cB cI cJ cZ h0 a0 a1 a2 a3 a4 a5 a6 a7 o7 a8 o8 a9 M0 M1 M2 M3 M4 M5 M6 M7 M8 M9) H → va_D A (lwW cB cI cJ cZ h0 a0 a1 a2 a3 a4 a5 a6 a7 o7 a8 o8 a9 M0 M1 M2 M3 M4 M5 M6 M7 M8 M9) → va_S A s.heap H locs → lv_has ls 9 [(0, .ref h0), (1, .int y1), (2, .int y2), (3, .int y3), (4, .int y4), (5, .int y5)] → wX11_lotsByBestPlay_172 B52 Q y1 y2 y3 y4 y5 z0 M0 M1 M2 M3 M4 M5 M6 M7 M8 M9 → W p l e (headSpec wsX11_lotsByBestPlay rmX11_lotsByBestPlay).room s m ([.ref h0, .int p1, .int p2, .int p3] : List Value).toArray below meth c H locs 0 0 (MQ below (va_Qi (fun (r : Int32) (u : gS × gS × gS × gS × gS × gS × gS × gS × gS × gS) => Q r u.1 u.2.1 u.2.2.1 u.2.2.2.1 u.2.2.2.2.1 u.2.2.2.2.2.1 u.2.2.2.2.2.2.1 u.2.2.2.2.2.2.2.1 u.2.2.2.2.2.2.2.2.1 u.2.2.2.2.2.2.2.2.2) (lwB dC dI cB cI cJ cZ h0 a0 a1 a2 a3 a4 a5 a6 a7 a8 a9 A) A) ([.ref h0, .int p1, .int p2, .int p3] : List Value).toArray s 0 0 A) (F0 m 172 ls [.int z0]) := by
    intro B52 hB52 y1 y2 y3 y4 y5 z0 o7 o8  M0 M1 M2 M3 M4 M5 M6 M7 M8 M9 H locs ls hP hD hS hl h
    unfold wX11_lotsByBestPlay_172 at h
    refine lv_istore (lv' := [(8, .int z0), (0, .ref h0), (1, .int y1), (2, .int y2), (3, .int y3), (4, .int y4), (5, .int y5)]) hx hb dX11_lotsByBestPlay_172 hl (by decide) rfl (fun ls hl => ?_)
    refine lv_iload hx hb dX11_lotsByBestPlay_174 (lv_at hl 0 rfl) ?_
    refine lv_aload_n hx hb dX11_lotsByBestPlay_176 rfl (lv_at hl 1 rfl) ?_
    refine va_get (D := (dC, dI)) (ci := 11) (v := .ref (a0 10)) (C := RX11) (T := TX11) (N := 12) hx hb hts hinX11 hown hK hP 0 rfl rfl 10 (by decide) f1 (fun _ h9 => h9) rfl dX11_lotsByBestPlay_177 ?_
    refine va_get (D := (dC, dI)) (ci := 3) (v := .int (mg M9 2)) (C := RX3) (T := TX3) (N := 5) hx hb hts hinX3 hown hK hP 33 rfl rfl 2 (by decide) f2 (fun _ h9 => h9) rfl dX11_lotsByBestPlay_180 ?_
    refine lv_iload_n hx hb dX11_lotsByBestPlay_183 rfl (lv_at hl 4 rfl) ?_
    refine lv_icmp_ne (tgt := 191) hx hb dX11_lotsByBestPlay_184 (by decide) (fun c1 => ?_) (fun c1 => ?_)
    · have h := h.2 c1
      refine lv_iconst (v := 0) hx hb dX11_lotsByBestPlay_191 (by decide) ?_
      exact b192 _ hB52 y1 y2 y3 y4 y5 z0 (0 : Int32) o7 o8 M0 M1 M2 M3 M4 M5 M6 M7 M8 M9 H locs ls hP hD hS (lv_sub hl [1, 2, 3, 4, 5, 6] rfl) h
    · have h := h.1 c1
      refine lv_iconst (v := 1) hx hb dX11_lotsByBestPlay_187 (by decide) ?_
      refine lv_goto (tgt := 192) hx hb dX11_lotsByBestPlay_188 (by decide) ?_
      exact b192 _ hB52 y1 y2 y3 y4 y5 z0 (1 : Int32) o7 o8 M0 M1 M2 M3 M4 M5 M6 M7 M8 M9 H locs ls hP hD hS (lv_sub hl [1, 2, 3, 4, 5, 6] rfl) h
  have b171 : ∀ (B52 : Int32 → Int32 → Int32 → Int32 → Int32 → gS → gS → gS → gS → gS → gS → gS → gS → gS → gS → Prop) (hB52 : ∀ (y1 : Int32) (y2 : Int32) (y3 : Int32) (y4 : Int32) (y5 : Int32) (o7 o8 : Option Nat) (M0 : gS) (M1 : gS) (M2 : gS) (M3 : gS) (M4 : gS) (M5 : gS) (M6 : gS) (M7 : gS) (M8 : gS) (M9 : gS) (H : Heap) (locs : List Loc) (ls : Array Slot), va_P (dC, dI) vwCl (lwW cB cI cJ cZ h0 a0 a1 a2 a3 a4 a5 a6 a7 o7 a8 o8 a9 M0 M1 M2 M3 M4 M5 M6 M7 M8 M9) H → va_D A (lwW cB cI cJ cZ h0 a0 a1 a2 a3 a4 a5 a6 a7 o7 a8 o8 a9 M0 M1 M2 M3 M4 M5 M6 M7 M8 M9) → va_S A s.heap H locs → lv_has ls 9 [(0, .ref h0), (1, .int y1), (2, .int y2), (3, .int y3), (4, .int y4), (5, .int y5)] → B52 y1 y2 y3 y4 y5 M0 M1 M2 M3 M4 M5 M6 M7 M8 M9 → W p l e (headSpec wsX11_lotsByBestPlay rmX11_lotsByBestPlay).room s m ([.ref h0, .int p1, .int p2, .int p3] : List Value).toArray below meth c H locs 0 0 (MQ below (va_Qi (fun (r : Int32) (u : gS × gS × gS × gS × gS × gS × gS × gS × gS × gS) => Q r u.1 u.2.1 u.2.2.1 u.2.2.2.1 u.2.2.2.2.1 u.2.2.2.2.2.1 u.2.2.2.2.2.2.1 u.2.2.2.2.2.2.2.1 u.2.2.2.2.2.2.2.2.1 u.2.2.2.2.2.2.2.2.2) (lwB dC dI cB cI cJ cZ h0 a0 a1 a2 a3 a4 a5 a6 a7 a8 a9 A) A) ([.ref h0, .int p1, .int p2, .int p3] : List Value).toArray s 0 0 A) (F0 m 52 ls [])) (y1 : Int32) (y2 : Int32) (y3 : Int32) (y4 : Int32) (y5 : Int32) (o7 o8 : Option Nat) (M0 : gS) (M1 : gS) (M2 : gS) (M3 : gS) (M4 : gS) (M5 : gS) (M6 : gS) (M7 : gS) (M8 : gS) (M9 : gS) (H : Heap) (locs : List Loc) (ls : Array Slot), va_P (dC, dI) vwCl (lwW cB cI cJ cZ h0 a0 a1 a2 a3 a4 a5 a6 a7 o7 a8 o8 a9 M0 M1 M2 M3 M4 M5 M6 M7 M8 M9) H → va_D A (lwW cB cI cJ cZ h0 a0 a1 a2 a3 a4 a5 a6 a7 o7 a8 o8 a9 M0 M1 M2 M3 M4 M5 M6 M7 M8 M9) → va_S A s.heap H locs → lv_has ls 9 [(0, .ref h0), (1, .int y1), (2, .int y2), (3, .int y3), (4, .int y4), (5, .int y5)] → wX11_lotsByBestPlay_171 B52 Q y1 y2 y3 y4 y5 M0 M1 M2 M3 M4 M5 M6 M7 M8 M9 → W p l e (headSpec wsX11_lotsByBestPlay rmX11_lotsByBestPlay).room s m ([.ref h0, .int p1, .int p2, .int p3] : List Value).toArray below meth c H locs 0 0 (MQ below (va_Qi (fun (r : Int32) (u : gS × gS × gS × gS × gS × gS × gS × gS × gS × gS) => Q r u.1 u.2.1 u.2.2.1 u.2.2.2.1 u.2.2.2.2.1 u.2.2.2.2.2.1 u.2.2.2.2.2.2.1 u.2.2.2.2.2.2.2.1 u.2.2.2.2.2.2.2.2.1 u.2.2.2.2.2.2.2.2.2) (lwB dC dI cB cI cJ cZ h0 a0 a1 a2 a3 a4 a5 a6 a7 a8 a9 A) A) ([.ref h0, .int p1, .int p2, .int p3] : List Value).toArray s 0 0 A) (F0 m 171 ls []) := by
    intro B52 hB52 y1 y2 y3 y4 y5 o7 o8  M0 M1 M2 M3 M4 M5 M6 M7 M8 M9 H locs ls hP hD hS hl h
    unfold wX11_lotsByBestPlay_171 at h
    refine lv_iconst (v := 0) hx hb dX11_lotsByBestPlay_171 (by decide) ?_
    exact b172 _ hB52 y1 y2 y3 y4 y5 (0 : Int32) o7 o8 M0 M1 M2 M3 M4 M5 M6 M7 M8 M9 H locs ls hP hD hS (lv_sub hl [0, 1, 2, 3, 4, 5] rfl) h
  have b132 : ∀ (B52 : Int32 → Int32 → Int32 → Int32 → Int32 → gS → gS → gS → gS → gS → gS → gS → gS → gS → gS → Prop) (hB52 : ∀ (y1 : Int32) (y2 : Int32) (y3 : Int32) (y4 : Int32) (y5 : Int32) (o7 o8 : Option Nat) (M0 : gS) (M1 : gS) (M2 : gS) (M3 : gS) (M4 : gS) (M5 : gS) (M6 : gS) (M7 : gS) (M8 : gS) (M9 : gS) (H : Heap) (locs : List Loc) (ls : Array Slot), va_P (dC, dI) vwCl (lwW cB cI cJ cZ h0 a0 a1 a2 a3 a4 a5 a6 a7 o7 a8 o8 a9 M0 M1 M2 M3 M4 M5 M6 M7 M8 M9) H → va_D A (lwW cB cI cJ cZ h0 a0 a1 a2 a3 a4 a5 a6 a7 o7 a8 o8 a9 M0 M1 M2 M3 M4 M5 M6 M7 M8 M9) → va_S A s.heap H locs → lv_has ls 9 [(0, .ref h0), (1, .int y1), (2, .int y2), (3, .int y3), (4, .int y4), (5, .int y5)] → B52 y1 y2 y3 y4 y5 M0 M1 M2 M3 M4 M5 M6 M7 M8 M9 → W p l e (headSpec wsX11_lotsByBestPlay rmX11_lotsByBestPlay).room s m ([.ref h0, .int p1, .int p2, .int p3] : List Value).toArray below meth c H locs 0 0 (MQ below (va_Qi (fun (r : Int32) (u : gS × gS × gS × gS × gS × gS × gS × gS × gS × gS) => Q r u.1 u.2.1 u.2.2.1 u.2.2.2.1 u.2.2.2.2.1 u.2.2.2.2.2.1 u.2.2.2.2.2.2.1 u.2.2.2.2.2.2.2.1 u.2.2.2.2.2.2.2.2.1 u.2.2.2.2.2.2.2.2.2) (lwB dC dI cB cI cJ cZ h0 a0 a1 a2 a3 a4 a5 a6 a7 a8 a9 A) A) ([.ref h0, .int p1, .int p2, .int p3] : List Value).toArray s 0 0 A) (F0 m 52 ls [])) (y1 : Int32) (y2 : Int32) (y3 : Int32) (y4 : Int32) (y5 : Int32) (y6 : Int32) (z0 : Int32) (o7 o8 : Option Nat) (M0 : gS) (M1 : gS) (M2 : gS) (M3 : gS) (M4 : gS) (M5 : gS) (M6 : gS) (M7 : gS) (M8 : gS) (M9 : gS) (H : Heap) (locs : List Loc) (ls : Array Slot), va_P (dC, dI) vwCl (lwW cB cI cJ cZ h0 a0 a1 a2 a3 a4 a5 a6 a7 o7 a8 o8 a9 M0 M1 M2 M3 M4 M5 M6 M7 M8 M9) H → va_D A (lwW cB cI cJ cZ h0 a0 a1 a2 a3 a4 a5 a6 a7 o7 a8 o8 a9 M0 M1 M2 M3 M4 M5 M6 M7 M8 M9) → va_S A s.heap H locs → lv_has ls 9 [(0, .ref h0), (1, .int y1), (2, .int y2), (3, .int y3), (4, .int y4), (5, .int y5), (6, .int y6)] → wX11_lotsByBestPlay_132 B52 Q y1 y2 y3 y4 y5 y6 z0 M0 M1 M2 M3 M4 M5 M6 M7 M8 M9 → W p l e (headSpec wsX11_lotsByBestPlay rmX11_lotsByBestPlay).room s m ([.ref h0, .int p1, .int p2, .int p3] : List Value).toArray below meth c H locs 0 0 (MQ below (va_Qi (fun (r : Int32) (u : gS × gS × gS × gS × gS × gS × gS × gS × gS × gS) => Q r u.1 u.2.1 u.2.2.1 u.2.2.2.1 u.2.2.2.2.1 u.2.2.2.2.2.1 u.2.2.2.2.2.2.1 u.2.2.2.2.2.2.2.1 u.2.2.2.2.2.2.2.2.1 u.2.2.2.2.2.2.2.2.2) (lwB dC dI cB cI cJ cZ h0 a0 a1 a2 a3 a4 a5 a6 a7 a8 a9 A) A) ([.ref h0, .int p1, .int p2, .int p3] : List Value).toArray s 0 0 A) (F0 m 132 ls [.int z0]) := by
    intro B52 hB52 y1 y2 y3 y4 y5 y6 z0 o7 o8  M0 M1 M2 M3 M4 M5 M6 M7 M8 M9 H locs ls hP hD hS hl h
    unfold wX11_lotsByBestPlay_132 at h
    refine lv_istore (lv' := [(7, .int z0), (0, .ref h0), (1, .int y1), (2, .int y2), (3, .int y3), (4, .int y4), (5, .int y5), (6, .int y6)]) hx hb dX11_lotsByBestPlay_132 hl (by decide) rfl (fun ls hl => ?_)
    refine lv_aload_n hx hb dX11_lotsByBestPlay_134 rfl (lv_at hl 1 rfl) ?_
    refine va_get (D := (dC, dI)) (ci := 11) (v := .ref (a0 10)) (C := RX11) (T := TX11) (N := 12) hx hb hts hinX11 hown hK hP 0 rfl rfl 10 (by decide) f1 (fun _ h9 => h9) rfl dX11_lotsByBestPlay_135 ?_
    refine va_get (D := (dC, dI)) (ci := 3) (v := .int (mg M9 1)) (C := RX3) (T := TX3) (N := 5) hx hb hts hinX3 hown hK hP 33 rfl rfl 1 (by decide) f3 (fun _ h9 => h9) rfl dX11_lotsByBestPlay_138 ?_
    refine lv_iconst (v := 4) hx hb dX11_lotsByBestPlay_141 (by decide) ?_
    refine lv_icmp_ge (tgt := 171) hx hb dX11_lotsByBestPlay_142 (by decide) (fun c1 => ?_) (fun c1 => ?_)
    · have h := h.1 c1
      exact b171 _ hB52 y1 y2 y3 y4 y5 o7 o8 M0 M1 M2 M3 M4 M5 M6 M7 M8 M9 H locs ls hP hD hS (lv_sub hl [1, 2, 3, 4, 5, 6] rfl) h
    · have h := h.2 c1
      refine lv_aload_n hx hb dX11_lotsByBestPlay_145 rfl (lv_at hl 1 rfl) ?_
      refine va_get (D := (dC, dI)) (ci := 11) (v := .ref (a0 11)) (C := RX11) (T := TX11) (N := 12) hx hb hts hinX11 hown hK hP 0 rfl rfl 11 (by decide) f4 (fun _ h9 => h9) rfl dX11_lotsByBestPlay_146 ?_
      refine lv_aload_n hx hb dX11_lotsByBestPlay_149 rfl (lv_at hl 1 rfl) ?_
      refine va_get (D := (dC, dI)) (ci := 11) (v := .ref (a0 10)) (C := RX11) (T := TX11) (N := 12) hx hb hts hinX11 hown hK hP 0 rfl rfl 10 (by decide) f1 (fun _ h9 => h9) rfl dX11_lotsByBestPlay_150 ?_
      refine va_get (D := (dC, dI)) (ci := 3) (v := .int (mg M9 1)) (C := RX3) (T := TX3) (N := 5) hx hb hts hinX3 hown hK hP 33 rfl rfl 1 (by decide) f3 (fun _ h9 => h9) rfl dX11_lotsByBestPlay_153 ?_
      refine va_lald hx hb hK hP 2 2 (f := ml M0 11) rfl rfl h.1 dX11_lotsByBestPlay_156 ?_
      have h := h.2
      refine lv_iload hx hb dX11_lotsByBestPlay_157 (lv_at hl 7 rfl) ?_
      refine lv_iload hx hb dX11_lotsByBestPlay_159 (lv_at hl 0 rfl) ?_
      have hPc := hP.sub (ws' := (e0W cB cI cJ cZ  )) [] rfl
      have hDc := hD.sub (ws' := (e0W cB cI cJ cZ  )) [] (by decide) rfl
      have hFc := va_free (wc := (e0W cB cI cJ cZ  )) hD hS hA [] rfl
      refine va_calli (va_runS (As := [.long (ml M0 11 (Int32.toNatClampNeg (mg M9 1))), .int y6, .int z0]) (rest := []) ⟨hx, hb, hml, hown, hts⟩ (kX0_holds l dC dI cB cI cJ cZ  H.size (ml M0 11 (Int32.toNatClampNeg (mg M9 1))) y6 z0  _ h) (va_cwS 3 hts gX11_lotsByBestPlay_X0_holds rfl rfl rfl (by decide +kernel) ⟨Nat.le_of_ble_eq_true rfl, Nat.le_of_ble_eq_true rfl⟩) (e0pS hK hPc hDc) rfl rfl hl.1 rfl (lv_room (Nat.le_of_ble_eq_true rfl)) dX11_lotsByBestPlay_161 ⟨Nat.le_of_ble_eq_true rfl, Nat.le_of_ble_eq_true rfl⟩) hS (fun q _ z => hFc q z) hFc (fun r2 u t H1 locs ht hvm hw hB hz1 hk1 hS => ?_)
      obtain ⟨hP1, hK1, hD1⟩ := hB
      rw [ht] at hP1
      obtain ⟨hP, hD⟩ := va_join (wr := [(h0, .inr (11, [.ref (a0 0), .int (mg M0 1), .ref (a0 2), .int (mg M0 3), .ref (a0 4), .ref (a0 5), .ref (a0 6), .ref (a0 7), .ref (a0 8), .ref (a0 9), .ref (a0 10), .ref (a0 11)])), (a0 0, .inl (cI, 400, .inl (ma M0 0))), (a0 11, .inl (cJ, 4, .inr (.inl (ml M0 11)))), (a0 4, .inr (10, [.ref (a1 0), .ref (a1 1), .ref (a1 2), .ref (a1 3), .int (mg M1 4)])), (a1 3, .inl (cI, 2, .inl (ma M1 3))), (a1 0, .inr (1, [.int (mg M2 0), .ref (a2 1), .int (mg M2 2), .ref (a2 3), .int (mg M2 4), .ref (a2 5)])), (a2 1, .inl (cI, 4, .inl (ma M2 1))), (a2 3, .inl (cI, 4, .inl (ma M2 3))), (a2 5, .inl (cI, 2, .inl (ma M2 5))), (a1 1, .inr (6, [.int (mg M3 0), .int (mg M3 1), .int (mg M3 2), .int (mg M3 3), .int (mg M3 4), .int (mg M3 5), .int (mg M3 6), .ref (a3 7), .ref (a3 8), .ref (a3 9)])), (a3 7, .inl (cI, 2, .inl (ma M3 7))), (a3 8, .inl (cI, 2, .inl (ma M3 8))), (a3 9, .inl (cI, 2, .inl (ma M3 9))), (a1 2, .inr (4, [.int (mg M4 0), .ref (a4 1), .ref (a4 2), .ref (a4 3)])), (a4 1, .inl (cI, 6, .inl (ma M4 1))), (a4 2, .inl (cI, 6, .inl (ma M4 2))), (a4 3, .inl (cI, 6, .inl (ma M4 3))), (a0 6, .inr (1, [.int (mg M5 0), .ref (a5 1), .int (mg M5 2), .ref (a5 3), .int (mg M5 4), .ref (a5 5)])), (a5 1, .inl (cI, 4, .inl (ma M5 1))), (a5 3, .inl (cI, 4, .inl (ma M5 3))), (a5 5, .inl (cI, 2, .inl (ma M5 5))), (a0 7, .inr (6, [.int (mg M6 0), .int (mg M6 1), .int (mg M6 2), .int (mg M6 3), .int (mg M6 4), .int (mg M6 5), .int (mg M6 6), .ref (a6 7), .ref (a6 8), .ref (a6 9)])), (a6 7, .inl (cI, 2, .inl (ma M6 7))), (a6 8, .inl (cI, 2, .inl (ma M6 8))), (a6 9, .inl (cI, 2, .inl (ma M6 9))), (a0 8, .inr (0, [.ref (a7 0), .ref (a7 1), .ref (a7 2), .ref (a7 3), .int (mg M7 4), va_rf o7, .int (mg M7 6), .int (mg M7 7), .int (mg M7 8), .int (mg M7 9), .int (mg M7 10)])), (a7 0, .inl (cJ, 15, .inr (.inl (ml M7 0)))), (a7 1, .inl (cJ, 800, .inr (.inl (ml M7 1)))), (a7 2, .inl (cI, 4, .inl (ma M7 2))), (a7 3, .inl (cJ, 4, .inr (.inl (ml M7 3)))), (a0 9, .inr (5, [.ref (a8 0), .ref (a8 1), va_rf o8, .int (mg M8 3)])), (a8 0, .inl (cI, 2048, .inl (ma M8 0))), (a8 1, .inl (cI, 2048, .inl (ma M8 1))), (a0 10, .inr (3, [.int (mg M9 0), .int (mg M9 1), .int (mg M9 2), .int (mg M9 3), .int (mg M9 4)]))]) (w1 := (e0W cB cI cJ cZ  )) hP hD [] [0, 1, 2, 3, 4, 5, 6, 7, 8, 9, 10, 11, 12, 13, 14, 15, 16, 17, 18, 19, 20, 21, 22, 23, 24, 25, 26, 27, 28, 29, 30, 31, 32, 33] rfl rfl (by decide) (by decide) hk1 hFc hP1 hD1
      have hP := hP.sub (ws' := (lwW cB cI cJ cZ h0 a0 a1 a2 a3 a4 a5 a6 a7 o7 a8 o8 a9 M0 M1 M2 M3 M4 M5 M6 M7 M8 M9)) [0, 1, 2, 3, 4, 5, 6, 7, 8, 9, 10, 11, 12, 13, 14, 15, 16, 17, 18, 19, 20, 21, 22, 23, 24, 25, 26, 27, 28, 29, 30, 31, 32, 33] rfl
      have hD := hD.sub (ws' := (lwW cB cI cJ cZ h0 a0 a1 a2 a3 a4 a5 a6 a7 o7 a8 o8 a9 M0 M1 M2 M3 M4 M5 M6 M7 M8 M9)) [0, 1, 2, 3, 4, 5, 6, 7, 8, 9, 10, 11, 12, 13, 14, 15, 16, 17, 18, 19, 20, 21, 22, 23, 24, 25, 26, 27, 28, 29, 30, 31, 32, 33] (by decide) rfl
      generalize H1 = H at hP hS ⊢
      obtain ⟨b3, rfl, h⟩ := hw
      try dsimp only at h
      refine lv_if_eq (tgt := 171) hx hb dX11_lotsByBestPlay_164 (by decide) (fun c4 => ?_) (fun c4 => ?_)
      · have h := h.1 c4
        exact b171 _ hB52 y1 y2 y3 y4 y5 o7 o8 M0 M1 M2 M3 M4 M5 M6 M7 M8 M9 H locs ls hP hD hS (lv_sub hl [1, 2, 3, 4, 5, 6] rfl) h
      · have h := h.2 c4
        refine lv_iconst (v := 1) hx hb dX11_lotsByBestPlay_167 (by decide) ?_
        refine lv_goto (tgt := 172) hx hb dX11_lotsByBestPlay_168 (by decide) ?_
        exact b172 _ hB52 y1 y2 y3 y4 y5 (1 : Int32) o7 o8 M0 M1 M2 M3 M4 M5 M6 M7 M8 M9 H locs ls hP hD hS (lv_sub hl [1, 2, 3, 4, 5, 6] rfl) h
  have b103 : ∀ (B52 : Int32 → Int32 → Int32 → Int32 → Int32 → gS → gS → gS → gS → gS → gS → gS → gS → gS → gS → Prop) (hB52 : ∀ (y1 : Int32) (y2 : Int32) (y3 : Int32) (y4 : Int32) (y5 : Int32) (o7 o8 : Option Nat) (M0 : gS) (M1 : gS) (M2 : gS) (M3 : gS) (M4 : gS) (M5 : gS) (M6 : gS) (M7 : gS) (M8 : gS) (M9 : gS) (H : Heap) (locs : List Loc) (ls : Array Slot), va_P (dC, dI) vwCl (lwW cB cI cJ cZ h0 a0 a1 a2 a3 a4 a5 a6 a7 o7 a8 o8 a9 M0 M1 M2 M3 M4 M5 M6 M7 M8 M9) H → va_D A (lwW cB cI cJ cZ h0 a0 a1 a2 a3 a4 a5 a6 a7 o7 a8 o8 a9 M0 M1 M2 M3 M4 M5 M6 M7 M8 M9) → va_S A s.heap H locs → lv_has ls 9 [(0, .ref h0), (1, .int y1), (2, .int y2), (3, .int y3), (4, .int y4), (5, .int y5)] → B52 y1 y2 y3 y4 y5 M0 M1 M2 M3 M4 M5 M6 M7 M8 M9 → W p l e (headSpec wsX11_lotsByBestPlay rmX11_lotsByBestPlay).room s m ([.ref h0, .int p1, .int p2, .int p3] : List Value).toArray below meth c H locs 0 0 (MQ below (va_Qi (fun (r : Int32) (u : gS × gS × gS × gS × gS × gS × gS × gS × gS × gS) => Q r u.1 u.2.1 u.2.2.1 u.2.2.2.1 u.2.2.2.2.1 u.2.2.2.2.2.1 u.2.2.2.2.2.2.1 u.2.2.2.2.2.2.2.1 u.2.2.2.2.2.2.2.2.1 u.2.2.2.2.2.2.2.2.2) (lwB dC dI cB cI cJ cZ h0 a0 a1 a2 a3 a4 a5 a6 a7 a8 a9 A) A) ([.ref h0, .int p1, .int p2, .int p3] : List Value).toArray s 0 0 A) (F0 m 52 ls [])) (y1 : Int32) (y2 : Int32) (y3 : Int32) (y4 : Int32) (y5 : Int32) (z0 : Int32) (o7 o8 : Option Nat) (M0 : gS) (M1 : gS) (M2 : gS) (M3 : gS) (M4 : gS) (M5 : gS) (M6 : gS) (M7 : gS) (M8 : gS) (M9 : gS) (H : Heap) (locs : List Loc) (ls : Array Slot), va_P (dC, dI) vwCl (lwW cB cI cJ cZ h0 a0 a1 a2 a3 a4 a5 a6 a7 o7 a8 o8 a9 M0 M1 M2 M3 M4 M5 M6 M7 M8 M9) H → va_D A (lwW cB cI cJ cZ h0 a0 a1 a2 a3 a4 a5 a6 a7 o7 a8 o8 a9 M0 M1 M2 M3 M4 M5 M6 M7 M8 M9) → va_S A s.heap H locs → lv_has ls 9 [(0, .ref h0), (1, .int y1), (2, .int y2), (3, .int y3), (4, .int y4), (5, .int y5)] → wX11_lotsByBestPlay_103 B52 Q y1 y2 y3 y4 y5 z0 M0 M1 M2 M3 M4 M5 M6 M7 M8 M9 → W p l e (headSpec wsX11_lotsByBestPlay rmX11_lotsByBestPlay).room s m ([.ref h0, .int p1, .int p2, .int p3] : List Value).toArray below meth c H locs 0 0 (MQ below (va_Qi (fun (r : Int32) (u : gS × gS × gS × gS × gS × gS × gS × gS × gS × gS) => Q r u.1 u.2.1 u.2.2.1 u.2.2.2.1 u.2.2.2.2.1 u.2.2.2.2.2.1 u.2.2.2.2.2.2.1 u.2.2.2.2.2.2.2.1 u.2.2.2.2.2.2.2.2.1 u.2.2.2.2.2.2.2.2.2) (lwB dC dI cB cI cJ cZ h0 a0 a1 a2 a3 a4 a5 a6 a7 a8 a9 A) A) ([.ref h0, .int p1, .int p2, .int p3] : List Value).toArray s 0 0 A) (F0 m 103 ls [.int z0]) := by
    intro B52 hB52 y1 y2 y3 y4 y5 z0 o7 o8  M0 M1 M2 M3 M4 M5 M6 M7 M8 M9 H locs ls hP hD hS hl h
    unfold wX11_lotsByBestPlay_103 at h
    refine lv_istore (lv' := [(6, .int z0), (0, .ref h0), (1, .int y1), (2, .int y2), (3, .int y3), (4, .int y4), (5, .int y5)]) hx hb dX11_lotsByBestPlay_103 hl (by decide) rfl (fun ls hl => ?_)
    refine lv_aload_n hx hb dX11_lotsByBestPlay_105 rfl (lv_at hl 1 rfl) ?_
    refine va_get (D := (dC, dI)) (ci := 11) (v := .ref (a0 10)) (C := RX11) (T := TX11) (N := 12) hx hb hts hinX11 hown hK hP 0 rfl rfl 10 (by decide) f1 (fun _ h9 => h9) rfl dX11_lotsByBestPlay_106 ?_
    refine va_get (D := (dC, dI)) (ci := 3) (v := .int (mg M9 2)) (C := RX3) (T := TX3) (N := 5) hx hb hts hinX3 hown hK hP 33 rfl rfl 2 (by decide) f2 (fun _ h9 => h9) rfl dX11_lotsByBestPlay_109 ?_
    refine lv_if_ne (tgt := 125) hx hb dX11_lotsByBestPlay_112 (by decide) (fun c1 => ?_) (fun c1 => ?_)
    · have h := h.2 c1
      refine lv_aload_n hx hb dX11_lotsByBestPlay_125 rfl (lv_at hl 1 rfl) ?_
      refine va_get (D := (dC, dI)) (ci := 11) (v := .ref (a0 10)) (C := RX11) (T := TX11) (N := 12) hx hb hts hinX11 hown hK hP 0 rfl rfl 10 (by decide) f1 (fun _ h9 => h9) rfl dX11_lotsByBestPlay_126 ?_
      refine va_get (D := (dC, dI)) (ci := 3) (v := .int (mg M9 3)) (C := RX3) (T := TX3) (N := 5) hx hb hts hinX3 hown hK hP 33 rfl rfl 3 (by decide) f5 (fun _ h9 => h9) rfl dX11_lotsByBestPlay_129 ?_
      exact b132 _ hB52 y1 y2 y3 y4 y5 z0 (mg M9 3) o7 o8 M0 M1 M2 M3 M4 M5 M6 M7 M8 M9 H locs ls hP hD hS (lv_sub hl [1, 2, 3, 4, 5, 6, 0] rfl) h
    · have h := h.1 c1
      refine lv_aload_n hx hb dX11_lotsByBestPlay_115 rfl (lv_at hl 1 rfl) ?_
      refine va_get (D := (dC, dI)) (ci := 11) (v := .ref (a0 10)) (C := RX11) (T := TX11) (N := 12) hx hb hts hinX11 hown hK hP 0 rfl rfl 10 (by decide) f1 (fun _ h9 => h9) rfl dX11_lotsByBestPlay_116 ?_
      refine va_get (D := (dC, dI)) (ci := 3) (v := .int (mg M9 4)) (C := RX3) (T := TX3) (N := 5) hx hb hts hinX3 hown hK hP 33 rfl rfl 4 (by decide) f6 (fun _ h9 => h9) rfl dX11_lotsByBestPlay_119 ?_
      refine lv_goto (tgt := 132) hx hb dX11_lotsByBestPlay_122 (by decide) ?_
      exact b132 _ hB52 y1 y2 y3 y4 y5 z0 (mg M9 4) o7 o8 M0 M1 M2 M3 M4 M5 M6 M7 M8 M9 H locs ls hP hD hS (lv_sub hl [1, 2, 3, 4, 5, 6, 0] rfl) h
  have b52 : ∀ (n : Nat) (y1 : Int32) (y2 : Int32) (y3 : Int32) (y4 : Int32) (y5 : Int32) (o7 o8 : Option Nat) (M0 : gS) (M1 : gS) (M2 : gS) (M3 : gS) (M4 : gS) (M5 : gS) (M6 : gS) (M7 : gS) (M8 : gS) (M9 : gS) (H : Heap) (locs : List Loc) (ls : Array Slot), va_P (dC, dI) vwCl (lwW cB cI cJ cZ h0 a0 a1 a2 a3 a4 a5 a6 a7 o7 a8 o8 a9 M0 M1 M2 M3 M4 M5 M6 M7 M8 M9) H → va_D A (lwW cB cI cJ cZ h0 a0 a1 a2 a3 a4 a5 a6 a7 o7 a8 o8 a9 M0 M1 M2 M3 M4 M5 M6 M7 M8 M9) → va_S A s.heap H locs → lv_has ls 9 [(0, .ref h0), (1, .int y1), (2, .int y2), (3, .int y3), (4, .int y4), (5, .int y5)] → wX11_lotsByBestPlay_52  Q n y1 y2 y3 y4 y5 M0 M1 M2 M3 M4 M5 M6 M7 M8 M9 → W p l e (headSpec wsX11_lotsByBestPlay rmX11_lotsByBestPlay).room s m ([.ref h0, .int p1, .int p2, .int p3] : List Value).toArray below meth c H locs 0 0 (MQ below (va_Qi (fun (r : Int32) (u : gS × gS × gS × gS × gS × gS × gS × gS × gS × gS) => Q r u.1 u.2.1 u.2.2.1 u.2.2.2.1 u.2.2.2.2.1 u.2.2.2.2.2.1 u.2.2.2.2.2.2.1 u.2.2.2.2.2.2.2.1 u.2.2.2.2.2.2.2.2.1 u.2.2.2.2.2.2.2.2.2) (lwB dC dI cB cI cJ cZ h0 a0 a1 a2 a3 a4 a5 a6 a7 a8 a9 A) A) ([.ref h0, .int p1, .int p2, .int p3] : List Value).toArray s 0 0 A) (F0 m 52 ls []) := by
    intro  n
    induction n with
    | zero => intro y1 y2 y3 y4 y5 o7 o8  M0 M1 M2 M3 M4 M5 M6 M7 M8 M9 H locs ls hP hD hS hl h; exact absurd h (by simp [wX11_lotsByBestPlay_52])
    | succ n hB520 =>
      intro y1 y2 y3 y4 y5 o7 o8  M0 M1 M2 M3 M4 M5 M6 M7 M8 M9 H locs ls hP hD hS hl h
      have hB52 := hB520
      rw [wX11_lotsByBestPlay_52] at h
      refine lv_iload hx hb dX11_lotsByBestPlay_52 (lv_at hl 5 rfl) ?_
      refine lv_iload_n hx hb dX11_lotsByBestPlay_54 rfl (lv_at hl 1 rfl) ?_
      refine lv_icmp_ge (tgt := 204) hx hb dX11_lotsByBestPlay_55 (by decide) (fun c1 => ?_) (fun c1 => ?_)
      · have h := h.1 c1
        refine lv_iload hx hb dX11_lotsByBestPlay_204 (lv_at hl 4 rfl) ?_
        exact W.iret (v := y4) hx hb hr (fun t ht hW => ⟨⟨_, (M0, M1, M2, M3, M4, M5, M6, M7, M8, M9), rfl, h, o7, o8, by rw [ht]; exact hP, va_K.moved hW.alike hK, hD⟩, hS.F ht⟩) hS.2.2 dX11_lotsByBestPlay_206
      · have h := h.2 c1
        refine lv_aload_n hx hb dX11_lotsByBestPlay_58 rfl (lv_at hl 0 rfl) ?_
        refine va_get (D := (dC, dI)) (ci := 11) (v := .ref (a0 10)) (C := RX11) (T := TX11) (N := 12) hx hb hts hinX11 hown hK hP 0 rfl rfl 10 (by decide) f1 (fun _ h9 => h9) rfl dX11_lotsByBestPlay_59 ?_
        refine lv_aload_n hx hb dX11_lotsByBestPlay_62 rfl (lv_at hl 0 rfl) ?_
        refine va_get (D := (dC, dI)) (ci := 11) (v := .ref (a0 4)) (C := RX11) (T := TX11) (N := 12) hx hb hts hinX11 hown hK hP 0 rfl rfl 4 (by decide) f7 (fun _ h9 => h9) rfl dX11_lotsByBestPlay_63 ?_
        refine va_get (D := (dC, dI)) (ci := 10) (v := .ref (a1 0)) (C := RX10) (T := TX10) (N := 5) hx hb hts hinX10 hown hK hP 3 rfl rfl 0 (by decide) f8 (fun _ h9 => h9) rfl dX11_lotsByBestPlay_66 ?_
        refine va_get (D := (dC, dI)) (ci := 1) (v := .int (mg M2 0)) (C := RX1) (T := TX1) (N := 6) hx hb hts hinX1 hown hK hP 5 rfl rfl 0 (by decide) f9 (fun _ h9 => h9) rfl dX11_lotsByBestPlay_69 ?_
        refine lv_iload_n hx hb dX11_lotsByBestPlay_72 rfl (lv_at hl 2 rfl) ?_
        have hPc := hP.sub (ws' := (loW cB cI cJ cZ (a0 10) a9 M9)) [33] rfl
        have hDc := hD.sub (ws' := (loW cB cI cJ cZ (a0 10) a9 M9)) [33] (by decide) rfl
        have hFc := va_free (wc := (loW cB cI cJ cZ (a0 10) a9 M9)) hD hS hA [33] rfl
        refine va_callv (va_runV (As := [.int (mg M2 0), .int y2]) (rest := []) ⟨hx, hb, hml, hown, hts⟩ (kX3_draw l dC dI cB cI cJ cZ (a0 10) a9 H.size (mg M2 0) y2 M9 _ h) (cwV 2 hts gX11_lotsByBestPlay_X3_draw rfl rfl rfl (by decide +kernel) ⟨Nat.le_of_ble_eq_true rfl, Nat.le_of_ble_eq_true rfl⟩) (lopV hK hPc hDc) rfl rfl hl.1 rfl (lv_room (Nat.le_of_ble_eq_true rfl)) dX11_lotsByBestPlay_73 ⟨Nat.le_of_ble_eq_true rfl, Nat.le_of_ble_eq_true rfl⟩) hS (fun q _ z => hFc q z) hFc (fun u t H1 locs ht hvm hw hB hz1 hk1 hS => ?_)
        obtain ⟨N3, rfl⟩ : ∃ z, z = u := ⟨_, rfl⟩
        obtain ⟨hP1, hK1, hD1⟩ := hB
        rw [ht] at hP1
        obtain ⟨hP, hD⟩ := va_join (wr := [(h0, .inr (11, [.ref (a0 0), .int (mg M0 1), .ref (a0 2), .int (mg M0 3), .ref (a0 4), .ref (a0 5), .ref (a0 6), .ref (a0 7), .ref (a0 8), .ref (a0 9), .ref (a0 10), .ref (a0 11)])), (a0 0, .inl (cI, 400, .inl (ma M0 0))), (a0 11, .inl (cJ, 4, .inr (.inl (ml M0 11)))), (a0 4, .inr (10, [.ref (a1 0), .ref (a1 1), .ref (a1 2), .ref (a1 3), .int (mg M1 4)])), (a1 3, .inl (cI, 2, .inl (ma M1 3))), (a1 0, .inr (1, [.int (mg M2 0), .ref (a2 1), .int (mg M2 2), .ref (a2 3), .int (mg M2 4), .ref (a2 5)])), (a2 1, .inl (cI, 4, .inl (ma M2 1))), (a2 3, .inl (cI, 4, .inl (ma M2 3))), (a2 5, .inl (cI, 2, .inl (ma M2 5))), (a1 1, .inr (6, [.int (mg M3 0), .int (mg M3 1), .int (mg M3 2), .int (mg M3 3), .int (mg M3 4), .int (mg M3 5), .int (mg M3 6), .ref (a3 7), .ref (a3 8), .ref (a3 9)])), (a3 7, .inl (cI, 2, .inl (ma M3 7))), (a3 8, .inl (cI, 2, .inl (ma M3 8))), (a3 9, .inl (cI, 2, .inl (ma M3 9))), (a1 2, .inr (4, [.int (mg M4 0), .ref (a4 1), .ref (a4 2), .ref (a4 3)])), (a4 1, .inl (cI, 6, .inl (ma M4 1))), (a4 2, .inl (cI, 6, .inl (ma M4 2))), (a4 3, .inl (cI, 6, .inl (ma M4 3))), (a0 6, .inr (1, [.int (mg M5 0), .ref (a5 1), .int (mg M5 2), .ref (a5 3), .int (mg M5 4), .ref (a5 5)])), (a5 1, .inl (cI, 4, .inl (ma M5 1))), (a5 3, .inl (cI, 4, .inl (ma M5 3))), (a5 5, .inl (cI, 2, .inl (ma M5 5))), (a0 7, .inr (6, [.int (mg M6 0), .int (mg M6 1), .int (mg M6 2), .int (mg M6 3), .int (mg M6 4), .int (mg M6 5), .int (mg M6 6), .ref (a6 7), .ref (a6 8), .ref (a6 9)])), (a6 7, .inl (cI, 2, .inl (ma M6 7))), (a6 8, .inl (cI, 2, .inl (ma M6 8))), (a6 9, .inl (cI, 2, .inl (ma M6 9))), (a0 8, .inr (0, [.ref (a7 0), .ref (a7 1), .ref (a7 2), .ref (a7 3), .int (mg M7 4), va_rf o7, .int (mg M7 6), .int (mg M7 7), .int (mg M7 8), .int (mg M7 9), .int (mg M7 10)])), (a7 0, .inl (cJ, 15, .inr (.inl (ml M7 0)))), (a7 1, .inl (cJ, 800, .inr (.inl (ml M7 1)))), (a7 2, .inl (cI, 4, .inl (ma M7 2))), (a7 3, .inl (cJ, 4, .inr (.inl (ml M7 3)))), (a0 9, .inr (5, [.ref (a8 0), .ref (a8 1), va_rf o8, .int (mg M8 3)])), (a8 0, .inl (cI, 2048, .inl (ma M8 0))), (a8 1, .inl (cI, 2048, .inl (ma M8 1)))]) (w1 := (loW cB cI cJ cZ (a0 10) a9 N3)) hP hD [33] [0, 1, 2, 3, 4, 5, 6, 7, 8, 9, 10, 11, 12, 13, 14, 15, 16, 17, 18, 19, 20, 21, 22, 23, 24, 25, 26, 27, 28, 29, 30, 31, 32] rfl rfl (by decide) (by decide) hk1 hFc hP1 hD1
        have hP := hP.sub (ws' := (lwW cB cI cJ cZ h0 a0 a1 a2 a3 a4 a5 a6 a7 o7 a8 o8 a9 M0 M1 M2 M3 M4 M5 M6 M7 M8 N3)) [0, 1, 2, 3, 4, 5, 6, 7, 8, 9, 10, 11, 12, 13, 14, 15, 16, 17, 18, 19, 20, 21, 22, 23, 24, 25, 26, 27, 28, 29, 30, 31, 32, 33] rfl
        have hD := hD.sub (ws' := (lwW cB cI cJ cZ h0 a0 a1 a2 a3 a4 a5 a6 a7 o7 a8 o8 a9 M0 M1 M2 M3 M4 M5 M6 M7 M8 N3)) [0, 1, 2, 3, 4, 5, 6, 7, 8, 9, 10, 11, 12, 13, 14, 15, 16, 17, 18, 19, 20, 21, 22, 23, 24, 25, 26, 27, 28, 29, 30, 31, 32, 33] (by decide) rfl
        generalize H1 = H at hP hS ⊢
        have h := hw
        try dsimp only at h
        refine lv_aload_n hx hb dX11_lotsByBestPlay_76 rfl (lv_at hl 0 rfl) ?_
        refine va_get (D := (dC, dI)) (ci := 11) (v := .ref (a0 10)) (C := RX11) (T := TX11) (N := 12) hx hb hts hinX11 hown hK hP 0 rfl rfl 10 (by decide) f1 (fun _ h9 => h9) rfl dX11_lotsByBestPlay_77 ?_
        refine va_get (D := (dC, dI)) (ci := 3) (v := .int (mg N3 2)) (C := RX3) (T := TX3) (N := 5) hx hb hts hinX3 hown hK hP 33 rfl rfl 2 (by decide) f2 (fun _ h9 => h9) rfl dX11_lotsByBestPlay_80 ?_
        refine lv_if_ne (tgt := 96) hx hb dX11_lotsByBestPlay_83 (by decide) (fun c4 => ?_) (fun c4 => ?_)
        · have h := h.2 c4
          refine lv_aload_n hx hb dX11_lotsByBestPlay_96 rfl (lv_at hl 0 rfl) ?_
          refine va_get (D := (dC, dI)) (ci := 11) (v := .ref (a0 10)) (C := RX11) (T := TX11) (N := 12) hx hb hts hinX11 hown hK hP 0 rfl rfl 10 (by decide) f1 (fun _ h9 => h9) rfl dX11_lotsByBestPlay_97 ?_
          refine va_get (D := (dC, dI)) (ci := 3) (v := .int (mg N3 4)) (C := RX3) (T := TX3) (N := 5) hx hb hts hinX3 hown hK hP 33 rfl rfl 4 (by decide) f6 (fun _ h9 => h9) rfl dX11_lotsByBestPlay_100 ?_
          exact b103 _ hB52 y1 y2 y3 y4 y5 (mg N3 4) o7 o8 M0 M1 M2 M3 M4 M5 M6 M7 M8 N3 H locs ls hP hD hS (lv_sub hl [0, 1, 2, 3, 4, 5] rfl) h
        · have h := h.1 c4
          refine lv_aload_n hx hb dX11_lotsByBestPlay_86 rfl (lv_at hl 0 rfl) ?_
          refine va_get (D := (dC, dI)) (ci := 11) (v := .ref (a0 10)) (C := RX11) (T := TX11) (N := 12) hx hb hts hinX11 hown hK hP 0 rfl rfl 10 (by decide) f1 (fun _ h9 => h9) rfl dX11_lotsByBestPlay_87 ?_
          refine va_get (D := (dC, dI)) (ci := 3) (v := .int (mg N3 3)) (C := RX3) (T := TX3) (N := 5) hx hb hts hinX3 hown hK hP 33 rfl rfl 3 (by decide) f5 (fun _ h9 => h9) rfl dX11_lotsByBestPlay_90 ?_
          refine lv_goto (tgt := 103) hx hb dX11_lotsByBestPlay_93 (by decide) ?_
          exact b103 _ hB52 y1 y2 y3 y4 y5 (mg N3 3) o7 o8 M0 M1 M2 M3 M4 M5 M6 M7 M8 N3 H locs ls hP hD hS (lv_sub hl [0, 1, 2, 3, 4, 5] rfl) h
  have b46 : ∀ (y1 : Int32) (y2 : Int32) (y3 : Int32) (o7 o8 : Option Nat) (M0 : gS) (M1 : gS) (M2 : gS) (M3 : gS) (M4 : gS) (M5 : gS) (M6 : gS) (M7 : gS) (M8 : gS) (M9 : gS) (H : Heap) (locs : List Loc) (ls : Array Slot), va_P (dC, dI) vwCl (lwW cB cI cJ cZ h0 a0 a1 a2 a3 a4 a5 a6 a7 o7 a8 o8 a9 M0 M1 M2 M3 M4 M5 M6 M7 M8 M9) H → va_D A (lwW cB cI cJ cZ h0 a0 a1 a2 a3 a4 a5 a6 a7 o7 a8 o8 a9 M0 M1 M2 M3 M4 M5 M6 M7 M8 M9) → va_S A s.heap H locs → lv_has ls 9 [(0, .ref h0), (1, .int y1), (2, .int y2), (3, .int y3)] → wX11_lotsByBestPlay_46  Q y1 y2 y3 M0 M1 M2 M3 M4 M5 M6 M7 M8 M9 → W p l e (headSpec wsX11_lotsByBestPlay rmX11_lotsByBestPlay).room s m ([.ref h0, .int p1, .int p2, .int p3] : List Value).toArray below meth c H locs 0 0 (MQ below (va_Qi (fun (r : Int32) (u : gS × gS × gS × gS × gS × gS × gS × gS × gS × gS) => Q r u.1 u.2.1 u.2.2.1 u.2.2.2.1 u.2.2.2.2.1 u.2.2.2.2.2.1 u.2.2.2.2.2.2.1 u.2.2.2.2.2.2.2.1 u.2.2.2.2.2.2.2.2.1 u.2.2.2.2.2.2.2.2.2) (lwB dC dI cB cI cJ cZ h0 a0 a1 a2 a3 a4 a5 a6 a7 a8 a9 A) A) ([.ref h0, .int p1, .int p2, .int p3] : List Value).toArray s 0 0 A) (F0 m 46 ls []) := by
    intro  y1 y2 y3 o7 o8  M0 M1 M2 M3 M4 M5 M6 M7 M8 M9 H locs ls hP hD hS hl h
    unfold wX11_lotsByBestPlay_46 at h
    refine lv_iconst (v := 0) hx hb dX11_lotsByBestPlay_46 (by decide) ?_
    refine lv_istore (lv' := [(4, .int (0 : Int32)), (0, .ref h0), (1, .int y1), (2, .int y2), (3, .int y3)]) hx hb dX11_lotsByBestPlay_47 hl (by decide) rfl (fun ls hl => ?_)
    refine lv_iconst (v := 0) hx hb dX11_lotsByBestPlay_49 (by decide) ?_
    refine lv_istore (lv' := [(5, .int (0 : Int32)), (4, .int (0 : Int32)), (0, .ref h0), (1, .int y1), (2, .int y2), (3, .int y3)]) hx hb dX11_lotsByBestPlay_50 hl (by decide) rfl (fun ls hl => ?_)
    obtain ⟨n9, h⟩ := h
    exact b52  n9 y1 y2 y3 (0 : Int32) (0 : Int32) o7 o8 M0 M1 M2 M3 M4 M5 M6 M7 M8 M9 H locs ls hP hD hS (lv_sub hl [2, 3, 4, 5, 1, 0] rfl) h
  have b3 : ∀ (n : Nat) (y1 : Int32) (y2 : Int32) (y3 : Int32) (y4 : Int32) (o7 o8 : Option Nat) (M0 : gS) (M1 : gS) (M2 : gS) (M3 : gS) (M4 : gS) (M5 : gS) (M6 : gS) (M7 : gS) (M8 : gS) (M9 : gS) (H : Heap) (locs : List Loc) (ls : Array Slot), va_P (dC, dI) vwCl (lwW cB cI cJ cZ h0 a0 a1 a2 a3 a4 a5 a6 a7 o7 a8 o8 a9 M0 M1 M2 M3 M4 M5 M6 M7 M8 M9) H → va_D A (lwW cB cI cJ cZ h0 a0 a1 a2 a3 a4 a5 a6 a7 o7 a8 o8 a9 M0 M1 M2 M3 M4 M5 M6 M7 M8 M9) → va_S A s.heap H locs → lv_has ls 9 [(0, .ref h0), (1, .int y1), (2, .int y2), (3, .int y3), (4, .int y4)] → wX11_lotsByBestPlay_3  Q n y1 y2 y3 y4 M0 M1 M2 M3 M4 M5 M6 M7 M8 M9 → W p l e (headSpec wsX11_lotsByBestPlay rmX11_lotsByBestPlay).room s m ([.ref h0, .int p1, .int p2, .int p3] : List Value).toArray below meth c H locs 0 0 (MQ below (va_Qi (fun (r : Int32) (u : gS × gS × gS × gS × gS × gS × gS × gS × gS × gS) => Q r u.1 u.2.1 u.2.2.1 u.2.2.2.1 u.2.2.2.2.1 u.2.2.2.2.2.1 u.2.2.2.2.2.2.1 u.2.2.2.2.2.2.2.1 u.2.2.2.2.2.2.2.2.1 u.2.2.2.2.2.2.2.2.2) (lwB dC dI cB cI cJ cZ h0 a0 a1 a2 a3 a4 a5 a6 a7 a8 a9 A) A) ([.ref h0, .int p1, .int p2, .int p3] : List Value).toArray s 0 0 A) (F0 m 3 ls []) := by
    intro  n
    induction n with
    | zero => intro y1 y2 y3 y4 o7 o8  M0 M1 M2 M3 M4 M5 M6 M7 M8 M9 H locs ls hP hD hS hl h; exact absurd h (by simp [wX11_lotsByBestPlay_3])
    | succ n hB30 =>
      intro y1 y2 y3 y4 o7 o8  M0 M1 M2 M3 M4 M5 M6 M7 M8 M9 H locs ls hP hD hS hl h
      have hB3 := hB30
      rw [wX11_lotsByBestPlay_3] at h
      refine lv_iload hx hb dX11_lotsByBestPlay_3 (lv_at hl 4 rfl) ?_
      refine lv_aload_n hx hb dX11_lotsByBestPlay_5 rfl (lv_at hl 0 rfl) ?_
      refine va_get (D := (dC, dI)) (ci := 11) (v := .ref (a0 4)) (C := RX11) (T := TX11) (N := 12) hx hb hts hinX11 hown hK hP 0 rfl rfl 4 (by decide) f7 (fun _ h9 => h9) rfl dX11_lotsByBestPlay_6 ?_
      refine va_get (D := (dC, dI)) (ci := 10) (v := .ref (a1 0)) (C := RX10) (T := TX10) (N := 5) hx hb hts hinX10 hown hK hP 3 rfl rfl 0 (by decide) f8 (fun _ h9 => h9) rfl dX11_lotsByBestPlay_9 ?_
      refine va_get (D := (dC, dI)) (ci := 1) (v := .int (mg M2 0)) (C := RX1) (T := TX1) (N := 6) hx hb hts hinX1 hown hK hP 5 rfl rfl 0 (by decide) f9 (fun _ h9 => h9) rfl dX11_lotsByBestPlay_12 ?_
      refine lv_icmp_ge (tgt := 46) hx hb dX11_lotsByBestPlay_15 (by decide) (fun c1 => ?_) (fun c1 => ?_)
      · have h := h.1 c1
        exact b46  y1 y2 y3 o7 o8 M0 M1 M2 M3 M4 M5 M6 M7 M8 M9 H locs ls hP hD hS (lv_sub hl [0, 1, 2, 3] rfl) h
      · have h := h.2 c1
        refine lv_iload hx hb dX11_lotsByBestPlay_18 (lv_at hl 4 rfl) ?_
        refine lv_iconst (v := 4) hx hb dX11_lotsByBestPlay_20 (by decide) ?_
        refine lv_icmp_ge (tgt := 46) hx hb dX11_lotsByBestPlay_21 (by decide) (fun c2 => ?_) (fun c2 => ?_)
        · have h := h.1 c2
          exact b46  y1 y2 y3 o7 o8 M0 M1 M2 M3 M4 M5 M6 M7 M8 M9 H locs ls hP hD hS (lv_sub hl [0, 1, 2, 3] rfl) h
        · have h := h.2 c2
          refine lv_aload_n hx hb dX11_lotsByBestPlay_24 rfl (lv_at hl 0 rfl) ?_
          refine va_get (D := (dC, dI)) (ci := 11) (v := .ref (a0 11)) (C := RX11) (T := TX11) (N := 12) hx hb hts hinX11 hown hK hP 0 rfl rfl 11 (by decide) f4 (fun _ h9 => h9) rfl dX11_lotsByBestPlay_25 ?_
          refine lv_iload hx hb dX11_lotsByBestPlay_28 (lv_at hl 4 rfl) ?_
          refine lv_aload_n hx hb dX11_lotsByBestPlay_30 rfl (lv_at hl 0 rfl) ?_
          refine lv_iload hx hb dX11_lotsByBestPlay_31 (lv_at hl 4 rfl) ?_
          refine lv_iconst (v := 2) hx hb dX11_lotsByBestPlay_33 (by decide) ?_
          refine lv_iload_n hx hb dX11_lotsByBestPlay_34 rfl (lv_at hl 2 rfl) ?_
          refine lv_imul hx hb dX11_lotsByBestPlay_35 ?_
          have hFc := gs_free hD hS hA
          refine va_calll (va_runV (As := [.int y4, .int ((2 : Int32) * y2)]) (rest := [.int y4, .ref (a0 11)]) ⟨hx, hb, hml, hown, hts⟩ (kX11_startWinners l dC dI cB cI cJ cZ h0 a0 a1 a2 a3 a4 a5 a6 a7 o7 a8 o8 a9 H.size y4 ((2 : Int32) * y2) M0 M1 M2 M3 M4 M5 M6 M7 M8 M9 _ h) (cwV 2 hts gX11_lotsByBestPlay_X11_startWinners rfl rfl rfl (by decide +kernel) ⟨Nat.le_of_ble_eq_true rfl, Nat.le_of_ble_eq_true rfl⟩) (lwpV hK hP hD) rfl rfl hl.1 rfl (lv_room (Nat.le_of_ble_eq_true rfl)) dX11_lotsByBestPlay_36 ⟨Nat.le_of_ble_eq_true rfl, Nat.le_of_ble_eq_true rfl⟩) hS (fun q _ z => hFc q z) hFc (fun r3 u t H1 locs ht hvm hw hB hz1 hk1 hS => ?_)
          obtain ⟨N4, N5, N6, N7, N8, N9, N10, N11, N12, N13⟩ := u
          obtain ⟨v14, v15, hP, hK1, hD1⟩ := hB
          rw [ht] at hP
          have hD := hD1.weaken (fun _ _ _ z => hFc _ z)
          generalize H1 = H at hP hS ⊢
          have h := hw
          try dsimp only at h
          refine va_last hx hb hK hP hD hS 2 2 (f := ml N4 11) rfl rfl h.1 dX11_lotsByBestPlay_39 (fun H locs hP hD hS => ?_)
          have h := h.2
          have hP := lwP_0_a11 hP
          have hD := lwD_0_a11 hD
          have h := h _ rfl
          generalize sl N4 11 (Int32.toNatClampNeg y4) r3 = N16 at hP hD h
          obtain ⟨x17, ex17⟩ : ∃ y : Int32, y = y4 + (1 : Int32) := ⟨_, rfl⟩
          have h := h x17 ex17
          refine lv_iinc (v := x17) (lv' := [(4, .int x17), (0, .ref h0), (1, .int y1), (2, .int y2), (3, .int y3)]) hx hb dX11_lotsByBestPlay_40 hl (k := 4) rfl (by rw [ex17]; rfl) (by decide) rfl (fun ls hl => ?_)
          refine lv_goto (tgt := 3) hx hb dX11_lotsByBestPlay_43 (by decide) ?_
          exact hB3 y1 y2 y3 x17 v14 v15 N16 N5 N6 N7 N8 N9 N10 N11 N12 N13 H locs ls hP hD hS (lv_sub hl [1, 2, 3, 4, 0] rfl) h
  have bE : ∀ (M0 : gS) (M1 : gS) (M2 : gS) (M3 : gS) (M4 : gS) (M5 : gS) (M6 : gS) (M7 : gS) (M8 : gS) (M9 : gS) (H : Heap) (locs : List Loc) (ls : Array Slot), va_P (dC, dI) vwCl (lwW cB cI cJ cZ h0 a0 a1 a2 a3 a4 a5 a6 a7 o7 a8 o8 a9 M0 M1 M2 M3 M4 M5 M6 M7 M8 M9) H → va_D A (lwW cB cI cJ cZ h0 a0 a1 a2 a3 a4 a5 a6 a7 o7 a8 o8 a9 M0 M1 M2 M3 M4 M5 M6 M7 M8 M9) → va_S A s.heap H locs → lv_has ls 9 [(0, .ref h0), (1, .int p1), (2, .int p2), (3, .int p3)] → wX11_lotsByBestPlay p1 p2 p3 M0 M1 M2 M3 M4 M5 M6 M7 M8 M9 Q → W p l e (headSpec wsX11_lotsByBestPlay rmX11_lotsByBestPlay).room s m ([.ref h0, .int p1, .int p2, .int p3] : List Value).toArray below meth c H locs 0 0 (MQ below (va_Qi (fun (r : Int32) (u : gS × gS × gS × gS × gS × gS × gS × gS × gS × gS) => Q r u.1 u.2.1 u.2.2.1 u.2.2.2.1 u.2.2.2.2.1 u.2.2.2.2.2.1 u.2.2.2.2.2.2.1 u.2.2.2.2.2.2.2.1 u.2.2.2.2.2.2.2.2.1 u.2.2.2.2.2.2.2.2.2) (lwB dC dI cB cI cJ cZ h0 a0 a1 a2 a3 a4 a5 a6 a7 a8 a9 A) A) ([.ref h0, .int p1, .int p2, .int p3] : List Value).toArray s 0 0 A) (F0 m 0 ls []) := by
    intro M0 M1 M2 M3 M4 M5 M6 M7 M8 M9 H locs ls hP hD hS hl h
    unfold wX11_lotsByBestPlay at h
    refine lv_iconst (v := 0) hx hb dX11_lotsByBestPlay_0 (by decide) ?_
    refine lv_istore (lv' := [(4, .int (0 : Int32)), (0, .ref h0), (1, .int p1), (2, .int p2), (3, .int p3)]) hx hb dX11_lotsByBestPlay_1 hl (by decide) rfl (fun ls hl => ?_)
    obtain ⟨n9, h⟩ := h
    exact b3  n9 p1 p2 p3 (0 : Int32) o7 o8 M0 M1 M2 M3 M4 M5 M6 M7 M8 M9 H locs ls hP hD hS (lv_sub hl [1, 2, 3, 4, 0] rfl) h
  have hl := lv_entry ([.ref h0, .int p1, .int p2, .int p3]) (n := 9) (Nat.le_of_ble_eq_true rfl)
  rw [lg_entry_eq]
  generalize (lg_sl ([.ref h0, .int p1, .int p2, .int p3]) ++ List.replicate (9 - (lg_sl ([.ref h0, .int p1, .int p2, .int p3])).length) Slot.unset).toArray = ls at hl ⊢
  have hl : lv_has ls 9 [(0, .ref h0), (1, .int p1), (2, .int p2), (3, .int p3)] := hl
  exact bE M0 M1 M2 M3 M4 M5 M6 M7 M8 M9 s.heap [] ls hP hD hS hl h
def wX11_count (p1 : Int32) (M0 : gS) (M1 : gS) (M2 : gS) (M3 : gS) (M4 : gS) (M5 : gS) (M6 : gS) (M7 : gS) (M8 : gS) (M9 : gS) (Q : Int32 → gS → gS → gS → gS → gS → gS → gS → gS → gS → gS → Prop) : Prop :=
 ((p1 = (0 : Int32) → (Q (mg M2 0) M0 M1 M2 M3 M4 M5 M6 M7 M8 M9))
 ∧ (¬ p1 = (0 : Int32) → ((p1 = (1 : Int32) → (Q (mg M2 2) M0 M1 M2 M3 M4 M5 M6 M7 M8 M9))
 ∧ (¬ p1 = (1 : Int32) → ((p1 = (2 : Int32) → (Q (mg M0 3) M0 M1 M2 M3 M4 M5 M6 M7 M8 M9))
 ∧ (¬ p1 = (2 : Int32) → ((p1 = (3 : Int32) → (((mg M3 0) = 0 → (Q (0 : Int32) M0 M1 M2 M3 M4 M5 M6 M7 M8 M9))
 ∧ (¬ (mg M3 0) = 0 → (Q (mg M3 2) M0 M1 M2 M3 M4 M5 M6 M7 M8 M9))))
 ∧ (¬ p1 = (3 : Int32) → ((p1 = (4 : Int32) → (((mg M3 0) = 0 → (Q (-1 : Int32) M0 M1 M2 M3 M4 M5 M6 M7 M8 M9))
 ∧ (¬ (mg M3 0) = 0 → (Q (mg M3 3) M0 M1 M2 M3 M4 M5 M6 M7 M8 M9))))
 ∧ (¬ p1 = (4 : Int32) → ((p1 = (5 : Int32) → (((mg M3 0) = 0 → (Q (0 : Int32) M0 M1 M2 M3 M4 M5 M6 M7 M8 M9))
 ∧ (¬ (mg M3 0) = 0 → (Q (mg M3 1) M0 M1 M2 M3 M4 M5 M6 M7 M8 M9))))
 ∧ (¬ p1 = (5 : Int32) → ((p1 = (6 : Int32) → (Q (mg M3 5) M0 M1 M2 M3 M4 M5 M6 M7 M8 M9))
 ∧ (¬ p1 = (6 : Int32) → ((p1 = (7 : Int32) → (((mg M3 0) = 0 → (Q (0 : Int32) M0 M1 M2 M3 M4 M5 M6 M7 M8 M9))
 ∧ (¬ (mg M3 0) = 0 → (Q (mg M3 4) M0 M1 M2 M3 M4 M5 M6 M7 M8 M9))))
 ∧ (¬ p1 = (7 : Int32) → ((p1 = (8 : Int32) → (wX10_allWon  M1 M2 M3 M4 (fun (r14 : Int32) (N15 : gS) (N16 : gS) (N17 : gS) (N18 : gS) => (Q r14 M0 N15 N16 N17 N18 M5 M6 M7 M8 M9))))
 ∧ (¬ p1 = (8 : Int32) → ((p1 = (9 : Int32) → (Q (mg M4 0) M0 M1 M2 M3 M4 M5 M6 M7 M8 M9))
 ∧ (¬ p1 = (9 : Int32) → ((p1 = (10 : Int32) → (Q (mg M1 4) M0 M1 M2 M3 M4 M5 M6 M7 M8 M9))
 ∧ (¬ p1 = (10 : Int32) → ((p1 = (11 : Int32) → (Q (mg M0 1) M0 M1 M2 M3 M4 M5 M6 M7 M8 M9))
 ∧ (¬ p1 = (11 : Int32) → (Q (-1 : Int32) M0 M1 M2 M3 M4 M5 M6 M7 M8 M9)))))))))))))))))))))))))
def rmX11_count : Room := { frames := 1, cells := 0, slots := 0, locals := 20 }
set_option maxHeartbeats 4000000 in
set_option maxRecDepth 100000 in
theorem kX11_count (l : Launch) (dC : Nat → ClassId) (dI : Nat → Nat → Nat) (cB cI cJ cZ : ClassId) (h0 : Nat) (a0 : Nat → Nat) (a1 : Nat → Nat) (a2 : Nat → Nat) (a3 : Nat → Nat) (a4 : Nat → Nat) (a5 : Nat → Nat) (a6 : Nat → Nat) (a7 : Nat → Nat) (o7 : Option Nat) (a8 : Nat → Nat) (o8 : Option Nat) (a9 : Nat → Nat) (sz : Nat) (p1 : Int32) (M0 : gS) (M1 : gS) (M2 : gS) (M3 : gS) (M4 : gS) (M5 : gS) (M6 : gS) (M7 : gS) (M8 : gS) (M9 : gS) (Q : Int32 → gS → gS → gS → gS → gS → gS → gS → gS → gS → gS → Prop) (h : wX11_count p1 M0 M1 M2 M3 M4 M5 M6 M7 M8 M9 Q) : Met l yX11_count wsX11_count rmX11_count (va_Pc [.ref h0, .int p1] (lwI dC dI cB cI cJ cZ h0 a0 a1 a2 a3 a4 a5 a6 a7 o7 a8 o8 a9 M0 M1 M2 M3 M4 M5 M6 M7 M8 M9 sz)) (va_Qi (fun (r : Int32) (u : gS × gS × gS × gS × gS × gS × gS × gS × gS × gS) => Q r u.1 u.2.1 u.2.2.1 u.2.2.2.1 u.2.2.2.2.1 u.2.2.2.2.2.1 u.2.2.2.2.2.2.1 u.2.2.2.2.2.2.2.1 u.2.2.2.2.2.2.2.2.1 u.2.2.2.2.2.2.2.2.2) (lwB dC dI cB cI cJ cZ h0 a0 a1 a2 a3 a4 a5 a6 a7 a8 a9 (va_A (lwW cB cI cJ cZ h0 a0 a1 a2 a3 a4 a5 a6 a7 o7 a8 o8 a9 M0 M1 M2 M3 M4 M5 M6 M7 M8 M9) sz)) (va_A (lwW cB cI cJ cZ h0 a0 a1 a2 a3 a4 a5 a6 a7 o7 a8 o8 a9 M0 M1 M2 M3 M4 M5 M6 M7 M8 M9) sz)) 0 0 (va_A (lwW cB cI cJ cZ h0 a0 a1 a2 a3 a4 a5 a6 a7 o7 a8 o8 a9 M0 M1 M2 M3 M4 M5 M6 M7 M8 M9) sz) := by
  refine Met.ofW (cc := cX11_count) (maxL := 3) (ret := (some .int)) (by decide) rfl ?_
  intro p e s m args below meth c s₁ B hml hv
  obtain ⟨rfl, hsz, hP, hK, hD0⟩ := hv
  have hx := B.exec
  have hb := B.bytes
  have hr := B.returns
  have hts := atoms_spec (ws := wsX11_count) B.pre
  have hown : s.vm.findClass RX11 = some m.cls := findClass_of_methodNamed B.named
  have hlocks := B.notSynchronized
  subst hsz
  have hD := hD0.self (sz := s.heap.size)
  generalize hAe : va_A (lwW cB cI cJ cZ h0 a0 a1 a2 a3 a4 a5 a6 a7 o7 a8 o8 a9 M0 M1 M2 M3 M4 M5 M6 M7 M8 M9) s.heap.size = A at hD ⊢
  have hA : ∀ q : Nat, s.heap.size ≤ q → A q := fun q h => by rw [← hAe]; exact Or.inr h
  have hS : va_S A s.heap s.heap [] := va_S.rf
  have hinX1 : ∀ w ∈ wsX10, w ∈ wsX11_count := by decide +kernel
  have hinX10 : ∀ w ∈ wsX100, w ∈ wsX11_count := by decide +kernel
  have hinX11 : ∀ w ∈ wsX110, w ∈ wsX11_count := by decide +kernel
  have hinX4 : ∀ w ∈ wsX40, w ∈ wsX11_count := by decide +kernel
  have hinX6 : ∀ w ∈ wsX60, w ∈ wsX11_count := by decide +kernel
  have f1 := hts (.fieldLink RX11 22 "LastWords" "now" "LLastWords$State;") (by decide +kernel)
  have f2 := hts (.fieldLink RX11 118 "LastWords$State" "quarrel" "LLastWords$Quarrel;") (by decide +kernel)
  have f3 := hts (.fieldLink RX11 108 "LastWords$State" "corner" "LLastWords$Corner;") (by decide +kernel)
  have f4 := hts (.fieldLink RX11 95 "LastWords$Corner" "tunes" "I") (by decide +kernel)
  have f5 := hts (.fieldLink RX11 316 "LastWords$Corner" "words" "I") (by decide +kernel)
  have f6 := hts (.fieldLink RX11 98 "LastWords" "ruleCount" "I") (by decide +kernel)
  have f7 := hts (.fieldLink RX11 149 "LastWords$Quarrel" "goesOn" "Z") (by decide +kernel)
  have f8 := hts (.fieldLink RX11 128 "LastWords$Quarrel" "left" "I") (by decide +kernel)
  have f9 := hts (.fieldLink RX11 208 "LastWords$Quarrel" "turn" "I") (by decide +kernel)
  have f10 := hts (.fieldLink RX11 201 "LastWords$Quarrel" "verse" "I") (by decide +kernel)
  have f11 := hts (.fieldLink RX11 177 "LastWords$Quarrel" "hat" "I") (by decide +kernel)
  have f12 := hts (.fieldLink RX11 174 "LastWords$Quarrel" "moves" "I") (by decide +kernel)
  have f13 := hts (.fieldLink RX11 267 "LastWords$State" "organ" "LLastWords$Organ;") (by decide +kernel)
  have f14 := hts (.fieldLink RX11 271 "LastWords$Organ" "waiting" "I") (by decide +kernel)
  have f15 := hts (.fieldLink RX11 288 "LastWords$State" "x" "I") (by decide +kernel)
  have f16 := hts (.fieldLink RX11 69 "LastWords" "tapeLength" "I") (by decide +kernel)
  have bE : ∀ (M0 : gS) (M1 : gS) (M2 : gS) (M3 : gS) (M4 : gS) (M5 : gS) (M6 : gS) (M7 : gS) (M8 : gS) (M9 : gS) (H : Heap) (locs : List Loc) (ls : Array Slot), va_P (dC, dI) vwCl (lwW cB cI cJ cZ h0 a0 a1 a2 a3 a4 a5 a6 a7 o7 a8 o8 a9 M0 M1 M2 M3 M4 M5 M6 M7 M8 M9) H → va_D A (lwW cB cI cJ cZ h0 a0 a1 a2 a3 a4 a5 a6 a7 o7 a8 o8 a9 M0 M1 M2 M3 M4 M5 M6 M7 M8 M9) → va_S A s.heap H locs → lv_has ls 3 [(0, .ref h0), (1, .int p1)] → wX11_count p1 M0 M1 M2 M3 M4 M5 M6 M7 M8 M9 Q → W p l e (headSpec wsX11_count rmX11_count).room s m ([.ref h0, .int p1] : List Value).toArray below meth c H locs 0 0 (MQ below (va_Qi (fun (r : Int32) (u : gS × gS × gS × gS × gS × gS × gS × gS × gS × gS) => Q r u.1 u.2.1 u.2.2.1 u.2.2.2.1 u.2.2.2.2.1 u.2.2.2.2.2.1 u.2.2.2.2.2.2.1 u.2.2.2.2.2.2.2.1 u.2.2.2.2.2.2.2.2.1 u.2.2.2.2.2.2.2.2.2) (lwB dC dI cB cI cJ cZ h0 a0 a1 a2 a3 a4 a5 a6 a7 a8 a9 A) A) ([.ref h0, .int p1] : List Value).toArray s 0 0 A) (F0 m 0 ls []) := by
    intro M0 M1 M2 M3 M4 M5 M6 M7 M8 M9 H locs ls hP hD hS hl h
    unfold wX11_count at h
    refine lv_aload_n hx hb dX11_count_0 rfl (lv_at hl 0 rfl) ?_
    refine va_get (D := (dC, dI)) (ci := 11) (v := .ref (a0 4)) (C := RX11) (T := TX11) (N := 12) hx hb hts hinX11 hown hK hP 0 rfl rfl 4 (by decide) f1 (fun _ h9 => h9) rfl dX11_count_1 ?_
    refine va_get (D := (dC, dI)) (ci := 10) (v := .ref (a1 1)) (C := RX10) (T := TX10) (N := 5) hx hb hts hinX10 hown hK hP 3 rfl rfl 1 (by decide) f2 (fun _ h9 => h9) rfl dX11_count_4 ?_
    refine lv_astore_n (lv' := [(2, .ref (a1 1)), (0, .ref h0), (1, .int p1)]) hx hb dX11_count_7 rfl hl (by decide) rfl (fun ls hl => ?_)
    refine lv_iload_n hx hb dX11_count_8 rfl (lv_at hl 2 rfl) ?_
    by_cases c1 : p1 = (0 : Int32)
    · have h := h.1 c1
      refine lv_tableIn (tgt := 72) hx hb dX11_count_9 (by rw [c1]; decide) (by rw [c1]; decide) (by rw [c1]; rfl) (by decide) ?_
      refine lv_aload_n hx hb dX11_count_72 rfl (lv_at hl 1 rfl) ?_
      refine va_get (D := (dC, dI)) (ci := 11) (v := .ref (a0 4)) (C := RX11) (T := TX11) (N := 12) hx hb hts hinX11 hown hK hP 0 rfl rfl 4 (by decide) f1 (fun _ h9 => h9) rfl dX11_count_73 ?_
      refine va_get (D := (dC, dI)) (ci := 10) (v := .ref (a1 0)) (C := RX10) (T := TX10) (N := 5) hx hb hts hinX10 hown hK hP 3 rfl rfl 0 (by decide) f3 (fun _ h9 => h9) rfl dX11_count_76 ?_
      refine va_get (D := (dC, dI)) (ci := 1) (v := .int (mg M2 0)) (C := RX1) (T := TX1) (N := 6) hx hb hts hinX1 hown hK hP 5 rfl rfl 0 (by decide) f4 (fun _ h9 => h9) rfl dX11_count_79 ?_
      exact W.iret (v := (mg M2 0)) hx hb hr (fun t ht hW => ⟨⟨_, (M0, M1, M2, M3, M4, M5, M6, M7, M8, M9), rfl, h, o7, o8, by rw [ht]; exact hP, va_K.moved hW.alike hK, hD⟩, hS.F ht⟩) hS.2.2 dX11_count_82
    have h := h.2 c1
    by_cases c2 : p1 = (1 : Int32)
    · have h := h.1 c2
      refine lv_tableIn (tgt := 83) hx hb dX11_count_9 (by rw [c2]; decide) (by rw [c2]; decide) (by rw [c2]; rfl) (by decide) ?_
      refine lv_aload_n hx hb dX11_count_83 rfl (lv_at hl 1 rfl) ?_
      refine va_get (D := (dC, dI)) (ci := 11) (v := .ref (a0 4)) (C := RX11) (T := TX11) (N := 12) hx hb hts hinX11 hown hK hP 0 rfl rfl 4 (by decide) f1 (fun _ h9 => h9) rfl dX11_count_84 ?_
      refine va_get (D := (dC, dI)) (ci := 10) (v := .ref (a1 0)) (C := RX10) (T := TX10) (N := 5) hx hb hts hinX10 hown hK hP 3 rfl rfl 0 (by decide) f3 (fun _ h9 => h9) rfl dX11_count_87 ?_
      refine va_get (D := (dC, dI)) (ci := 1) (v := .int (mg M2 2)) (C := RX1) (T := TX1) (N := 6) hx hb hts hinX1 hown hK hP 5 rfl rfl 2 (by decide) f5 (fun _ h9 => h9) rfl dX11_count_90 ?_
      exact W.iret (v := (mg M2 2)) hx hb hr (fun t ht hW => ⟨⟨_, (M0, M1, M2, M3, M4, M5, M6, M7, M8, M9), rfl, h, o7, o8, by rw [ht]; exact hP, va_K.moved hW.alike hK, hD⟩, hS.F ht⟩) hS.2.2 dX11_count_93
    have h := h.2 c2
    by_cases c3 : p1 = (2 : Int32)
    · have h := h.1 c3
      refine lv_tableIn (tgt := 94) hx hb dX11_count_9 (by rw [c3]; decide) (by rw [c3]; decide) (by rw [c3]; rfl) (by decide) ?_
      refine lv_aload_n hx hb dX11_count_94 rfl (lv_at hl 1 rfl) ?_
      refine va_get (D := (dC, dI)) (ci := 11) (v := .int (mg M0 3)) (C := RX11) (T := TX11) (N := 12) hx hb hts hinX11 hown hK hP 0 rfl rfl 3 (by decide) f6 (fun _ h9 => h9) rfl dX11_count_95 ?_
      exact W.iret (v := (mg M0 3)) hx hb hr (fun t ht hW => ⟨⟨_, (M0, M1, M2, M3, M4, M5, M6, M7, M8, M9), rfl, h, o7, o8, by rw [ht]; exact hP, va_K.moved hW.alike hK, hD⟩, hS.F ht⟩) hS.2.2 dX11_count_98
    have h := h.2 c3
    by_cases c4 : p1 = (3 : Int32)
    · have h := h.1 c4
      refine lv_tableIn (tgt := 99) hx hb dX11_count_9 (by rw [c4]; decide) (by rw [c4]; decide) (by rw [c4]; rfl) (by decide) ?_
      refine lv_aload_n hx hb dX11_count_99 rfl (lv_at hl 0 rfl) ?_
      refine va_get (D := (dC, dI)) (ci := 6) (v := .int (mg M3 0)) (C := RX6) (T := TX6) (N := 10) hx hb hts hinX6 hown hK hP 9 rfl rfl 0 (by decide) f7 (fun _ h9 => h9) rfl dX11_count_100 ?_
      refine lv_if_eq (tgt := 113) hx hb dX11_count_103 (by decide) (fun c5 => ?_) (fun c5 => ?_)
      · have h := h.1 c5
        refine lv_iconst (v := 0) hx hb dX11_count_113 (by decide) ?_
        exact W.iret (v := (0 : Int32)) hx hb hr (fun t ht hW => ⟨⟨_, (M0, M1, M2, M3, M4, M5, M6, M7, M8, M9), rfl, h, o7, o8, by rw [ht]; exact hP, va_K.moved hW.alike hK, hD⟩, hS.F ht⟩) hS.2.2 dX11_count_114
      · have h := h.2 c5
        refine lv_aload_n hx hb dX11_count_106 rfl (lv_at hl 0 rfl) ?_
        refine va_get (D := (dC, dI)) (ci := 6) (v := .int (mg M3 2)) (C := RX6) (T := TX6) (N := 10) hx hb hts hinX6 hown hK hP 9 rfl rfl 2 (by decide) f8 (fun _ h9 => h9) rfl dX11_count_107 ?_
        refine lv_goto (tgt := 114) hx hb dX11_count_110 (by decide) ?_
        exact W.iret (v := (mg M3 2)) hx hb hr (fun t ht hW => ⟨⟨_, (M0, M1, M2, M3, M4, M5, M6, M7, M8, M9), rfl, h, o7, o8, by rw [ht]; exact hP, va_K.moved hW.alike hK, hD⟩, hS.F ht⟩) hS.2.2 dX11_count_114
    have h := h.2 c4
    by_cases c6 : p1 = (4 : Int32)
    · have h := h.1 c6
      refine lv_tableIn (tgt := 115) hx hb dX11_count_9 (by rw [c6]; decide) (by rw [c6]; decide) (by rw [c6]; rfl) (by decide) ?_
      refine lv_aload_n hx hb dX11_count_115 rfl (lv_at hl 0 rfl) ?_
      refine va_get (D := (dC, dI)) (ci := 6) (v := .int (mg M3 0)) (C := RX6) (T := TX6) (N := 10) hx hb hts hinX6 hown hK hP 9 rfl rfl 0 (by decide) f7 (fun _ h9 => h9) rfl dX11_count_116 ?_
      refine lv_if_eq (tgt := 129) hx hb dX11_count_119 (by decide) (fun c7 => ?_) (fun c7 => ?_)
      · have h := h.1 c7
        refine lv_iconst (v := (-1)) hx hb dX11_count_129 (by decide) ?_
        exact W.iret (v := (-1 : Int32)) hx hb hr (fun t ht hW => ⟨⟨_, (M0, M1, M2, M3, M4, M5, M6, M7, M8, M9), rfl, h, o7, o8, by rw [ht]; exact hP, va_K.moved hW.alike hK, hD⟩, hS.F ht⟩) hS.2.2 dX11_count_130
      · have h := h.2 c7
        refine lv_aload_n hx hb dX11_count_122 rfl (lv_at hl 0 rfl) ?_
        refine va_get (D := (dC, dI)) (ci := 6) (v := .int (mg M3 3)) (C := RX6) (T := TX6) (N := 10) hx hb hts hinX6 hown hK hP 9 rfl rfl 3 (by decide) f9 (fun _ h9 => h9) rfl dX11_count_123 ?_
        refine lv_goto (tgt := 130) hx hb dX11_count_126 (by decide) ?_
        exact W.iret (v := (mg M3 3)) hx hb hr (fun t ht hW => ⟨⟨_, (M0, M1, M2, M3, M4, M5, M6, M7, M8, M9), rfl, h, o7, o8, by rw [ht]; exact hP, va_K.moved hW.alike hK, hD⟩, hS.F ht⟩) hS.2.2 dX11_count_130
    have h := h.2 c6
    by_cases c8 : p1 = (5 : Int32)
    · have h := h.1 c8
      refine lv_tableIn (tgt := 131) hx hb dX11_count_9 (by rw [c8]; decide) (by rw [c8]; decide) (by rw [c8]; rfl) (by decide) ?_
      refine lv_aload_n hx hb dX11_count_131 rfl (lv_at hl 0 rfl) ?_
      refine va_get (D := (dC, dI)) (ci := 6) (v := .int (mg M3 0)) (C := RX6) (T := TX6) (N := 10) hx hb hts hinX6 hown hK hP 9 rfl rfl 0 (by decide) f7 (fun _ h9 => h9) rfl dX11_count_132 ?_
      refine lv_if_eq (tgt := 145) hx hb dX11_count_135 (by decide) (fun c9 => ?_) (fun c9 => ?_)
      · have h := h.1 c9
        refine lv_iconst (v := 0) hx hb dX11_count_145 (by decide) ?_
        exact W.iret (v := (0 : Int32)) hx hb hr (fun t ht hW => ⟨⟨_, (M0, M1, M2, M3, M4, M5, M6, M7, M8, M9), rfl, h, o7, o8, by rw [ht]; exact hP, va_K.moved hW.alike hK, hD⟩, hS.F ht⟩) hS.2.2 dX11_count_146
      · have h := h.2 c9
        refine lv_aload_n hx hb dX11_count_138 rfl (lv_at hl 0 rfl) ?_
        refine va_get (D := (dC, dI)) (ci := 6) (v := .int (mg M3 1)) (C := RX6) (T := TX6) (N := 10) hx hb hts hinX6 hown hK hP 9 rfl rfl 1 (by decide) f10 (fun _ h9 => h9) rfl dX11_count_139 ?_
        refine lv_goto (tgt := 146) hx hb dX11_count_142 (by decide) ?_
        exact W.iret (v := (mg M3 1)) hx hb hr (fun t ht hW => ⟨⟨_, (M0, M1, M2, M3, M4, M5, M6, M7, M8, M9), rfl, h, o7, o8, by rw [ht]; exact hP, va_K.moved hW.alike hK, hD⟩, hS.F ht⟩) hS.2.2 dX11_count_146
    have h := h.2 c8
    by_cases c10 : p1 = (6 : Int32)
    · have h := h.1 c10
      refine lv_tableIn (tgt := 147) hx hb dX11_count_9 (by rw [c10]; decide) (by rw [c10]; decide) (by rw [c10]; rfl) (by decide) ?_
      refine lv_aload_n hx hb dX11_count_147 rfl (lv_at hl 0 rfl) ?_
      refine va_get (D := (dC, dI)) (ci := 6) (v := .int (mg M3 5)) (C := RX6) (T := TX6) (N := 10) hx hb hts hinX6 hown hK hP 9 rfl rfl 5 (by decide) f11 (fun _ h9 => h9) rfl dX11_count_148 ?_
      exact W.iret (v := (mg M3 5)) hx hb hr (fun t ht hW => ⟨⟨_, (M0, M1, M2, M3, M4, M5, M6, M7, M8, M9), rfl, h, o7, o8, by rw [ht]; exact hP, va_K.moved hW.alike hK, hD⟩, hS.F ht⟩) hS.2.2 dX11_count_151
    have h := h.2 c10
    by_cases c11 : p1 = (7 : Int32)
    · have h := h.1 c11
      refine lv_tableIn (tgt := 152) hx hb dX11_count_9 (by rw [c11]; decide) (by rw [c11]; decide) (by rw [c11]; rfl) (by decide) ?_
      refine lv_aload_n hx hb dX11_count_152 rfl (lv_at hl 0 rfl) ?_
      refine va_get (D := (dC, dI)) (ci := 6) (v := .int (mg M3 0)) (C := RX6) (T := TX6) (N := 10) hx hb hts hinX6 hown hK hP 9 rfl rfl 0 (by decide) f7 (fun _ h9 => h9) rfl dX11_count_153 ?_
      refine lv_if_eq (tgt := 166) hx hb dX11_count_156 (by decide) (fun c12 => ?_) (fun c12 => ?_)
      · have h := h.1 c12
        refine lv_iconst (v := 0) hx hb dX11_count_166 (by decide) ?_
        exact W.iret (v := (0 : Int32)) hx hb hr (fun t ht hW => ⟨⟨_, (M0, M1, M2, M3, M4, M5, M6, M7, M8, M9), rfl, h, o7, o8, by rw [ht]; exact hP, va_K.moved hW.alike hK, hD⟩, hS.F ht⟩) hS.2.2 dX11_count_167
      · have h := h.2 c12
        refine lv_aload_n hx hb dX11_count_159 rfl (lv_at hl 0 rfl) ?_
        refine va_get (D := (dC, dI)) (ci := 6) (v := .int (mg M3 4)) (C := RX6) (T := TX6) (N := 10) hx hb hts hinX6 hown hK hP 9 rfl rfl 4 (by decide) f12 (fun _ h9 => h9) rfl dX11_count_160 ?_
        refine lv_goto (tgt := 167) hx hb dX11_count_163 (by decide) ?_
        exact W.iret (v := (mg M3 4)) hx hb hr (fun t ht hW => ⟨⟨_, (M0, M1, M2, M3, M4, M5, M6, M7, M8, M9), rfl, h, o7, o8, by rw [ht]; exact hP, va_K.moved hW.alike hK, hD⟩, hS.F ht⟩) hS.2.2 dX11_count_167
    have h := h.2 c11
    by_cases c13 : p1 = (8 : Int32)
    · have h := h.1 c13
      refine lv_tableIn (tgt := 168) hx hb dX11_count_9 (by rw [c13]; decide) (by rw [c13]; decide) (by rw [c13]; rfl) (by decide) ?_
      refine lv_aload_n hx hb dX11_count_168 rfl (lv_at hl 1 rfl) ?_
      refine va_get (D := (dC, dI)) (ci := 11) (v := .ref (a0 4)) (C := RX11) (T := TX11) (N := 12) hx hb hts hinX11 hown hK hP 0 rfl rfl 4 (by decide) f1 (fun _ h9 => h9) rfl dX11_count_169 ?_
      have hPc := hP.sub (ws' := (stW cB cI cJ cZ (a0 4) a1 a2 a3 a4 M1 M2 M3 M4)) [3, 4, 5, 6, 7, 8, 9, 10, 11, 12, 13, 14, 15, 16] rfl
      have hDc := hD.sub (ws' := (stW cB cI cJ cZ (a0 4) a1 a2 a3 a4 M1 M2 M3 M4)) [3, 4, 5, 6, 7, 8, 9, 10, 11, 12, 13, 14, 15, 16] (by decide) rfl
      have hFc := va_free (wc := (stW cB cI cJ cZ (a0 4) a1 a2 a3 a4 M1 M2 M3 M4)) hD hS hA [3, 4, 5, 6, 7, 8, 9, 10, 11, 12, 13, 14, 15, 16] rfl
      refine va_calli (va_runV (As := []) (rest := []) ⟨hx, hb, hml, hown, hts⟩ (kX10_allWon l dC dI cB cI cJ cZ (a0 4) a1 a2 a3 a4 H.size  M1 M2 M3 M4 _ h) (cwV 0 hts gX11_count_X10_allWon rfl rfl rfl (by decide +kernel) ⟨Nat.le_of_ble_eq_true rfl, Nat.le_of_ble_eq_true rfl⟩) (stpV hK hPc hDc) rfl rfl hl.1 rfl (lv_room (Nat.le_of_ble_eq_true rfl)) dX11_count_172 ⟨Nat.le_of_ble_eq_true rfl, Nat.le_of_ble_eq_true rfl⟩) hS (fun q _ z => hFc q z) hFc (fun r14 u t H1 locs ht hvm hw hB hz1 hk1 hS => ?_)
      obtain ⟨N15, N16, N17, N18⟩ := u
      obtain ⟨hP1, hK1, hD1⟩ := hB
      rw [ht] at hP1
      obtain ⟨hP, hD⟩ := va_join (wr := [(h0, .inr (11, [.ref (a0 0), .int (mg M0 1), .ref (a0 2), .int (mg M0 3), .ref (a0 4), .ref (a0 5), .ref (a0 6), .ref (a0 7), .ref (a0 8), .ref (a0 9), .ref (a0 10), .ref (a0 11)])), (a0 0, .inl (cI, 400, .inl (ma M0 0))), (a0 11, .inl (cJ, 4, .inr (.inl (ml M0 11)))), (a0 6, .inr (1, [.int (mg M5 0), .ref (a5 1), .int (mg M5 2), .ref (a5 3), .int (mg M5 4), .ref (a5 5)])), (a5 1, .inl (cI, 4, .inl (ma M5 1))), (a5 3, .inl (cI, 4, .inl (ma M5 3))), (a5 5, .inl (cI, 2, .inl (ma M5 5))), (a0 7, .inr (6, [.int (mg M6 0), .int (mg M6 1), .int (mg M6 2), .int (mg M6 3), .int (mg M6 4), .int (mg M6 5), .int (mg M6 6), .ref (a6 7), .ref (a6 8), .ref (a6 9)])), (a6 7, .inl (cI, 2, .inl (ma M6 7))), (a6 8, .inl (cI, 2, .inl (ma M6 8))), (a6 9, .inl (cI, 2, .inl (ma M6 9))), (a0 8, .inr (0, [.ref (a7 0), .ref (a7 1), .ref (a7 2), .ref (a7 3), .int (mg M7 4), va_rf o7, .int (mg M7 6), .int (mg M7 7), .int (mg M7 8), .int (mg M7 9), .int (mg M7 10)])), (a7 0, .inl (cJ, 15, .inr (.inl (ml M7 0)))), (a7 1, .inl (cJ, 800, .inr (.inl (ml M7 1)))), (a7 2, .inl (cI, 4, .inl (ma M7 2))), (a7 3, .inl (cJ, 4, .inr (.inl (ml M7 3)))), (a0 9, .inr (5, [.ref (a8 0), .ref (a8 1), va_rf o8, .int (mg M8 3)])), (a8 0, .inl (cI, 2048, .inl (ma M8 0))), (a8 1, .inl (cI, 2048, .inl (ma M8 1))), (a0 10, .inr (3, [.int (mg M9 0), .int (mg M9 1), .int (mg M9 2), .int (mg M9 3), .int (mg M9 4)]))]) (w1 := (stW cB cI cJ cZ (a0 4) a1 a2 a3 a4 N15 N16 N17 N18)) hP hD [3, 4, 5, 6, 7, 8, 9, 10, 11, 12, 13, 14, 15, 16] [0, 1, 2, 17, 18, 19, 20, 21, 22, 23, 24, 25, 26, 27, 28, 29, 30, 31, 32, 33] rfl rfl (by decide) (by decide) hk1 hFc hP1 hD1
      have hP := hP.sub (ws' := (lwW cB cI cJ cZ h0 a0 a1 a2 a3 a4 a5 a6 a7 o7 a8 o8 a9 M0 N15 N16 N17 N18 M5 M6 M7 M8 M9)) [0, 1, 2, 20, 21, 22, 23, 24, 25, 26, 27, 28, 29, 30, 31, 32, 33, 3, 4, 5, 6, 7, 8, 9, 10, 11, 12, 13, 14, 15, 16, 17, 18, 19] rfl
      have hD := hD.sub (ws' := (lwW cB cI cJ cZ h0 a0 a1 a2 a3 a4 a5 a6 a7 o7 a8 o8 a9 M0 N15 N16 N17 N18 M5 M6 M7 M8 M9)) [0, 1, 2, 20, 21, 22, 23, 24, 25, 26, 27, 28, 29, 30, 31, 32, 33, 3, 4, 5, 6, 7, 8, 9, 10, 11, 12, 13, 14, 15, 16, 17, 18, 19] (by decide) rfl
      generalize H1 = H at hP hS ⊢
      have h := hw
      try dsimp only at h
      exact W.iret (v := r14) hx hb hr (fun t ht hW => ⟨⟨_, (M0, N15, N16, N17, N18, M5, M6, M7, M8, M9), rfl, h, o7, o8, by rw [ht]; exact hP, va_K.moved hW.alike hK, hD⟩, hS.F ht⟩) hS.2.2 dX11_count_175
    have h := h.2 c13
    by_cases c19 : p1 = (9 : Int32)
    · have h := h.1 c19
      refine lv_tableIn (tgt := 176) hx hb dX11_count_9 (by rw [c19]; decide) (by rw [c19]; decide) (by rw [c19]; rfl) (by decide) ?_
      refine lv_aload_n hx hb dX11_count_176 rfl (lv_at hl 1 rfl) ?_
      refine va_get (D := (dC, dI)) (ci := 11) (v := .ref (a0 4)) (C := RX11) (T := TX11) (N := 12) hx hb hts hinX11 hown hK hP 0 rfl rfl 4 (by decide) f1 (fun _ h9 => h9) rfl dX11_count_177 ?_
      refine va_get (D := (dC, dI)) (ci := 10) (v := .ref (a1 2)) (C := RX10) (T := TX10) (N := 5) hx hb hts hinX10 hown hK hP 3 rfl rfl 2 (by decide) f13 (fun _ h9 => h9) rfl dX11_count_180 ?_
      refine va_get (D := (dC, dI)) (ci := 4) (v := .int (mg M4 0)) (C := RX4) (T := TX4) (N := 4) hx hb hts hinX4 hown hK hP 13 rfl rfl 0 (by decide) f14 (fun _ h9 => h9) rfl dX11_count_183 ?_
      exact W.iret (v := (mg M4 0)) hx hb hr (fun t ht hW => ⟨⟨_, (M0, M1, M2, M3, M4, M5, M6, M7, M8, M9), rfl, h, o7, o8, by rw [ht]; exact hP, va_K.moved hW.alike hK, hD⟩, hS.F ht⟩) hS.2.2 dX11_count_186
    have h := h.2 c19
    by_cases c20 : p1 = (10 : Int32)
    · have h := h.1 c20
      refine lv_tableIn (tgt := 187) hx hb dX11_count_9 (by rw [c20]; decide) (by rw [c20]; decide) (by rw [c20]; rfl) (by decide) ?_
      refine lv_aload_n hx hb dX11_count_187 rfl (lv_at hl 1 rfl) ?_
      refine va_get (D := (dC, dI)) (ci := 11) (v := .ref (a0 4)) (C := RX11) (T := TX11) (N := 12) hx hb hts hinX11 hown hK hP 0 rfl rfl 4 (by decide) f1 (fun _ h9 => h9) rfl dX11_count_188 ?_
      refine va_get (D := (dC, dI)) (ci := 10) (v := .int (mg M1 4)) (C := RX10) (T := TX10) (N := 5) hx hb hts hinX10 hown hK hP 3 rfl rfl 4 (by decide) f15 (fun _ h9 => h9) rfl dX11_count_191 ?_
      exact W.iret (v := (mg M1 4)) hx hb hr (fun t ht hW => ⟨⟨_, (M0, M1, M2, M3, M4, M5, M6, M7, M8, M9), rfl, h, o7, o8, by rw [ht]; exact hP, va_K.moved hW.alike hK, hD⟩, hS.F ht⟩) hS.2.2 dX11_count_194
    have h := h.2 c20
    by_cases c21 : p1 = (11 : Int32)
    · have h := h.1 c21
      refine lv_tableIn (tgt := 195) hx hb dX11_count_9 (by rw [c21]; decide) (by rw [c21]; decide) (by rw [c21]; rfl) (by decide) ?_
      refine lv_aload_n hx hb dX11_count_195 rfl (lv_at hl 1 rfl) ?_
      refine va_get (D := (dC, dI)) (ci := 11) (v := .int (mg M0 1)) (C := RX11) (T := TX11) (N := 12) hx hb hts hinX11 hown hK hP 0 rfl rfl 1 (by decide) f16 (fun _ h9 => h9) rfl dX11_count_196 ?_
      exact W.iret (v := (mg M0 1)) hx hb hr (fun t ht hW => ⟨⟨_, (M0, M1, M2, M3, M4, M5, M6, M7, M8, M9), rfl, h, o7, o8, by rw [ht]; exact hP, va_K.moved hW.alike hK, hD⟩, hS.F ht⟩) hS.2.2 dX11_count_199
    have h := h.2 c21
    refine lv_tableOut (tgt := 200) hx hb dX11_count_9 (by have qc1 : p1.toInt ≠ 0 := fun q => c1 (Int32.toInt_inj.mp (q.trans (by decide))); have qc2 : p1.toInt ≠ 1 := fun q => c2 (Int32.toInt_inj.mp (q.trans (by decide))); have qc3 : p1.toInt ≠ 2 := fun q => c3 (Int32.toInt_inj.mp (q.trans (by decide))); have qc4 : p1.toInt ≠ 3 := fun q => c4 (Int32.toInt_inj.mp (q.trans (by decide))); have qc6 : p1.toInt ≠ 4 := fun q => c6 (Int32.toInt_inj.mp (q.trans (by decide))); have qc8 : p1.toInt ≠ 5 := fun q => c8 (Int32.toInt_inj.mp (q.trans (by decide))); have qc10 : p1.toInt ≠ 6 := fun q => c10 (Int32.toInt_inj.mp (q.trans (by decide))); have qc11 : p1.toInt ≠ 7 := fun q => c11 (Int32.toInt_inj.mp (q.trans (by decide))); have qc13 : p1.toInt ≠ 8 := fun q => c13 (Int32.toInt_inj.mp (q.trans (by decide))); have qc19 : p1.toInt ≠ 9 := fun q => c19 (Int32.toInt_inj.mp (q.trans (by decide))); have qc20 : p1.toInt ≠ 10 := fun q => c20 (Int32.toInt_inj.mp (q.trans (by decide))); have qc21 : p1.toInt ≠ 11 := fun q => c21 (Int32.toInt_inj.mp (q.trans (by decide))); omega) (by decide) ?_
    refine lv_iconst (v := (-1)) hx hb dX11_count_200 (by decide) ?_
    exact W.iret (v := (-1 : Int32)) hx hb hr (fun t ht hW => ⟨⟨_, (M0, M1, M2, M3, M4, M5, M6, M7, M8, M9), rfl, h, o7, o8, by rw [ht]; exact hP, va_K.moved hW.alike hK, hD⟩, hS.F ht⟩) hS.2.2 dX11_count_201
  have hl := lv_entry ([.ref h0, .int p1]) (n := 3) (Nat.le_of_ble_eq_true rfl)
  rw [lg_entry_eq]
  generalize (lg_sl ([.ref h0, .int p1]) ++ List.replicate (3 - (lg_sl ([.ref h0, .int p1])).length) Slot.unset).toArray = ls at hl ⊢
  have hl : lv_has ls 3 [(0, .ref h0), (1, .int p1)] := hl
  exact bE M0 M1 M2 M3 M4 M5 M6 M7 M8 M9 s.heap [] ls hP hD hS hl h
