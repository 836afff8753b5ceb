def wX9_readFact_34 (T : Int32 → Int32 → gS → gS → gS → gS → (gS → gS → gS → gS → Prop) → Prop)  (Q : gS → gS → gS → gS → Prop) (y1 : Int32) (y2 : Int32) (M0 : gS) (M1 : gS) (M2 : gS) (M3 : gS) : Prop :=
 (T  y1 y2 M0 M1 M2 M3 (fun (N2 : gS) (N3 : gS) (N4 : gS) (N5 : gS) => (Q N2 N3 N4 N5)))
def wX9_readFact_17 (T : Int32 → Int32 → gS → gS → gS → gS → (gS → gS → gS → gS → Prop) → Prop)  (Q : gS → gS → gS → gS → Prop) (y1 : Int32) (z0 : Int32) (M0 : gS) (M1 : gS) (M2 : gS) (M3 : gS) : Prop :=
 ((z0 = 0 → (wX7_isSign (91 : Int32) M1 M2 (fun (b5 : Bool) (N3 : gS) (N4 : gS) => (((bI b5) = 0 → (wX9_readSum  M0 N3 N4 M3 (fun (N8 : gS) (N9 : gS) (N10 : gS) (N11 : gS) => (wX9_comparisonAhead  N8 N9 N10 N11 (fun (r12 : Int32) (N13 : gS) (N14 : gS) (N15 : gS) (N16 : gS) => ((r12 = (-100 : Int32) → (wX7_fail (0 : Int32) N14 N15 (fun (N36 : gS) (N37 : gS) => (Q N13 N36 N37 N16))))
 ∧ (¬ r12 = (-100 : Int32) → (wX9_isRoomForNode  N13 N14 N15 N16 (fun (b23 : Bool) (N19 : gS) (N20 : gS) (N21 : gS) (N22 : gS) => (((bI b23) = 0 → (Q N19 N20 N21 N22))
 ∧ (¬ (bI b23) = 0 → (wX7_advance  N20 N21 (fun (N26 : gS) (N27 : gS) => (wX9_readSum  N19 N26 N27 N22 (fun (N29 : gS) (N30 : gS) (N31 : gS) (N32 : gS) => (wX8_put r12 N32 (fun (N34 : gS) => (Q N29 N30 N31 N34))))))))))))))))))
 ∧ (¬ (bI b5) = 0 → (wX9_readFact_34 T  Q y1 z0 M0 N3 N4 M3))))))
 ∧ (¬ z0 = 0 → (wX9_readFact_34 T  Q y1 z0 M0 M1 M2 M3)))
def wX9_readFact (T : Int32 → Int32 → gS → gS → gS → gS → (gS → gS → gS → gS → Prop) → Prop) (p1 : Int32) (M0 : gS) (M1 : gS) (M2 : gS) (M3 : gS) (Q : gS → gS → gS → gS → Prop) : Prop :=
 (wX7_nameAmong 4 M1 M2 (fun (r1 : Int32) (N2 : gS) (N3 : gS) => ((r1 = 0 → (wX9_readFact_17 T  Q p1 (1 : Int32) M0 N2 N3 M3))
 ∧ (¬ r1 = 0 → (wX9_readFact_17 T  Q p1 (0 : Int32) M0 N2 N3 M3)))))
def rmX9_readFact (rT : Room) : Room := { frames := rT.frames + 7, cells := 0, slots := 0, locals := rT.locals + 153 }
set_option maxHeartbeats 4000000 in
set_option maxRecDepth 100000 in
theorem kX9_readFact (l : Launch) (dC : Nat → ClassId) (dI : Nat → Nat → Nat) (cB cI cJ cZ : ClassId) (adK adV : Nat → Nat) (h0 : Nat) (a0 : Nat → Nat) (a1 : Nat → Nat) (a3 : Nat → Nat) (T : Int32 → Int32 → gS → gS → gS → gS → (gS → gS → gS → gS → Prop) → Prop) (rT : Room) (hrT : rT.cells = 0 ∧ rT.slots = 0) (hT : ∀ (sz : Nat) (q1 : Int32) (q2 : Int32) (M0 : gS) (M1 : gS) (M2 : gS) (M3 : gS) (Q : gS → gS → gS → gS → Prop), T q1 q2 M0 M1 M2 M3 Q → Met l yX9_readNested wsX9_readNested rT (va_Pc [.ref h0, .int q1, .int q2] (rrIS dC dI cB cI cJ cZ h0 a0 a1 a3 M0 M1 M2 M3 adK adV sz)) (va_Qv (fun (u : gS × gS × gS × gS) => Q u.1 u.2.1 u.2.2.1 u.2.2.2) (rrB dC dI cB cI cJ cZ h0 a0 a1 a3 (va_A (rrW cB cI cJ cZ h0 a0 a1 a3 M0 M1 M2 M3) sz)) (va_A (rrW cB cI cJ cZ h0 a0 a1 a3 M0 M1 M2 M3) sz)) 0 0 (va_A (rrW cB cI cJ cZ h0 a0 a1 a3 M0 M1 M2 M3) sz)) (sz : Nat) (p1 : Int32) (M0 : gS) (M1 : gS) (M2 : gS) (M3 : gS) (Q : gS → gS → gS → gS → Prop) (h : wX9_readFact T p1 M0 M1 M2 M3 Q) : Met l yX9_readFact wsX9_readFact (rmX9_readFact rT) (va_Pc [.ref h0, .int p1] (rrIS dC dI cB cI cJ cZ h0 a0 a1 a3 M0 M1 M2 M3 adK adV sz)) (va_Qv (fun (u : gS × gS × gS × gS) => Q u.1 u.2.1 u.2.2.1 u.2.2.2) (rrB dC dI cB cI cJ cZ h0 a0 a1 a3 (va_A (rrW cB cI cJ cZ h0 a0 a1 a3 M0 M1 M2 M3) sz)) (va_A (rrW cB cI cJ cZ h0 a0 a1 a3 M0 M1 M2 M3) sz)) 0 0 (va_A (rrW cB cI cJ cZ h0 a0 a1 a3 M0 M1 M2 M3) sz) := by
  refine Met.ofW (cc := cX9_readFact) (maxL := 4) (ret := none) (by decide) rfl ?_
  intro p e s m args below meth c s₁ B hml hv
  obtain ⟨rfl, ⟨hsz, hP, hK, hD0⟩, hR, hE⟩ := hv
  have hx := B.exec
  have hb := B.bytes
  have hr := B.returns
  have hts := atoms_spec (ws := wsX9_readFact) B.pre
  have hown : s.vm.findClass RX9 = some m.cls := findClass_of_methodNamed B.named
  have hlocks := B.notSynchronized
  subst hsz
  have hD := hD0.self (sz := s.heap.size)
  generalize hAe : va_A (rrW cB cI cJ cZ h0 a0 a1 a3 M0 M1 M2 M3) s.heap.size = A at hD hE ⊢
  have hA : ∀ q : Nat, s.heap.size ≤ q → A q := fun q h => by rw [← hAe]; exact Or.inr h
  have hS : va_S A s.heap s.heap [] := va_S.rf
  have hinX9 : ∀ w ∈ wsX90, w ∈ wsX9_readFact := by decide +kernel
  have f1 := hts (.fieldLink RX9 9 "LastWords$RuleReader" "in" "LLastWords$Reader;") (by decide +kernel)
  have f2 := hts (.fieldLink RX9 15 "LastWords$RuleReader" "rule" "LLastWords$Rule;") (by decide +kernel)
  have b34 : ∀ (y1 : Int32) (y2 : Int32) (M0 : gS) (M1 : gS) (M2 : gS) (M3 : gS) (H : Heap) (locs : List Loc) (ls : Array Slot), va_P (dC, dI) vwCl (rrW cB cI cJ cZ h0 a0 a1 a3 M0 M1 M2 M3) H → va_D A (rrW cB cI cJ cZ h0 a0 a1 a3 M0 M1 M2 M3) → va_S A s.heap H locs → lv_has ls 4 [(0, .ref h0), (1, .int y1), (2, .int y2)] → wX9_readFact_34 T  Q y1 y2 M0 M1 M2 M3 → W p l e (headSpec wsX9_readFact (rmX9_readFact rT)).room s m ([.ref h0, .int p1] : List Value).toArray below meth c H locs 0 0 (MQ below (va_Qv (fun (u : gS × gS × gS × gS) => Q u.1 u.2.1 u.2.2.1 u.2.2.2) (rrB dC dI cB cI cJ cZ h0 a0 a1 a3 A) A) ([.ref h0, .int p1] : List Value).toArray s 0 0 A) (F0 m 34 ls []) := by
    intro  y1 y2 M0 M1 M2 M3 H locs ls hP hD hS hl h
    unfold wX9_readFact_34 at h
    refine lv_aload_n hx hb dX9_readFact_34 rfl (lv_at hl 0 rfl) ?_
    refine lv_iload_n hx hb dX9_readFact_35 rfl (lv_at hl 1 rfl) ?_
    refine lv_iload_n hx hb dX9_readFact_36 rfl (lv_at hl 2 rfl) ?_
    have hFc := gs_free hD hS hA
    refine va_callv (va_runV (As := [.int y1, .int y2]) (rest := []) ⟨hx, hb, hml, hown, hts⟩ (hT H.size y1 y2 M0 M1 M2 M3 _ h) (cwV 2 hts gX9_readFact_X9_readNested rfl hrT.1 hrT.2 (by decide +kernel) ⟨by show rT.frames + 1 ≤ rT.frames + 7; omega, by show 8 + (3 + 11) + rT.locals ≤ rT.locals + 153; omega⟩) (rrpVS hK hP hD hR hE hS hFc) rfl rfl hl.1 rfl (lv_room (Nat.le_of_ble_eq_true rfl)) dX9_readFact_37 ⟨Nat.le_of_ble_eq_true rfl, Nat.le_of_ble_eq_true rfl⟩) hS (fun q _ z => hFc q z) hFc (fun u t H1 locs ht hvm hw hB hz1 hk1 hS => ?_)
    obtain ⟨N2, N3, N4, N5⟩ := u
    obtain ⟨hP, hD⟩ := gs_back ht hFc hB
    generalize H1 = H at hP hS ⊢
    have h := hw
    try dsimp only at h
    exact W.vret hx hb hr (fun t ht hW => ⟨⟨(N2, N3, N4, N5), rfl, h, by rw [ht]; exact hP, va_K.moved hW.alike hK, hD⟩, hS.F ht⟩) hS.2.2 dX9_readFact_40
  have b17 : ∀ (y1 : Int32) (z0 : Int32) (M0 : gS) (M1 : gS) (M2 : gS) (M3 : gS) (H : Heap) (locs : List Loc) (ls : Array Slot), va_P (dC, dI) vwCl (rrW cB cI cJ cZ h0 a0 a1 a3 M0 M1 M2 M3) H → va_D A (rrW cB cI cJ cZ h0 a0 a1 a3 M0 M1 M2 M3) → va_S A s.heap H locs → lv_has ls 4 [(0, .ref h0), (1, .int y1)] → wX9_readFact_17 T  Q y1 z0 M0 M1 M2 M3 → W p l e (headSpec wsX9_readFact (rmX9_readFact rT)).room s m ([.ref h0, .int p1] : List Value).toArray below meth c H locs 0 0 (MQ below (va_Qv (fun (u : gS × gS × gS × gS) => Q u.1 u.2.1 u.2.2.1 u.2.2.2) (rrB dC dI cB cI cJ cZ h0 a0 a1 a3 A) A) ([.ref h0, .int p1] : List Value).toArray s 0 0 A) (F0 m 17 ls [.int z0]) := by
    intro  y1 z0 M0 M1 M2 M3 H locs ls hP hD hS hl h
    unfold wX9_readFact_17 at h
    refine lv_istore_n (lv' := [(2, .int z0), (0, .ref h0), (1, .int y1)]) hx hb dX9_readFact_17 rfl hl (by decide) rfl (fun ls hl => ?_)
    refine lv_iload_n hx hb dX9_readFact_18 rfl (lv_at hl 0 rfl) ?_
    refine lv_if_ne (tgt := 34) hx hb dX9_readFact_19 (by decide) (fun c1 => ?_) (fun c1 => ?_)
    · have h := h.2 c1
      exact b34  y1 z0 M0 M1 M2 M3 H locs ls hP hD hS (lv_sub hl [1, 2, 0] rfl) h
    · have h := h.1 c1
      refine lv_aload_n hx hb dX9_readFact_22 rfl (lv_at hl 1 rfl) ?_
      refine va_get (D := (dC, dI)) (ci := 9) (v := .ref (a0 0)) (C := RX9) (T := TX9) (N := 3) hx hb hts hinX9 hown hK hP 0 rfl rfl 0 (by decide) f1 (fun _ h9 => h9) rfl dX9_readFact_23 ?_
      refine lv_bipush (v := (91)) hx hb dX9_readFact_26 (by decide) ?_
      have hPc := hP.sub (ws' := (rdW cB cI cJ cZ (a0 0) a1 M1 M2)) [1, 2] rfl
      have hDc := hD.sub (ws' := (rdW cB cI cJ cZ (a0 0) a1 M1 M2)) [1, 2] (by decide) rfl
      have hFc := va_free (wc := (rdW cB cI cJ cZ (a0 0) a1 M1 M2)) hD hS hA [1, 2] rfl
      refine va_calli (va_runV (As := [.int (91 : Int32)]) (rest := []) ⟨hx, hb, hml, hown, hts⟩ (kX7_isSign l dC dI cB cI cJ cZ (a0 0) a1 H.size (91 : Int32) M1 M2 _ h) (cwV 1 hts gX9_readFact_X7_isSign rfl rfl rfl (by decide +kernel) ⟨by show 0 + 1 ≤ rT.frames + 7; omega, by show 8 + (2 + 11) + 0 ≤ rT.locals + 153; omega⟩) (rdpV hK hPc hDc) rfl rfl hl.1 rfl (lv_room (Nat.le_of_ble_eq_true rfl)) dX9_readFact_28 ⟨Nat.le_of_ble_eq_true rfl, Nat.le_of_ble_eq_true rfl⟩) hS (fun q _ z => hFc q z) hFc (fun r2 u t H1 locs ht hvm hw hB hz1 hk1 hS => ?_)
      obtain ⟨N3, N4⟩ := u
      obtain ⟨hP1, hK1, hD1⟩ := hB
      rw [ht] at hP1
      obtain ⟨hP, hD⟩ := va_join (wr := [(h0, .inr (9, [.ref (a0 0), .ref (a0 1), .int (mg M0 2)])), (a0 1, .inr (8, [.int (mg M3 0), .ref (a3 1), .ref (a3 2), .ref (a3 3), .int (mg M3 4), .ref (a3 5)])), (a3 1, .inl (cI, 12, .inl (ma M3 1))), (a3 2, .inl (cI, 12, .inl (ma M3 2))), (a3 3, .inl (cI, 400, .inl (ma M3 3))), (a3 5, .inl (cJ, 60, .inr (.inl (ml M3 5))))]) (w1 := (rdW cB cI cJ cZ (a0 0) a1 N3 N4)) hP hD [1, 2] [0, 3, 4, 5, 6, 7] rfl rfl (by decide) (by decide) hk1 hFc hP1 hD1
      have hP := hP.sub (ws' := (rrW cB cI cJ cZ h0 a0 a1 a3 M0 N3 N4 M3)) [0, 6, 7, 1, 2, 3, 4, 5] rfl
      have hD := hD.sub (ws' := (rrW cB cI cJ cZ h0 a0 a1 a3 M0 N3 N4 M3)) [0, 6, 7, 1, 2, 3, 4, 5] (by decide) rfl
      generalize H1 = H at hP hS ⊢
      obtain ⟨b5, rfl, h⟩ := hw
      try dsimp only at h
      refine lv_if_eq (tgt := 41) hx hb dX9_readFact_31 (by decide) (fun c6 => ?_) (fun c6 => ?_)
      · have h := h.1 c6
        refine lv_aload_n hx hb dX9_readFact_41 rfl (lv_at hl 1 rfl) ?_
        have hFc := gs_free hD hS hA
        refine va_callv (va_runV (As := []) (rest := []) ⟨hx, hb, hml, hown, hts⟩ (kX9_readSum l dC dI cB cI cJ cZ adK adV h0 a0 a1 a3 H.size  M0 N3 N4 M3 _ h) (cwV 0 hts gX9_readFact_X9_readSum rfl rfl rfl (by decide +kernel) ⟨by show 6 + 1 ≤ rT.frames + 7; omega, by show 8 + (4 + 11) + 130 ≤ rT.locals + 153; omega⟩) (rrpVS hK hP hD hR hE hS hFc) rfl rfl hl.1 rfl (lv_room (Nat.le_of_ble_eq_true rfl)) dX9_readFact_42 ⟨Nat.le_of_ble_eq_true rfl, Nat.le_of_ble_eq_true rfl⟩) hS (fun q _ z => hFc q z) hFc (fun u t H1 locs ht hvm hw hB hz1 hk1 hS => ?_)
        obtain ⟨N8, N9, N10, N11⟩ := u
        obtain ⟨hP, hD⟩ := gs_back ht hFc hB
        generalize H1 = H at hP hS ⊢
        have h := hw
        try dsimp only at h
        refine lv_aload_n hx hb dX9_readFact_45 rfl (lv_at hl 1 rfl) ?_
        have hFc := gs_free hD hS hA
        refine va_calli (va_runV (As := []) (rest := []) ⟨hx, hb, hml, hown, hts⟩ (kX9_comparisonAhead l dC dI cB cI cJ cZ h0 a0 a1 a3 H.size  N8 N9 N10 N11 _ h) (cwV 0 hts gX9_readFact_X9_comparisonAhead rfl rfl rfl (by decide +kernel) ⟨by show 0 + 1 ≤ rT.frames + 7; omega, by show 8 + (1 + 11) + 0 ≤ rT.locals + 153; omega⟩) (rrpV hK hP hD) rfl rfl hl.1 rfl (lv_room (Nat.le_of_ble_eq_true rfl)) dX9_readFact_46 ⟨Nat.le_of_ble_eq_true rfl, Nat.le_of_ble_eq_true rfl⟩) hS (fun q _ z => hFc q z) hFc (fun r12 u t H1 locs ht hvm hw hB hz1 hk1 hS => ?_)
        obtain ⟨N13, N14, N15, N16⟩ := u
        obtain ⟨hP, hD⟩ := gs_back ht hFc hB
        generalize H1 = H at hP hS ⊢
        have h := hw
        try dsimp only at h
        refine lv_istore_n (lv' := [(3, .int r12), (2, .int z0), (0, .ref h0), (1, .int y1)]) hx hb dX9_readFact_49 rfl hl (by decide) rfl (fun ls hl => ?_)
        refine lv_iload_n hx hb dX9_readFact_50 rfl (lv_at hl 0 rfl) ?_
        refine lv_bipush (v := (-100)) hx hb dX9_readFact_51 (by decide) ?_
        refine lv_icmp_ne (tgt := 67) hx hb dX9_readFact_53 (by decide) (fun c17 => ?_) (fun c17 => ?_)
        · have h := h.2 c17
          refine lv_aload_n hx hb dX9_readFact_67 rfl (lv_at hl 2 rfl) ?_
          have hFc := gs_free hD hS hA
          refine va_calli (va_runV (As := []) (rest := []) ⟨hx, hb, hml, hown, hts⟩ (kX9_isRoomForNode l dC dI cB cI cJ cZ h0 a0 a1 a3 H.size  N13 N14 N15 N16 _ h) (cwV 0 hts gX9_readFact_X9_isRoomForNode rfl rfl rfl (by decide +kernel) ⟨by show 1 + 1 ≤ rT.frames + 7; omega, by show 8 + (1 + 11) + 21 ≤ rT.locals + 153; omega⟩) (rrpV hK hP hD) rfl rfl hl.1 rfl (lv_room (Nat.le_of_ble_eq_true rfl)) dX9_readFact_68 ⟨Nat.le_of_ble_eq_true rfl, Nat.le_of_ble_eq_true rfl⟩) hS (fun q _ z => hFc q z) hFc (fun r18 u t H1 locs ht hvm hw hB hz1 hk1 hS => ?_)
          obtain ⟨N19, N20, N21, N22⟩ := u
          obtain ⟨hP, hD⟩ := gs_back ht hFc hB
          generalize H1 = H at hP hS ⊢
          obtain ⟨b23, rfl, h⟩ := hw
          try dsimp only at h
          refine lv_if_eq (tgt := 93) hx hb dX9_readFact_71 (by decide) (fun c24 => ?_) (fun c24 => ?_)
          · have h := h.1 c24
            exact W.vret hx hb hr (fun t ht hW => ⟨⟨(N19, N20, N21, N22), rfl, h, by rw [ht]; exact hP, va_K.moved hW.alike hK, hD⟩, hS.F ht⟩) hS.2.2 dX9_readFact_93
          · have h := h.2 c24
            refine lv_aload_n hx hb dX9_readFact_74 rfl (lv_at hl 2 rfl) ?_
            refine va_get (D := (dC, dI)) (ci := 9) (v := .ref (a0 0)) (C := RX9) (T := TX9) (N := 3) hx hb hts hinX9 hown hK hP 0 rfl rfl 0 (by decide) f1 (fun _ h9 => h9) rfl dX9_readFact_75 ?_
            have hPc := hP.sub (ws' := (rdW cB cI cJ cZ (a0 0) a1 N20 N21)) [1, 2] rfl
            have hDc := hD.sub (ws' := (rdW cB cI cJ cZ (a0 0) a1 N20 N21)) [1, 2] (by decide) rfl
            have hFc := va_free (wc := (rdW cB cI cJ cZ (a0 0) a1 N20 N21)) hD hS hA [1, 2] rfl
            refine va_callv (va_runV (As := []) (rest := []) ⟨hx, hb, hml, hown, hts⟩ (kX7_advance l dC dI cB cI cJ cZ (a0 0) a1 H.size  N20 N21 _ h) (cwV 0 hts gX9_readFact_X7_advance rfl rfl rfl (by decide +kernel) ⟨by show 2 + 1 ≤ rT.frames + 7; omega, by show 8 + (1 + 11) + 40 ≤ rT.locals + 153; omega⟩) (rdpV hK hPc hDc) rfl rfl hl.1 rfl (lv_room (Nat.le_of_ble_eq_true rfl)) dX9_readFact_78 ⟨Nat.le_of_ble_eq_true rfl, Nat.le_of_ble_eq_true rfl⟩) hS (fun q _ z => hFc q z) hFc (fun u t H1 locs ht hvm hw hB hz1 hk1 hS => ?_)
            obtain ⟨N26, N27⟩ := u
            obtain ⟨hP1, hK1, hD1⟩ := hB
            rw [ht] at hP1
            obtain ⟨hP, hD⟩ := va_join (wr := [(h0, .inr (9, [.ref (a0 0), .ref (a0 1), .int (mg N19 2)])), (a0 1, .inr (8, [.int (mg N22 0), .ref (a3 1), .ref (a3 2), .ref (a3 3), .int (mg N22 4), .ref (a3 5)])), (a3 1, .inl (cI, 12, .inl (ma N22 1))), (a3 2, .inl (cI, 12, .inl (ma N22 2))), (a3 3, .inl (cI, 400, .inl (ma N22 3))), (a3 5, .inl (cJ, 60, .inr (.inl (ml N22 5))))]) (w1 := (rdW cB cI cJ cZ (a0 0) a1 N26 N27)) hP hD [1, 2] [0, 3, 4, 5, 6, 7] rfl rfl (by decide) (by decide) hk1 hFc hP1 hD1
            have hP := hP.sub (ws' := (rrW cB cI cJ cZ h0 a0 a1 a3 N19 N26 N27 N22)) [0, 6, 7, 1, 2, 3, 4, 5] rfl
            have hD := hD.sub (ws' := (rrW cB cI cJ cZ h0 a0 a1 a3 N19 N26 N27 N22)) [0, 6, 7, 1, 2, 3, 4, 5] (by decide) rfl
            generalize H1 = H at hP hS ⊢
            have h := hw
            try dsimp only at h
            refine lv_aload_n hx hb dX9_readFact_81 rfl (lv_at hl 2 rfl) ?_
            have hFc := gs_free hD hS hA
            refine va_callv (va_runV (As := []) (rest := []) ⟨hx, hb, hml, hown, hts⟩ (kX9_readSum l dC dI cB cI cJ cZ adK adV h0 a0 a1 a3 H.size  N19 N26 N27 N22 _ h) (cwV 0 hts gX9_readFact_X9_readSum rfl rfl rfl (by decide +kernel) ⟨by show 6 + 1 ≤ rT.frames + 7; omega, by show 8 + (4 + 11) + 130 ≤ rT.locals + 153; omega⟩) (rrpVS hK hP hD hR hE hS hFc) rfl rfl hl.1 rfl (lv_room (Nat.le_of_ble_eq_true rfl)) dX9_readFact_82 ⟨Nat.le_of_ble_eq_true rfl, Nat.le_of_ble_eq_true rfl⟩) hS (fun q _ z => hFc q z) hFc (fun u t H1 locs ht hvm hw hB hz1 hk1 hS => ?_)
            obtain ⟨N29, N30, N31, N32⟩ := u
            obtain ⟨hP, hD⟩ := gs_back ht hFc hB
            generalize H1 = H at hP hS ⊢
            have h := hw
            try dsimp only at h
            refine lv_aload_n hx hb dX9_readFact_85 rfl (lv_at hl 2 rfl) ?_
            refine va_get (D := (dC, dI)) (ci := 9) (v := .ref (a0 1)) (C := RX9) (T := TX9) (N := 3) hx hb hts hinX9 hown hK hP 0 rfl rfl 1 (by decide) f2 (fun _ h9 => h9) rfl dX9_readFact_86 ?_
            refine lv_iload_n hx hb dX9_readFact_89 rfl (lv_at hl 0 rfl) ?_
            have hPc := hP.sub (ws' := (ruW cB cI cJ cZ (a0 1) a3 N32)) [3, 4, 5, 6, 7] rfl
            have hDc := hD.sub (ws' := (ruW cB cI cJ cZ (a0 1) a3 N32)) [3, 4, 5, 6, 7] (by decide) rfl
            have hFc := va_free (wc := (ruW cB cI cJ cZ (a0 1) a3 N32)) hD hS hA [3, 4, 5, 6, 7] rfl
            refine va_callv (va_runV (As := [.int r12]) (rest := []) ⟨hx, hb, hml, hown, hts⟩ (kX8_put l dC dI cB cI cJ cZ (a0 1) a3 H.size r12 N32 _ h) (cwV 1 hts gX9_readFact_X8_put rfl rfl rfl (by decide +kernel) ⟨by show 0 + 1 ≤ rT.frames + 7; omega, by show 8 + (2 + 11) + 0 ≤ rT.locals + 153; omega⟩) (rupV hK hPc hDc) rfl rfl hl.1 rfl (lv_room (Nat.le_of_ble_eq_true rfl)) dX9_readFact_90 ⟨Nat.le_of_ble_eq_true rfl, Nat.le_of_ble_eq_true rfl⟩) hS (fun q _ z => hFc q z) hFc (fun u t H1 locs ht hvm hw hB hz1 hk1 hS => ?_)
            obtain ⟨N34, rfl⟩ : ∃ z, z = u := ⟨_, rfl⟩
            obtain ⟨hP1, hK1, hD1⟩ := hB
            rw [ht] at hP1
            obtain ⟨hP, hD⟩ := va_join (wr := [(h0, .inr (9, [.ref (a0 0), .ref (a0 1), .int (mg N29 2)])), (a0 0, .inr (7, [.ref (a1 0), .int (mg N30 1), .int (mg N30 2), .int (mg N30 3), .int (mg N30 4), .int (mg N30 5), .int (mg N30 6), .int (mg N30 7)])), (a1 0, .inl (cI, 400, .inl (ma N31 0)))]) (w1 := (ruW cB cI cJ cZ (a0 1) a3 N34)) hP hD [3, 4, 5, 6, 7] [0, 1, 2] rfl rfl (by decide) (by decide) hk1 hFc hP1 hD1
            have hP := hP.sub (ws' := (rrW cB cI cJ cZ h0 a0 a1 a3 N29 N30 N31 N34)) [0, 1, 2, 3, 4, 5, 6, 7] rfl
            have hD := hD.sub (ws' := (rrW cB cI cJ cZ h0 a0 a1 a3 N29 N30 N31 N34)) [0, 1, 2, 3, 4, 5, 6, 7] (by decide) rfl
            generalize H1 = H at hP hS ⊢
            have h := hw
            try dsimp only at h
            exact W.vret hx hb hr (fun t ht hW => ⟨⟨(N29, N30, N31, N34), rfl, h, by rw [ht]; exact hP, va_K.moved hW.alike hK, hD⟩, hS.F ht⟩) hS.2.2 dX9_readFact_93
        · have h := h.1 c17
          refine lv_aload_n hx hb dX9_readFact_56 rfl (lv_at hl 2 rfl) ?_
          refine va_get (D := (dC, dI)) (ci := 9) (v := .ref (a0 0)) (C := RX9) (T := TX9) (N := 3) hx hb hts hinX9 hown hK hP 0 rfl rfl 0 (by decide) f1 (fun _ h9 => h9) rfl dX9_readFact_57 ?_
          refine lv_iconst (v := 0) hx hb dX9_readFact_60 (by decide) ?_
          have hPc := hP.sub (ws' := (rdW cB cI cJ cZ (a0 0) a1 N14 N15)) [1, 2] rfl
          have hDc := hD.sub (ws' := (rdW cB cI cJ cZ (a0 0) a1 N14 N15)) [1, 2] (by decide) rfl
          have hFc := va_free (wc := (rdW cB cI cJ cZ (a0 0) a1 N14 N15)) hD hS hA [1, 2] rfl
          refine va_callv (va_runV (As := [.int (0 : Int32)]) (rest := []) ⟨hx, hb, hml, hown, hts⟩ (kX7_fail l dC dI cB cI cJ cZ (a0 0) a1 H.size (0 : Int32) N14 N15 _ h) (cwV 1 hts gX9_readFact_X7_fail rfl rfl rfl (by decide +kernel) ⟨by show 0 + 1 ≤ rT.frames + 7; omega, by show 8 + (2 + 11) + 0 ≤ rT.locals + 153; omega⟩) (rdpV hK hPc hDc) rfl rfl hl.1 rfl (lv_room (Nat.le_of_ble_eq_true rfl)) dX9_readFact_61 ⟨Nat.le_of_ble_eq_true rfl, Nat.le_of_ble_eq_true rfl⟩) hS (fun q _ z => hFc q z) hFc (fun u t H1 locs ht hvm hw hB hz1 hk1 hS => ?_)
          obtain ⟨N36, N37⟩ := u
          obtain ⟨hP1, hK1, hD1⟩ := hB
          rw [ht] at hP1
          obtain ⟨hP, hD⟩ := va_join (wr := [(h0, .inr (9, [.ref (a0 0), .ref (a0 1), .int (mg N13 2)])), (a0 1, .inr (8, [.int (mg N16 0), .ref (a3 1), .ref (a3 2), .ref (a3 3), .int (mg N16 4), .ref (a3 5)])), (a3 1, .inl (cI, 12, .inl (ma N16 1))), (a3 2, .inl (cI, 12, .inl (ma N16 2))), (a3 3, .inl (cI, 400, .inl (ma N16 3))), (a3 5, .inl (cJ, 60, .inr (.inl (ml N16 5))))]) (w1 := (rdW cB cI cJ cZ (a0 0) a1 N36 N37)) hP hD [1, 2] [0, 3, 4, 5, 6, 7] rfl rfl (by decide) (by decide) hk1 hFc hP1 hD1
          have hP := hP.sub (ws' := (rrW cB cI cJ cZ h0 a0 a1 a3 N13 N36 N37 N16)) [0, 6, 7, 1, 2, 3, 4, 5] rfl
          have hD := hD.sub (ws' := (rrW cB cI cJ cZ h0 a0 a1 a3 N13 N36 N37 N16)) [0, 6, 7, 1, 2, 3, 4, 5] (by decide) rfl
          generalize H1 = H at hP hS ⊢
          have h := hw
          try dsimp only at h
          refine lv_goto (tgt := 93) hx hb dX9_readFact_64 (by decide) ?_
          exact W.vret hx hb hr (fun t ht hW => ⟨⟨(N13, N36, N37, N16), rfl, h, by rw [ht]; exact hP, va_K.moved hW.alike hK, hD⟩, hS.F ht⟩) hS.2.2 dX9_readFact_93
      · have h := h.2 c6
        exact b34  y1 z0 M0 N3 N4 M3 H locs ls hP hD hS (lv_sub hl [1, 2, 0] rfl) h
  have bE : ∀ (M0 : gS) (M1 : gS) (M2 : gS) (M3 : gS) (H : Heap) (locs : List Loc) (ls : Array Slot), va_P (dC, dI) vwCl (rrW cB cI cJ cZ h0 a0 a1 a3 M0 M1 M2 M3) H → va_D A (rrW cB cI cJ cZ h0 a0 a1 a3 M0 M1 M2 M3) → va_S A s.heap H locs → lv_has ls 4 [(0, .ref h0), (1, .int p1)] → wX9_readFact T p1 M0 M1 M2 M3 Q → W p l e (headSpec wsX9_readFact (rmX9_readFact rT)).room s m ([.ref h0, .int p1] : List Value).toArray below meth c H locs 0 0 (MQ below (va_Qv (fun (u : gS × gS × gS × gS) => Q u.1 u.2.1 u.2.2.1 u.2.2.2) (rrB dC dI cB cI cJ cZ h0 a0 a1 a3 A) A) ([.ref h0, .int p1] : List Value).toArray s 0 0 A) (F0 m 0 ls []) := by
    intro M0 M1 M2 M3 H locs ls hP hD hS hl h
    unfold wX9_readFact at h
    refine lv_aload_n hx hb dX9_readFact_0 rfl (lv_at hl 0 rfl) ?_
    refine va_get (D := (dC, dI)) (ci := 9) (v := .ref (a0 0)) (C := RX9) (T := TX9) (N := 3) hx hb hts hinX9 hown hK hP 0 rfl rfl 0 (by decide) f1 (fun _ h9 => h9) rfl dX9_readFact_1 ?_
    refine va_ldcS hx hb hown hR.l4 dX9_readFact_4 ?_
    have hPc := hP.sub (ws' := (rdW cB cI cJ cZ (a0 0) a1 M1 M2)) [1, 2] rfl
    have hDc := hD.sub (ws' := (rdW cB cI cJ cZ (a0 0) a1 M1 M2)) [1, 2] (by decide) rfl
    have hFc := va_free (wc := (rdW cB cI cJ cZ (a0 0) a1 M1 M2)) hD hS hA [1, 2] rfl
    refine va_calli (va_runV (As := [.ref (adK 4)]) (rest := []) ⟨hx, hb, hml, hown, hts⟩ (kX7_nameAmong l dC dI cB cI cJ cZ adK adV (a0 0) a1 H.size 4 M1 M2 _ h) (cwV 1 hts gX9_readFact_X7_nameAmong rfl rfl rfl (by decide +kernel) ⟨by show 4 + 1 ≤ rT.frames + 7; omega, by show 8 + (5 + 11) + 85 ≤ rT.locals + 153; omega⟩) (rdpVS hK hPc hDc hR hE hS hFc) rfl rfl hl.1 rfl (lv_room (Nat.le_of_ble_eq_true rfl)) dX9_readFact_6 ⟨Nat.le_of_ble_eq_true rfl, Nat.le_of_ble_eq_true rfl⟩) hS (fun q _ z => hFc q z) hFc (fun r1 u t H1 locs ht hvm hw hB hz1 hk1 hS => ?_)
    obtain ⟨N2, N3⟩ := u
    obtain ⟨hP1, hK1, hD1⟩ := hB
    rw [ht] at hP1
    obtain ⟨hP, hD⟩ := va_join (wr := [(h0, .inr (9, [.ref (a0 0), .ref (a0 1), .int (mg M0 2)])), (a0 1, .inr (8, [.int (mg M3 0), .ref (a3 1), .ref (a3 2), .ref (a3 3), .int (mg M3 4), .ref (a3 5)])), (a3 1, .inl (cI, 12, .inl (ma M3 1))), (a3 2, .inl (cI, 12, .inl (ma M3 2))), (a3 3, .inl (cI, 400, .inl (ma M3 3))), (a3 5, .inl (cJ, 60, .inr (.inl (ml M3 5))))]) (w1 := (rdW cB cI cJ cZ (a0 0) a1 N2 N3)) hP hD [1, 2] [0, 3, 4, 5, 6, 7] rfl rfl (by decide) (by decide) hk1 hFc hP1 hD1
    have hP := hP.sub (ws' := (rrW cB cI cJ cZ h0 a0 a1 a3 M0 N2 N3 M3)) [0, 6, 7, 1, 2, 3, 4, 5] rfl
    have hD := hD.sub (ws' := (rrW cB cI cJ cZ h0 a0 a1 a3 M0 N2 N3 M3)) [0, 6, 7, 1, 2, 3, 4, 5] (by decide) rfl
    generalize H1 = H at hP hS ⊢
    have h := hw
    try dsimp only at h
    refine lv_if_ne (tgt := 16) hx hb dX9_readFact_9 (by decide) (fun c4 => ?_) (fun c4 => ?_)
    · have h := h.2 c4
      refine lv_iconst (v := 0) hx hb dX9_readFact_16 (by decide) ?_
      exact b17  p1 (0 : Int32) M0 N2 N3 M3 H locs ls hP hD hS (lv_sub hl [0, 1] rfl) h
    · have h := h.1 c4
      refine lv_iconst (v := 1) hx hb dX9_readFact_12 (by decide) ?_
      refine lv_goto (tgt := 17) hx hb dX9_readFact_13 (by decide) ?_
      exact b17  p1 (1 : Int32) M0 N2 N3 M3 H locs ls hP hD hS (lv_sub hl [0, 1] rfl) h
  have hl := lv_entry ([.ref h0, .int p1]) (n := 4) (Nat.le_of_ble_eq_true rfl)
  rw [lg_entry_eq]
  generalize (lg_sl ([.ref h0, .int p1]) ++ List.replicate (4 - (lg_sl ([.ref h0, .int p1])).length) Slot.unset).toArray = ls at hl ⊢
  have hl : lv_has ls 4 [(0, .ref h0), (1, .int p1)] := hl
  exact bE M0 M1 M2 M3 s.heap [] ls hP hD hS hl h
def wX9_readTest_103 (T : Int32 → Int32 → gS → gS → gS → gS → (gS → gS → gS → gS → Prop) → Prop) (B7 : Int32 → Int32 → Int32 → Int32 → gS → gS → gS → gS → Prop) (Q : gS → gS → gS → gS → Prop) (y1 : Int32) (y2 : Int32) (y3 : Int32) (y4 : Int32) (M0 : gS) (M1 : gS) (M2 : gS) (M3 : gS) : Prop :=
 (wX7_advance  M1 M2 (fun (N2 : gS) (N3 : gS) => (∀ x4 : Int32, x4 = y4 + (1 : Int32) → (B7 y1 y2 y3 x4 M0 N2 N3 M3))))
def wX9_readTest_94 (T : Int32 → Int32 → gS → gS → gS → gS → (gS → gS → gS → gS → Prop) → Prop) (B7 : Int32 → Int32 → Int32 → Int32 → gS → gS → gS → gS → Prop) (Q : gS → gS → gS → gS → Prop) (y1 : Int32) (y2 : Int32) (y3 : Int32) (y4 : Int32) (M0 : gS) (M1 : gS) (M2 : gS) (M3 : gS) : Prop :=
 ((y2 = 0 → ((y3 = 0 → (Q M0 M1 M2 M3))
 ∧ (¬ y3 = 0 → (wX9_readTest_103 T B7 Q y1 y2 y3 y4 M0 M1 M2 M3))))
 ∧ (¬ y2 = 0 → (wX9_readTest_103 T B7 Q y1 y2 y3 y4 M0 M1 M2 M3)))
def wX9_readTest_93 (T : Int32 → Int32 → gS → gS → gS → gS → (gS → gS → gS → gS → Prop) → Prop) (B7 : Int32 → Int32 → Int32 → Int32 → gS → gS → gS → gS → Prop) (Q : gS → gS → gS → gS → Prop) (y1 : Int32) (y2 : Int32) (y4 : Int32) (z0 : Int32) (M0 : gS) (M1 : gS) (M2 : gS) (M3 : gS) : Prop :=
 (wX9_readTest_94 T B7 Q y1 y2 z0 y4 M0 M1 M2 M3)
def wX9_readTest_82 (T : Int32 → Int32 → gS → gS → gS → gS → (gS → gS → gS → gS → Prop) → Prop) (B7 : Int32 → Int32 → Int32 → Int32 → gS → gS → gS → gS → Prop) (Q : gS → gS → gS → gS → Prop) (y1 : Int32) (y2 : Int32) (y4 : Int32) (y5 : Int32) (M0 : gS) (M1 : gS) (M2 : gS) (M3 : gS) : Prop :=
 ((y5 = (1 : Int32) → (wX9_readTest_93 T B7 Q y1 y2 y4 (1 : Int32) M0 M1 M2 M3))
 ∧ (¬ y5 = (1 : Int32) → (wX9_readTest_93 T B7 Q y1 y2 y4 (0 : Int32) M0 M1 M2 M3)))
def wX9_readTest_64 (T : Int32 → Int32 → gS → gS → gS → gS → (gS → gS → gS → gS → Prop) → Prop) (B7 : Int32 → Int32 → Int32 → Int32 → gS → gS → gS → gS → Prop) (Q : gS → gS → gS → gS → Prop) (y1 : Int32) (y3 : Int32) (y4 : Int32) (y5 : Int32) (z0 : Int32) (M0 : gS) (M1 : gS) (M2 : gS) (M3 : gS) : Prop :=
 ((z0 = 0 → ((y3 = 0 → (wX9_readTest_82 T B7 Q y1 z0 y4 y5 M0 M1 M2 M3))
 ∧ (¬ y3 = 0 → (wX8_put (-21 : Int32) M3 (fun (N4 : gS) => (wX9_readTest_82 T B7 Q y1 z0 y4 y5 M0 M1 M2 N4))))))
 ∧ (¬ z0 = 0 → (wX9_readTest_94 T B7 Q y1 z0 y3 y4 M0 M1 M2 M3)))
def wX9_readTest_43 (T : Int32 → Int32 → gS → gS → gS → gS → (gS → gS → gS → gS → Prop) → Prop) (B7 : Int32 → Int32 → Int32 → Int32 → gS → gS → gS → gS → Prop) (Q : gS → gS → gS → gS → Prop) (y1 : Int32) (y3 : Int32) (y4 : Int32) (M0 : gS) (M1 : gS) (M2 : gS) (M3 : gS) : Prop :=
 (wX7_nameAmong 3 M1 M2 (fun (r1 : Int32) (N2 : gS) (N3 : gS) => ((r1 = 0 → (wX9_readTest_64 T B7 Q y1 y3 y4 r1 (1 : Int32) M0 N2 N3 M3))
 ∧ (¬ r1 = 0 → (wX9_readTest_64 T B7 Q y1 y3 y4 r1 (0 : Int32) M0 N2 N3 M3)))))
def wX9_readTest_7 (T : Int32 → Int32 → gS → gS → gS → gS → (gS → gS → gS → gS → Prop) → Prop)  (Q : gS → gS → gS → gS → Prop) : Nat → Int32 → Int32 → Int32 → Int32 → gS → gS → gS → gS → Prop
 | 0, _, _, _, _, _, _, _, _ => False
 | n + 1, y1, y2, y3, y4, M0, M1, M2, M3 => (((400 : Int32) ≤ y4 → (Q M0 M1 M2 M3))
 ∧ (¬ (400 : Int32) ≤ y4 → (((mg M1 7) = 0 → (wX9_readFact T y1 M0 M1 M2 M3 (fun (N4 : gS) (N5 : gS) (N6 : gS) (N7 : gS) => ((y2 = 0 → (wX9_readTest_43 T (fun (y1 : Int32) (y2 : Int32) (y3 : Int32) (y4 : Int32) (M0 : gS) (M1 : gS) (M2 : gS) (M3 : gS) => wX9_readTest_7 T  Q n y1 y2 y3 y4 M0 M1 M2 M3) Q y1 y3 y4 N4 N5 N6 N7))
 ∧ (¬ y2 = 0 → (wX8_put (-20 : Int32) N7 (fun (N10 : gS) => (wX9_readTest_43 T (fun (y1 : Int32) (y2 : Int32) (y3 : Int32) (y4 : Int32) (M0 : gS) (M1 : gS) (M2 : gS) (M3 : gS) => wX9_readTest_7 T  Q n y1 y2 y3 y4 M0 M1 M2 M3) Q y1 y3 y4 N4 N5 N6 N10))))))))
 ∧ (¬ (mg M1 7) = 0 → (Q M0 M1 M2 M3)))))
def wX9_readTest (T : Int32 → Int32 → gS → gS → gS → gS → (gS → gS → gS → gS → Prop) → Prop) (p1 : Int32) (M0 : gS) (M1 : gS) (M2 : gS) (M3 : gS) (Q : gS → gS → gS → gS → Prop) : Prop :=
 (∃ k7 : Nat, wX9_readTest_7 T  Q k7 p1 (0 : Int32) (0 : Int32) (0 : Int32) M0 M1 M2 M3)
def rmX9_readTest (rT : Room) : Room := { frames := rT.frames + 8, cells := 0, slots := 0, locals := rT.locals + 176 }
set_option maxHeartbeats 4000000 in
set_option maxRecDepth 100000 in
theorem kX9_readTest (l : Launch) (dC : Nat → ClassId) (dI : Nat → Nat → Nat) (cB cI cJ cZ : ClassId) (adK adV : Nat → Nat) (h0 : Nat) (a0 : Nat → Nat) (a1 : Nat → Nat) (a3 : Nat → Nat) (T : Int32 → Int32 → gS → gS → gS → gS → (gS → gS → gS → gS → Prop) → Prop) (rT : Room) (hrT : rT.cells = 0 ∧ rT.slots = 0) (hT : ∀ (sz : Nat) (q1 : Int32) (q2 : Int32) (M0 : gS) (M1 : gS) (M2 : gS) (M3 : gS) (Q : gS → gS → gS → gS → Prop), T q1 q2 M0 M1 M2 M3 Q → Met l yX9_readNested wsX9_readNested rT (va_Pc [.ref h0, .int q1, .int q2] (rrIS dC dI cB cI cJ cZ h0 a0 a1 a3 M0 M1 M2 M3 adK adV sz)) (va_Qv (fun (u : gS × gS × gS × gS) => Q u.1 u.2.1 u.2.2.1 u.2.2.2) (rrB dC dI cB cI cJ cZ h0 a0 a1 a3 (va_A (rrW cB cI cJ cZ h0 a0 a1 a3 M0 M1 M2 M3) sz)) (va_A (rrW cB cI cJ cZ h0 a0 a1 a3 M0 M1 M2 M3) sz)) 0 0 (va_A (rrW cB cI cJ cZ h0 a0 a1 a3 M0 M1 M2 M3) sz)) (sz : Nat) (p1 : Int32) (M0 : gS) (M1 : gS) (M2 : gS) (M3 : gS) (Q : gS → gS → gS → gS → Prop) (h : wX9_readTest T p1 M0 M1 M2 M3 Q) : Met l yX9_readTest wsX9_readTest (rmX9_readTest rT) (va_Pc [.ref h0, .int p1] (rrIS dC dI cB cI cJ cZ h0 a0 a1 a3 M0 M1 M2 M3 adK adV sz)) (va_Qv (fun (u : gS × gS × gS × gS) => Q u.1 u.2.1 u.2.2.1 u.2.2.2) (rrB dC dI cB cI cJ cZ h0 a0 a1 a3 (va_A (rrW cB cI cJ cZ h0 a0 a1 a3 M0 M1 M2 M3) sz)) (va_A (rrW cB cI cJ cZ h0 a0 a1 a3 M0 M1 M2 M3) sz)) 0 0 (va_A (rrW cB cI cJ cZ h0 a0 a1 a3 M0 M1 M2 M3) sz) := by
  refine Met.ofW (cc := cX9_readTest) (maxL := 6) (ret := none) (by decide) rfl ?_
  intro p e s m args below meth c s₁ B hml hv
  obtain ⟨rfl, ⟨hsz, hP, hK, hD0⟩, hR, hE⟩ := hv
  have hx := B.exec
  have hb := B.bytes
  have hr := B.returns
  have hts := atoms_spec (ws := wsX9_readTest) B.pre
  have hown : s.vm.findClass RX9 = some m.cls := findClass_of_methodNamed B.named
  have hlocks := B.notSynchronized
  subst hsz
  have hD := hD0.self (sz := s.heap.size)
  generalize hAe : va_A (rrW cB cI cJ cZ h0 a0 a1 a3 M0 M1 M2 M3) s.heap.size = A at hD hE ⊢
  have hA : ∀ q : Nat, s.heap.size ≤ q → A q := fun q h => by rw [← hAe]; exact Or.inr h
  have hS : va_S A s.heap s.heap [] := va_S.rf
  have hinX7 : ∀ w ∈ wsX70, w ∈ wsX9_readTest := by decide +kernel
  have hinX9 : ∀ w ∈ wsX90, w ∈ wsX9_readTest := by decide +kernel
  have f1 := hts (.fieldLink RX9 9 "LastWords$RuleReader" "in" "LLastWords$Reader;") (by decide +kernel)
  have f2 := hts (.fieldLink RX9 15 "LastWords$RuleReader" "rule" "LLastWords$Rule;") (by decide +kernel)
  have f3 := hts (.fieldLink RX9 37 "LastWords$Reader" "fault" "I") (by decide +kernel)
  have b103 : ∀ (B7 : Int32 → Int32 → Int32 → Int32 → gS → gS → gS → gS → Prop) (hB7 : ∀ (y1 : Int32) (y2 : Int32) (y3 : Int32) (y4 : Int32) (M0 : gS) (M1 : gS) (M2 : gS) (M3 : gS) (H : Heap) (locs : List Loc) (ls : Array Slot), va_P (dC, dI) vwCl (rrW cB cI cJ cZ h0 a0 a1 a3 M0 M1 M2 M3) H → va_D A (rrW cB cI cJ cZ h0 a0 a1 a3 M0 M1 M2 M3) → va_S A s.heap H locs → lv_has ls 6 [(0, .ref h0), (1, .int y1), (2, .int y2), (3, .int y3), (4, .int y4)] → B7 y1 y2 y3 y4 M0 M1 M2 M3 → W p l e (headSpec wsX9_readTest (rmX9_readTest rT)).room s m ([.ref h0, .int p1] : List Value).toArray below meth c H locs 0 0 (MQ below (va_Qv (fun (u : gS × gS × gS × gS) => Q u.1 u.2.1 u.2.2.1 u.2.2.2) (rrB dC dI cB cI cJ cZ h0 a0 a1 a3 A) A) ([.ref h0, .int p1] : List Value).toArray s 0 0 A) (F0 m 7 ls [])) (y1 : Int32) (y2 : Int32) (y3 : Int32) (y4 : Int32) (M0 : gS) (M1 : gS) (M2 : gS) (M3 : gS) (H : Heap) (locs : List Loc) (ls : Array Slot), va_P (dC, dI) vwCl (rrW cB cI cJ cZ h0 a0 a1 a3 M0 M1 M2 M3) H → va_D A (rrW cB cI cJ cZ h0 a0 a1 a3 M0 M1 M2 M3) → va_S A s.heap H locs → lv_has ls 6 [(0, .ref h0), (1, .int y1), (2, .int y2), (3, .int y3), (4, .int y4)] → wX9_readTest_103 T B7 Q y1 y2 y3 y4 M0 M1 M2 M3 → W p l e (headSpec wsX9_readTest (rmX9_readTest rT)).room s m ([.ref h0, .int p1] : List Value).toArray below meth c H locs 0 0 (MQ below (va_Qv (fun (u : gS × gS × gS × gS) => Q u.1 u.2.1 u.2.2.1 u.2.2.2) (rrB dC dI cB cI cJ cZ h0 a0 a1 a3 A) A) ([.ref h0, .int p1] : List Value).toArray s 0 0 A) (F0 m 103 ls []) := by
    intro B7 hB7 y1 y2 y3 y4 M0 M1 M2 M3 H locs ls hP hD hS hl h
    unfold wX9_readTest_103 at h
    refine lv_aload_n hx hb dX9_readTest_103 rfl (lv_at hl 0 rfl) ?_
    refine va_get (D := (dC, dI)) (ci := 9) (v := .ref (a0 0)) (C := RX9) (T := TX9) (N := 3) hx hb hts hinX9 hown hK hP 0 rfl rfl 0 (by decide) f1 (fun _ h9 => h9) rfl dX9_readTest_104 ?_
    have hPc := hP.sub (ws' := (rdW cB cI cJ cZ (a0 0) a1 M1 M2)) [1, 2] rfl
    have hDc := hD.sub (ws' := (rdW cB cI cJ cZ (a0 0) a1 M1 M2)) [1, 2] (by decide) rfl
    have hFc := va_free (wc := (rdW cB cI cJ cZ (a0 0) a1 M1 M2)) hD hS hA [1, 2] rfl
    refine va_callv (va_runV (As := []) (rest := []) ⟨hx, hb, hml, hown, hts⟩ (kX7_advance l dC dI cB cI cJ cZ (a0 0) a1 H.size  M1 M2 _ h) (cwV 0 hts gX9_readTest_X7_advance rfl rfl rfl (by decide +kernel) ⟨by show 2 + 1 ≤ rT.frames + 8; omega, by show 8 + (1 + 11) + 40 ≤ rT.locals + 176; omega⟩) (rdpV hK hPc hDc) rfl rfl hl.1 rfl (lv_room (Nat.le_of_ble_eq_true rfl)) dX9_readTest_107 ⟨Nat.le_of_ble_eq_true rfl, Nat.le_of_ble_eq_true rfl⟩) hS (fun q _ z => hFc q z) hFc (fun u t H1 locs ht hvm hw hB hz1 hk1 hS => ?_)
    obtain ⟨N2, N3⟩ := u
    obtain ⟨hP1, hK1, hD1⟩ := hB
    rw [ht] at hP1
    obtain ⟨hP, hD⟩ := va_join (wr := [(h0, .inr (9, [.ref (a0 0), .ref (a0 1), .int (mg M0 2)])), (a0 1, .inr (8, [.int (mg M3 0), .ref (a3 1), .ref (a3 2), .ref (a3 3), .int (mg M3 4), .ref (a3 5)])), (a3 1, .inl (cI, 12, .inl (ma M3 1))), (a3 2, .inl (cI, 12, .inl (ma M3 2))), (a3 3, .inl (cI, 400, .inl (ma M3 3))), (a3 5, .inl (cJ, 60, .inr (.inl (ml M3 5))))]) (w1 := (rdW cB cI cJ cZ (a0 0) a1 N2 N3)) hP hD [1, 2] [0, 3, 4, 5, 6, 7] rfl rfl (by decide) (by decide) hk1 hFc hP1 hD1
    have hP := hP.sub (ws' := (rrW cB cI cJ cZ h0 a0 a1 a3 M0 N2 N3 M3)) [0, 6, 7, 1, 2, 3, 4, 5] rfl
    have hD := hD.sub (ws' := (rrW cB cI cJ cZ h0 a0 a1 a3 M0 N2 N3 M3)) [0, 6, 7, 1, 2, 3, 4, 5] (by decide) rfl
    generalize H1 = H at hP hS ⊢
    have h := hw
    try dsimp only at h
    obtain ⟨x4, ex4⟩ : ∃ y : Int32, y = y4 + (1 : Int32) := ⟨_, rfl⟩
    have h := h x4 ex4
    refine lv_iinc (v := x4) (lv' := [(4, .int x4), (0, .ref h0), (1, .int y1), (2, .int y2), (3, .int y3)]) hx hb dX9_readTest_110 hl (k := 4) rfl (by rw [ex4]; rfl) (by decide) rfl (fun ls hl => ?_)
    refine lv_goto (tgt := 7) hx hb dX9_readTest_113 (by decide) ?_
    exact hB7 y1 y2 y3 x4 M0 N2 N3 M3 H locs ls hP hD hS (lv_sub hl [1, 2, 3, 4, 0] rfl) h
  have b94 : ∀ (B7 : Int32 → Int32 → Int32 → Int32 → gS → gS → gS → gS → Prop) (hB7 : ∀ (y1 : Int32) (y2 : Int32) (y3 : Int32) (y4 : Int32) (M0 : gS) (M1 : gS) (M2 : gS) (M3 : gS) (H : Heap) (locs : List Loc) (ls : Array Slot), va_P (dC, dI) vwCl (rrW cB cI cJ cZ h0 a0 a1 a3 M0 M1 M2 M3) H → va_D A (rrW cB cI cJ cZ h0 a0 a1 a3 M0 M1 M2 M3) → va_S A s.heap H locs → lv_has ls 6 [(0, .ref h0), (1, .int y1), (2, .int y2), (3, .int y3), (4, .int y4)] → B7 y1 y2 y3 y4 M0 M1 M2 M3 → W p l e (headSpec wsX9_readTest (rmX9_readTest rT)).room s m ([.ref h0, .int p1] : List Value).toArray below meth c H locs 0 0 (MQ below (va_Qv (fun (u : gS × gS × gS × gS) => Q u.1 u.2.1 u.2.2.1 u.2.2.2) (rrB dC dI cB cI cJ cZ h0 a0 a1 a3 A) A) ([.ref h0, .int p1] : List Value).toArray s 0 0 A) (F0 m 7 ls [])) (y1 : Int32) (y2 : Int32) (y3 : Int32) (y4 : Int32) (M0 : gS) (M1 : gS) (M2 : gS) (M3 : gS) (H : Heap) (locs : List Loc) (ls : Array Slot), va_P (dC, dI) vwCl (rrW cB cI cJ cZ h0 a0 a1 a3 M0 M1 M2 M3) H → va_D A (rrW cB cI cJ cZ h0 a0 a1 a3 M0 M1 M2 M3) → va_S A s.heap H locs → lv_has ls 6 [(0, .ref h0), (1, .int y1), (2, .int y2), (3, .int y3), (4, .int y4)] → wX9_readTest_94 T B7 Q y1 y2 y3 y4 M0 M1 M2 M3 → W p l e (headSpec wsX9_readTest (rmX9_readTest rT)).room s m ([.ref h0, .int p1] : List Value).toArray below meth c H locs 0 0 (MQ below (va_Qv (fun (u : gS × gS × gS × gS) => Q u.1 u.2.1 u.2.2.1 u.2.2.2) (rrB dC dI cB cI cJ cZ h0 a0 a1 a3 A) A) ([.ref h0, .int p1] : List Value).toArray s 0 0 A) (F0 m 94 ls []) := by
    intro B7 hB7 y1 y2 y3 y4 M0 M1 M2 M3 H locs ls hP hD hS hl h
    unfold wX9_readTest_94 at h
    refine lv_iload_n hx hb dX9_readTest_94 rfl (lv_at hl 2 rfl) ?_
    refine lv_if_ne (tgt := 103) hx hb dX9_readTest_95 (by decide) (fun c1 => ?_) (fun c1 => ?_)
    · have h := h.2 c1
      exact b103 _ hB7 y1 y2 y3 y4 M0 M1 M2 M3 H locs ls hP hD hS (lv_sub hl [0, 1, 2, 3, 4] rfl) h
    · have h := h.1 c1
      refine lv_iload_n hx hb dX9_readTest_98 rfl (lv_at hl 3 rfl) ?_
      refine lv_if_ne (tgt := 103) hx hb dX9_readTest_99 (by decide) (fun c2 => ?_) (fun c2 => ?_)
      · have h := h.2 c2
        exact b103 _ hB7 y1 y2 y3 y4 M0 M1 M2 M3 H locs ls hP hD hS (lv_sub hl [0, 1, 2, 3, 4] rfl) h
      · have h := h.1 c2
        exact W.vret hx hb hr (fun t ht hW => ⟨⟨(M0, M1, M2, M3), rfl, h, by rw [ht]; exact hP, va_K.moved hW.alike hK, hD⟩, hS.F ht⟩) hS.2.2 dX9_readTest_102
  have b93 : ∀ (B7 : Int32 → Int32 → Int32 → Int32 → gS → gS → gS → gS → Prop) (hB7 : ∀ (y1 : Int32) (y2 : Int32) (y3 : Int32) (y4 : Int32) (M0 : gS) (M1 : gS) (M2 : gS) (M3 : gS) (H : Heap) (locs : List Loc) (ls : Array Slot), va_P (dC, dI) vwCl (rrW cB cI cJ cZ h0 a0 a1 a3 M0 M1 M2 M3) H → va_D A (rrW cB cI cJ cZ h0 a0 a1 a3 M0 M1 M2 M3) → va_S A s.heap H locs → lv_has ls 6 [(0, .ref h0), (1, .int y1), (2, .int y2), (3, .int y3), (4, .int y4)] → B7 y1 y2 y3 y4 M0 M1 M2 M3 → W p l e (headSpec wsX9_readTest (rmX9_readTest rT)).room s m ([.ref h0, .int p1] : List Value).toArray below meth c H locs 0 0 (MQ below (va_Qv (fun (u : gS × gS × gS × gS) => Q u.1 u.2.1 u.2.2.1 u.2.2.2) (rrB dC dI cB cI cJ cZ h0 a0 a1 a3 A) A) ([.ref h0, .int p1] : List Value).toArray s 0 0 A) (F0 m 7 ls [])) (y1 : Int32) (y2 : Int32) (y4 : Int32) (z0 : Int32) (M0 : gS) (M1 : gS) (M2 : gS) (M3 : gS) (H : Heap) (locs : List Loc) (ls : Array Slot), va_P (dC, dI) vwCl (rrW cB cI cJ cZ h0 a0 a1 a3 M0 M1 M2 M3) H → va_D A (rrW cB cI cJ cZ h0 a0 a1 a3 M0 M1 M2 M3) → va_S A s.heap H locs → lv_has ls 6 [(0, .ref h0), (1, .int y1), (2, .int y2), (4, .int y4)] → wX9_readTest_93 T B7 Q y1 y2 y4 z0 M0 M1 M2 M3 → W p l e (headSpec wsX9_readTest (rmX9_readTest rT)).room s m ([.ref h0, .int p1] : List Value).toArray below meth c H locs 0 0 (MQ below (va_Qv (fun (u : gS × gS × gS × gS) => Q u.1 u.2.1 u.2.2.1 u.2.2.2) (rrB dC dI cB cI cJ cZ h0 a0 a1 a3 A) A) ([.ref h0, .int p1] : List Value).toArray s 0 0 A) (F0 m 93 ls [.int z0]) := by
    intro B7 hB7 y1 y2 y4 z0 M0 M1 M2 M3 H locs ls hP hD hS hl h
    unfold wX9_readTest_93 at h
    refine lv_istore_n (lv' := [(3, .int z0), (0, .ref h0), (1, .int y1), (2, .int y2), (4, .int y4)]) hx hb dX9_readTest_93 rfl hl (by decide) rfl (fun ls hl => ?_)
    exact b94 _ hB7 y1 y2 z0 y4 M0 M1 M2 M3 H locs ls hP hD hS (lv_sub hl [1, 2, 3, 0, 4] rfl) h
  have b82 : ∀ (B7 : Int32 → Int32 → Int32 → Int32 → gS → gS → gS → gS → Prop) (hB7 : ∀ (y1 : Int32) (y2 : Int32) (y3 : Int32) (y4 : Int32) (M0 : gS) (M1 : gS) (M2 : gS) (M3 : gS) (H : Heap) (locs : List Loc) (ls : Array Slot), va_P (dC, dI) vwCl (rrW cB cI cJ cZ h0 a0 a1 a3 M0 M1 M2 M3) H → va_D A (rrW cB cI cJ cZ h0 a0 a1 a3 M0 M1 M2 M3) → va_S A s.heap H locs → lv_has ls 6 [(0, .ref h0), (1, .int y1), (2, .int y2), (3, .int y3), (4, .int y4)] → B7 y1 y2 y3 y4 M0 M1 M2 M3 → W p l e (headSpec wsX9_readTest (rmX9_readTest rT)).room s m ([.ref h0, .int p1] : List Value).toArray below meth c H locs 0 0 (MQ below (va_Qv (fun (u : gS × gS × gS × gS) => Q u.1 u.2.1 u.2.2.1 u.2.2.2) (rrB dC dI cB cI cJ cZ h0 a0 a1 a3 A) A) ([.ref h0, .int p1] : List Value).toArray s 0 0 A) (F0 m 7 ls [])) (y1 : Int32) (y2 : Int32) (y4 : Int32) (y5 : Int32) (M0 : gS) (M1 : gS) (M2 : gS) (M3 : gS) (H : Heap) (locs : List Loc) (ls : Array Slot), va_P (dC, dI) vwCl (rrW cB cI cJ cZ h0 a0 a1 a3 M0 M1 M2 M3) H → va_D A (rrW cB cI cJ cZ h0 a0 a1 a3 M0 M1 M2 M3) → va_S A s.heap H locs → lv_has ls 6 [(0, .ref h0), (1, .int y1), (2, .int y2), (4, .int y4), (5, .int y5)] → wX9_readTest_82 T B7 Q y1 y2 y4 y5 M0 M1 M2 M3 → W p l e (headSpec wsX9_readTest (rmX9_readTest rT)).room s m ([.ref h0, .int p1] : List Value).toArray below meth c H locs 0 0 (MQ below (va_Qv (fun (u : gS × gS × gS × gS) => Q u.1 u.2.1 u.2.2.1 u.2.2.2) (rrB dC dI cB cI cJ cZ h0 a0 a1 a3 A) A) ([.ref h0, .int p1] : List Value).toArray s 0 0 A) (F0 m 82 ls []) := by
    intro B7 hB7 y1 y2 y4 y5 M0 M1 M2 M3 H locs ls hP hD hS hl h
    unfold wX9_readTest_82 at h
    refine lv_iload hx hb dX9_readTest_82 (lv_at hl 4 rfl) ?_
    refine lv_iconst (v := 1) hx hb dX9_readTest_84 (by decide) ?_
    refine lv_icmp_ne (tgt := 92) hx hb dX9_readTest_85 (by decide) (fun c1 => ?_) (fun c1 => ?_)
    · have h := h.2 c1
      refine lv_iconst (v := 0) hx hb dX9_readTest_92 (by decide) ?_
      exact b93 _ hB7 y1 y2 y4 (0 : Int32) M0 M1 M2 M3 H locs ls hP hD hS (lv_sub hl [0, 1, 2, 3] rfl) h
    · have h := h.1 c1
      refine lv_iconst (v := 1) hx hb dX9_readTest_88 (by decide) ?_
      refine lv_goto (tgt := 93) hx hb dX9_readTest_89 (by decide) ?_
      exact b93 _ hB7 y1 y2 y4 (1 : Int32) M0 M1 M2 M3 H locs ls hP hD hS (lv_sub hl [0, 1, 2, 3] rfl) h
  have b64 : ∀ (B7 : Int32 → Int32 → Int32 → Int32 → gS → gS → gS → gS → Prop) (hB7 : ∀ (y1 : Int32) (y2 : Int32) (y3 : Int32) (y4 : Int32) (M0 : gS) (M1 : gS) (M2 : gS) (M3 : gS) (H : Heap) (locs : List Loc) (ls : Array Slot), va_P (dC, dI) vwCl (rrW cB cI cJ cZ h0 a0 a1 a3 M0 M1 M2 M3) H → va_D A (rrW cB cI cJ cZ h0 a0 a1 a3 M0 M1 M2 M3) → va_S A s.heap H locs → lv_has ls 6 [(0, .ref h0), (1, .int y1), (2, .int y2), (3, .int y3), (4, .int y4)] → B7 y1 y2 y3 y4 M0 M1 M2 M3 → W p l e (headSpec wsX9_readTest (rmX9_readTest rT)).room s m ([.ref h0, .int p1] : List Value).toArray below meth c H locs 0 0 (MQ below (va_Qv (fun (u : gS × gS × gS × gS) => Q u.1 u.2.1 u.2.2.1 u.2.2.2) (rrB dC dI cB cI cJ cZ h0 a0 a1 a3 A) A) ([.ref h0, .int p1] : List Value).toArray s 0 0 A) (F0 m 7 ls [])) (y1 : Int32) (y3 : Int32) (y4 : Int32) (y5 : Int32) (z0 : Int32) (M0 : gS) (M1 : gS) (M2 : gS) (M3 : gS) (H : Heap) (locs : List Loc) (ls : Array Slot), va_P (dC, dI) vwCl (rrW cB cI cJ cZ h0 a0 a1 a3 M0 M1 M2 M3) H → va_D A (rrW cB cI cJ cZ h0 a0 a1 a3 M0 M1 M2 M3) → va_S A s.heap H locs → lv_has ls 6 [(0, .ref h0), (1, .int y1), (3, .int y3), (4, .int y4), (5, .int y5)] → wX9_readTest_64 T B7 Q y1 y3 y4 y5 z0 M0 M1 M2 M3 → W p l e (headSpec wsX9_readTest (rmX9_readTest rT)).room s m ([.ref h0, .int p1] : List Value).toArray below meth c H locs 0 0 (MQ below (va_Qv (fun (u : gS × gS × gS × gS) => Q u.1 u.2.1 u.2.2.1 u.2.2.2) (rrB dC dI cB cI cJ cZ h0 a0 a1 a3 A) A) ([.ref h0, .int p1] : List Value).toArray s 0 0 A) (F0 m 64 ls [.int z0]) := by
    intro B7 hB7 y1 y3 y4 y5 z0 M0 M1 M2 M3 H locs ls hP hD hS hl h
    unfold wX9_readTest_64 at h
    refine lv_istore_n (lv' := [(2, .int z0), (0, .ref h0), (1, .int y1), (3, .int y3), (4, .int y4), (5, .int y5)]) hx hb dX9_readTest_64 rfl hl (by decide) rfl (fun ls hl => ?_)
    refine lv_iload_n hx hb dX9_readTest_65 rfl (lv_at hl 0 rfl) ?_
    refine lv_if_ne (tgt := 94) hx hb dX9_readTest_66 (by decide) (fun c1 => ?_) (fun c1 => ?_)
    · have h := h.2 c1
      exact b94 _ hB7 y1 z0 y3 y4 M0 M1 M2 M3 H locs ls hP hD hS (lv_sub hl [1, 2, 0, 3, 4] rfl) h
    · have h := h.1 c1
      refine lv_iload_n hx hb dX9_readTest_69 rfl (lv_at hl 3 rfl) ?_
      refine lv_if_eq (tgt := 82) hx hb dX9_readTest_70 (by decide) (fun c2 => ?_) (fun c2 => ?_)
      · have h := h.1 c2
        exact b82 _ hB7 y1 z0 y4 y5 M0 M1 M2 M3 H locs ls hP hD hS (lv_sub hl [1, 2, 0, 4, 5] rfl) h
      · have h := h.2 c2
        refine lv_aload_n hx hb dX9_readTest_73 rfl (lv_at hl 1 rfl) ?_
        refine va_get (D := (dC, dI)) (ci := 9) (v := .ref (a0 1)) (C := RX9) (T := TX9) (N := 3) hx hb hts hinX9 hown hK hP 0 rfl rfl 1 (by decide) f2 (fun _ h9 => h9) rfl dX9_readTest_74 ?_
        refine lv_bipush (v := (-21)) hx hb dX9_readTest_77 (by decide) ?_
        have hPc := hP.sub (ws' := (ruW cB cI cJ cZ (a0 1) a3 M3)) [3, 4, 5, 6, 7] rfl
        have hDc := hD.sub (ws' := (ruW cB cI cJ cZ (a0 1) a3 M3)) [3, 4, 5, 6, 7] (by decide) rfl
        have hFc := va_free (wc := (ruW cB cI cJ cZ (a0 1) a3 M3)) hD hS hA [3, 4, 5, 6, 7] rfl
        refine va_callv (va_runV (As := [.int (-21 : Int32)]) (rest := []) ⟨hx, hb, hml, hown, hts⟩ (kX8_put l dC dI cB cI cJ cZ (a0 1) a3 H.size (-21 : Int32) M3 _ h) (cwV 1 hts gX9_readTest_X8_put rfl rfl rfl (by decide +kernel) ⟨by show 0 + 1 ≤ rT.frames + 8; omega, by show 8 + (2 + 11) + 0 ≤ rT.locals + 176; omega⟩) (rupV hK hPc hDc) rfl rfl hl.1 rfl (lv_room (Nat.le_of_ble_eq_true rfl)) dX9_readTest_79 ⟨Nat.le_of_ble_eq_true rfl, Nat.le_of_ble_eq_true rfl⟩) hS (fun q _ z => hFc q z) hFc (fun u t H1 locs ht hvm hw hB hz1 hk1 hS => ?_)
        obtain ⟨N4, rfl⟩ : ∃ z, z = u := ⟨_, rfl⟩
        obtain ⟨hP1, hK1, hD1⟩ := hB
        rw [ht] at hP1
        obtain ⟨hP, hD⟩ := va_join (wr := [(h0, .inr (9, [.ref (a0 0), .ref (a0 1), .int (mg M0 2)])), (a0 0, .inr (7, [.ref (a1 0), .int (mg M1 1), .int (mg M1 2), .int (mg M1 3), .int (mg M1 4), .int (mg M1 5), .int (mg M1 6), .int (mg M1 7)])), (a1 0, .inl (cI, 400, .inl (ma M2 0)))]) (w1 := (ruW cB cI cJ cZ (a0 1) a3 N4)) hP hD [3, 4, 5, 6, 7] [0, 1, 2] rfl rfl (by decide) (by decide) hk1 hFc hP1 hD1
        have hP := hP.sub (ws' := (rrW cB cI cJ cZ h0 a0 a1 a3 M0 M1 M2 N4)) [0, 1, 2, 3, 4, 5, 6, 7] rfl
        have hD := hD.sub (ws' := (rrW cB cI cJ cZ h0 a0 a1 a3 M0 M1 M2 N4)) [0, 1, 2, 3, 4, 5, 6, 7] (by decide) rfl
        generalize H1 = H at hP hS ⊢
        have h := hw
        try dsimp only at h
        exact b82 _ hB7 y1 z0 y4 y5 M0 M1 M2 N4 H locs ls hP hD hS (lv_sub hl [1, 2, 0, 4, 5] rfl) h
  have b43 : ∀ (B7 : Int32 → Int32 → Int32 → Int32 → gS → gS → gS → gS → Prop) (hB7 : ∀ (y1 : Int32) (y2 : Int32) (y3 : Int32) (y4 : Int32) (M0 : gS) (M1 : gS) (M2 : gS) (M3 : gS) (H : Heap) (locs : List Loc) (ls : Array Slot), va_P (dC, dI) vwCl (rrW cB cI cJ cZ h0 a0 a1 a3 M0 M1 M2 M3) H → va_D A (rrW cB cI cJ cZ h0 a0 a1 a3 M0 M1 M2 M3) → va_S A s.heap H locs → lv_has ls 6 [(0, .ref h0), (1, .int y1), (2, .int y2), (3, .int y3), (4, .int y4)] → B7 y1 y2 y3 y4 M0 M1 M2 M3 → W p l e (headSpec wsX9_readTest (rmX9_readTest rT)).room s m ([.ref h0, .int p1] : List Value).toArray below meth c H locs 0 0 (MQ below (va_Qv (fun (u : gS × gS × gS × gS) => Q u.1 u.2.1 u.2.2.1 u.2.2.2) (rrB dC dI cB cI cJ cZ h0 a0 a1 a3 A) A) ([.ref h0, .int p1] : List Value).toArray s 0 0 A) (F0 m 7 ls [])) (y1 : Int32) (y3 : Int32) (y4 : Int32) (M0 : gS) (M1 : gS) (M2 : gS) (M3 : gS) (H : Heap) (locs : List Loc) (ls : Array Slot), va_P (dC, dI) vwCl (rrW cB cI cJ cZ h0 a0 a1 a3 M0 M1 M2 M3) H → va_D A (rrW cB cI cJ cZ h0 a0 a1 a3 M0 M1 M2 M3) → va_S A s.heap H locs → lv_has ls 6 [(0, .ref h0), (1, .int y1), (3, .int y3), (4, .int y4)] → wX9_readTest_43 T B7 Q y1 y3 y4 M0 M1 M2 M3 → W p l e (headSpec wsX9_readTest (rmX9_readTest rT)).room s m ([.ref h0, .int p1] : List Value).toArray below meth c H locs 0 0 (MQ below (va_Qv (fun (u : gS × gS × gS × gS) => Q u.1 u.2.1 u.2.2.1 u.2.2.2) (rrB dC dI cB cI cJ cZ h0 a0 a1 a3 A) A) ([.ref h0, .int p1] : List Value).toArray s 0 0 A) (F0 m 43 ls []) := by
    intro B7 hB7 y1 y3 y4 M0 M1 M2 M3 H locs ls hP hD hS hl h
    unfold wX9_readTest_43 at h
    refine lv_aload_n hx hb dX9_readTest_43 rfl (lv_at hl 0 rfl) ?_
    refine va_get (D := (dC, dI)) (ci := 9) (v := .ref (a0 0)) (C := RX9) (T := TX9) (N := 3) hx hb hts hinX9 hown hK hP 0 rfl rfl 0 (by decide) f1 (fun _ h9 => h9) rfl dX9_readTest_44 ?_
    refine va_ldcS hx hb hown hR.l3 dX9_readTest_47 ?_
    have hPc := hP.sub (ws' := (rdW cB cI cJ cZ (a0 0) a1 M1 M2)) [1, 2] rfl
    have hDc := hD.sub (ws' := (rdW cB cI cJ cZ (a0 0) a1 M1 M2)) [1, 2] (by decide) rfl
    have hFc := va_free (wc := (rdW cB cI cJ cZ (a0 0) a1 M1 M2)) hD hS hA [1, 2] rfl
    refine va_calli (va_runV (As := [.ref (adK 3)]) (rest := []) ⟨hx, hb, hml, hown, hts⟩ (kX7_nameAmong l dC dI cB cI cJ cZ adK adV (a0 0) a1 H.size 3 M1 M2 _ h) (cwV 1 hts gX9_readTest_X7_nameAmong rfl rfl rfl (by decide +kernel) ⟨by show 4 + 1 ≤ rT.frames + 8; omega, by show 8 + (5 + 11) + 85 ≤ rT.locals + 176; omega⟩) (rdpVS hK hPc hDc hR hE hS hFc) rfl rfl hl.1 rfl (lv_room (Nat.le_of_ble_eq_true rfl)) dX9_readTest_49 ⟨Nat.le_of_ble_eq_true rfl, Nat.le_of_ble_eq_true rfl⟩) hS (fun q _ z => hFc q z) hFc (fun r1 u t H1 locs ht hvm hw hB hz1 hk1 hS => ?_)
    obtain ⟨N2, N3⟩ := u
    obtain ⟨hP1, hK1, hD1⟩ := hB
    rw [ht] at hP1
    obtain ⟨hP, hD⟩ := va_join (wr := [(h0, .inr (9, [.ref (a0 0), .ref (a0 1), .int (mg M0 2)])), (a0 1, .inr (8, [.int (mg M3 0), .ref (a3 1), .ref (a3 2), .ref (a3 3), .int (mg M3 4), .ref (a3 5)])), (a3 1, .inl (cI, 12, .inl (ma M3 1))), (a3 2, .inl (cI, 12, .inl (ma M3 2))), (a3 3, .inl (cI, 400, .inl (ma M3 3))), (a3 5, .inl (cJ, 60, .inr (.inl (ml M3 5))))]) (w1 := (rdW cB cI cJ cZ (a0 0) a1 N2 N3)) hP hD [1, 2] [0, 3, 4, 5, 6, 7] rfl rfl (by decide) (by decide) hk1 hFc hP1 hD1
    have hP := hP.sub (ws' := (rrW cB cI cJ cZ h0 a0 a1 a3 M0 N2 N3 M3)) [0, 6, 7, 1, 2, 3, 4, 5] rfl
    have hD := hD.sub (ws' := (rrW cB cI cJ cZ h0 a0 a1 a3 M0 N2 N3 M3)) [0, 6, 7, 1, 2, 3, 4, 5] (by decide) rfl
    generalize H1 = H at hP hS ⊢
    have h := hw
    try dsimp only at h
    refine lv_istore (lv' := [(5, .int r1), (0, .ref h0), (1, .int y1), (3, .int y3), (4, .int y4)]) hx hb dX9_readTest_52 hl (by decide) rfl (fun ls hl => ?_)
    refine lv_iload hx hb dX9_readTest_54 (lv_at hl 0 rfl) ?_
    refine lv_if_ne (tgt := 63) hx hb dX9_readTest_56 (by decide) (fun c4 => ?_) (fun c4 => ?_)
    · have h := h.2 c4
      refine lv_iconst (v := 0) hx hb dX9_readTest_63 (by decide) ?_
      exact b64 _ hB7 y1 y3 y4 r1 (0 : Int32) M0 N2 N3 M3 H locs ls hP hD hS (lv_sub hl [1, 2, 3, 4, 0] rfl) h
    · have h := h.1 c4
      refine lv_iconst (v := 1) hx hb dX9_readTest_59 (by decide) ?_
      refine lv_goto (tgt := 64) hx hb dX9_readTest_60 (by decide) ?_
      exact b64 _ hB7 y1 y3 y4 r1 (1 : Int32) M0 N2 N3 M3 H locs ls hP hD hS (lv_sub hl [1, 2, 3, 4, 0] rfl) h
  have b7 : ∀ (n : Nat) (y1 : Int32) (y2 : Int32) (y3 : Int32) (y4 : Int32) (M0 : gS) (M1 : gS) (M2 : gS) (M3 : gS) (H : Heap) (locs : List Loc) (ls : Array Slot), va_P (dC, dI) vwCl (rrW cB cI cJ cZ h0 a0 a1 a3 M0 M1 M2 M3) H → va_D A (rrW cB cI cJ cZ h0 a0 a1 a3 M0 M1 M2 M3) → va_S A s.heap H locs → lv_has ls 6 [(0, .ref h0), (1, .int y1), (2, .int y2), (3, .int y3), (4, .int y4)] → wX9_readTest_7 T  Q n y1 y2 y3 y4 M0 M1 M2 M3 → W p l e (headSpec wsX9_readTest (rmX9_readTest rT)).room s m ([.ref h0, .int p1] : List Value).toArray below meth c H locs 0 0 (MQ below (va_Qv (fun (u : gS × gS × gS × gS) => Q u.1 u.2.1 u.2.2.1 u.2.2.2) (rrB dC dI cB cI cJ cZ h0 a0 a1 a3 A) A) ([.ref h0, .int p1] : List Value).toArray s 0 0 A) (F0 m 7 ls []) := by
    intro  n
    induction n with
    | zero => intro y1 y2 y3 y4 M0 M1 M2 M3 H locs ls hP hD hS hl h; exact absurd h (by simp [wX9_readTest_7])
    | succ n hB70 =>
      intro y1 y2 y3 y4 M0 M1 M2 M3 H locs ls hP hD hS hl h
      have hB7 := hB70
      rw [wX9_readTest_7] at h
      refine lv_iload hx hb dX9_readTest_7 (lv_at hl 4 rfl) ?_
      refine lv_sipush (v := (400)) hx hb dX9_readTest_9 (by decide) ?_
      refine lv_icmp_ge (tgt := 116) hx hb dX9_readTest_12 (by decide) (fun c1 => ?_) (fun c1 => ?_)
      · have h := h.1 c1
        exact W.vret hx hb hr (fun t ht hW => ⟨⟨(M0, M1, M2, M3), rfl, h, by rw [ht]; exact hP, va_K.moved hW.alike hK, hD⟩, hS.F ht⟩) hS.2.2 dX9_readTest_116
      · have h := h.2 c1
        refine lv_aload_n hx hb dX9_readTest_15 rfl (lv_at hl 0 rfl) ?_
        refine va_get (D := (dC, dI)) (ci := 9) (v := .ref (a0 0)) (C := RX9) (T := TX9) (N := 3) hx hb hts hinX9 hown hK hP 0 rfl rfl 0 (by decide) f1 (fun _ h9 => h9) rfl dX9_readTest_16 ?_
        refine va_get (D := (dC, dI)) (ci := 7) (v := .int (mg M1 7)) (C := RX7) (T := TX7) (N := 8) hx hb hts hinX7 hown hK hP 1 rfl rfl 7 (by decide) f3 (fun _ h9 => h9) rfl dX9_readTest_19 ?_
        refine lv_if_ne (tgt := 116) hx hb dX9_readTest_22 (by decide) (fun c2 => ?_) (fun c2 => ?_)
        · have h := h.2 c2
          exact W.vret hx hb hr (fun t ht hW => ⟨⟨(M0, M1, M2, M3), rfl, h, by rw [ht]; exact hP, va_K.moved hW.alike hK, hD⟩, hS.F ht⟩) hS.2.2 dX9_readTest_116
        · have h := h.1 c2
          refine lv_aload_n hx hb dX9_readTest_25 rfl (lv_at hl 0 rfl) ?_
          refine lv_iload_n hx hb dX9_readTest_26 rfl (lv_at hl 1 rfl) ?_
          have hFc := gs_free hD hS hA
          refine va_callv (va_runV (As := [.int y1]) (rest := []) ⟨hx, hb, hml, hown, hts⟩ (kX9_readFact l dC dI cB cI cJ cZ adK adV h0 a0 a1 a3 T rT hrT hT H.size y1 M0 M1 M2 M3 _ h) (cwV 1 hts gX9_readTest_X9_readFact rfl rfl rfl (by decide +kernel) ⟨by show rT.frames + 7 + 1 ≤ rT.frames + 8; omega, by show 8 + (4 + 11) + (rT.locals + 153) ≤ rT.locals + 176; omega⟩) (rrpVS hK hP hD hR hE hS hFc) rfl rfl hl.1 rfl (lv_room (Nat.le_of_ble_eq_true rfl)) dX9_readTest_27 ⟨Nat.le_of_ble_eq_true rfl, Nat.le_of_ble_eq_true rfl⟩) hS (fun q _ z => hFc q z) hFc (fun u t H1 locs ht hvm hw hB hz1 hk1 hS => ?_)
          obtain ⟨N4, N5, N6, N7⟩ := u
          obtain ⟨hP, hD⟩ := gs_back ht hFc hB
          generalize H1 = H at hP hS ⊢
          have h := hw
          try dsimp only at h
          refine lv_iload_n hx hb dX9_readTest_30 rfl (lv_at hl 2 rfl) ?_
          refine lv_if_eq (tgt := 43) hx hb dX9_readTest_31 (by decide) (fun c8 => ?_) (fun c8 => ?_)
          · have h := h.1 c8
            exact b43 _ hB7 y1 y3 y4 N4 N5 N6 N7 H locs ls hP hD hS (lv_sub hl [0, 1, 3, 4] rfl) h
          · have h := h.2 c8
            refine lv_aload_n hx hb dX9_readTest_34 rfl (lv_at hl 0 rfl) ?_
            refine va_get (D := (dC, dI)) (ci := 9) (v := .ref (a0 1)) (C := RX9) (T := TX9) (N := 3) hx hb hts hinX9 hown hK hP 0 rfl rfl 1 (by decide) f2 (fun _ h9 => h9) rfl dX9_readTest_35 ?_
            refine lv_bipush (v := (-20)) hx hb dX9_readTest_38 (by decide) ?_
            have hPc := hP.sub (ws' := (ruW cB cI cJ cZ (a0 1) a3 N7)) [3, 4, 5, 6, 7] rfl
            have hDc := hD.sub (ws' := (ruW cB cI cJ cZ (a0 1) a3 N7)) [3, 4, 5, 6, 7] (by decide) rfl
            have hFc := va_free (wc := (ruW cB cI cJ cZ (a0 1) a3 N7)) hD hS hA [3, 4, 5, 6, 7] rfl
            refine va_callv (va_runV (As := [.int (-20 : Int32)]) (rest := []) ⟨hx, hb, hml, hown, hts⟩ (kX8_put l dC dI cB cI cJ cZ (a0 1) a3 H.size (-20 : Int32) N7 _ h) (cwV 1 hts gX9_readTest_X8_put rfl rfl rfl (by decide +kernel) ⟨by show 0 + 1 ≤ rT.frames + 8; omega, by show 8 + (2 + 11) + 0 ≤ rT.locals + 176; omega⟩) (rupV hK hPc hDc) rfl rfl hl.1 rfl (lv_room (Nat.le_of_ble_eq_true rfl)) dX9_readTest_40 ⟨Nat.le_of_ble_eq_true rfl, Nat.le_of_ble_eq_true rfl⟩) hS (fun q _ z => hFc q z) hFc (fun u t H1 locs ht hvm hw hB hz1 hk1 hS => ?_)
            obtain ⟨N10, rfl⟩ : ∃ z, z = u := ⟨_, rfl⟩
            obtain ⟨hP1, hK1, hD1⟩ := hB
            rw [ht] at hP1
            obtain ⟨hP, hD⟩ := va_join (wr := [(h0, .inr (9, [.ref (a0 0), .ref (a0 1), .int (mg N4 2)])), (a0 0, .inr (7, [.ref (a1 0), .int (mg N5 1), .int (mg N5 2), .int (mg N5 3), .int (mg N5 4), .int (mg N5 5), .int (mg N5 6), .int (mg N5 7)])), (a1 0, .inl (cI, 400, .inl (ma N6 0)))]) (w1 := (ruW cB cI cJ cZ (a0 1) a3 N10)) hP hD [3, 4, 5, 6, 7] [0, 1, 2] rfl rfl (by decide) (by decide) hk1 hFc hP1 hD1
            have hP := hP.sub (ws' := (rrW cB cI cJ cZ h0 a0 a1 a3 N4 N5 N6 N10)) [0, 1, 2, 3, 4, 5, 6, 7] rfl
            have hD := hD.sub (ws' := (rrW cB cI cJ cZ h0 a0 a1 a3 N4 N5 N6 N10)) [0, 1, 2, 3, 4, 5, 6, 7] (by decide) rfl
            generalize H1 = H at hP hS ⊢
            have h := hw
            try dsimp only at h
            exact b43 _ hB7 y1 y3 y4 N4 N5 N6 N10 H locs ls hP hD hS (lv_sub hl [0, 1, 3, 4] rfl) h
  have bE : ∀ (M0 : gS) (M1 : gS) (M2 : gS) (M3 : gS) (H : Heap) (locs : List Loc) (ls : Array Slot), va_P (dC, dI) vwCl (rrW cB cI cJ cZ h0 a0 a1 a3 M0 M1 M2 M3) H → va_D A (rrW cB cI cJ cZ h0 a0 a1 a3 M0 M1 M2 M3) → va_S A s.heap H locs → lv_has ls 6 [(0, .ref h0), (1, .int p1)] → wX9_readTest T p1 M0 M1 M2 M3 Q → W p l e (headSpec wsX9_readTest (rmX9_readTest rT)).room s m ([.ref h0, .int p1] : List Value).toArray below meth c H locs 0 0 (MQ below (va_Qv (fun (u : gS × gS × gS × gS) => Q u.1 u.2.1 u.2.2.1 u.2.2.2) (rrB dC dI cB cI cJ cZ h0 a0 a1 a3 A) A) ([.ref h0, .int p1] : List Value).toArray s 0 0 A) (F0 m 0 ls []) := by
    intro M0 M1 M2 M3 H locs ls hP hD hS hl h
    unfold wX9_readTest at h
    refine lv_iconst (v := 0) hx hb dX9_readTest_0 (by decide) ?_
    refine lv_istore_n (lv' := [(2, .int (0 : Int32)), (0, .ref h0), (1, .int p1)]) hx hb dX9_readTest_1 rfl hl (by decide) rfl (fun ls hl => ?_)
    refine lv_iconst (v := 0) hx hb dX9_readTest_2 (by decide) ?_
    refine lv_istore_n (lv' := [(3, .int (0 : Int32)), (2, .int (0 : Int32)), (0, .ref h0), (1, .int p1)]) hx hb dX9_readTest_3 rfl hl (by decide) rfl (fun ls hl => ?_)
    refine lv_iconst (v := 0) hx hb dX9_readTest_4 (by decide) ?_
    refine lv_istore (lv' := [(4, .int (0 : Int32)), (3, .int (0 : Int32)), (2, .int (0 : Int32)), (0, .ref h0), (1, .int p1)]) hx hb dX9_readTest_5 hl (by decide) rfl (fun ls hl => ?_)
    obtain ⟨n9, h⟩ := h
    exact b7  n9 p1 (0 : Int32) (0 : Int32) (0 : Int32) M0 M1 M2 M3 H locs ls hP hD hS (lv_sub hl [3, 4, 2, 1, 0] rfl) h
  have hl := lv_entry ([.ref h0, .int p1]) (n := 6) (Nat.le_of_ble_eq_true rfl)
  rw [lg_entry_eq]
  generalize (lg_sl ([.ref h0, .int p1]) ++ List.replicate (6 - (lg_sl ([.ref h0, .int p1])).length) Slot.unset).toArray = ls at hl ⊢
  have hl : lv_has ls 6 [(0, .ref h0), (1, .int p1)] := hl
  exact bE M0 M1 M2 M3 s.heap [] ls hP hD hS hl h
def wX9_readNested (T : Int32 → Int32 → gS → gS → gS → gS → (gS → gS → gS → gS → Prop) → Prop) (p1 : Int32) (p2 : Int32) (M0 : gS) (M1 : gS) (M2 : gS) (M3 : gS) (Q : gS → gS → gS → gS → Prop) : Prop :=
 ((p1 < (10 : Int32) → (wX7_advance  M1 M2 (fun (N3 : gS) (N4 : gS) => ((p2 = 0 → (wX9_readTest T (p1 + (1 : Int32)) M0 N3 N4 M3 (fun (N7 : gS) (N8 : gS) (N9 : gS) (N10 : gS) => (wX7_isSign (93 : Int32) N8 N9 (fun (b14 : Bool) (N12 : gS) (N13 : gS) => (((bI b14) = 0 → (wX7_fail (0 : Int32) N12 N13 (fun (N17 : gS) (N18 : gS) => (Q N7 N17 N18 N10))))
 ∧ (¬ (bI b14) = 0 → (wX7_advance  N12 N13 (fun (N20 : gS) (N21 : gS) => (Q N7 N20 N21 N10))))))))))
 ∧ (¬ p2 = 0 → (wX9_readFact T (p1 + (1 : Int32)) M0 N3 N4 M3 (fun (N23 : gS) (N24 : gS) (N25 : gS) (N26 : gS) => (wX8_put (-19 : Int32) N26 (fun (N28 : gS) => (Q N23 N24 N25 N28))))))))))
 ∧ (¬ p1 < (10 : Int32) → (wX7_fail (2 : Int32) M1 M2 (fun (N30 : gS) (N31 : gS) => (Q M0 N30 N31 M3)))))
def rmX9_readNested (rT : Room) : Room := { frames := rT.frames + 9, cells := 0, slots := 0, locals := rT.locals + 201 }
set_option maxHeartbeats 4000000 in
set_option maxRecDepth 100000 in
theorem kX9_readNested (l : Launch) (dC : Nat → ClassId) (dI : Nat → Nat → Nat) (cB cI cJ cZ : ClassId) (adK adV : Nat → Nat) (h0 : Nat) (a0 : Nat → Nat) (a1 : Nat → Nat) (a3 : Nat → Nat) (T : Int32 → Int32 → gS → gS → gS → gS → (gS → gS → gS → gS → Prop) → Prop) (rT : Room) (hrT : rT.cells = 0 ∧ rT.slots = 0) (hT : ∀ (sz : Nat) (q1 : Int32) (q2 : Int32) (M0 : gS) (M1 : gS) (M2 : gS) (M3 : gS) (Q : gS → gS → gS → gS → Prop), T q1 q2 M0 M1 M2 M3 Q → Met l yX9_readNested wsX9_readNested rT (va_Pc [.ref h0, .int q1, .int q2] (rrIS dC dI cB cI cJ cZ h0 a0 a1 a3 M0 M1 M2 M3 adK adV sz)) (va_Qv (fun (u : gS × gS × gS × gS) => Q u.1 u.2.1 u.2.2.1 u.2.2.2) (rrB dC dI cB cI cJ cZ h0 a0 a1 a3 (va_A (rrW cB cI cJ cZ h0 a0 a1 a3 M0 M1 M2 M3) sz)) (va_A (rrW cB cI cJ cZ h0 a0 a1 a3 M0 M1 M2 M3) sz)) 0 0 (va_A (rrW cB cI cJ cZ h0 a0 a1 a3 M0 M1 M2 M3) sz)) (sz : Nat) (p1 : Int32) (p2 : Int32) (M0 : gS) (M1 : gS) (M2 : gS) (M3 : gS) (Q : gS → gS → gS → gS → Prop) (h : wX9_readNested T p1 p2 M0 M1 M2 M3 Q) : Met l yX9_readNested wsX9_readNested (rmX9_readNested rT) (va_Pc [.ref h0, .int p1, .int p2] (rrIS dC dI cB cI cJ cZ h0 a0 a1 a3 M0 M1 M2 M3 adK adV sz)) (va_Qv (fun (u : gS × gS × gS × gS) => Q u.1 u.2.1 u.2.2.1 u.2.2.2) (rrB dC dI cB cI cJ cZ h0 a0 a1 a3 (va_A (rrW cB cI cJ cZ h0 a0 a1 a3 M0 M1 M2 M3) sz)) (va_A (rrW cB cI cJ cZ h0 a0 a1 a3 M0 M1 M2 M3) sz)) 0 0 (va_A (rrW cB cI cJ cZ h0 a0 a1 a3 M0 M1 M2 M3) sz) := by
  refine Met.ofW (cc := cX9_readNested) (maxL := 3) (ret := none) (by decide) rfl ?_
  intro p e s m args below meth c s₁ B hml hv
  obtain ⟨rfl, ⟨hsz, hP, hK, hD0⟩, hR, hE⟩ := hv
  have hx := B.exec
  have hb := B.bytes
  have hr := B.returns
  have hts := atoms_spec (ws := wsX9_readNested) B.pre
  have hown : s.vm.findClass RX9 = some m.cls := findClass_of_methodNamed B.named
  have hlocks := B.notSynchronized
  subst hsz
  have hD := hD0.self (sz := s.heap.size)
  generalize hAe : va_A (rrW cB cI cJ cZ h0 a0 a1 a3 M0 M1 M2 M3) s.heap.size = A at hD hE ⊢
  have hA : ∀ q : Nat, s.heap.size ≤ q → A q := fun q h => by rw [← hAe]; exact Or.inr h
  have hS : va_S A s.heap s.heap [] := va_S.rf
  have hinX9 : ∀ w ∈ wsX90, w ∈ wsX9_readNested := by decide +kernel
  have f1 := hts (.fieldLink RX9 9 "LastWords$RuleReader" "in" "LLastWords$Reader;") (by decide +kernel)
  have f2 := hts (.fieldLink RX9 15 "LastWords$RuleReader" "rule" "LLastWords$Rule;") (by decide +kernel)
  have bE : ∀ (M0 : gS) (M1 : gS) (M2 : gS) (M3 : gS) (H : Heap) (locs : List Loc) (ls : Array Slot), va_P (dC, dI) vwCl (rrW cB cI cJ cZ h0 a0 a1 a3 M0 M1 M2 M3) H → va_D A (rrW cB cI cJ cZ h0 a0 a1 a3 M0 M1 M2 M3) → va_S A s.heap H locs → lv_has ls 3 [(0, .ref h0), (1, .int p1), (2, .int p2)] → wX9_readNested T p1 p2 M0 M1 M2 M3 Q → W p l e (headSpec wsX9_readNested (rmX9_readNested rT)).room s m ([.ref h0, .int p1, .int p2] : List Value).toArray below meth c H locs 0 0 (MQ below (va_Qv (fun (u : gS × gS × gS × gS) => Q u.1 u.2.1 u.2.2.1 u.2.2.2) (rrB dC dI cB cI cJ cZ h0 a0 a1 a3 A) A) ([.ref h0, .int p1, .int p2] : List Value).toArray s 0 0 A) (F0 m 0 ls []) := by
    intro M0 M1 M2 M3 H locs ls hP hD hS hl h
    unfold wX9_readNested at h
    refine lv_iload_n hx hb dX9_readNested_0 rfl (lv_at hl 1 rfl) ?_
    refine lv_bipush (v := (10)) hx hb dX9_readNested_1 (by decide) ?_
    refine lv_icmp_lt (tgt := 15) hx hb dX9_readNested_3 (by decide) (fun c1 => ?_) (fun c1 => ?_)
    · have h := h.1 c1
      refine lv_aload_n hx hb dX9_readNested_15 rfl (lv_at hl 0 rfl) ?_
      refine va_get (D := (dC, dI)) (ci := 9) (v := .ref (a0 0)) (C := RX9) (T := TX9) (N := 3) hx hb hts hinX9 hown hK hP 0 rfl rfl 0 (by decide) f1 (fun _ h9 => h9) rfl dX9_readNested_16 ?_
      have hPc := hP.sub (ws' := (rdW cB cI cJ cZ (a0 0) a1 M1 M2)) [1, 2] rfl
      have hDc := hD.sub (ws' := (rdW cB cI cJ cZ (a0 0) a1 M1 M2)) [1, 2] (by decide) rfl
      have hFc := va_free (wc := (rdW cB cI cJ cZ (a0 0) a1 M1 M2)) hD hS hA [1, 2] rfl
      refine va_callv (va_runV (As := []) (rest := []) ⟨hx, hb, hml, hown, hts⟩ (kX7_advance l dC dI cB cI cJ cZ (a0 0) a1 H.size  M1 M2 _ h) (cwV 0 hts gX9_readNested_X7_advance rfl rfl rfl (by decide +kernel) ⟨by show 2 + 1 ≤ rT.frames + 9; omega, by show 8 + (1 + 11) + 40 ≤ rT.locals + 201; omega⟩) (rdpV hK hPc hDc) rfl rfl hl.1 rfl (lv_room (Nat.le_of_ble_eq_true rfl)) dX9_readNested_19 ⟨Nat.le_of_ble_eq_true rfl, Nat.le_of_ble_eq_true rfl⟩) hS (fun q _ z => hFc q z) hFc (fun u t H1 locs ht hvm hw hB hz1 hk1 hS => ?_)
      obtain ⟨N3, N4⟩ := u
      obtain ⟨hP1, hK1, hD1⟩ := hB
      rw [ht] at hP1
      obtain ⟨hP, hD⟩ := va_join (wr := [(h0, .inr (9, [.ref (a0 0), .ref (a0 1), .int (mg M0 2)])), (a0 1, .inr (8, [.int (mg M3 0), .ref (a3 1), .ref (a3 2), .ref (a3 3), .int (mg M3 4), .ref (a3 5)])), (a3 1, .inl (cI, 12, .inl (ma M3 1))), (a3 2, .inl (cI, 12, .inl (ma M3 2))), (a3 3, .inl (cI, 400, .inl (ma M3 3))), (a3 5, .inl (cJ, 60, .inr (.inl (ml M3 5))))]) (w1 := (rdW cB cI cJ cZ (a0 0) a1 N3 N4)) hP hD [1, 2] [0, 3, 4, 5, 6, 7] rfl rfl (by decide) (by decide) hk1 hFc hP1 hD1
      have hP := hP.sub (ws' := (rrW cB cI cJ cZ h0 a0 a1 a3 M0 N3 N4 M3)) [0, 6, 7, 1, 2, 3, 4, 5] rfl
      have hD := hD.sub (ws' := (rrW cB cI cJ cZ h0 a0 a1 a3 M0 N3 N4 M3)) [0, 6, 7, 1, 2, 3, 4, 5] (by decide) rfl
      generalize H1 = H at hP hS ⊢
      have h := hw
      try dsimp only at h
      refine lv_iload_n hx hb dX9_readNested_22 rfl (lv_at hl 2 rfl) ?_
      refine lv_if_eq (tgt := 43) hx hb dX9_readNested_23 (by decide) (fun c5 => ?_) (fun c5 => ?_)
      · have h := h.1 c5
        refine lv_aload_n hx hb dX9_readNested_43 rfl (lv_at hl 0 rfl) ?_
        refine lv_iload_n hx hb dX9_readNested_44 rfl (lv_at hl 1 rfl) ?_
        refine lv_iconst (v := 1) hx hb dX9_readNested_45 (by decide) ?_
        refine lv_iadd hx hb dX9_readNested_46 ?_
        have hFc := gs_free hD hS hA
        refine va_callv (va_runV (As := [.int (p1 + (1 : Int32))]) (rest := []) ⟨hx, hb, hml, hown, hts⟩ (kX9_readTest l dC dI cB cI cJ cZ adK adV h0 a0 a1 a3 T rT hrT hT H.size (p1 + (1 : Int32)) M0 N3 N4 M3 _ h) (cwV 1 hts gX9_readNested_X9_readTest rfl rfl rfl (by decide +kernel) ⟨by show rT.frames + 8 + 1 ≤ rT.frames + 9; omega, by show 8 + (6 + 11) + (rT.locals + 176) ≤ rT.locals + 201; omega⟩) (rrpVS hK hP hD hR hE hS hFc) rfl rfl hl.1 rfl (lv_room (Nat.le_of_ble_eq_true rfl)) dX9_readNested_47 ⟨Nat.le_of_ble_eq_true rfl, Nat.le_of_ble_eq_true rfl⟩) hS (fun q _ z => hFc q z) hFc (fun u t H1 locs ht hvm hw hB hz1 hk1 hS => ?_)
        obtain ⟨N7, N8, N9, N10⟩ := u
        obtain ⟨hP, hD⟩ := gs_back ht hFc hB
        generalize H1 = H at hP hS ⊢
        have h := hw
        try dsimp only at h
        refine lv_aload_n hx hb dX9_readNested_50 rfl (lv_at hl 0 rfl) ?_
        refine va_get (D := (dC, dI)) (ci := 9) (v := .ref (a0 0)) (C := RX9) (T := TX9) (N := 3) hx hb hts hinX9 hown hK hP 0 rfl rfl 0 (by decide) f1 (fun _ h9 => h9) rfl dX9_readNested_51 ?_
        refine lv_bipush (v := (93)) hx hb dX9_readNested_54 (by decide) ?_
        have hPc := hP.sub (ws' := (rdW cB cI cJ cZ (a0 0) a1 N8 N9)) [1, 2] rfl
        have hDc := hD.sub (ws' := (rdW cB cI cJ cZ (a0 0) a1 N8 N9)) [1, 2] (by decide) rfl
        have hFc := va_free (wc := (rdW cB cI cJ cZ (a0 0) a1 N8 N9)) hD hS hA [1, 2] rfl
        refine va_calli (va_runV (As := [.int (93 : Int32)]) (rest := []) ⟨hx, hb, hml, hown, hts⟩ (kX7_isSign l dC dI cB cI cJ cZ (a0 0) a1 H.size (93 : Int32) N8 N9 _ h) (cwV 1 hts gX9_readNested_X7_isSign rfl rfl rfl (by decide +kernel) ⟨by show 0 + 1 ≤ rT.frames + 9; omega, by show 8 + (2 + 11) + 0 ≤ rT.locals + 201; omega⟩) (rdpV hK hPc hDc) rfl rfl hl.1 rfl (lv_room (Nat.le_of_ble_eq_true rfl)) dX9_readNested_56 ⟨Nat.le_of_ble_eq_true rfl, Nat.le_of_ble_eq_true rfl⟩) hS (fun q _ z => hFc q z) hFc (fun r11 u t H1 locs ht hvm hw hB hz1 hk1 hS => ?_)
        obtain ⟨N12, N13⟩ := u
        obtain ⟨hP1, hK1, hD1⟩ := hB
        rw [ht] at hP1
        obtain ⟨hP, hD⟩ := va_join (wr := [(h0, .inr (9, [.ref (a0 0), .ref (a0 1), .int (mg N7 2)])), (a0 1, .inr (8, [.int (mg N10 0), .ref (a3 1), .ref (a3 2), .ref (a3 3), .int (mg N10 4), .ref (a3 5)])), (a3 1, .inl (cI, 12, .inl (ma N10 1))), (a3 2, .inl (cI, 12, .inl (ma N10 2))), (a3 3, .inl (cI, 400, .inl (ma N10 3))), (a3 5, .inl (cJ, 60, .inr (.inl (ml N10 5))))]) (w1 := (rdW cB cI cJ cZ (a0 0) a1 N12 N13)) hP hD [1, 2] [0, 3, 4, 5, 6, 7] rfl rfl (by decide) (by decide) hk1 hFc hP1 hD1
        have hP := hP.sub (ws' := (rrW cB cI cJ cZ h0 a0 a1 a3 N7 N12 N13 N10)) [0, 6, 7, 1, 2, 3, 4, 5] rfl
        have hD := hD.sub (ws' := (rrW cB cI cJ cZ h0 a0 a1 a3 N7 N12 N13 N10)) [0, 6, 7, 1, 2, 3, 4, 5] (by decide) rfl
        generalize H1 = H at hP hS ⊢
        obtain ⟨b14, rfl, h⟩ := hw
        try dsimp only at h
        refine lv_if_eq (tgt := 72) hx hb dX9_readNested_59 (by decide) (fun c15 => ?_) (fun c15 => ?_)
        · have h := h.1 c15
          refine lv_aload_n hx hb dX9_readNested_72 rfl (lv_at hl 0 rfl) ?_
          refine va_get (D := (dC, dI)) (ci := 9) (v := .ref (a0 0)) (C := RX9) (T := TX9) (N := 3) hx hb hts hinX9 hown hK hP 0 rfl rfl 0 (by decide) f1 (fun _ h9 => h9) rfl dX9_readNested_73 ?_
          refine lv_iconst (v := 0) hx hb dX9_readNested_76 (by decide) ?_
          have hPc := hP.sub (ws' := (rdW cB cI cJ cZ (a0 0) a1 N12 N13)) [1, 2] rfl
          have hDc := hD.sub (ws' := (rdW cB cI cJ cZ (a0 0) a1 N12 N13)) [1, 2] (by decide) rfl
          have hFc := va_free (wc := (rdW cB cI cJ cZ (a0 0) a1 N12 N13)) hD hS hA [1, 2] rfl
          refine va_callv (va_runV (As := [.int (0 : Int32)]) (rest := []) ⟨hx, hb, hml, hown, hts⟩ (kX7_fail l dC dI cB cI cJ cZ (a0 0) a1 H.size (0 : Int32) N12 N13 _ h) (cwV 1 hts gX9_readNested_X7_fail rfl rfl rfl (by decide +kernel) ⟨by show 0 + 1 ≤ rT.frames + 9; omega, by show 8 + (2 + 11) + 0 ≤ rT.locals + 201; omega⟩) (rdpV hK hPc hDc) rfl rfl hl.1 rfl (lv_room (Nat.le_of_ble_eq_true rfl)) dX9_readNested_77 ⟨Nat.le_of_ble_eq_true rfl, Nat.le_of_ble_eq_true rfl⟩) hS (fun q _ z => hFc q z) hFc (fun u t H1 locs ht hvm hw hB hz1 hk1 hS => ?_)
          obtain ⟨N17, N18⟩ := u
          obtain ⟨hP1, hK1, hD1⟩ := hB
          rw [ht] at hP1
          obtain ⟨hP, hD⟩ := va_join (wr := [(h0, .inr (9, [.ref (a0 0), .ref (a0 1), .int (mg N7 2)])), (a0 1, .inr (8, [.int (mg N10 0), .ref (a3 1), .ref (a3 2), .ref (a3 3), .int (mg N10 4), .ref (a3 5)])), (a3 1, .inl (cI, 12, .inl (ma N10 1))), (a3 2, .inl (cI, 12, .inl (ma N10 2))), (a3 3, .inl (cI, 400, .inl (ma N10 3))), (a3 5, .inl (cJ, 60, .inr (.inl (ml N10 5))))]) (w1 := (rdW cB cI cJ cZ (a0 0) a1 N17 N18)) hP hD [1, 2] [0, 3, 4, 5, 6, 7] rfl rfl (by decide) (by decide) hk1 hFc hP1 hD1
          have hP := hP.sub (ws' := (rrW cB cI cJ cZ h0 a0 a1 a3 N7 N17 N18 N10)) [0, 6, 7, 1, 2, 3, 4, 5] rfl
          have hD := hD.sub (ws' := (rrW cB cI cJ cZ h0 a0 a1 a3 N7 N17 N18 N10)) [0, 6, 7, 1, 2, 3, 4, 5] (by decide) rfl
          generalize H1 = H at hP hS ⊢
          have h := hw
          try dsimp only at h
          exact W.vret hx hb hr (fun t ht hW => ⟨⟨(N7, N17, N18, N10), rfl, h, by rw [ht]; exact hP, va_K.moved hW.alike hK, hD⟩, hS.F ht⟩) hS.2.2 dX9_readNested_80
        · have h := h.2 c15
          refine lv_aload_n hx hb dX9_readNested_62 rfl (lv_at hl 0 rfl) ?_
          refine va_get (D := (dC, dI)) (ci := 9) (v := .ref (a0 0)) (C := RX9) (T := TX9) (N := 3) hx hb hts hinX9 hown hK hP 0 rfl rfl 0 (by decide) f1 (fun _ h9 => h9) rfl dX9_readNested_63 ?_
          have hPc := hP.sub (ws' := (rdW cB cI cJ cZ (a0 0) a1 N12 N13)) [1, 2] rfl
          have hDc := hD.sub (ws' := (rdW cB cI cJ cZ (a0 0) a1 N12 N13)) [1, 2] (by decide) rfl
          have hFc := va_free (wc := (rdW cB cI cJ cZ (a0 0) a1 N12 N13)) hD hS hA [1, 2] rfl
          refine va_callv (va_runV (As := []) (rest := []) ⟨hx, hb, hml, hown, hts⟩ (kX7_advance l dC dI cB cI cJ cZ (a0 0) a1 H.size  N12 N13 _ h) (cwV 0 hts gX9_readNested_X7_advance rfl rfl rfl (by decide +kernel) ⟨by show 2 + 1 ≤ rT.frames + 9; omega, by show 8 + (1 + 11) + 40 ≤ rT.locals + 201; omega⟩) (rdpV hK hPc hDc) rfl rfl hl.1 rfl (lv_room (Nat.le_of_ble_eq_true rfl)) dX9_readNested_66 ⟨Nat.le_of_ble_eq_true rfl, Nat.le_of_ble_eq_true rfl⟩) hS (fun q _ z => hFc q z) hFc (fun u t H1 locs ht hvm hw hB hz1 hk1 hS => ?_)
          obtain ⟨N20, N21⟩ := u
          obtain ⟨hP1, hK1, hD1⟩ := hB
          rw [ht] at hP1
          obtain ⟨hP, hD⟩ := va_join (wr := [(h0, .inr (9, [.ref (a0 0), .ref (a0 1), .int (mg N7 2)])), (a0 1, .inr (8, [.int (mg N10 0), .ref (a3 1), .ref (a3 2), .ref (a3 3), .int (mg N10 4), .ref (a3 5)])), (a3 1, .inl (cI, 12, .inl (ma N10 1))), (a3 2, .inl (cI, 12, .inl (ma N10 2))), (a3 3, .inl (cI, 400, .inl (ma N10 3))), (a3 5, .inl (cJ, 60, .inr (.inl (ml N10 5))))]) (w1 := (rdW cB cI cJ cZ (a0 0) a1 N20 N21)) hP hD [1, 2] [0, 3, 4, 5, 6, 7] rfl rfl (by decide) (by decide) hk1 hFc hP1 hD1
          have hP := hP.sub (ws' := (rrW cB cI cJ cZ h0 a0 a1 a3 N7 N20 N21 N10)) [0, 6, 7, 1, 2, 3, 4, 5] rfl
          have hD := hD.sub (ws' := (rrW cB cI cJ cZ h0 a0 a1 a3 N7 N20 N21 N10)) [0, 6, 7, 1, 2, 3, 4, 5] (by decide) rfl
          generalize H1 = H at hP hS ⊢
          have h := hw
          try dsimp only at h
          refine lv_goto (tgt := 80) hx hb dX9_readNested_69 (by decide) ?_
          exact W.vret hx hb hr (fun t ht hW => ⟨⟨(N7, N20, N21, N10), rfl, h, by rw [ht]; exact hP, va_K.moved hW.alike hK, hD⟩, hS.F ht⟩) hS.2.2 dX9_readNested_80
      · have h := h.2 c5
        refine lv_aload_n hx hb dX9_readNested_26 rfl (lv_at hl 0 rfl) ?_
        refine lv_iload_n hx hb dX9_readNested_27 rfl (lv_at hl 1 rfl) ?_
        refine lv_iconst (v := 1) hx hb dX9_readNested_28 (by decide) ?_
        refine lv_iadd hx hb dX9_readNested_29 ?_
        have hFc := gs_free hD hS hA
        refine va_callv (va_runV (As := [.int (p1 + (1 : Int32))]) (rest := []) ⟨hx, hb, hml, hown, hts⟩ (kX9_readFact l dC dI cB cI cJ cZ adK adV h0 a0 a1 a3 T rT hrT hT H.size (p1 + (1 : Int32)) M0 N3 N4 M3 _ h) (cwV 1 hts gX9_readNested_X9_readFact rfl rfl rfl (by decide +kernel) ⟨by show rT.frames + 7 + 1 ≤ rT.frames + 9; omega, by show 8 + (4 + 11) + (rT.locals + 153) ≤ rT.locals + 201; omega⟩) (rrpVS hK hP hD hR hE hS hFc) rfl rfl hl.1 rfl (lv_room (Nat.le_of_ble_eq_true rfl)) dX9_readNested_30 ⟨Nat.le_of_ble_eq_true rfl, Nat.le_of_ble_eq_true rfl⟩) hS (fun q _ z => hFc q z) hFc (fun u t H1 locs ht hvm hw hB hz1 hk1 hS => ?_)
        obtain ⟨N23, N24, N25, N26⟩ := u
        obtain ⟨hP, hD⟩ := gs_back ht hFc hB
        generalize H1 = H at hP hS ⊢
        have h := hw
        try dsimp only at h
        refine lv_aload_n hx hb dX9_readNested_33 rfl (lv_at hl 0 rfl) ?_
        refine va_get (D := (dC, dI)) (ci := 9) (v := .ref (a0 1)) (C := RX9) (T := TX9) (N := 3) hx hb hts hinX9 hown hK hP 0 rfl rfl 1 (by decide) f2 (fun _ h9 => h9) rfl dX9_readNested_34 ?_
        refine lv_bipush (v := (-19)) hx hb dX9_readNested_37 (by decide) ?_
        have hPc := hP.sub (ws' := (ruW cB cI cJ cZ (a0 1) a3 N26)) [3, 4, 5, 6, 7] rfl
        have hDc := hD.sub (ws' := (ruW cB cI cJ cZ (a0 1) a3 N26)) [3, 4, 5, 6, 7] (by decide) rfl
        have hFc := va_free (wc := (ruW cB cI cJ cZ (a0 1) a3 N26)) hD hS hA [3, 4, 5, 6, 7] rfl
        refine va_callv (va_runV (As := [.int (-19 : Int32)]) (rest := []) ⟨hx, hb, hml, hown, hts⟩ (kX8_put l dC dI cB cI cJ cZ (a0 1) a3 H.size (-19 : Int32) N26 _ h) (cwV 1 hts gX9_readNested_X8_put rfl rfl rfl (by decide +kernel) ⟨by show 0 + 1 ≤ rT.frames + 9; omega, by show 8 + (2 + 11) + 0 ≤ rT.locals + 201; omega⟩) (rupV hK hPc hDc) rfl rfl hl.1 rfl (lv_room (Nat.le_of_ble_eq_true rfl)) dX9_readNested_39 ⟨Nat.le_of_ble_eq_true rfl, Nat.le_of_ble_eq_true rfl⟩) hS (fun q _ z => hFc q z) hFc (fun u t H1 locs ht hvm hw hB hz1 hk1 hS => ?_)
        obtain ⟨N28, rfl⟩ : ∃ z, z = u := ⟨_, rfl⟩
        obtain ⟨hP1, hK1, hD1⟩ := hB
        rw [ht] at hP1
        obtain ⟨hP, hD⟩ := va_join (wr := [(h0, .inr (9, [.ref (a0 0), .ref (a0 1), .int (mg N23 2)])), (a0 0, .inr (7, [.ref (a1 0), .int (mg N24 1), .int (mg N24 2), .int (mg N24 3), .int (mg N24 4), .int (mg N24 5), .int (mg N24 6), .int (mg N24 7)])), (a1 0, .inl (cI, 400, .inl (ma N25 0)))]) (w1 := (ruW cB cI cJ cZ (a0 1) a3 N28)) hP hD [3, 4, 5, 6, 7] [0, 1, 2] rfl rfl (by decide) (by decide) hk1 hFc hP1 hD1
        have hP := hP.sub (ws' := (rrW cB cI cJ cZ h0 a0 a1 a3 N23 N24 N25 N28)) [0, 1, 2, 3, 4, 5, 6, 7] rfl
        have hD := hD.sub (ws' := (rrW cB cI cJ cZ h0 a0 a1 a3 N23 N24 N25 N28)) [0, 1, 2, 3, 4, 5, 6, 7] (by decide) rfl
        generalize H1 = H at hP hS ⊢
        have h := hw
        try dsimp only at h
        exact W.vret hx hb hr (fun t ht hW => ⟨⟨(N23, N24, N25, N28), rfl, h, by rw [ht]; exact hP, va_K.moved hW.alike hK, hD⟩, hS.F ht⟩) hS.2.2 dX9_readNested_42
    · have h := h.2 c1
      refine lv_aload_n hx hb dX9_readNested_6 rfl (lv_at hl 0 rfl) ?_
      refine va_get (D := (dC, dI)) (ci := 9) (v := .ref (a0 0)) (C := RX9) (T := TX9) (N := 3) hx hb hts hinX9 hown hK hP 0 rfl rfl 0 (by decide) f1 (fun _ h9 => h9) rfl dX9_readNested_7 ?_
      refine lv_iconst (v := 2) hx hb dX9_readNested_10 (by decide) ?_
      have hPc := hP.sub (ws' := (rdW cB cI cJ cZ (a0 0) a1 M1 M2)) [1, 2] rfl
      have hDc := hD.sub (ws' := (rdW cB cI cJ cZ (a0 0) a1 M1 M2)) [1, 2] (by decide) rfl
      have hFc := va_free (wc := (rdW cB cI cJ cZ (a0 0) a1 M1 M2)) hD hS hA [1, 2] rfl
      refine va_callv (va_runV (As := [.int (2 : Int32)]) (rest := []) ⟨hx, hb, hml, hown, hts⟩ (kX7_fail l dC dI cB cI cJ cZ (a0 0) a1 H.size (2 : Int32) M1 M2 _ h) (cwV 1 hts gX9_readNested_X7_fail rfl rfl rfl (by decide +kernel) ⟨by show 0 + 1 ≤ rT.frames + 9; omega, by show 8 + (2 + 11) + 0 ≤ rT.locals + 201; omega⟩) (rdpV hK hPc hDc) rfl rfl hl.1 rfl (lv_room (Nat.le_of_ble_eq_true rfl)) dX9_readNested_11 ⟨Nat.le_of_ble_eq_true rfl, Nat.le_of_ble_eq_true rfl⟩) hS (fun q _ z => hFc q z) hFc (fun u t H1 locs ht hvm hw hB hz1 hk1 hS => ?_)
      obtain ⟨N30, N31⟩ := u
      obtain ⟨hP1, hK1, hD1⟩ := hB
      rw [ht] at hP1
      obtain ⟨hP, hD⟩ := va_join (wr := [(h0, .inr (9, [.ref (a0 0), .ref (a0 1), .int (mg M0 2)])), (a0 1, .inr (8, [.int (mg M3 0), .ref (a3 1), .ref (a3 2), .ref (a3 3), .int (mg M3 4), .ref (a3 5)])), (a3 1, .inl (cI, 12, .inl (ma M3 1))), (a3 2, .inl (cI, 12, .inl (ma M3 2))), (a3 3, .inl (cI, 400, .inl (ma M3 3))), (a3 5, .inl (cJ, 60, .inr (.inl (ml M3 5))))]) (w1 := (rdW cB cI cJ cZ (a0 0) a1 N30 N31)) hP hD [1, 2] [0, 3, 4, 5, 6, 7] rfl rfl (by decide) (by decide) hk1 hFc hP1 hD1
      have hP := hP.sub (ws' := (rrW cB cI cJ cZ h0 a0 a1 a3 M0 N30 N31 M3)) [0, 6, 7, 1, 2, 3, 4, 5] rfl
      have hD := hD.sub (ws' := (rrW cB cI cJ cZ h0 a0 a1 a3 M0 N30 N31 M3)) [0, 6, 7, 1, 2, 3, 4, 5] (by decide) rfl
      generalize H1 = H at hP hS ⊢
      have h := hw
      try dsimp only at h
      exact W.vret hx hb hr (fun t ht hW => ⟨⟨(M0, N30, N31, M3), rfl, h, by rw [ht]; exact hP, va_K.moved hW.alike hK, hD⟩, hS.F ht⟩) hS.2.2 dX9_readNested_14
  have hl := lv_entry ([.ref h0, .int p1, .int p2]) (n := 3) (Nat.le_of_ble_eq_true rfl)
  rw [lg_entry_eq]
  generalize (lg_sl ([.ref h0, .int p1, .int p2]) ++ List.replicate (3 - (lg_sl ([.ref h0, .int p1, .int p2])).length) Slot.unset).toArray = ls at hl ⊢
  have hl : lv_has ls 3 [(0, .ref h0), (1, .int p1), (2, .int p2)] := hl
  exact bE M0 M1 M2 M3 s.heap [] ls hP hD hS hl h
def wN : Nat → Int32 → Int32 → gS → gS → gS → gS → (gS → gS → gS → gS → Prop) → Prop
 | 0, _, _, _, _, _, _, _ => False
 | d + 1, p1, p2, M0, M1, M2, M3, Q => wX9_readNested (fun q1 q2 N0 N1 N2 N3 Q' => wN d q1 q2 N0 N1 N2 N3 Q') p1 p2 M0 M1 M2 M3 Q
def rmN : Nat → Room
 | 0 => { frames := 0, cells := 0, slots := 0, locals := 0 }
 | d + 1 => rmX9_readNested (rmN d)
theorem rmN_0 (d : Nat) : (rmN d).cells = 0 ∧ (rmN d).slots = 0 := by cases d <;> exact ⟨rfl, rfl⟩
theorem kN (l : Launch) (dC : Nat → ClassId) (dI : Nat → Nat → Nat) (cB cI cJ cZ : ClassId) (adK adV : Nat → Nat) (h0 : Nat) (a0 : Nat → Nat) (a1 : Nat → Nat) (a3 : Nat → Nat) : ∀ (d : Nat) (sz : Nat) (p1 p2 : Int32) (M0 M1 M2 M3 : gS) (Q : gS → gS → gS → gS → Prop), wN d p1 p2 M0 M1 M2 M3 Q → Met l yX9_readNested wsX9_readNested (rmN d) (va_Pc [.ref h0, .int p1, .int p2] (rrIS dC dI cB cI cJ cZ h0 a0 a1 a3 M0 M1 M2 M3 adK adV sz)) (va_Qv (fun (u : gS × gS × gS × gS) => Q u.1 u.2.1 u.2.2.1 u.2.2.2) (rrB dC dI cB cI cJ cZ h0 a0 a1 a3 (va_A (rrW cB cI cJ cZ h0 a0 a1 a3 M0 M1 M2 M3) sz)) (va_A (rrW cB cI cJ cZ h0 a0 a1 a3 M0 M1 M2 M3) sz)) 0 0 (va_A (rrW cB cI cJ cZ h0 a0 a1 a3 M0 M1 M2 M3) sz) := by
  intro d
  induction d with
  | zero => intro sz p1 p2 M0 M1 M2 M3 Q h; exact absurd h (by simp [wN])
  | succ d ih =>
    intro sz p1 p2 M0 M1 M2 M3 Q h
    rw [wN] at h
    exact kX9_readNested l dC dI cB cI cJ cZ adK adV h0 a0 a1 a3 _ (rmN d) (rmN_0 d) ih sz p1 p2 M0 M1 M2 M3 Q h
/-- eleven levels: a depth of ten at most -/
def wX9_rt (p1 : Int32) (M0 M1 M2 M3 : gS) (Q : gS → gS → gS → gS → Prop) : Prop := wX9_readTest (wN 11) p1 M0 M1 M2 M3 Q
def rmX9_rt : Room := rmX9_readTest (rmN 11)
theorem kX9_rt (l : Launch) (dC : Nat → ClassId) (dI : Nat → Nat → Nat) (cB cI cJ cZ : ClassId) (adK adV : Nat → Nat) (h0 : Nat) (a0 : Nat → Nat) (a1 : Nat → Nat) (a3 : Nat → Nat) (sz : Nat) (p1 : Int32) (M0 M1 M2 M3 : gS) (Q : gS → gS → gS → gS → Prop) (h : wX9_rt p1 M0 M1 M2 M3 Q) : Met l yX9_readTest wsX9_readTest rmX9_rt (va_Pc [.ref h0, .int p1] (rrIS dC dI cB cI cJ cZ h0 a0 a1 a3 M0 M1 M2 M3 adK adV sz)) (va_Qv (fun (u : gS × gS × gS × gS) => Q u.1 u.2.1 u.2.2.1 u.2.2.2) (rrB dC dI cB cI cJ cZ h0 a0 a1 a3 (va_A (rrW cB cI cJ cZ h0 a0 a1 a3 M0 M1 M2 M3) sz)) (va_A (rrW cB cI cJ cZ h0 a0 a1 a3 M0 M1 M2 M3) sz)) 0 0 (va_A (rrW cB cI cJ cZ h0 a0 a1 a3 M0 M1 M2 M3) sz) := kX9_readTest l dC dI cB cI cJ cZ adK adV h0 a0 a1 a3 (wN 11) (rmN 11) (rmN_0 11) (kN l dC dI cB cI cJ cZ adK adV h0 a0 a1 a3 11) sz p1 M0 M1 M2 M3 Q h
