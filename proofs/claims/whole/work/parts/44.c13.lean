def wX9_readClause_107  (Q : gS → gS → gS → gS → Prop) (y3 : Int32) (M0 : gS) (M1 : gS) (M2 : gS) (M3 : gS) : Prop :=
 (wX8_addClause y3 M3 (fun (N2 : gS) => (Q M0 M1 M2 N2)))
def wX9_readClause_73  (Q : gS → gS → gS → gS → Prop) (y3 : Int32) (M0 : gS) (M1 : gS) (M2 : gS) (M3 : gS) : Prop :=
 (((mg M1 7) = 0 → (wX7_nameAmong 2 M1 M2 (fun (r2 : Int32) (N3 : gS) (N4 : gS) => ((r2 = 0 → (wX7_advance  N3 N4 (fun (N7 : gS) (N8 : gS) => (wX9_rt (0 : Int32) M0 N7 N8 M3 (fun (N10 : gS) (N11 : gS) (N12 : gS) (N13 : gS) => (wX9_readClause_107  Q y3 N10 N11 N12 N13))))))
 ∧ (¬ r2 = 0 → (wX9_readClause_107  Q y3 M0 N3 N4 M3))))))
 ∧ (¬ (mg M1 7) = 0 → (wX9_readClause_107  Q y3 M0 M1 M2 M3)))
def wX9_readClause_58  (Q : gS → gS → gS → gS → Prop) (y2 : Int32) (z0 : Int32) (M0 : gS) (M1 : gS) (M2 : gS) (M3 : gS) : Prop :=
 ((y2 = 0 → (wX7_takeNumber (0 : Int32) (3 : Int32) M1 M2 (fun (r2 : Int32) (N3 : gS) (N4 : gS) => (wX9_readClause_73  Q r2 M0 N3 N4 M3))))
 ∧ (¬ y2 = 0 → (wX9_readClause_73  Q z0 M0 M1 M2 M3)))
def wX9_readClause (p1 : Int32) (M0 : gS) (M1 : gS) (M2 : gS) (M3 : gS) (Q : gS → gS → gS → gS → Prop) : Prop :=
 (wX7_nameAmong 1 M1 M2 (fun (r1 : Int32) (N2 : gS) (N3 : gS) => ((r1 = (-1 : Int32) → (wX7_fail (0 : Int32) N2 N3 (fun (N14 : gS) (N15 : gS) => (Q M0 N14 N15 M3))))
 ∧ (¬ r1 = (-1 : Int32) → ((p1 = 0 → (wX7_advance  N2 N3 (fun (N7 : gS) (N8 : gS) => ((r1 = (1 : Int32) → (wX9_readClause_58  Q r1 (4 : Int32) M0 N7 N8 M3))
 ∧ (¬ r1 = (1 : Int32) → (wX9_readClause_58  Q r1 (-1 : Int32) M0 N7 N8 M3))))))
 ∧ (¬ p1 = 0 → (wX7_fail (4 : Int32) N2 N3 (fun (N11 : gS) (N12 : gS) => (Q M0 N11 N12 M3)))))))))
def rmX9_readClause : Room := { frames := 108, cells := 0, slots := 0, locals := 2412 }
set_option maxHeartbeats 4000000 in
set_option maxRecDepth 100000 in
theorem kX9_readClause (l : Launch) (dC : Nat → ClassId) (dI : Nat → Nat → Nat) (cB cI cJ cZ : ClassId) (adK adV : Nat → Nat) (h0 : Nat) (a0 : Nat → Nat) (a1 : Nat → Nat) (a3 : Nat → Nat) (sz : Nat) (p1 : Int32) (M0 : gS) (M1 : gS) (M2 : gS) (M3 : gS) (Q : gS → gS → gS → gS → Prop) (h : wX9_readClause p1 M0 M1 M2 M3 Q) : Met l yX9_readClause wsX9_readClause rmX9_readClause (va_Pc [.ref h0, .int p1] (rrIS dC dI cB cI cJ cZ h0 a0 a1 a3 M0 M1 M2 M3 adK adV sz)) (va_Qv (fun (u : gS × gS × gS × gS) => Q u.1 u.2.1 u.2.2.1 u.2.2.2) (rrB dC dI cB cI cJ cZ h0 a0 a1 a3 (va_A (rrW cB cI cJ cZ h0 a0 a1 a3 M0 M1 M2 M3) sz)) (va_A (rrW cB cI cJ cZ h0 a0 a1 a3 M0 M1 M2 M3) sz)) 0 0 (va_A (rrW cB cI cJ cZ h0 a0 a1 a3 M0 M1 M2 M3) sz) := by
  refine Met.ofW (cc := cX9_readClause) (maxL := 4) (ret := none) (by decide) rfl ?_
  intro p e s m args below meth c s₁ B hml hv
  obtain ⟨rfl, ⟨hsz, hP, hK, hD0⟩, hR, hE⟩ := hv
  have hx := B.exec
  have hb := B.bytes
  have hr := B.returns
  have hts := atoms_spec (ws := wsX9_readClause) B.pre
  have hown : s.vm.findClass RX9 = some m.cls := findClass_of_methodNamed B.named
  have hlocks := B.notSynchronized
  subst hsz
  have hD := hD0.self (sz := s.heap.size)
  generalize hAe : va_A (rrW cB cI cJ cZ h0 a0 a1 a3 M0 M1 M2 M3) s.heap.size = A at hD hE ⊢
  have hA : ∀ q : Nat, s.heap.size ≤ q → A q := fun q h => by rw [← hAe]; exact Or.inr h
  have hS : va_S A s.heap s.heap [] := va_S.rf
  have hinX7 : ∀ w ∈ wsX70, w ∈ wsX9_readClause := by decide +kernel
  have hinX9 : ∀ w ∈ wsX90, w ∈ wsX9_readClause := by decide +kernel
  have f1 := hts (.fieldLink RX9 15 "LastWords$RuleReader" "rule" "LLastWords$Rule;") (by decide +kernel)
  have f2 := hts (.fieldLink RX9 9 "LastWords$RuleReader" "in" "LLastWords$Reader;") (by decide +kernel)
  have f3 := hts (.fieldLink RX9 37 "LastWords$Reader" "fault" "I") (by decide +kernel)
  have b107 : ∀ (y3 : Int32) (M0 : gS) (M1 : gS) (M2 : gS) (M3 : gS) (H : Heap) (locs : List Loc) (ls : Array Slot), va_P (dC, dI) vwCl (rrW cB cI cJ cZ h0 a0 a1 a3 M0 M1 M2 M3) H → va_D A (rrW cB cI cJ cZ h0 a0 a1 a3 M0 M1 M2 M3) → va_S A s.heap H locs → lv_has ls 4 [(0, .ref h0), (3, .int y3)] → wX9_readClause_107  Q y3 M0 M1 M2 M3 → W p l e (headSpec wsX9_readClause rmX9_readClause).room s m ([.ref h0, .int p1] : List Value).toArray below meth c H locs 0 0 (MQ below (va_Qv (fun (u : gS × gS × gS × gS) => Q u.1 u.2.1 u.2.2.1 u.2.2.2) (rrB dC dI cB cI cJ cZ h0 a0 a1 a3 A) A) ([.ref h0, .int p1] : List Value).toArray s 0 0 A) (F0 m 107 ls []) := by
    intro  y3 M0 M1 M2 M3 H locs ls hP hD hS hl h
    unfold wX9_readClause_107 at h
    refine lv_aload_n hx hb dX9_readClause_107 rfl (lv_at hl 0 rfl) ?_
    refine va_get (D := (dC, dI)) (ci := 9) (v := .ref (a0 1)) (C := RX9) (T := TX9) (N := 3) hx hb hts hinX9 hown hK hP 0 rfl rfl 1 (by decide) f1 (fun _ h9 => h9) rfl dX9_readClause_108 ?_
    refine lv_iload_n hx hb dX9_readClause_111 rfl (lv_at hl 1 rfl) ?_
    have hPc := hP.sub (ws' := (ruW cB cI cJ cZ (a0 1) a3 M3)) [3, 4, 5, 6, 7] rfl
    have hDc := hD.sub (ws' := (ruW cB cI cJ cZ (a0 1) a3 M3)) [3, 4, 5, 6, 7] (by decide) rfl
    have hFc := va_free (wc := (ruW cB cI cJ cZ (a0 1) a3 M3)) hD hS hA [3, 4, 5, 6, 7] rfl
    refine va_callv (va_runV (As := [.int y3]) (rest := []) ⟨hx, hb, hml, hown, hts⟩ (kX8_addClause l dC dI cB cI cJ cZ (a0 1) a3 H.size y3 M3 _ h) (cwV 1 hts gX9_readClause_X8_addClause rfl rfl rfl (by decide +kernel) ⟨Nat.le_of_ble_eq_true rfl, Nat.le_of_ble_eq_true rfl⟩) (rupV hK hPc hDc) rfl rfl hl.1 rfl (lv_room (Nat.le_of_ble_eq_true rfl)) dX9_readClause_112 ⟨Nat.le_of_ble_eq_true rfl, Nat.le_of_ble_eq_true rfl⟩) hS (fun q _ z => hFc q z) hFc (fun u t H1 locs ht hvm hw hB hz1 hk1 hS => ?_)
    obtain ⟨N2, rfl⟩ : ∃ z, z = u := ⟨_, rfl⟩
    obtain ⟨hP1, hK1, hD1⟩ := hB
    rw [ht] at hP1
    obtain ⟨hP, hD⟩ := va_join (wr := [(h0, .inr (9, [.ref (a0 0), .ref (a0 1), .int (mg M0 2)])), (a0 0, .inr (7, [.ref (a1 0), .int (mg M1 1), .int (mg M1 2), .int (mg M1 3), .int (mg M1 4), .int (mg M1 5), .int (mg M1 6), .int (mg M1 7)])), (a1 0, .inl (cI, 400, .inl (ma M2 0)))]) (w1 := (ruW cB cI cJ cZ (a0 1) a3 N2)) hP hD [3, 4, 5, 6, 7] [0, 1, 2] rfl rfl (by decide) (by decide) hk1 hFc hP1 hD1
    have hP := hP.sub (ws' := (rrW cB cI cJ cZ h0 a0 a1 a3 M0 M1 M2 N2)) [0, 1, 2, 3, 4, 5, 6, 7] rfl
    have hD := hD.sub (ws' := (rrW cB cI cJ cZ h0 a0 a1 a3 M0 M1 M2 N2)) [0, 1, 2, 3, 4, 5, 6, 7] (by decide) rfl
    generalize H1 = H at hP hS ⊢
    have h := hw
    try dsimp only at h
    exact W.vret hx hb hr (fun t ht hW => ⟨⟨(M0, M1, M2, N2), rfl, h, by rw [ht]; exact hP, va_K.moved hW.alike hK, hD⟩, hS.F ht⟩) hS.2.2 dX9_readClause_115
  have b73 : ∀ (y3 : Int32) (M0 : gS) (M1 : gS) (M2 : gS) (M3 : gS) (H : Heap) (locs : List Loc) (ls : Array Slot), va_P (dC, dI) vwCl (rrW cB cI cJ cZ h0 a0 a1 a3 M0 M1 M2 M3) H → va_D A (rrW cB cI cJ cZ h0 a0 a1 a3 M0 M1 M2 M3) → va_S A s.heap H locs → lv_has ls 4 [(0, .ref h0), (3, .int y3)] → wX9_readClause_73  Q y3 M0 M1 M2 M3 → W p l e (headSpec wsX9_readClause rmX9_readClause).room s m ([.ref h0, .int p1] : List Value).toArray below meth c H locs 0 0 (MQ below (va_Qv (fun (u : gS × gS × gS × gS) => Q u.1 u.2.1 u.2.2.1 u.2.2.2) (rrB dC dI cB cI cJ cZ h0 a0 a1 a3 A) A) ([.ref h0, .int p1] : List Value).toArray s 0 0 A) (F0 m 73 ls []) := by
    intro  y3 M0 M1 M2 M3 H locs ls hP hD hS hl h
    unfold wX9_readClause_73 at h
    refine lv_aload_n hx hb dX9_readClause_73 rfl (lv_at hl 0 rfl) ?_
    refine va_get (D := (dC, dI)) (ci := 9) (v := .ref (a0 0)) (C := RX9) (T := TX9) (N := 3) hx hb hts hinX9 hown hK hP 0 rfl rfl 0 (by decide) f2 (fun _ h9 => h9) rfl dX9_readClause_74 ?_
    refine va_get (D := (dC, dI)) (ci := 7) (v := .int (mg M1 7)) (C := RX7) (T := TX7) (N := 8) hx hb hts hinX7 hown hK hP 1 rfl rfl 7 (by decide) f3 (fun _ h9 => h9) rfl dX9_readClause_77 ?_
    refine lv_if_ne (tgt := 107) hx hb dX9_readClause_80 (by decide) (fun c1 => ?_) (fun c1 => ?_)
    · have h := h.2 c1
      exact b107  y3 M0 M1 M2 M3 H locs ls hP hD hS (lv_sub hl [0, 1] rfl) h
    · have h := h.1 c1
      refine lv_aload_n hx hb dX9_readClause_83 rfl (lv_at hl 0 rfl) ?_
      refine va_get (D := (dC, dI)) (ci := 9) (v := .ref (a0 0)) (C := RX9) (T := TX9) (N := 3) hx hb hts hinX9 hown hK hP 0 rfl rfl 0 (by decide) f2 (fun _ h9 => h9) rfl dX9_readClause_84 ?_
      refine va_ldcS hx hb hown hR.l2 dX9_readClause_87 ?_
      have hPc := hP.sub (ws' := (rdW cB cI cJ cZ (a0 0) a1 M1 M2)) [1, 2] rfl
      have hDc := hD.sub (ws' := (rdW cB cI cJ cZ (a0 0) a1 M1 M2)) [1, 2] (by decide) rfl
      have hFc := va_free (wc := (rdW cB cI cJ cZ (a0 0) a1 M1 M2)) hD hS hA [1, 2] rfl
      refine va_calli (va_runV (As := [.ref (adK 2)]) (rest := []) ⟨hx, hb, hml, hown, hts⟩ (kX7_nameAmong l dC dI cB cI cJ cZ adK adV (a0 0) a1 H.size 2 M1 M2 _ h) (cwV 1 hts gX9_readClause_X7_nameAmong rfl rfl rfl (by decide +kernel) ⟨Nat.le_of_ble_eq_true rfl, Nat.le_of_ble_eq_true rfl⟩) (rdpVS hK hPc hDc hR hE hS hFc) rfl rfl hl.1 rfl (lv_room (Nat.le_of_ble_eq_true rfl)) dX9_readClause_89 ⟨Nat.le_of_ble_eq_true rfl, Nat.le_of_ble_eq_true rfl⟩) hS (fun q _ z => hFc q z) hFc (fun r2 u t H1 locs ht hvm hw hB hz1 hk1 hS => ?_)
      obtain ⟨N3, N4⟩ := u
      obtain ⟨hP1, hK1, hD1⟩ := hB
      rw [ht] at hP1
      obtain ⟨hP, hD⟩ := va_join (wr := [(h0, .inr (9, [.ref (a0 0), .ref (a0 1), .int (mg M0 2)])), (a0 1, .inr (8, [.int (mg M3 0), .ref (a3 1), .ref (a3 2), .ref (a3 3), .int (mg M3 4), .ref (a3 5)])), (a3 1, .inl (cI, 12, .inl (ma M3 1))), (a3 2, .inl (cI, 12, .inl (ma M3 2))), (a3 3, .inl (cI, 400, .inl (ma M3 3))), (a3 5, .inl (cJ, 60, .inr (.inl (ml M3 5))))]) (w1 := (rdW cB cI cJ cZ (a0 0) a1 N3 N4)) hP hD [1, 2] [0, 3, 4, 5, 6, 7] rfl rfl (by decide) (by decide) hk1 hFc hP1 hD1
      have hP := hP.sub (ws' := (rrW cB cI cJ cZ h0 a0 a1 a3 M0 N3 N4 M3)) [0, 6, 7, 1, 2, 3, 4, 5] rfl
      have hD := hD.sub (ws' := (rrW cB cI cJ cZ h0 a0 a1 a3 M0 N3 N4 M3)) [0, 6, 7, 1, 2, 3, 4, 5] (by decide) rfl
      generalize H1 = H at hP hS ⊢
      have h := hw
      try dsimp only at h
      refine lv_if_ne (tgt := 107) hx hb dX9_readClause_92 (by decide) (fun c5 => ?_) (fun c5 => ?_)
      · have h := h.2 c5
        exact b107  y3 M0 N3 N4 M3 H locs ls hP hD hS (lv_sub hl [0, 1] rfl) h
      · have h := h.1 c5
        refine lv_aload_n hx hb dX9_readClause_95 rfl (lv_at hl 0 rfl) ?_
        refine va_get (D := (dC, dI)) (ci := 9) (v := .ref (a0 0)) (C := RX9) (T := TX9) (N := 3) hx hb hts hinX9 hown hK hP 0 rfl rfl 0 (by decide) f2 (fun _ h9 => h9) rfl dX9_readClause_96 ?_
        have hPc := hP.sub (ws' := (rdW cB cI cJ cZ (a0 0) a1 N3 N4)) [1, 2] rfl
        have hDc := hD.sub (ws' := (rdW cB cI cJ cZ (a0 0) a1 N3 N4)) [1, 2] (by decide) rfl
        have hFc := va_free (wc := (rdW cB cI cJ cZ (a0 0) a1 N3 N4)) hD hS hA [1, 2] rfl
        refine va_callv (va_runV (As := []) (rest := []) ⟨hx, hb, hml, hown, hts⟩ (kX7_advance l dC dI cB cI cJ cZ (a0 0) a1 H.size  N3 N4 _ h) (cwV 0 hts gX9_readClause_X7_advance rfl rfl rfl (by decide +kernel) ⟨Nat.le_of_ble_eq_true rfl, Nat.le_of_ble_eq_true rfl⟩) (rdpV hK hPc hDc) rfl rfl hl.1 rfl (lv_room (Nat.le_of_ble_eq_true rfl)) dX9_readClause_99 ⟨Nat.le_of_ble_eq_true rfl, Nat.le_of_ble_eq_true rfl⟩) hS (fun q _ z => hFc q z) hFc (fun u t H1 locs ht hvm hw hB hz1 hk1 hS => ?_)
        obtain ⟨N7, N8⟩ := u
        obtain ⟨hP1, hK1, hD1⟩ := hB
        rw [ht] at hP1
        obtain ⟨hP, hD⟩ := va_join (wr := [(h0, .inr (9, [.ref (a0 0), .ref (a0 1), .int (mg M0 2)])), (a0 1, .inr (8, [.int (mg M3 0), .ref (a3 1), .ref (a3 2), .ref (a3 3), .int (mg M3 4), .ref (a3 5)])), (a3 1, .inl (cI, 12, .inl (ma M3 1))), (a3 2, .inl (cI, 12, .inl (ma M3 2))), (a3 3, .inl (cI, 400, .inl (ma M3 3))), (a3 5, .inl (cJ, 60, .inr (.inl (ml M3 5))))]) (w1 := (rdW cB cI cJ cZ (a0 0) a1 N7 N8)) hP hD [1, 2] [0, 3, 4, 5, 6, 7] rfl rfl (by decide) (by decide) hk1 hFc hP1 hD1
        have hP := hP.sub (ws' := (rrW cB cI cJ cZ h0 a0 a1 a3 M0 N7 N8 M3)) [0, 6, 7, 1, 2, 3, 4, 5] rfl
        have hD := hD.sub (ws' := (rrW cB cI cJ cZ h0 a0 a1 a3 M0 N7 N8 M3)) [0, 6, 7, 1, 2, 3, 4, 5] (by decide) rfl
        generalize H1 = H at hP hS ⊢
        have h := hw
        try dsimp only at h
        refine lv_aload_n hx hb dX9_readClause_102 rfl (lv_at hl 0 rfl) ?_
        refine lv_iconst (v := 0) hx hb dX9_readClause_103 (by decide) ?_
        have hFc := gs_free hD hS hA
        refine va_callv (va_runV (As := [.int (0 : Int32)]) (rest := []) ⟨hx, hb, hml, hown, hts⟩ (kX9_rt l dC dI cB cI cJ cZ adK adV h0 a0 a1 a3 H.size (0 : Int32) M0 N7 N8 M3 _ h) (cwV 1 hts gX9_readClause_X9_readTest rfl rfl rfl (by decide +kernel) ⟨Nat.le_of_ble_eq_true rfl, Nat.le_of_ble_eq_true rfl⟩) (rrpVS hK hP hD hR hE hS hFc) rfl rfl hl.1 rfl (lv_room (Nat.le_of_ble_eq_true rfl)) dX9_readClause_104 ⟨Nat.le_of_ble_eq_true rfl, Nat.le_of_ble_eq_true rfl⟩) hS (fun q _ z => hFc q z) hFc (fun u t H1 locs ht hvm hw hB hz1 hk1 hS => ?_)
        obtain ⟨N10, N11, N12, N13⟩ := u
        obtain ⟨hP, hD⟩ := gs_back ht hFc hB
        generalize H1 = H at hP hS ⊢
        have h := hw
        try dsimp only at h
        exact b107  y3 N10 N11 N12 N13 H locs ls hP hD hS (lv_sub hl [0, 1] rfl) h
  have b58 : ∀ (y2 : Int32) (z0 : Int32) (M0 : gS) (M1 : gS) (M2 : gS) (M3 : gS) (H : Heap) (locs : List Loc) (ls : Array Slot), va_P (dC, dI) vwCl (rrW cB cI cJ cZ h0 a0 a1 a3 M0 M1 M2 M3) H → va_D A (rrW cB cI cJ cZ h0 a0 a1 a3 M0 M1 M2 M3) → va_S A s.heap H locs → lv_has ls 4 [(0, .ref h0), (2, .int y2)] → wX9_readClause_58  Q y2 z0 M0 M1 M2 M3 → W p l e (headSpec wsX9_readClause rmX9_readClause).room s m ([.ref h0, .int p1] : List Value).toArray below meth c H locs 0 0 (MQ below (va_Qv (fun (u : gS × gS × gS × gS) => Q u.1 u.2.1 u.2.2.1 u.2.2.2) (rrB dC dI cB cI cJ cZ h0 a0 a1 a3 A) A) ([.ref h0, .int p1] : List Value).toArray s 0 0 A) (F0 m 58 ls [.int z0]) := by
    intro  y2 z0 M0 M1 M2 M3 H locs ls hP hD hS hl h
    unfold wX9_readClause_58 at h
    refine lv_istore_n (lv' := [(3, .int z0), (0, .ref h0), (2, .int y2)]) hx hb dX9_readClause_58 rfl hl (by decide) rfl (fun ls hl => ?_)
    refine lv_iload_n hx hb dX9_readClause_59 rfl (lv_at hl 2 rfl) ?_
    refine lv_if_ne (tgt := 73) hx hb dX9_readClause_60 (by decide) (fun c1 => ?_) (fun c1 => ?_)
    · have h := h.2 c1
      exact b73  z0 M0 M1 M2 M3 H locs ls hP hD hS (lv_sub hl [1, 0] rfl) h
    · have h := h.1 c1
      refine lv_aload_n hx hb dX9_readClause_63 rfl (lv_at hl 1 rfl) ?_
      refine va_get (D := (dC, dI)) (ci := 9) (v := .ref (a0 0)) (C := RX9) (T := TX9) (N := 3) hx hb hts hinX9 hown hK hP 0 rfl rfl 0 (by decide) f2 (fun _ h9 => h9) rfl dX9_readClause_64 ?_
      refine lv_iconst (v := 0) hx hb dX9_readClause_67 (by decide) ?_
      refine lv_iconst (v := 3) hx hb dX9_readClause_68 (by decide) ?_
      have hPc := hP.sub (ws' := (rdW cB cI cJ cZ (a0 0) a1 M1 M2)) [1, 2] rfl
      have hDc := hD.sub (ws' := (rdW cB cI cJ cZ (a0 0) a1 M1 M2)) [1, 2] (by decide) rfl
      have hFc := va_free (wc := (rdW cB cI cJ cZ (a0 0) a1 M1 M2)) hD hS hA [1, 2] rfl
      refine va_calli (va_runV (As := [.int (0 : Int32), .int (3 : Int32)]) (rest := []) ⟨hx, hb, hml, hown, hts⟩ (kX7_takeNumber l dC dI cB cI cJ cZ (a0 0) a1 H.size (0 : Int32) (3 : Int32) M1 M2 _ h) (cwV 2 hts gX9_readClause_X7_takeNumber rfl rfl rfl (by decide +kernel) ⟨Nat.le_of_ble_eq_true rfl, Nat.le_of_ble_eq_true rfl⟩) (rdpV hK hPc hDc) rfl rfl hl.1 rfl (lv_room (Nat.le_of_ble_eq_true rfl)) dX9_readClause_69 ⟨Nat.le_of_ble_eq_true rfl, Nat.le_of_ble_eq_true rfl⟩) hS (fun q _ z => hFc q z) hFc (fun r2 u t H1 locs ht hvm hw hB hz1 hk1 hS => ?_)
      obtain ⟨N3, N4⟩ := u
      obtain ⟨hP1, hK1, hD1⟩ := hB
      rw [ht] at hP1
      obtain ⟨hP, hD⟩ := va_join (wr := [(h0, .inr (9, [.ref (a0 0), .ref (a0 1), .int (mg M0 2)])), (a0 1, .inr (8, [.int (mg M3 0), .ref (a3 1), .ref (a3 2), .ref (a3 3), .int (mg M3 4), .ref (a3 5)])), (a3 1, .inl (cI, 12, .inl (ma M3 1))), (a3 2, .inl (cI, 12, .inl (ma M3 2))), (a3 3, .inl (cI, 400, .inl (ma M3 3))), (a3 5, .inl (cJ, 60, .inr (.inl (ml M3 5))))]) (w1 := (rdW cB cI cJ cZ (a0 0) a1 N3 N4)) hP hD [1, 2] [0, 3, 4, 5, 6, 7] rfl rfl (by decide) (by decide) hk1 hFc hP1 hD1
      have hP := hP.sub (ws' := (rrW cB cI cJ cZ h0 a0 a1 a3 M0 N3 N4 M3)) [0, 6, 7, 1, 2, 3, 4, 5] rfl
      have hD := hD.sub (ws' := (rrW cB cI cJ cZ h0 a0 a1 a3 M0 N3 N4 M3)) [0, 6, 7, 1, 2, 3, 4, 5] (by decide) rfl
      generalize H1 = H at hP hS ⊢
      have h := hw
      try dsimp only at h
      refine lv_istore_n (lv' := [(3, .int r2), (0, .ref h0), (2, .int y2)]) hx hb dX9_readClause_72 rfl hl (by decide) rfl (fun ls hl => ?_)
      exact b73  r2 M0 N3 N4 M3 H locs ls hP hD hS (lv_sub hl [1, 0] rfl) h
  have bE : ∀ (M0 : gS) (M1 : gS) (M2 : gS) (M3 : gS) (H : Heap) (locs : List Loc) (ls : Array Slot), va_P (dC, dI) vwCl (rrW cB cI cJ cZ h0 a0 a1 a3 M0 M1 M2 M3) H → va_D A (rrW cB cI cJ cZ h0 a0 a1 a3 M0 M1 M2 M3) → va_S A s.heap H locs → lv_has ls 4 [(0, .ref h0), (1, .int p1)] → wX9_readClause p1 M0 M1 M2 M3 Q → W p l e (headSpec wsX9_readClause rmX9_readClause).room s m ([.ref h0, .int p1] : List Value).toArray below meth c H locs 0 0 (MQ below (va_Qv (fun (u : gS × gS × gS × gS) => Q u.1 u.2.1 u.2.2.1 u.2.2.2) (rrB dC dI cB cI cJ cZ h0 a0 a1 a3 A) A) ([.ref h0, .int p1] : List Value).toArray s 0 0 A) (F0 m 0 ls []) := by
    intro M0 M1 M2 M3 H locs ls hP hD hS hl h
    unfold wX9_readClause at h
    refine lv_aload_n hx hb dX9_readClause_0 rfl (lv_at hl 0 rfl) ?_
    refine va_get (D := (dC, dI)) (ci := 9) (v := .ref (a0 0)) (C := RX9) (T := TX9) (N := 3) hx hb hts hinX9 hown hK hP 0 rfl rfl 0 (by decide) f2 (fun _ h9 => h9) rfl dX9_readClause_1 ?_
    refine va_ldcS hx hb hown hR.l1 dX9_readClause_4 ?_
    have hPc := hP.sub (ws' := (rdW cB cI cJ cZ (a0 0) a1 M1 M2)) [1, 2] rfl
    have hDc := hD.sub (ws' := (rdW cB cI cJ cZ (a0 0) a1 M1 M2)) [1, 2] (by decide) rfl
    have hFc := va_free (wc := (rdW cB cI cJ cZ (a0 0) a1 M1 M2)) hD hS hA [1, 2] rfl
    refine va_calli (va_runV (As := [.ref (adK 1)]) (rest := []) ⟨hx, hb, hml, hown, hts⟩ (kX7_nameAmong l dC dI cB cI cJ cZ adK adV (a0 0) a1 H.size 1 M1 M2 _ h) (cwV 1 hts gX9_readClause_X7_nameAmong rfl rfl rfl (by decide +kernel) ⟨Nat.le_of_ble_eq_true rfl, Nat.le_of_ble_eq_true rfl⟩) (rdpVS hK hPc hDc hR hE hS hFc) rfl rfl hl.1 rfl (lv_room (Nat.le_of_ble_eq_true rfl)) dX9_readClause_6 ⟨Nat.le_of_ble_eq_true rfl, Nat.le_of_ble_eq_true rfl⟩) hS (fun q _ z => hFc q z) hFc (fun r1 u t H1 locs ht hvm hw hB hz1 hk1 hS => ?_)
    obtain ⟨N2, N3⟩ := u
    obtain ⟨hP1, hK1, hD1⟩ := hB
    rw [ht] at hP1
    obtain ⟨hP, hD⟩ := va_join (wr := [(h0, .inr (9, [.ref (a0 0), .ref (a0 1), .int (mg M0 2)])), (a0 1, .inr (8, [.int (mg M3 0), .ref (a3 1), .ref (a3 2), .ref (a3 3), .int (mg M3 4), .ref (a3 5)])), (a3 1, .inl (cI, 12, .inl (ma M3 1))), (a3 2, .inl (cI, 12, .inl (ma M3 2))), (a3 3, .inl (cI, 400, .inl (ma M3 3))), (a3 5, .inl (cJ, 60, .inr (.inl (ml M3 5))))]) (w1 := (rdW cB cI cJ cZ (a0 0) a1 N2 N3)) hP hD [1, 2] [0, 3, 4, 5, 6, 7] rfl rfl (by decide) (by decide) hk1 hFc hP1 hD1
    have hP := hP.sub (ws' := (rrW cB cI cJ cZ h0 a0 a1 a3 M0 N2 N3 M3)) [0, 6, 7, 1, 2, 3, 4, 5] rfl
    have hD := hD.sub (ws' := (rrW cB cI cJ cZ h0 a0 a1 a3 M0 N2 N3 M3)) [0, 6, 7, 1, 2, 3, 4, 5] (by decide) rfl
    generalize H1 = H at hP hS ⊢
    have h := hw
    try dsimp only at h
    refine lv_istore_n (lv' := [(2, .int r1), (0, .ref h0), (1, .int p1)]) hx hb dX9_readClause_9 rfl hl (by decide) rfl (fun ls hl => ?_)
    refine lv_iload_n hx hb dX9_readClause_10 rfl (lv_at hl 0 rfl) ?_
    refine lv_iconst (v := (-1)) hx hb dX9_readClause_11 (by decide) ?_
    refine lv_icmp_ne (tgt := 26) hx hb dX9_readClause_12 (by decide) (fun c4 => ?_) (fun c4 => ?_)
    · have h := h.2 c4
      refine lv_iload_n hx hb dX9_readClause_26 rfl (lv_at hl 2 rfl) ?_
      refine lv_if_eq (tgt := 41) hx hb dX9_readClause_27 (by decide) (fun c5 => ?_) (fun c5 => ?_)
      · have h := h.1 c5
        refine lv_aload_n hx hb dX9_readClause_41 rfl (lv_at hl 1 rfl) ?_
        refine va_get (D := (dC, dI)) (ci := 9) (v := .ref (a0 0)) (C := RX9) (T := TX9) (N := 3) hx hb hts hinX9 hown hK hP 0 rfl rfl 0 (by decide) f2 (fun _ h9 => h9) rfl dX9_readClause_42 ?_
        have hPc := hP.sub (ws' := (rdW cB cI cJ cZ (a0 0) a1 N2 N3)) [1, 2] rfl
        have hDc := hD.sub (ws' := (rdW cB cI cJ cZ (a0 0) a1 N2 N3)) [1, 2] (by decide) rfl
        have hFc := va_free (wc := (rdW cB cI cJ cZ (a0 0) a1 N2 N3)) hD hS hA [1, 2] rfl
        refine va_callv (va_runV (As := []) (rest := []) ⟨hx, hb, hml, hown, hts⟩ (kX7_advance l dC dI cB cI cJ cZ (a0 0) a1 H.size  N2 N3 _ h) (cwV 0 hts gX9_readClause_X7_advance rfl rfl rfl (by decide +kernel) ⟨Nat.le_of_ble_eq_true rfl, Nat.le_of_ble_eq_true rfl⟩) (rdpV hK hPc hDc) rfl rfl hl.1 rfl (lv_room (Nat.le_of_ble_eq_true rfl)) dX9_readClause_45 ⟨Nat.le_of_ble_eq_true rfl, Nat.le_of_ble_eq_true rfl⟩) hS (fun q _ z => hFc q z) hFc (fun u t H1 locs ht hvm hw hB hz1 hk1 hS => ?_)
        obtain ⟨N7, N8⟩ := u
        obtain ⟨hP1, hK1, hD1⟩ := hB
        rw [ht] at hP1
        obtain ⟨hP, hD⟩ := va_join (wr := [(h0, .inr (9, [.ref (a0 0), .ref (a0 1), .int (mg M0 2)])), (a0 1, .inr (8, [.int (mg M3 0), .ref (a3 1), .ref (a3 2), .ref (a3 3), .int (mg M3 4), .ref (a3 5)])), (a3 1, .inl (cI, 12, .inl (ma M3 1))), (a3 2, .inl (cI, 12, .inl (ma M3 2))), (a3 3, .inl (cI, 400, .inl (ma M3 3))), (a3 5, .inl (cJ, 60, .inr (.inl (ml M3 5))))]) (w1 := (rdW cB cI cJ cZ (a0 0) a1 N7 N8)) hP hD [1, 2] [0, 3, 4, 5, 6, 7] rfl rfl (by decide) (by decide) hk1 hFc hP1 hD1
        have hP := hP.sub (ws' := (rrW cB cI cJ cZ h0 a0 a1 a3 M0 N7 N8 M3)) [0, 6, 7, 1, 2, 3, 4, 5] rfl
        have hD := hD.sub (ws' := (rrW cB cI cJ cZ h0 a0 a1 a3 M0 N7 N8 M3)) [0, 6, 7, 1, 2, 3, 4, 5] (by decide) rfl
        generalize H1 = H at hP hS ⊢
        have h := hw
        try dsimp only at h
        refine lv_iload_n hx hb dX9_readClause_48 rfl (lv_at hl 0 rfl) ?_
        refine lv_iconst (v := 1) hx hb dX9_readClause_49 (by decide) ?_
        refine lv_icmp_ne (tgt := 57) hx hb dX9_readClause_50 (by decide) (fun c9 => ?_) (fun c9 => ?_)
        · have h := h.2 c9
          refine lv_iconst (v := (-1)) hx hb dX9_readClause_57 (by decide) ?_
          exact b58  r1 (-1 : Int32) M0 N7 N8 M3 H locs ls hP hD hS (lv_sub hl [1, 0] rfl) h
        · have h := h.1 c9
          refine lv_iconst (v := 4) hx hb dX9_readClause_53 (by decide) ?_
          refine lv_goto (tgt := 58) hx hb dX9_readClause_54 (by decide) ?_
          exact b58  r1 (4 : Int32) M0 N7 N8 M3 H locs ls hP hD hS (lv_sub hl [1, 0] rfl) h
      · have h := h.2 c5
        refine lv_aload_n hx hb dX9_readClause_30 rfl (lv_at hl 1 rfl) ?_
        refine va_get (D := (dC, dI)) (ci := 9) (v := .ref (a0 0)) (C := RX9) (T := TX9) (N := 3) hx hb hts hinX9 hown hK hP 0 rfl rfl 0 (by decide) f2 (fun _ h9 => h9) rfl dX9_readClause_31 ?_
        refine lv_iconst (v := 4) hx hb dX9_readClause_34 (by decide) ?_
        have hPc := hP.sub (ws' := (rdW cB cI cJ cZ (a0 0) a1 N2 N3)) [1, 2] rfl
        have hDc := hD.sub (ws' := (rdW cB cI cJ cZ (a0 0) a1 N2 N3)) [1, 2] (by decide) rfl
        have hFc := va_free (wc := (rdW cB cI cJ cZ (a0 0) a1 N2 N3)) hD hS hA [1, 2] rfl
        refine va_callv (va_runV (As := [.int (4 : Int32)]) (rest := []) ⟨hx, hb, hml, hown, hts⟩ (kX7_fail l dC dI cB cI cJ cZ (a0 0) a1 H.size (4 : Int32) N2 N3 _ h) (cwV 1 hts gX9_readClause_X7_fail rfl rfl rfl (by decide +kernel) ⟨Nat.le_of_ble_eq_true rfl, Nat.le_of_ble_eq_true rfl⟩) (rdpV hK hPc hDc) rfl rfl hl.1 rfl (lv_room (Nat.le_of_ble_eq_true rfl)) dX9_readClause_35 ⟨Nat.le_of_ble_eq_true rfl, Nat.le_of_ble_eq_true rfl⟩) hS (fun q _ z => hFc q z) hFc (fun u t H1 locs ht hvm hw hB hz1 hk1 hS => ?_)
        obtain ⟨N11, N12⟩ := u
        obtain ⟨hP1, hK1, hD1⟩ := hB
        rw [ht] at hP1
        obtain ⟨hP, hD⟩ := va_join (wr := [(h0, .inr (9, [.ref (a0 0), .ref (a0 1), .int (mg M0 2)])), (a0 1, .inr (8, [.int (mg M3 0), .ref (a3 1), .ref (a3 2), .ref (a3 3), .int (mg M3 4), .ref (a3 5)])), (a3 1, .inl (cI, 12, .inl (ma M3 1))), (a3 2, .inl (cI, 12, .inl (ma M3 2))), (a3 3, .inl (cI, 400, .inl (ma M3 3))), (a3 5, .inl (cJ, 60, .inr (.inl (ml M3 5))))]) (w1 := (rdW cB cI cJ cZ (a0 0) a1 N11 N12)) hP hD [1, 2] [0, 3, 4, 5, 6, 7] rfl rfl (by decide) (by decide) hk1 hFc hP1 hD1
        have hP := hP.sub (ws' := (rrW cB cI cJ cZ h0 a0 a1 a3 M0 N11 N12 M3)) [0, 6, 7, 1, 2, 3, 4, 5] rfl
        have hD := hD.sub (ws' := (rrW cB cI cJ cZ h0 a0 a1 a3 M0 N11 N12 M3)) [0, 6, 7, 1, 2, 3, 4, 5] (by decide) rfl
        generalize H1 = H at hP hS ⊢
        have h := hw
        try dsimp only at h
        refine lv_goto (tgt := 115) hx hb dX9_readClause_38 (by decide) ?_
        exact W.vret hx hb hr (fun t ht hW => ⟨⟨(M0, N11, N12, M3), rfl, h, by rw [ht]; exact hP, va_K.moved hW.alike hK, hD⟩, hS.F ht⟩) hS.2.2 dX9_readClause_115
    · have h := h.1 c4
      refine lv_aload_n hx hb dX9_readClause_15 rfl (lv_at hl 1 rfl) ?_
      refine va_get (D := (dC, dI)) (ci := 9) (v := .ref (a0 0)) (C := RX9) (T := TX9) (N := 3) hx hb hts hinX9 hown hK hP 0 rfl rfl 0 (by decide) f2 (fun _ h9 => h9) rfl dX9_readClause_16 ?_
      refine lv_iconst (v := 0) hx hb dX9_readClause_19 (by decide) ?_
      have hPc := hP.sub (ws' := (rdW cB cI cJ cZ (a0 0) a1 N2 N3)) [1, 2] rfl
      have hDc := hD.sub (ws' := (rdW cB cI cJ cZ (a0 0) a1 N2 N3)) [1, 2] (by decide) rfl
      have hFc := va_free (wc := (rdW cB cI cJ cZ (a0 0) a1 N2 N3)) hD hS hA [1, 2] rfl
      refine va_callv (va_runV (As := [.int (0 : Int32)]) (rest := []) ⟨hx, hb, hml, hown, hts⟩ (kX7_fail l dC dI cB cI cJ cZ (a0 0) a1 H.size (0 : Int32) N2 N3 _ h) (cwV 1 hts gX9_readClause_X7_fail rfl rfl rfl (by decide +kernel) ⟨Nat.le_of_ble_eq_true rfl, Nat.le_of_ble_eq_true rfl⟩) (rdpV hK hPc hDc) rfl rfl hl.1 rfl (lv_room (Nat.le_of_ble_eq_true rfl)) dX9_readClause_20 ⟨Nat.le_of_ble_eq_true rfl, Nat.le_of_ble_eq_true rfl⟩) hS (fun q _ z => hFc q z) hFc (fun u t H1 locs ht hvm hw hB hz1 hk1 hS => ?_)
      obtain ⟨N14, N15⟩ := u
      obtain ⟨hP1, hK1, hD1⟩ := hB
      rw [ht] at hP1
      obtain ⟨hP, hD⟩ := va_join (wr := [(h0, .inr (9, [.ref (a0 0), .ref (a0 1), .int (mg M0 2)])), (a0 1, .inr (8, [.int (mg M3 0), .ref (a3 1), .ref (a3 2), .ref (a3 3), .int (mg M3 4), .ref (a3 5)])), (a3 1, .inl (cI, 12, .inl (ma M3 1))), (a3 2, .inl (cI, 12, .inl (ma M3 2))), (a3 3, .inl (cI, 400, .inl (ma M3 3))), (a3 5, .inl (cJ, 60, .inr (.inl (ml M3 5))))]) (w1 := (rdW cB cI cJ cZ (a0 0) a1 N14 N15)) hP hD [1, 2] [0, 3, 4, 5, 6, 7] rfl rfl (by decide) (by decide) hk1 hFc hP1 hD1
      have hP := hP.sub (ws' := (rrW cB cI cJ cZ h0 a0 a1 a3 M0 N14 N15 M3)) [0, 6, 7, 1, 2, 3, 4, 5] rfl
      have hD := hD.sub (ws' := (rrW cB cI cJ cZ h0 a0 a1 a3 M0 N14 N15 M3)) [0, 6, 7, 1, 2, 3, 4, 5] (by decide) rfl
      generalize H1 = H at hP hS ⊢
      have h := hw
      try dsimp only at h
      refine lv_goto (tgt := 115) hx hb dX9_readClause_23 (by decide) ?_
      exact W.vret hx hb hr (fun t ht hW => ⟨⟨(M0, N14, N15, M3), rfl, h, by rw [ht]; exact hP, va_K.moved hW.alike hK, hD⟩, hS.F ht⟩) hS.2.2 dX9_readClause_115
  have hl := lv_entry ([.ref h0, .int p1]) (n := 4) (Nat.le_of_ble_eq_true rfl)
  rw [lg_entry_eq]
  generalize (lg_sl ([.ref h0, .int p1]) ++ List.replicate (4 - (lg_sl ([.ref h0, .int p1])).length) Slot.unset).toArray = ls at hl ⊢
  have hl : lv_has ls 4 [(0, .ref h0), (1, .int p1)] := hl
  exact bE M0 M1 M2 M3 s.heap [] ls hP hD hS hl h
def wX9_read_40 (B18 : Int32 → Int32 → gS → gS → gS → gS → Prop) (Q : Int32 → gS → gS → gS → gS → Prop) (y2 : Int32) (z0 : Int32) (M0 : gS) (M1 : gS) (M2 : gS) (M3 : gS) : Prop :=
 (wX9_readClause z0 M0 M1 M2 M3 (fun (N2 : gS) (N3 : gS) (N4 : gS) (N5 : gS) => (wX7_goesOnToClause  N3 N4 (fun (b9 : Bool) (N7 : gS) (N8 : gS) => (∀ x10 : Int32, x10 = y2 + (1 : Int32) → (B18 (bI b9) x10 N2 N7 N8 N5))))))
def wX9_read_18  (Q : Int32 → gS → gS → gS → gS → Prop) : Nat → Int32 → Int32 → gS → gS → gS → gS → Prop
 | 0, _, _, _, _, _, _ => False
 | n + 1, y1, y2, M0, M1, M2, M3 => (((12 : Int32) < y2 → (Q (mg M1 7) M0 M1 M2 M3))
 ∧ (¬ (12 : Int32) < y2 → ((y1 = 0 → (Q (mg M1 7) M0 M1 M2 M3))
 ∧ (¬ y1 = 0 → ((y2 = (12 : Int32) → (wX9_read_40 (fun (y1 : Int32) (y2 : Int32) (M0 : gS) (M1 : gS) (M2 : gS) (M3 : gS) => wX9_read_18  Q n y1 y2 M0 M1 M2 M3) Q y2 (1 : Int32) M0 M1 M2 M3))
 ∧ (¬ y2 = (12 : Int32) → (wX9_read_40 (fun (y1 : Int32) (y2 : Int32) (M0 : gS) (M1 : gS) (M2 : gS) (M3 : gS) => wX9_read_18  Q n y1 y2 M0 M1 M2 M3) Q y2 (0 : Int32) M0 M1 M2 M3)))))))
def wX9_read  (M0 : gS) (M1 : gS) (M2 : gS) (M3 : gS) (Q : Int32 → gS → gS → gS → gS → Prop) : Prop :=
 (wX8_clear  M3 (fun (N2 : gS) => (wX7_advance  M1 M2 (fun (N4 : gS) (N5 : gS) => (∃ k18 : Nat, wX9_read_18  Q k18 (1 : Int32) (0 : Int32) M0 N4 N5 N2)))))
def rmX9_read : Room := { frames := 109, cells := 0, slots := 0, locals := 2435 }
set_option maxHeartbeats 4000000 in
set_option maxRecDepth 100000 in
theorem kX9_read (l : Launch) (dC : Nat → ClassId) (dI : Nat → Nat → Nat) (cB cI cJ cZ : ClassId) (adK adV : Nat → Nat) (h0 : Nat) (a0 : Nat → Nat) (a1 : Nat → Nat) (a3 : Nat → Nat) (sz : Nat)  (M0 : gS) (M1 : gS) (M2 : gS) (M3 : gS) (Q : Int32 → gS → gS → gS → gS → Prop) (h : wX9_read  M0 M1 M2 M3 Q) : Met l yX9_read wsX9_read rmX9_read (va_Pc [.ref h0] (rrIS dC dI cB cI cJ cZ h0 a0 a1 a3 M0 M1 M2 M3 adK adV sz)) (va_Qi (fun (r : Int32) (u : gS × gS × gS × gS) => Q r u.1 u.2.1 u.2.2.1 u.2.2.2) (rrB dC dI cB cI cJ cZ h0 a0 a1 a3 (va_A (rrW cB cI cJ cZ h0 a0 a1 a3 M0 M1 M2 M3) sz)) (va_A (rrW cB cI cJ cZ h0 a0 a1 a3 M0 M1 M2 M3) sz)) 0 0 (va_A (rrW cB cI cJ cZ h0 a0 a1 a3 M0 M1 M2 M3) sz) := by
  refine Met.ofW (cc := cX9_read) (maxL := 3) (ret := (some .int)) (by decide) rfl ?_
  intro p e s m args below meth c s₁ B hml hv
  obtain ⟨rfl, ⟨hsz, hP, hK, hD0⟩, hR, hE⟩ := hv
  have hx := B.exec
  have hb := B.bytes
  have hr := B.returns
  have hts := atoms_spec (ws := wsX9_read) B.pre
  have hown : s.vm.findClass RX9 = some m.cls := findClass_of_methodNamed B.named
  have hlocks := B.notSynchronized
  subst hsz
  have hD := hD0.self (sz := s.heap.size)
  generalize hAe : va_A (rrW cB cI cJ cZ h0 a0 a1 a3 M0 M1 M2 M3) s.heap.size = A at hD hE ⊢
  have hA : ∀ q : Nat, s.heap.size ≤ q → A q := fun q h => by rw [← hAe]; exact Or.inr h
  have hS : va_S A s.heap s.heap [] := va_S.rf
  have hinX7 : ∀ w ∈ wsX70, w ∈ wsX9_read := by decide +kernel
  have hinX9 : ∀ w ∈ wsX90, w ∈ wsX9_read := by decide +kernel
  have f1 := hts (.fieldLink RX9 9 "LastWords$RuleReader" "in" "LLastWords$Reader;") (by decide +kernel)
  have f2 := hts (.fieldLink RX9 37 "LastWords$Reader" "fault" "I") (by decide +kernel)
  have f3 := hts (.fieldLink RX9 15 "LastWords$RuleReader" "rule" "LLastWords$Rule;") (by decide +kernel)
  have b40 : ∀ (B18 : Int32 → Int32 → gS → gS → gS → gS → Prop) (hB18 : ∀ (y1 : Int32) (y2 : Int32) (M0 : gS) (M1 : gS) (M2 : gS) (M3 : gS) (H : Heap) (locs : List Loc) (ls : Array Slot), va_P (dC, dI) vwCl (rrW cB cI cJ cZ h0 a0 a1 a3 M0 M1 M2 M3) H → va_D A (rrW cB cI cJ cZ h0 a0 a1 a3 M0 M1 M2 M3) → va_S A s.heap H locs → lv_has ls 3 [(0, .ref h0), (1, .int y1), (2, .int y2)] → B18 y1 y2 M0 M1 M2 M3 → W p l e (headSpec wsX9_read rmX9_read).room s m ([.ref h0] : List Value).toArray below meth c H locs 0 0 (MQ below (va_Qi (fun (r : Int32) (u : gS × gS × gS × gS) => Q r u.1 u.2.1 u.2.2.1 u.2.2.2) (rrB dC dI cB cI cJ cZ h0 a0 a1 a3 A) A) ([.ref h0] : List Value).toArray s 0 0 A) (F0 m 18 ls [])) (y2 : Int32) (z0 : Int32) (M0 : gS) (M1 : gS) (M2 : gS) (M3 : gS) (H : Heap) (locs : List Loc) (ls : Array Slot), va_P (dC, dI) vwCl (rrW cB cI cJ cZ h0 a0 a1 a3 M0 M1 M2 M3) H → va_D A (rrW cB cI cJ cZ h0 a0 a1 a3 M0 M1 M2 M3) → va_S A s.heap H locs → lv_has ls 3 [(0, .ref h0), (2, .int y2)] → wX9_read_40 B18 Q y2 z0 M0 M1 M2 M3 → W p l e (headSpec wsX9_read rmX9_read).room s m ([.ref h0] : List Value).toArray below meth c H locs 0 0 (MQ below (va_Qi (fun (r : Int32) (u : gS × gS × gS × gS) => Q r u.1 u.2.1 u.2.2.1 u.2.2.2) (rrB dC dI cB cI cJ cZ h0 a0 a1 a3 A) A) ([.ref h0] : List Value).toArray s 0 0 A) (F0 m 40 ls [.int z0, .ref h0]) := by
    intro B18 hB18 y2 z0 M0 M1 M2 M3 H locs ls hP hD hS hl h
    unfold wX9_read_40 at h
    have hFc := gs_free hD hS hA
    refine va_callv (va_runV (As := [.int z0]) (rest := []) ⟨hx, hb, hml, hown, hts⟩ (kX9_readClause l dC dI cB cI cJ cZ adK adV h0 a0 a1 a3 H.size z0 M0 M1 M2 M3 _ h) (cwV 1 hts gX9_read_X9_readClause rfl rfl rfl (by decide +kernel) ⟨Nat.le_of_ble_eq_true rfl, Nat.le_of_ble_eq_true rfl⟩) (rrpVS hK hP hD hR hE hS hFc) rfl rfl hl.1 rfl (lv_room (Nat.le_of_ble_eq_true rfl)) dX9_read_40 ⟨Nat.le_of_ble_eq_true rfl, Nat.le_of_ble_eq_true rfl⟩) hS (fun q _ z => hFc q z) hFc (fun u t H1 locs ht hvm hw hB hz1 hk1 hS => ?_)
    obtain ⟨N2, N3, N4, N5⟩ := u
    obtain ⟨hP, hD⟩ := gs_back ht hFc hB
    generalize H1 = H at hP hS ⊢
    have h := hw
    try dsimp only at h
    refine lv_aload_n hx hb dX9_read_43 rfl (lv_at hl 0 rfl) ?_
    refine va_get (D := (dC, dI)) (ci := 9) (v := .ref (a0 0)) (C := RX9) (T := TX9) (N := 3) hx hb hts hinX9 hown hK hP 0 rfl rfl 0 (by decide) f1 (fun _ h9 => h9) rfl dX9_read_44 ?_
    have hPc := hP.sub (ws' := (rdW cB cI cJ cZ (a0 0) a1 N3 N4)) [1, 2] rfl
    have hDc := hD.sub (ws' := (rdW cB cI cJ cZ (a0 0) a1 N3 N4)) [1, 2] (by decide) rfl
    have hFc := va_free (wc := (rdW cB cI cJ cZ (a0 0) a1 N3 N4)) hD hS hA [1, 2] rfl
    refine va_calli (va_runV (As := []) (rest := []) ⟨hx, hb, hml, hown, hts⟩ (kX7_goesOnToClause l dC dI cB cI cJ cZ (a0 0) a1 H.size  N3 N4 _ h) (cwV 0 hts gX9_read_X7_goesOnToClause rfl rfl rfl (by decide +kernel) ⟨Nat.le_of_ble_eq_true rfl, Nat.le_of_ble_eq_true rfl⟩) (rdpV hK hPc hDc) rfl rfl hl.1 rfl (lv_room (Nat.le_of_ble_eq_true rfl)) dX9_read_47 ⟨Nat.le_of_ble_eq_true rfl, Nat.le_of_ble_eq_true rfl⟩) hS (fun q _ z => hFc q z) hFc (fun r6 u t H1 locs ht hvm hw hB hz1 hk1 hS => ?_)
    obtain ⟨N7, N8⟩ := u
    obtain ⟨hP1, hK1, hD1⟩ := hB
    rw [ht] at hP1
    obtain ⟨hP, hD⟩ := va_join (wr := [(h0, .inr (9, [.ref (a0 0), .ref (a0 1), .int (mg N2 2)])), (a0 1, .inr (8, [.int (mg N5 0), .ref (a3 1), .ref (a3 2), .ref (a3 3), .int (mg N5 4), .ref (a3 5)])), (a3 1, .inl (cI, 12, .inl (ma N5 1))), (a3 2, .inl (cI, 12, .inl (ma N5 2))), (a3 3, .inl (cI, 400, .inl (ma N5 3))), (a3 5, .inl (cJ, 60, .inr (.inl (ml N5 5))))]) (w1 := (rdW cB cI cJ cZ (a0 0) a1 N7 N8)) hP hD [1, 2] [0, 3, 4, 5, 6, 7] rfl rfl (by decide) (by decide) hk1 hFc hP1 hD1
    have hP := hP.sub (ws' := (rrW cB cI cJ cZ h0 a0 a1 a3 N2 N7 N8 N5)) [0, 6, 7, 1, 2, 3, 4, 5] rfl
    have hD := hD.sub (ws' := (rrW cB cI cJ cZ h0 a0 a1 a3 N2 N7 N8 N5)) [0, 6, 7, 1, 2, 3, 4, 5] (by decide) rfl
    generalize H1 = H at hP hS ⊢
    obtain ⟨b9, rfl, h⟩ := hw
    try dsimp only at h
    refine lv_istore_n (lv' := [(1, .int (bI b9)), (0, .ref h0), (2, .int y2)]) hx hb dX9_read_50 rfl hl (by decide) rfl (fun ls hl => ?_)
    obtain ⟨x10, ex10⟩ : ∃ y : Int32, y = y2 + (1 : Int32) := ⟨_, rfl⟩
    have h := h x10 ex10
    refine lv_iinc (v := x10) (lv' := [(2, .int x10), (1, .int (bI b9)), (0, .ref h0)]) hx hb dX9_read_51 hl (k := 2) rfl (by rw [ex10]; rfl) (by decide) rfl (fun ls hl => ?_)
    refine lv_goto (tgt := 18) hx hb dX9_read_54 (by decide) ?_
    exact hB18 (bI b9) x10 N2 N7 N8 N5 H locs ls hP hD hS (lv_sub hl [2, 1, 0] rfl) h
  have b18 : ∀ (n : Nat) (y1 : Int32) (y2 : Int32) (M0 : gS) (M1 : gS) (M2 : gS) (M3 : gS) (H : Heap) (locs : List Loc) (ls : Array Slot), va_P (dC, dI) vwCl (rrW cB cI cJ cZ h0 a0 a1 a3 M0 M1 M2 M3) H → va_D A (rrW cB cI cJ cZ h0 a0 a1 a3 M0 M1 M2 M3) → va_S A s.heap H locs → lv_has ls 3 [(0, .ref h0), (1, .int y1), (2, .int y2)] → wX9_read_18  Q n y1 y2 M0 M1 M2 M3 → W p l e (headSpec wsX9_read rmX9_read).room s m ([.ref h0] : List Value).toArray below meth c H locs 0 0 (MQ below (va_Qi (fun (r : Int32) (u : gS × gS × gS × gS) => Q r u.1 u.2.1 u.2.2.1 u.2.2.2) (rrB dC dI cB cI cJ cZ h0 a0 a1 a3 A) A) ([.ref h0] : List Value).toArray s 0 0 A) (F0 m 18 ls []) := by
    intro  n
    induction n with
    | zero => intro y1 y2 M0 M1 M2 M3 H locs ls hP hD hS hl h; exact absurd h (by simp [wX9_read_18])
    | succ n hB180 =>
      intro y1 y2 M0 M1 M2 M3 H locs ls hP hD hS hl h
      have hB18 := hB180
      rw [wX9_read_18] at h
      refine lv_iload_n hx hb dX9_read_18 rfl (lv_at hl 2 rfl) ?_
      refine lv_bipush (v := (12)) hx hb dX9_read_19 (by decide) ?_
      refine lv_icmp_gt (tgt := 57) hx hb dX9_read_21 (by decide) (fun c1 => ?_) (fun c1 => ?_)
      · have h := h.1 c1
        refine lv_aload_n hx hb dX9_read_57 rfl (lv_at hl 0 rfl) ?_
        refine va_get (D := (dC, dI)) (ci := 9) (v := .ref (a0 0)) (C := RX9) (T := TX9) (N := 3) hx hb hts hinX9 hown hK hP 0 rfl rfl 0 (by decide) f1 (fun _ h9 => h9) rfl dX9_read_58 ?_
        refine va_get (D := (dC, dI)) (ci := 7) (v := .int (mg M1 7)) (C := RX7) (T := TX7) (N := 8) hx hb hts hinX7 hown hK hP 1 rfl rfl 7 (by decide) f2 (fun _ h9 => h9) rfl dX9_read_61 ?_
        exact W.iret (v := (mg M1 7)) hx hb hr (fun t ht hW => ⟨⟨_, (M0, M1, M2, M3), rfl, h, by rw [ht]; exact hP, va_K.moved hW.alike hK, hD⟩, hS.F ht⟩) hS.2.2 dX9_read_64
      · have h := h.2 c1
        refine lv_iload_n hx hb dX9_read_24 rfl (lv_at hl 1 rfl) ?_
        refine lv_if_eq (tgt := 57) hx hb dX9_read_25 (by decide) (fun c2 => ?_) (fun c2 => ?_)
        · have h := h.1 c2
          refine lv_aload_n hx hb dX9_read_57 rfl (lv_at hl 0 rfl) ?_
          refine va_get (D := (dC, dI)) (ci := 9) (v := .ref (a0 0)) (C := RX9) (T := TX9) (N := 3) hx hb hts hinX9 hown hK hP 0 rfl rfl 0 (by decide) f1 (fun _ h9 => h9) rfl dX9_read_58 ?_
          refine va_get (D := (dC, dI)) (ci := 7) (v := .int (mg M1 7)) (C := RX7) (T := TX7) (N := 8) hx hb hts hinX7 hown hK hP 1 rfl rfl 7 (by decide) f2 (fun _ h9 => h9) rfl dX9_read_61 ?_
          exact W.iret (v := (mg M1 7)) hx hb hr (fun t ht hW => ⟨⟨_, (M0, M1, M2, M3), rfl, h, by rw [ht]; exact hP, va_K.moved hW.alike hK, hD⟩, hS.F ht⟩) hS.2.2 dX9_read_64
        · have h := h.2 c2
          refine lv_aload_n hx hb dX9_read_28 rfl (lv_at hl 0 rfl) ?_
          refine lv_iload_n hx hb dX9_read_29 rfl (lv_at hl 2 rfl) ?_
          refine lv_bipush (v := (12)) hx hb dX9_read_30 (by decide) ?_
          refine lv_icmp_ne (tgt := 39) hx hb dX9_read_32 (by decide) (fun c3 => ?_) (fun c3 => ?_)
          · have h := h.2 c3
            refine lv_iconst (v := 0) hx hb dX9_read_39 (by decide) ?_
            exact b40 _ hB18 y2 (0 : Int32) M0 M1 M2 M3 H locs ls hP hD hS (lv_sub hl [0, 2] rfl) h
          · have h := h.1 c3
            refine lv_iconst (v := 1) hx hb dX9_read_35 (by decide) ?_
            refine lv_goto (tgt := 40) hx hb dX9_read_36 (by decide) ?_
            exact b40 _ hB18 y2 (1 : Int32) M0 M1 M2 M3 H locs ls hP hD hS (lv_sub hl [0, 2] rfl) h
  have bE : ∀ (M0 : gS) (M1 : gS) (M2 : gS) (M3 : gS) (H : Heap) (locs : List Loc) (ls : Array Slot), va_P (dC, dI) vwCl (rrW cB cI cJ cZ h0 a0 a1 a3 M0 M1 M2 M3) H → va_D A (rrW cB cI cJ cZ h0 a0 a1 a3 M0 M1 M2 M3) → va_S A s.heap H locs → lv_has ls 3 [(0, .ref h0)] → wX9_read  M0 M1 M2 M3 Q → W p l e (headSpec wsX9_read rmX9_read).room s m ([.ref h0] : List Value).toArray below meth c H locs 0 0 (MQ below (va_Qi (fun (r : Int32) (u : gS × gS × gS × gS) => Q r u.1 u.2.1 u.2.2.1 u.2.2.2) (rrB dC dI cB cI cJ cZ h0 a0 a1 a3 A) A) ([.ref h0] : List Value).toArray s 0 0 A) (F0 m 0 ls []) := by
    intro M0 M1 M2 M3 H locs ls hP hD hS hl h
    unfold wX9_read at h
    refine lv_aload_n hx hb dX9_read_0 rfl (lv_at hl 0 rfl) ?_
    refine va_get (D := (dC, dI)) (ci := 9) (v := .ref (a0 1)) (C := RX9) (T := TX9) (N := 3) hx hb hts hinX9 hown hK hP 0 rfl rfl 1 (by decide) f3 (fun _ h9 => h9) rfl dX9_read_1 ?_
    have hPc := hP.sub (ws' := (ruW cB cI cJ cZ (a0 1) a3 M3)) [3, 4, 5, 6, 7] rfl
    have hDc := hD.sub (ws' := (ruW cB cI cJ cZ (a0 1) a3 M3)) [3, 4, 5, 6, 7] (by decide) rfl
    have hFc := va_free (wc := (ruW cB cI cJ cZ (a0 1) a3 M3)) hD hS hA [3, 4, 5, 6, 7] rfl
    refine va_callv (va_runV (As := []) (rest := []) ⟨hx, hb, hml, hown, hts⟩ (kX8_clear l dC dI cB cI cJ cZ (a0 1) a3 H.size  M3 _ h) (cwV 0 hts gX9_read_X8_clear rfl rfl rfl (by decide +kernel) ⟨Nat.le_of_ble_eq_true rfl, Nat.le_of_ble_eq_true rfl⟩) (rupV hK hPc hDc) rfl rfl hl.1 rfl (lv_room (Nat.le_of_ble_eq_true rfl)) dX9_read_4 ⟨Nat.le_of_ble_eq_true rfl, Nat.le_of_ble_eq_true rfl⟩) hS (fun q _ z => hFc q z) hFc (fun u t H1 locs ht hvm hw hB hz1 hk1 hS => ?_)
    obtain ⟨N2, rfl⟩ : ∃ z, z = u := ⟨_, rfl⟩
    obtain ⟨hP1, hK1, hD1⟩ := hB
    rw [ht] at hP1
    obtain ⟨hP, hD⟩ := va_join (wr := [(h0, .inr (9, [.ref (a0 0), .ref (a0 1), .int (mg M0 2)])), (a0 0, .inr (7, [.ref (a1 0), .int (mg M1 1), .int (mg M1 2), .int (mg M1 3), .int (mg M1 4), .int (mg M1 5), .int (mg M1 6), .int (mg M1 7)])), (a1 0, .inl (cI, 400, .inl (ma M2 0)))]) (w1 := (ruW cB cI cJ cZ (a0 1) a3 N2)) hP hD [3, 4, 5, 6, 7] [0, 1, 2] rfl rfl (by decide) (by decide) hk1 hFc hP1 hD1
    have hP := hP.sub (ws' := (rrW cB cI cJ cZ h0 a0 a1 a3 M0 M1 M2 N2)) [0, 1, 2, 3, 4, 5, 6, 7] rfl
    have hD := hD.sub (ws' := (rrW cB cI cJ cZ h0 a0 a1 a3 M0 M1 M2 N2)) [0, 1, 2, 3, 4, 5, 6, 7] (by decide) rfl
    generalize H1 = H at hP hS ⊢
    have h := hw
    try dsimp only at h
    refine lv_aload_n hx hb dX9_read_7 rfl (lv_at hl 0 rfl) ?_
    refine va_get (D := (dC, dI)) (ci := 9) (v := .ref (a0 0)) (C := RX9) (T := TX9) (N := 3) hx hb hts hinX9 hown hK hP 0 rfl rfl 0 (by decide) f1 (fun _ h9 => h9) rfl dX9_read_8 ?_
    have hPc := hP.sub (ws' := (rdW cB cI cJ cZ (a0 0) a1 M1 M2)) [1, 2] rfl
    have hDc := hD.sub (ws' := (rdW cB cI cJ cZ (a0 0) a1 M1 M2)) [1, 2] (by decide) rfl
    have hFc := va_free (wc := (rdW cB cI cJ cZ (a0 0) a1 M1 M2)) hD hS hA [1, 2] rfl
    refine va_callv (va_runV (As := []) (rest := []) ⟨hx, hb, hml, hown, hts⟩ (kX7_advance l dC dI cB cI cJ cZ (a0 0) a1 H.size  M1 M2 _ h) (cwV 0 hts gX9_read_X7_advance rfl rfl rfl (by decide +kernel) ⟨Nat.le_of_ble_eq_true rfl, Nat.le_of_ble_eq_true rfl⟩) (rdpV hK hPc hDc) rfl rfl hl.1 rfl (lv_room (Nat.le_of_ble_eq_true rfl)) dX9_read_11 ⟨Nat.le_of_ble_eq_true rfl, Nat.le_of_ble_eq_true rfl⟩) hS (fun q _ z => hFc q z) hFc (fun u t H1 locs ht hvm hw hB hz1 hk1 hS => ?_)
    obtain ⟨N4, N5⟩ := u
    obtain ⟨hP1, hK1, hD1⟩ := hB
    rw [ht] at hP1
    obtain ⟨hP, hD⟩ := va_join (wr := [(h0, .inr (9, [.ref (a0 0), .ref (a0 1), .int (mg M0 2)])), (a0 1, .inr (8, [.int (mg N2 0), .ref (a3 1), .ref (a3 2), .ref (a3 3), .int (mg N2 4), .ref (a3 5)])), (a3 1, .inl (cI, 12, .inl (ma N2 1))), (a3 2, .inl (cI, 12, .inl (ma N2 2))), (a3 3, .inl (cI, 400, .inl (ma N2 3))), (a3 5, .inl (cJ, 60, .inr (.inl (ml N2 5))))]) (w1 := (rdW cB cI cJ cZ (a0 0) a1 N4 N5)) hP hD [1, 2] [0, 3, 4, 5, 6, 7] rfl rfl (by decide) (by decide) hk1 hFc hP1 hD1
    have hP := hP.sub (ws' := (rrW cB cI cJ cZ h0 a0 a1 a3 M0 N4 N5 N2)) [0, 6, 7, 1, 2, 3, 4, 5] rfl
    have hD := hD.sub (ws' := (rrW cB cI cJ cZ h0 a0 a1 a3 M0 N4 N5 N2)) [0, 6, 7, 1, 2, 3, 4, 5] (by decide) rfl
    generalize H1 = H at hP hS ⊢
    have h := hw
    try dsimp only at h
    refine lv_iconst (v := 1) hx hb dX9_read_14 (by decide) ?_
    refine lv_istore_n (lv' := [(1, .int (1 : Int32)), (0, .ref h0)]) hx hb dX9_read_15 rfl hl (by decide) rfl (fun ls hl => ?_)
    refine lv_iconst (v := 0) hx hb dX9_read_16 (by decide) ?_
    refine lv_istore_n (lv' := [(2, .int (0 : Int32)), (1, .int (1 : Int32)), (0, .ref h0)]) hx hb dX9_read_17 rfl hl (by decide) rfl (fun ls hl => ?_)
    obtain ⟨n9, h⟩ := h
    exact b18  n9 (1 : Int32) (0 : Int32) M0 N4 N5 N2 H locs ls hP hD hS (lv_sub hl [2, 1, 0] rfl) h
  have hl := lv_entry ([.ref h0]) (n := 3) (Nat.le_of_ble_eq_true rfl)
  rw [lg_entry_eq]
  generalize (lg_sl ([.ref h0]) ++ List.replicate (3 - (lg_sl ([.ref h0])).length) Slot.unset).toArray = ls at hl ⊢
  have hl : lv_has ls 3 [(0, .ref h0)] := hl
  exact bE M0 M1 M2 M3 s.heap [] ls hP hD hS hl h
