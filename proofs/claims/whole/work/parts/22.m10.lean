def wX12_lastAs (p1 : Int32) (M : gS) (Q : Int32 → gS → Prop) : Prop :=
 ((p1 = (9 : Int32) → (Q (4 : Int32) M))
 ∧ (¬ p1 = (9 : Int32) → (Q p1 M)))
def rmX12_lastAs : Room := { frames := 0, cells := 0, slots := 0, locals := 0 }
set_option maxHeartbeats 4000000 in
set_option maxRecDepth 100000 in
theorem kX12_lastAs (l : Launch) (dC : Nat → ClassId) (dI : Nat → Nat → Nat) (cB cI cJ cZ : ClassId) (h0 : Nat) (ad : Nat → Nat) (sz : Nat) (p1 : Int32) (M : gS) (Q : Int32 → gS → Prop) (h : wX12_lastAs p1 M Q) : Met l yX12_lastAs wsX12_lastAs rmX12_lastAs (va_Pc [.int p1] (mI dC dI cB cI cJ cZ h0 ad M sz)) (va_Qi (fun (r : Int32) (u : gS) => Q r u) (mB dC dI cB cI cJ cZ h0 ad (va_A (mW cB cI cJ cZ h0 ad M) sz)) (va_A (mW cB cI cJ cZ h0 ad M) sz)) 0 0 (va_A (mW cB cI cJ cZ h0 ad M) sz) := by
  refine Met.ofW (cc := cX12_lastAs) (maxL := 1) (ret := (some .int)) (by decide) rfl ?_
  intro p e s m args below meth c s₁ B hml hv
  obtain ⟨rfl, hsz, hP, hK, hD0⟩ := hv
  have hx := B.exec
  have hb := B.bytes
  have hr := B.returns
  have hts := atoms_spec (ws := wsX12_lastAs) B.pre
  have hown : s.vm.findClass RX12 = some m.cls := findClass_of_methodNamed B.named
  have hlocks := B.notSynchronized
  subst hsz
  have hD := hD0.self (sz := s.heap.size)
  generalize hAe : va_A (mW cB cI cJ cZ h0 ad M) s.heap.size = A at hD ⊢
  have hA : ∀ q : Nat, s.heap.size ≤ q → A q := fun q h => by rw [← hAe]; exact Or.inr h
  have hS : va_S A s.heap s.heap [] := va_S.rf
  have bE : ∀ (M : gS) (H : Heap) (locs : List Loc) (ls : Array Slot), va_P (dC, dI) vwCl (mW cB cI cJ cZ h0 ad M) H → va_D A (mW cB cI cJ cZ h0 ad M) → va_S A s.heap H locs → lv_has ls 1 [(0, .int p1)] → wX12_lastAs p1 M Q → W p l e (headSpec wsX12_lastAs rmX12_lastAs).room s m ([.int p1] : List Value).toArray below meth c H locs 0 0 (MQ below (va_Qi (fun (r : Int32) (u : gS) => Q r u) (mB dC dI cB cI cJ cZ h0 ad A) A) ([.int p1] : List Value).toArray s 0 0 A) (F0 m 0 ls []) := by
    intro M H locs ls hP hD hS hl h
    unfold wX12_lastAs at h
    refine lv_iload_n hx hb dX12_lastAs_0 rfl (lv_at hl 0 rfl) ?_
    refine lv_bipush (v := (9)) hx hb dX12_lastAs_1 (by decide) ?_
    refine lv_icmp_ne (tgt := 10) hx hb dX12_lastAs_3 (by decide) (fun c1 => ?_) (fun c1 => ?_)
    · have h := h.2 c1
      refine lv_iload_n hx hb dX12_lastAs_10 rfl (lv_at hl 0 rfl) ?_
      exact W.iret (v := p1) hx hb hr (fun t ht hW => ⟨⟨_, M, rfl, h, by rw [ht]; exact hP, va_K.moved hW.alike hK, hD⟩, hS.F ht⟩) hS.2.2 dX12_lastAs_11
    · have h := h.1 c1
      refine lv_iconst (v := 4) hx hb dX12_lastAs_6 (by decide) ?_
      refine lv_goto (tgt := 11) hx hb dX12_lastAs_7 (by decide) ?_
      exact W.iret (v := (4 : Int32)) hx hb hr (fun t ht hW => ⟨⟨_, M, rfl, h, by rw [ht]; exact hP, va_K.moved hW.alike hK, hD⟩, hS.F ht⟩) hS.2.2 dX12_lastAs_11
  have hl := lv_entry ([.int p1]) (n := 1) (Nat.le_of_ble_eq_true rfl)
  rw [lg_entry_eq]
  generalize (lg_sl ([.int p1]) ++ List.replicate (1 - (lg_sl ([.int p1])).length) Slot.unset).toArray = ls at hl ⊢
  have hl : lv_has ls 1 [(0, .int p1)] := hl
  exact bE M s.heap [] ls hP hD hS hl h
def wX12_haver_31  (Q : Int32 → gS → Prop) (y4 : Int32) (z2 : Int32) (z1 : Int32) (z0 : Int32) (M : gS) : Prop :=
 (vp_in ((14 : Int32) + y4) 44 ∧ (wX12_lastAs (ma M 25 (Int32.toNatClampNeg ((14 : Int32) + y4))) M (fun (r1 : Int32) (M2 : gS) => (vp_in ((15 : Int32) - y4) 44 ∧ (wX12_lastAs (ma M2 25 (Int32.toNatClampNeg ((15 : Int32) - y4))) M2 (fun (r3 : Int32) (M4 : gS) => (wX12_can z2 z1 z0 r1 r3 M4 (fun (b7 : Bool) (M6 : gS) => (((bI b7) = 0 → (Q ((1 : Int32) - y4) M6))
 ∧ (¬ (bI b7) = 0 → (Q y4 M6)))))))))))
def wX12_haver_21  (Q : Int32 → gS → Prop) (y2 : Int32) (y3 : Int32) (y4 : Int32) (z1 : Int32) (z0 : Int32) (M : gS) : Prop :=
 ((y4 = 0 → (wX12_haver_31  Q y4 z1 z0 y3 M))
 ∧ (¬ y4 = 0 → (wX12_haver_31  Q y4 z1 z0 y2 M)))
def wX12_haver (p1 : Int32) (p2 : Int32) (p3 : Int32) (M : gS) (Q : Int32 → gS → Prop) : Prop :=
 (∀ x1 : Int32, x1 = (ma M 25 6) → ((x1 = 0 → (wX12_haver_21  Q p2 p3 x1 p1 p2 M))
 ∧ (¬ x1 = 0 → (wX12_haver_21  Q p2 p3 x1 p1 p3 M))))
def rmX12_haver : Room := { frames := 2, cells := 0, slots := 0, locals := 47 }
set_option maxHeartbeats 4000000 in
set_option maxRecDepth 100000 in
theorem kX12_haver (l : Launch) (dC : Nat → ClassId) (dI : Nat → Nat → Nat) (cB cI cJ cZ : ClassId) (h0 : Nat) (ad : Nat → Nat) (sz : Nat) (p1 : Int32) (p2 : Int32) (p3 : Int32) (M : gS) (Q : Int32 → gS → Prop) (h : wX12_haver p1 p2 p3 M Q) : Met l yX12_haver wsX12_haver rmX12_haver (va_Pc [.ref h0, .int p1, .int p2, .int p3] (mI dC dI cB cI cJ cZ h0 ad M sz)) (va_Qi (fun (r : Int32) (u : gS) => Q r u) (mB dC dI cB cI cJ cZ h0 ad (va_A (mW cB cI cJ cZ h0 ad M) sz)) (va_A (mW cB cI cJ cZ h0 ad M) sz)) 0 0 (va_A (mW cB cI cJ cZ h0 ad M) sz) := by
  refine Met.ofW (cc := cX12_haver) (maxL := 6) (ret := (some .int)) (by decide) rfl ?_
  intro p e s m args below meth c s₁ B hml hv
  obtain ⟨rfl, hsz, hP, hK, hD0⟩ := hv
  have hx := B.exec
  have hb := B.bytes
  have hr := B.returns
  have hts := atoms_spec (ws := wsX12_haver) B.pre
  have hown : s.vm.findClass RX12 = some m.cls := findClass_of_methodNamed B.named
  have hlocks := B.notSynchronized
  subst hsz
  have hD := hD0.self (sz := s.heap.size)
  generalize hAe : va_A (mW cB cI cJ cZ h0 ad M) s.heap.size = A at hD ⊢
  have hA : ∀ q : Nat, s.heap.size ≤ q → A q := fun q h => by rw [← hAe]; exact Or.inr h
  have hS : va_S A s.heap s.heap [] := va_S.rf
  have hin : ∀ w ∈ wsX120, w ∈ wsX12_haver := fun w h => List.mem_cons_of_mem _ (List.mem_append_right _ h)
  have f1 := hts (.fieldLink RX12 45 "LastWordsModel" "said" "[I") (by decide +kernel)
  have b31 : ∀ (y4 : Int32) (z2 : Int32) (z1 : Int32) (z0 : Int32) (M : gS) (H : Heap) (locs : List Loc) (ls : Array Slot), va_P (dC, dI) vwCl (mW cB cI cJ cZ h0 ad M) H → va_D A (mW cB cI cJ cZ h0 ad M) → va_S A s.heap H locs → lv_has ls 6 [(0, .ref h0), (4, .int y4)] → wX12_haver_31  Q y4 z2 z1 z0 M → W p l e (headSpec wsX12_haver rmX12_haver).room s m ([.ref h0, .int p1, .int p2, .int p3] : List Value).toArray below meth c H locs 0 0 (MQ below (va_Qi (fun (r : Int32) (u : gS) => Q r u) (mB dC dI cB cI cJ cZ h0 ad A) A) ([.ref h0, .int p1, .int p2, .int p3] : List Value).toArray s 0 0 A) (F0 m 31 ls [.int z0, .int z1, .int z2, .ref h0]) := by
    intro  y4 z2 z1 z0 M H locs ls hP hD hS hl h
    unfold wX12_haver_31 at h
    refine lv_aload_n hx hb dX12_haver_31 rfl (lv_at hl 0 rfl) ?_
    refine va_get (D := (dC, dI)) (ci := 12) (v := .ref (ad 25)) (C := RX12) (T := TX12) (N := 37) hx hb hts hin hown hK hP 0 rfl rfl 25 (by decide) f1 (fun _ h9 => h9) rfl dX12_haver_32 ?_
    refine lv_bipush (v := (14)) hx hb dX12_haver_35 (by decide) ?_
    refine lv_iload hx hb dX12_haver_37 (lv_at hl 1 rfl) ?_
    refine lv_iadd hx hb dX12_haver_39 ?_
    refine va_iald hx hb hK hP 12 1 (f := ma M 25) rfl rfl h.1 dX12_haver_40 ?_
    have h := h.2
    have hFc := gs_free hD hS hA
    refine va_calli (va_runS (As := [.int (ma M 25 (Int32.toNatClampNeg ((14 : Int32) + y4)))]) (rest := [.int z0, .int z1, .int z2, .ref h0]) ⟨hx, hb, hml, hown, hts⟩ (kX12_lastAs l dC dI cB cI cJ cZ h0 ad H.size (ma M 25 (Int32.toNatClampNeg ((14 : Int32) + y4))) M _ h) (cwS 1 hts gX12_haver_X12_lastAs rfl rfl rfl (by decide +kernel) ⟨Nat.le_of_ble_eq_true rfl, Nat.le_of_ble_eq_true rfl⟩) (mpS hK hP hD) rfl rfl hl.1 rfl (lv_room (Nat.le_of_ble_eq_true rfl)) dX12_haver_41 ⟨Nat.le_of_ble_eq_true rfl, Nat.le_of_ble_eq_true rfl⟩) hS (fun q _ z => hFc q z) hFc (fun r1 M2 t H1 locs ht hvm hw hB hz1 hk1 hS => ?_)
    obtain ⟨hP, hD⟩ := gs_back ht hFc hB
    generalize H1 = H at hP hS ⊢
    have h := hw
    try dsimp only at h
    refine lv_aload_n hx hb dX12_haver_44 rfl (lv_at hl 0 rfl) ?_
    refine va_get (D := (dC, dI)) (ci := 12) (v := .ref (ad 25)) (C := RX12) (T := TX12) (N := 37) hx hb hts hin hown hK hP 0 rfl rfl 25 (by decide) f1 (fun _ h9 => h9) rfl dX12_haver_45 ?_
    refine lv_bipush (v := (15)) hx hb dX12_haver_48 (by decide) ?_
    refine lv_iload hx hb dX12_haver_50 (lv_at hl 1 rfl) ?_
    refine lv_isub hx hb dX12_haver_52 ?_
    refine va_iald hx hb hK hP 12 1 (f := ma M2 25) rfl rfl h.1 dX12_haver_53 ?_
    have h := h.2
    have hFc := gs_free hD hS hA
    refine va_calli (va_runS (As := [.int (ma M2 25 (Int32.toNatClampNeg ((15 : Int32) - y4)))]) (rest := [.int r1, .int z0, .int z1, .int z2, .ref h0]) ⟨hx, hb, hml, hown, hts⟩ (kX12_lastAs l dC dI cB cI cJ cZ h0 ad H.size (ma M2 25 (Int32.toNatClampNeg ((15 : Int32) - y4))) M2 _ h) (cwS 1 hts gX12_haver_X12_lastAs rfl rfl rfl (by decide +kernel) ⟨Nat.le_of_ble_eq_true rfl, Nat.le_of_ble_eq_true rfl⟩) (mpS hK hP hD) rfl rfl hl.1 rfl (lv_room (Nat.le_of_ble_eq_true rfl)) dX12_haver_54 ⟨Nat.le_of_ble_eq_true rfl, Nat.le_of_ble_eq_true rfl⟩) hS (fun q _ z => hFc q z) hFc (fun r3 M4 t H1 locs ht hvm hw hB hz1 hk1 hS => ?_)
    obtain ⟨hP, hD⟩ := gs_back ht hFc hB
    generalize H1 = H at hP hS ⊢
    have h := hw
    try dsimp only at h
    have hFc := gs_free hD hS hA
    refine va_calli (va_runV (As := [.int z2, .int z1, .int z0, .int r1, .int r3]) (rest := []) ⟨hx, hb, hml, hown, hts⟩ (kX12_can l dC dI cB cI cJ cZ h0 ad H.size z2 z1 z0 r1 r3 M4 _ h) (cwV 5 hts gX12_haver_X12_can rfl rfl rfl (by decide +kernel) ⟨Nat.le_of_ble_eq_true rfl, Nat.le_of_ble_eq_true rfl⟩) (mpV hK hP hD) rfl rfl hl.1 rfl (lv_room (Nat.le_of_ble_eq_true rfl)) dX12_haver_57 ⟨Nat.le_of_ble_eq_true rfl, Nat.le_of_ble_eq_true rfl⟩) hS (fun q _ z => hFc q z) hFc (fun r5 M6 t H1 locs ht hvm hw hB hz1 hk1 hS => ?_)
    obtain ⟨hP, hD⟩ := gs_back ht hFc hB
    generalize H1 = H at hP hS ⊢
    obtain ⟨b7, rfl, h⟩ := hw
    try dsimp only at h
    refine lv_istore (lv' := [(5, .int (bI b7)), (0, .ref h0), (4, .int y4)]) hx hb dX12_haver_60 hl (by decide) rfl (fun ls hl => ?_)
    refine lv_iload hx hb dX12_haver_62 (lv_at hl 0 rfl) ?_
    refine lv_if_eq (tgt := 72) hx hb dX12_haver_64 (by decide) (fun c8 => ?_) (fun c8 => ?_)
    · have h := h.1 c8
      refine lv_iconst (v := 1) hx hb dX12_haver_72 (by decide) ?_
      refine lv_iload hx hb dX12_haver_73 (lv_at hl 2 rfl) ?_
      refine lv_isub hx hb dX12_haver_75 ?_
      exact W.iret (v := ((1 : Int32) - y4)) hx hb hr (fun t ht hW => ⟨⟨_, M6, rfl, h, by rw [ht]; exact hP, va_K.moved hW.alike hK, hD⟩, hS.F ht⟩) hS.2.2 dX12_haver_76
    · have h := h.2 c8
      refine lv_iload hx hb dX12_haver_67 (lv_at hl 2 rfl) ?_
      refine lv_goto (tgt := 76) hx hb dX12_haver_69 (by decide) ?_
      exact W.iret (v := y4) hx hb hr (fun t ht hW => ⟨⟨_, M6, rfl, h, by rw [ht]; exact hP, va_K.moved hW.alike hK, hD⟩, hS.F ht⟩) hS.2.2 dX12_haver_76
  have b21 : ∀ (y2 : Int32) (y3 : Int32) (y4 : Int32) (z1 : Int32) (z0 : Int32) (M : gS) (H : Heap) (locs : List Loc) (ls : Array Slot), va_P (dC, dI) vwCl (mW cB cI cJ cZ h0 ad M) H → va_D A (mW cB cI cJ cZ h0 ad M) → va_S A s.heap H locs → lv_has ls 6 [(0, .ref h0), (2, .int y2), (3, .int y3), (4, .int y4)] → wX12_haver_21  Q y2 y3 y4 z1 z0 M → W p l e (headSpec wsX12_haver rmX12_haver).room s m ([.ref h0, .int p1, .int p2, .int p3] : List Value).toArray below meth c H locs 0 0 (MQ below (va_Qi (fun (r : Int32) (u : gS) => Q r u) (mB dC dI cB cI cJ cZ h0 ad A) A) ([.ref h0, .int p1, .int p2, .int p3] : List Value).toArray s 0 0 A) (F0 m 21 ls [.int z0, .int z1, .ref h0]) := by
    intro  y2 y3 y4 z1 z0 M H locs ls hP hD hS hl h
    unfold wX12_haver_21 at h
    refine lv_iload hx hb dX12_haver_21 (lv_at hl 3 rfl) ?_
    refine lv_if_ne (tgt := 30) hx hb dX12_haver_23 (by decide) (fun c1 => ?_) (fun c1 => ?_)
    · have h := h.2 c1
      refine lv_iload_n hx hb dX12_haver_30 rfl (lv_at hl 1 rfl) ?_
      exact b31  y4 z1 z0 y2 M H locs ls hP hD hS (lv_sub hl [0, 3] rfl) h
    · have h := h.1 c1
      refine lv_iload_n hx hb dX12_haver_26 rfl (lv_at hl 2 rfl) ?_
      refine lv_goto (tgt := 31) hx hb dX12_haver_27 (by decide) ?_
      exact b31  y4 z1 z0 y3 M H locs ls hP hD hS (lv_sub hl [0, 3] rfl) h
  have bE : ∀ (M : gS) (H : Heap) (locs : List Loc) (ls : Array Slot), va_P (dC, dI) vwCl (mW cB cI cJ cZ h0 ad M) H → va_D A (mW cB cI cJ cZ h0 ad M) → va_S A s.heap H locs → lv_has ls 6 [(0, .ref h0), (1, .int p1), (2, .int p2), (3, .int p3)] → wX12_haver p1 p2 p3 M Q → W p l e (headSpec wsX12_haver rmX12_haver).room s m ([.ref h0, .int p1, .int p2, .int p3] : List Value).toArray below meth c H locs 0 0 (MQ below (va_Qi (fun (r : Int32) (u : gS) => Q r u) (mB dC dI cB cI cJ cZ h0 ad A) A) ([.ref h0, .int p1, .int p2, .int p3] : List Value).toArray s 0 0 A) (F0 m 0 ls []) := by
    intro M H locs ls hP hD hS hl h
    unfold wX12_haver at h
    refine lv_aload_n hx hb dX12_haver_0 rfl (lv_at hl 0 rfl) ?_
    refine va_get (D := (dC, dI)) (ci := 12) (v := .ref (ad 25)) (C := RX12) (T := TX12) (N := 37) hx hb hts hin hown hK hP 0 rfl rfl 25 (by decide) f1 (fun _ h9 => h9) rfl dX12_haver_1 ?_
    refine lv_bipush (v := (6)) hx hb dX12_haver_4 (by decide) ?_
    refine wc_iald (j := 6) hx hb hK hP 12 1 (f := ma M 25) rfl rfl (by decide) (by decide) (by decide) dX12_haver_6 ?_
    refine lv_topi (fun x1 ex1 => ?_)
    have h := h x1 ex1
    refine lv_istore (lv' := [(4, .int x1), (0, .ref h0), (1, .int p1), (2, .int p2), (3, .int p3)]) hx hb dX12_haver_7 hl (by decide) rfl (fun ls hl => ?_)
    refine lv_aload_n hx hb dX12_haver_9 rfl (lv_at hl 1 rfl) ?_
    refine lv_iload_n hx hb dX12_haver_10 rfl (lv_at hl 2 rfl) ?_
    refine lv_iload hx hb dX12_haver_11 (lv_at hl 0 rfl) ?_
    refine lv_if_ne (tgt := 20) hx hb dX12_haver_13 (by decide) (fun c2 => ?_) (fun c2 => ?_)
    · have h := h.2 c2
      refine lv_iload_n hx hb dX12_haver_20 rfl (lv_at hl 4 rfl) ?_
      exact b21  p2 p3 x1 p1 p3 M H locs ls hP hD hS (lv_sub hl [1, 3, 4, 0] rfl) h
    · have h := h.1 c2
      refine lv_iload_n hx hb dX12_haver_16 rfl (lv_at hl 3 rfl) ?_
      refine lv_goto (tgt := 21) hx hb dX12_haver_17 (by decide) ?_
      exact b21  p2 p3 x1 p1 p2 M H locs ls hP hD hS (lv_sub hl [1, 3, 4, 0] rfl) h
  have hl := lv_entry ([.ref h0, .int p1, .int p2, .int p3]) (n := 6) (Nat.le_of_ble_eq_true rfl)
  rw [lg_entry_eq]
  generalize (lg_sl ([.ref h0, .int p1, .int p2, .int p3]) ++ List.replicate (6 - (lg_sl ([.ref h0, .int p1, .int p2, .int p3])).length) Slot.unset).toArray = ls at hl ⊢
  have hl : lv_has ls 6 [(0, .ref h0), (1, .int p1), (2, .int p2), (3, .int p3)] := hl
  exact bE M s.heap [] ls hP hD hS hl h
def wX12_have  (M : gS) (Q : Int32 → gS → Prop) : Prop :=
 (wX12_goesOn  M (fun (b3 : Bool) (M2 : gS) => (((bI b3) = 0 → (Q (-2 : Int32) M2))
 ∧ (¬ (bI b3) = 0 → (wX12_fillsTable (ma M2 25 4) M2 (fun (M6 : gS) => (wX12_haver (ma M6 25 5) (ma M6 25 12) (ma M6 25 13) M6 (fun (r7 : Int32) (M8 : gS) => (Q r7 M8)))))))))
def rmX12_have : Room := { frames := 5, cells := 0, slots := 0, locals := 126 }
set_option maxHeartbeats 4000000 in
set_option maxRecDepth 100000 in
theorem kX12_have (l : Launch) (dC : Nat → ClassId) (dI : Nat → Nat → Nat) (cB cI cJ cZ : ClassId) (h0 : Nat) (ad : Nat → Nat) (sz : Nat)  (M : gS) (Q : Int32 → gS → Prop) (h : wX12_have  M Q) : Met l yX12_have wsX12_have rmX12_have (va_Pc [.ref h0] (mI dC dI cB cI cJ cZ h0 ad M sz)) (va_Qi (fun (r : Int32) (u : gS) => Q r u) (mB dC dI cB cI cJ cZ h0 ad (va_A (mW cB cI cJ cZ h0 ad M) sz)) (va_A (mW cB cI cJ cZ h0 ad M) sz)) 0 0 (va_A (mW cB cI cJ cZ h0 ad M) sz) := by
  refine Met.ofW (cc := cX12_have) (maxL := 1) (ret := (some .int)) (by decide) rfl ?_
  intro p e s m args below meth c s₁ B hml hv
  obtain ⟨rfl, hsz, hP, hK, hD0⟩ := hv
  have hx := B.exec
  have hb := B.bytes
  have hr := B.returns
  have hts := atoms_spec (ws := wsX12_have) B.pre
  have hown : s.vm.findClass RX12 = some m.cls := findClass_of_methodNamed B.named
  have hlocks := B.notSynchronized
  subst hsz
  have hD := hD0.self (sz := s.heap.size)
  generalize hAe : va_A (mW cB cI cJ cZ h0 ad M) s.heap.size = A at hD ⊢
  have hA : ∀ q : Nat, s.heap.size ≤ q → A q := fun q h => by rw [← hAe]; exact Or.inr h
  have hS : va_S A s.heap s.heap [] := va_S.rf
  have hin : ∀ w ∈ wsX120, w ∈ wsX12_have := fun w h => List.mem_cons_of_mem _ (List.mem_append_right _ h)
  have f1 := hts (.fieldLink RX12 45 "LastWordsModel" "said" "[I") (by decide +kernel)
  have bE : ∀ (M : gS) (H : Heap) (locs : List Loc) (ls : Array Slot), va_P (dC, dI) vwCl (mW cB cI cJ cZ h0 ad M) H → va_D A (mW cB cI cJ cZ h0 ad M) → va_S A s.heap H locs → lv_has ls 1 [(0, .ref h0)] → wX12_have  M Q → W p l e (headSpec wsX12_have rmX12_have).room s m ([.ref h0] : List Value).toArray below meth c H locs 0 0 (MQ below (va_Qi (fun (r : Int32) (u : gS) => Q r u) (mB dC dI cB cI cJ cZ h0 ad A) A) ([.ref h0] : List Value).toArray s 0 0 A) (F0 m 0 ls []) := by
    intro M H locs ls hP hD hS hl h
    unfold wX12_have at h
    refine lv_aload_n hx hb dX12_have_0 rfl (lv_at hl 0 rfl) ?_
    have hFc := gs_free hD hS hA
    refine va_calli (va_runV (As := []) (rest := []) ⟨hx, hb, hml, hown, hts⟩ (kX12_goesOn l dC dI cB cI cJ cZ h0 ad H.size  M _ h) (cwV 0 hts gX12_have_X12_goesOn rfl rfl rfl (by decide +kernel) ⟨Nat.le_of_ble_eq_true rfl, Nat.le_of_ble_eq_true rfl⟩) (mpV hK hP hD) rfl rfl hl.1 rfl (lv_room (Nat.le_of_ble_eq_true rfl)) dX12_have_1 ⟨Nat.le_of_ble_eq_true rfl, Nat.le_of_ble_eq_true rfl⟩) hS (fun q _ z => hFc q z) hFc (fun r1 M2 t H1 locs ht hvm hw hB hz1 hk1 hS => ?_)
    obtain ⟨hP, hD⟩ := gs_back ht hFc hB
    generalize H1 = H at hP hS ⊢
    obtain ⟨b3, rfl, h⟩ := hw
    try dsimp only at h
    refine lv_if_ne (tgt := 10) hx hb dX12_have_4 (by decide) (fun c4 => ?_) (fun c4 => ?_)
    · have h := h.2 c4
      refine lv_aload_n hx hb dX12_have_10 rfl (lv_at hl 0 rfl) ?_
      refine lv_aload_n hx hb dX12_have_11 rfl (lv_at hl 0 rfl) ?_
      refine va_get (D := (dC, dI)) (ci := 12) (v := .ref (ad 25)) (C := RX12) (T := TX12) (N := 37) hx hb hts hin hown hK hP 0 rfl rfl 25 (by decide) f1 (fun _ h9 => h9) rfl dX12_have_12 ?_
      refine lv_iconst (v := 4) hx hb dX12_have_15 (by decide) ?_
      refine wc_iald (j := 4) hx hb hK hP 12 1 (f := ma M2 25) rfl rfl (by decide) (by decide) (by decide) dX12_have_16 ?_
      have hFc := gs_free hD hS hA
      refine va_callv (va_runV (As := [.int (ma M2 25 4)]) (rest := []) ⟨hx, hb, hml, hown, hts⟩ (kX12_fillsTable l dC dI cB cI cJ cZ h0 ad H.size (ma M2 25 4) M2 _ h) (cwV 1 hts gX12_have_X12_fillsTable rfl rfl rfl (by decide +kernel) ⟨Nat.le_of_ble_eq_true rfl, Nat.le_of_ble_eq_true rfl⟩) (mpV hK hP hD) rfl rfl hl.1 rfl (lv_room (Nat.le_of_ble_eq_true rfl)) dX12_have_17 ⟨Nat.le_of_ble_eq_true rfl, Nat.le_of_ble_eq_true rfl⟩) hS (fun q _ z => hFc q z) hFc (fun M6 t H1 locs ht hvm hw hB hz1 hk1 hS => ?_)
      obtain ⟨hP, hD⟩ := gs_back ht hFc hB
      generalize H1 = H at hP hS ⊢
      have h := hw
      try dsimp only at h
      refine lv_aload_n hx hb dX12_have_20 rfl (lv_at hl 0 rfl) ?_
      refine lv_aload_n hx hb dX12_have_21 rfl (lv_at hl 0 rfl) ?_
      refine va_get (D := (dC, dI)) (ci := 12) (v := .ref (ad 25)) (C := RX12) (T := TX12) (N := 37) hx hb hts hin hown hK hP 0 rfl rfl 25 (by decide) f1 (fun _ h9 => h9) rfl dX12_have_22 ?_
      refine lv_iconst (v := 5) hx hb dX12_have_25 (by decide) ?_
      refine wc_iald (j := 5) hx hb hK hP 12 1 (f := ma M6 25) rfl rfl (by decide) (by decide) (by decide) dX12_have_26 ?_
      refine lv_aload_n hx hb dX12_have_27 rfl (lv_at hl 0 rfl) ?_
      refine va_get (D := (dC, dI)) (ci := 12) (v := .ref (ad 25)) (C := RX12) (T := TX12) (N := 37) hx hb hts hin hown hK hP 0 rfl rfl 25 (by decide) f1 (fun _ h9 => h9) rfl dX12_have_28 ?_
      refine lv_bipush (v := (12)) hx hb dX12_have_31 (by decide) ?_
      refine wc_iald (j := 12) hx hb hK hP 12 1 (f := ma M6 25) rfl rfl (by decide) (by decide) (by decide) dX12_have_33 ?_
      refine lv_aload_n hx hb dX12_have_34 rfl (lv_at hl 0 rfl) ?_
      refine va_get (D := (dC, dI)) (ci := 12) (v := .ref (ad 25)) (C := RX12) (T := TX12) (N := 37) hx hb hts hin hown hK hP 0 rfl rfl 25 (by decide) f1 (fun _ h9 => h9) rfl dX12_have_35 ?_
      refine lv_bipush (v := (13)) hx hb dX12_have_38 (by decide) ?_
      refine wc_iald (j := 13) hx hb hK hP 12 1 (f := ma M6 25) rfl rfl (by decide) (by decide) (by decide) dX12_have_40 ?_
      have hFc := gs_free hD hS hA
      refine va_calli (va_runV (As := [.int (ma M6 25 5), .int (ma M6 25 12), .int (ma M6 25 13)]) (rest := []) ⟨hx, hb, hml, hown, hts⟩ (kX12_haver l dC dI cB cI cJ cZ h0 ad H.size (ma M6 25 5) (ma M6 25 12) (ma M6 25 13) M6 _ h) (cwV 3 hts gX12_have_X12_haver rfl rfl rfl (by decide +kernel) ⟨Nat.le_of_ble_eq_true rfl, Nat.le_of_ble_eq_true rfl⟩) (mpV hK hP hD) rfl rfl hl.1 rfl (lv_room (Nat.le_of_ble_eq_true rfl)) dX12_have_41 ⟨Nat.le_of_ble_eq_true rfl, Nat.le_of_ble_eq_true rfl⟩) hS (fun q _ z => hFc q z) hFc (fun r7 M8 t H1 locs ht hvm hw hB hz1 hk1 hS => ?_)
      obtain ⟨hP, hD⟩ := gs_back ht hFc hB
      generalize H1 = H at hP hS ⊢
      have h := hw
      try dsimp only at h
      exact W.iret (v := r7) hx hb hr (fun t ht hW => ⟨⟨_, M8, rfl, h, by rw [ht]; exact hP, va_K.moved hW.alike hK, hD⟩, hS.F ht⟩) hS.2.2 dX12_have_44
    · have h := h.1 c4
      refine lv_bipush (v := (-2)) hx hb dX12_have_7 (by decide) ?_
      exact W.iret (v := (-2 : Int32)) hx hb hr (fun t ht hW => ⟨⟨_, M2, rfl, h, by rw [ht]; exact hP, va_K.moved hW.alike hK, hD⟩, hS.F ht⟩) hS.2.2 dX12_have_9
  have hl := lv_entry ([.ref h0]) (n := 1) (Nat.le_of_ble_eq_true rfl)
  rw [lg_entry_eq]
  generalize (lg_sl ([.ref h0]) ++ List.replicate (1 - (lg_sl ([.ref h0])).length) Slot.unset).toArray = ls at hl ⊢
  have hl : lv_has ls 1 [(0, .ref h0)] := hl
  exact bE M s.heap [] ls hP hD hS hl h
def wX12_move_150 (B79 : Int32 → Int32 → Int32 → Int32 → Int32 → gS → Prop) (Q : Int32 → gS → Prop) (y2 : Int32) (y3 : Int32) (y4 : Int32) (y5 : Int32) (y6 : Int32) (M : gS) : Prop :=
 (∀ x1 : Int32, x1 = y6 + (1 : Int32) → (B79 y2 y3 y4 y5 x1 M))
def wX12_move_124 (B79 : Int32 → Int32 → Int32 → Int32 → Int32 → gS → Prop) (Q : Int32 → gS → Prop) (y2 : Int32) (y3 : Int32) (y4 : Int32) (y5 : Int32) (y6 : Int32) (z1 : Int32) (z0 : Int32) (M : gS) : Prop :=
 (∀ x1 : Int32, x1 = (z1 - z0) → ((x1 < 0 → (wX12_move_150 B79 Q y2 y3 y4 y5 y6 M))
 ∧ (¬ x1 < 0 → (wX12_can x1 y3 y2 y5 y6 M (fun (b5 : Bool) (M4 : gS) => (((bI b5) = 0 → (Q y6 M4))
 ∧ (¬ (bI b5) = 0 → (wX12_move_150 B79 Q y2 y3 y4 y5 y6 M4))))))))
def wX12_move_79  (Q : Int32 → gS → Prop) : Nat → Int32 → Int32 → Int32 → Int32 → Int32 → gS → Prop
 | 0, _, _, _, _, _, _ => False
 | n + 1, y2, y3, y4, y5, y6, M => (((ma M 25 1) ≤ y6 → (wX12_canThrow  M (fun (b4 : Bool) (M3 : gS) => (((bI b4) = 0 → (Q (-1 : Int32) M3))
 ∧ (¬ (bI b4) = 0 → (wX12_can ((ma M3 25 5) + (ma M3 25 4)) (y2 - (1 : Int32)) y3 y4 y5 M3 (fun (b8 : Bool) (M7 : gS) => (((bI b8) = 0 → (Q (-1 : Int32) M7))
 ∧ (¬ (bI b8) = 0 → (Q (4 : Int32) M7))))))))))
 ∧ (¬ (ma M 25 1) ≤ y6 → (vp_in ((28 : Int32) + y6) 44 ∧ ((y6 = y4 → (wX12_move_124 (fun (y2 : Int32) (y3 : Int32) (y4 : Int32) (y5 : Int32) (y6 : Int32) (M : gS) => wX12_move_79  Q n y2 y3 y4 y5 y6 M) Q y2 y3 y4 y5 y6 ((ma M 25 5) - (ma M 25 (Int32.toNatClampNeg ((28 : Int32) + y6)))) (ma M 25 2) M))
 ∧ (¬ y6 = y4 → (wX12_move_124 (fun (y2 : Int32) (y3 : Int32) (y4 : Int32) (y5 : Int32) (y6 : Int32) (M : gS) => wX12_move_79  Q n y2 y3 y4 y5 y6 M) Q y2 y3 y4 y5 y6 ((ma M 25 5) - (ma M 25 (Int32.toNatClampNeg ((28 : Int32) + y6)))) (0 : Int32) M))))))
def wX12_move  (M : gS) (Q : Int32 → gS → Prop) : Prop :=
 (wX12_goesOn  M (fun (b3 : Bool) (M2 : gS) => (((bI b3) = 0 → (Q (-2 : Int32) M2))
 ∧ (¬ (bI b3) = 0 → (wX12_fillsTable (ma M2 25 4) M2 (fun (M6 : gS) => (∀ x7 : Int32, x7 = (ma M6 25 6) → (vp_in ((12 : Int32) + x7) 44 ∧ (∀ x8 : Int32, x8 = (ma M6 25 (Int32.toNatClampNeg ((12 : Int32) + x7))) → (vp_in ((13 : Int32) - x7) 44 ∧ (∀ x9 : Int32, x9 = (ma M6 25 (Int32.toNatClampNeg ((13 : Int32) - x7))) → (vp_in ((14 : Int32) + x7) 44 ∧ (wX12_lastAs (ma M6 25 (Int32.toNatClampNeg ((14 : Int32) + x7))) M6 (fun (r10 : Int32) (M11 : gS) => (vp_in ((15 : Int32) - x7) 44 ∧ (wX12_lastAs (ma M11 25 (Int32.toNatClampNeg ((15 : Int32) - x7))) M11 (fun (r12 : Int32) (M13 : gS) => (∃ k79 : Nat, wX12_move_79  Q k79 x8 x9 r10 r12 (0 : Int32) M13))))))))))))))))))
def rmX12_move : Room := { frames := 5, cells := 0, slots := 0, locals := 126 }
set_option maxHeartbeats 4000000 in
set_option maxRecDepth 100000 in
theorem kX12_move (l : Launch) (dC : Nat → ClassId) (dI : Nat → Nat → Nat) (cB cI cJ cZ : ClassId) (h0 : Nat) (ad : Nat → Nat) (sz : Nat)  (M : gS) (Q : Int32 → gS → Prop) (h : wX12_move  M Q) : Met l yX12_move wsX12_move rmX12_move (va_Pc [.ref h0] (mI dC dI cB cI cJ cZ h0 ad M sz)) (va_Qi (fun (r : Int32) (u : gS) => Q r u) (mB dC dI cB cI cJ cZ h0 ad (va_A (mW cB cI cJ cZ h0 ad M) sz)) (va_A (mW cB cI cJ cZ h0 ad M) sz)) 0 0 (va_A (mW cB cI cJ cZ h0 ad M) sz) := by
  refine Met.ofW (cc := cX12_move) (maxL := 8) (ret := (some .int)) (by decide) rfl ?_
  intro p e s m args below meth c s₁ B hml hv
  obtain ⟨rfl, hsz, hP, hK, hD0⟩ := hv
  have hx := B.exec
  have hb := B.bytes
  have hr := B.returns
  have hts := atoms_spec (ws := wsX12_move) B.pre
  have hown : s.vm.findClass RX12 = some m.cls := findClass_of_methodNamed B.named
  have hlocks := B.notSynchronized
  subst hsz
  have hD := hD0.self (sz := s.heap.size)
  generalize hAe : va_A (mW cB cI cJ cZ h0 ad M) s.heap.size = A at hD ⊢
  have hA : ∀ q : Nat, s.heap.size ≤ q → A q := fun q h => by rw [← hAe]; exact Or.inr h
  have hS : va_S A s.heap s.heap [] := va_S.rf
  have hin : ∀ w ∈ wsX120, w ∈ wsX12_move := fun w h => List.mem_cons_of_mem _ (List.mem_append_right _ h)
  have f1 := hts (.fieldLink RX12 45 "LastWordsModel" "said" "[I") (by decide +kernel)
  have b150 : ∀ (B79 : Int32 → Int32 → Int32 → Int32 → Int32 → gS → Prop) (hB79 : ∀ (y2 : Int32) (y3 : Int32) (y4 : Int32) (y5 : Int32) (y6 : Int32) (M : gS) (H : Heap) (locs : List Loc) (ls : Array Slot), va_P (dC, dI) vwCl (mW cB cI cJ cZ h0 ad M) H → va_D A (mW cB cI cJ cZ h0 ad M) → va_S A s.heap H locs → lv_has ls 8 [(0, .ref h0), (2, .int y2), (3, .int y3), (4, .int y4), (5, .int y5), (6, .int y6)] → B79 y2 y3 y4 y5 y6 M → W p l e (headSpec wsX12_move rmX12_move).room s m ([.ref h0] : List Value).toArray below meth c H locs 0 0 (MQ below (va_Qi (fun (r : Int32) (u : gS) => Q r u) (mB dC dI cB cI cJ cZ h0 ad A) A) ([.ref h0] : List Value).toArray s 0 0 A) (F0 m 79 ls [])) (y2 : Int32) (y3 : Int32) (y4 : Int32) (y5 : Int32) (y6 : Int32) (M : gS) (H : Heap) (locs : List Loc) (ls : Array Slot), va_P (dC, dI) vwCl (mW cB cI cJ cZ h0 ad M) H → va_D A (mW cB cI cJ cZ h0 ad M) → va_S A s.heap H locs → lv_has ls 8 [(0, .ref h0), (2, .int y2), (3, .int y3), (4, .int y4), (5, .int y5), (6, .int y6)] → wX12_move_150 B79 Q y2 y3 y4 y5 y6 M → W p l e (headSpec wsX12_move rmX12_move).room s m ([.ref h0] : List Value).toArray below meth c H locs 0 0 (MQ below (va_Qi (fun (r : Int32) (u : gS) => Q r u) (mB dC dI cB cI cJ cZ h0 ad A) A) ([.ref h0] : List Value).toArray s 0 0 A) (F0 m 150 ls []) := by
    intro B79 hB79 y2 y3 y4 y5 y6 M H locs ls hP hD hS hl h
    unfold wX12_move_150 at h
    obtain ⟨x1, ex1⟩ : ∃ y : Int32, y = y6 + (1 : Int32) := ⟨_, rfl⟩
    have h := h x1 ex1
    refine lv_iinc (v := x1) (lv' := [(6, .int x1), (0, .ref h0), (2, .int y2), (3, .int y3), (4, .int y4), (5, .int y5)]) hx hb dX12_move_150 hl (k := 5) rfl (by rw [ex1]; rfl) (by decide) rfl (fun ls hl => ?_)
    refine lv_goto (tgt := 79) hx hb dX12_move_153 (by decide) ?_
    exact hB79 y2 y3 y4 y5 x1 M H locs ls hP hD hS (lv_sub hl [1, 2, 3, 4, 5, 0] rfl) h
  have b124 : ∀ (B79 : Int32 → Int32 → Int32 → Int32 → Int32 → gS → Prop) (hB79 : ∀ (y2 : Int32) (y3 : Int32) (y4 : Int32) (y5 : Int32) (y6 : Int32) (M : gS) (H : Heap) (locs : List Loc) (ls : Array Slot), va_P (dC, dI) vwCl (mW cB cI cJ cZ h0 ad M) H → va_D A (mW cB cI cJ cZ h0 ad M) → va_S A s.heap H locs → lv_has ls 8 [(0, .ref h0), (2, .int y2), (3, .int y3), (4, .int y4), (5, .int y5), (6, .int y6)] → B79 y2 y3 y4 y5 y6 M → W p l e (headSpec wsX12_move rmX12_move).room s m ([.ref h0] : List Value).toArray below meth c H locs 0 0 (MQ below (va_Qi (fun (r : Int32) (u : gS) => Q r u) (mB dC dI cB cI cJ cZ h0 ad A) A) ([.ref h0] : List Value).toArray s 0 0 A) (F0 m 79 ls [])) (y2 : Int32) (y3 : Int32) (y4 : Int32) (y5 : Int32) (y6 : Int32) (z1 : Int32) (z0 : Int32) (M : gS) (H : Heap) (locs : List Loc) (ls : Array Slot), va_P (dC, dI) vwCl (mW cB cI cJ cZ h0 ad M) H → va_D A (mW cB cI cJ cZ h0 ad M) → va_S A s.heap H locs → lv_has ls 8 [(0, .ref h0), (2, .int y2), (3, .int y3), (4, .int y4), (5, .int y5), (6, .int y6)] → wX12_move_124 B79 Q y2 y3 y4 y5 y6 z1 z0 M → W p l e (headSpec wsX12_move rmX12_move).room s m ([.ref h0] : List Value).toArray below meth c H locs 0 0 (MQ below (va_Qi (fun (r : Int32) (u : gS) => Q r u) (mB dC dI cB cI cJ cZ h0 ad A) A) ([.ref h0] : List Value).toArray s 0 0 A) (F0 m 124 ls [.int z0, .int z1]) := by
    intro B79 hB79 y2 y3 y4 y5 y6 z1 z0 M H locs ls hP hD hS hl h
    unfold wX12_move_124 at h
    refine lv_isub hx hb dX12_move_124 ?_
    refine lv_topi (fun x1 ex1 => ?_)
    have h := h x1 ex1
    refine lv_istore (lv' := [(7, .int x1), (0, .ref h0), (2, .int y2), (3, .int y3), (4, .int y4), (5, .int y5), (6, .int y6)]) hx hb dX12_move_125 hl (by decide) rfl (fun ls hl => ?_)
    refine lv_iload hx hb dX12_move_127 (lv_at hl 0 rfl) ?_
    refine lv_if_lt (tgt := 150) hx hb dX12_move_129 (by decide) (fun c2 => ?_) (fun c2 => ?_)
    · have h := h.1 c2
      exact b150 _ hB79 y2 y3 y4 y5 y6 M H locs ls hP hD hS (lv_sub hl [1, 2, 3, 4, 5, 6] rfl) h
    · have h := h.2 c2
      refine lv_aload_n hx hb dX12_move_132 rfl (lv_at hl 1 rfl) ?_
      refine lv_iload hx hb dX12_move_133 (lv_at hl 0 rfl) ?_
      refine lv_iload_n hx hb dX12_move_135 rfl (lv_at hl 3 rfl) ?_
      refine lv_iload_n hx hb dX12_move_136 rfl (lv_at hl 2 rfl) ?_
      refine lv_iload hx hb dX12_move_137 (lv_at hl 5 rfl) ?_
      refine lv_iload hx hb dX12_move_139 (lv_at hl 6 rfl) ?_
      have hFc := gs_free hD hS hA
      refine va_calli (va_runV (As := [.int x1, .int y3, .int y2, .int y5, .int y6]) (rest := []) ⟨hx, hb, hml, hown, hts⟩ (kX12_can l dC dI cB cI cJ cZ h0 ad H.size x1 y3 y2 y5 y6 M _ h) (cwV 5 hts gX12_move_X12_can rfl rfl rfl (by decide +kernel) ⟨Nat.le_of_ble_eq_true rfl, Nat.le_of_ble_eq_true rfl⟩) (mpV hK hP hD) rfl rfl hl.1 rfl (lv_room (Nat.le_of_ble_eq_true rfl)) dX12_move_141 ⟨Nat.le_of_ble_eq_true rfl, Nat.le_of_ble_eq_true rfl⟩) hS (fun q _ z => hFc q z) hFc (fun r3 M4 t H1 locs ht hvm hw hB hz1 hk1 hS => ?_)
      obtain ⟨hP, hD⟩ := gs_back ht hFc hB
      generalize H1 = H at hP hS ⊢
      obtain ⟨b5, rfl, h⟩ := hw
      try dsimp only at h
      refine lv_if_ne (tgt := 150) hx hb dX12_move_144 (by decide) (fun c6 => ?_) (fun c6 => ?_)
      · have h := h.2 c6
        exact b150 _ hB79 y2 y3 y4 y5 y6 M4 H locs ls hP hD hS (lv_sub hl [1, 2, 3, 4, 5, 6] rfl) h
      · have h := h.1 c6
        refine lv_iload hx hb dX12_move_147 (lv_at hl 6 rfl) ?_
        exact W.iret (v := y6) hx hb hr (fun t ht hW => ⟨⟨_, M4, rfl, h, by rw [ht]; exact hP, va_K.moved hW.alike hK, hD⟩, hS.F ht⟩) hS.2.2 dX12_move_149
  have b79 : ∀ (n : Nat) (y2 : Int32) (y3 : Int32) (y4 : Int32) (y5 : Int32) (y6 : Int32) (M : gS) (H : Heap) (locs : List Loc) (ls : Array Slot), va_P (dC, dI) vwCl (mW cB cI cJ cZ h0 ad M) H → va_D A (mW cB cI cJ cZ h0 ad M) → va_S A s.heap H locs → lv_has ls 8 [(0, .ref h0), (2, .int y2), (3, .int y3), (4, .int y4), (5, .int y5), (6, .int y6)] → wX12_move_79  Q n y2 y3 y4 y5 y6 M → W p l e (headSpec wsX12_move rmX12_move).room s m ([.ref h0] : List Value).toArray below meth c H locs 0 0 (MQ below (va_Qi (fun (r : Int32) (u : gS) => Q r u) (mB dC dI cB cI cJ cZ h0 ad A) A) ([.ref h0] : List Value).toArray s 0 0 A) (F0 m 79 ls []) := by
    intro  n
    induction n with
    | zero => intro y2 y3 y4 y5 y6 M H locs ls hP hD hS hl h; exact absurd h (by simp [wX12_move_79])
    | succ n hB790 =>
      intro y2 y3 y4 y5 y6 M H locs ls hP hD hS hl h
      have hB79 := hB790
      rw [wX12_move_79] at h
      refine lv_iload hx hb dX12_move_79 (lv_at hl 5 rfl) ?_
      refine lv_aload_n hx hb dX12_move_81 rfl (lv_at hl 0 rfl) ?_
      refine va_get (D := (dC, dI)) (ci := 12) (v := .ref (ad 25)) (C := RX12) (T := TX12) (N := 37) hx hb hts hin hown hK hP 0 rfl rfl 25 (by decide) f1 (fun _ h9 => h9) rfl dX12_move_82 ?_
      refine lv_iconst (v := 1) hx hb dX12_move_85 (by decide) ?_
      refine wc_iald (j := 1) hx hb hK hP 12 1 (f := ma M 25) rfl rfl (by decide) (by decide) (by decide) dX12_move_86 ?_
      refine lv_icmp_ge (tgt := 156) hx hb dX12_move_87 (by decide) (fun c1 => ?_) (fun c1 => ?_)
      · have h := h.1 c1
        refine lv_aload_n hx hb dX12_move_156 rfl (lv_at hl 0 rfl) ?_
        have hFc := gs_free hD hS hA
        refine va_calli (va_runV (As := []) (rest := []) ⟨hx, hb, hml, hown, hts⟩ (kX12_canThrow l dC dI cB cI cJ cZ h0 ad H.size  M _ h) (cwV 0 hts gX12_move_X12_canThrow rfl rfl rfl (by decide +kernel) ⟨Nat.le_of_ble_eq_true rfl, Nat.le_of_ble_eq_true rfl⟩) (mpV hK hP hD) rfl rfl hl.1 rfl (lv_room (Nat.le_of_ble_eq_true rfl)) dX12_move_157 ⟨Nat.le_of_ble_eq_true rfl, Nat.le_of_ble_eq_true rfl⟩) hS (fun q _ z => hFc q z) hFc (fun r2 M3 t H1 locs ht hvm hw hB hz1 hk1 hS => ?_)
        obtain ⟨hP, hD⟩ := gs_back ht hFc hB
        generalize H1 = H at hP hS ⊢
        obtain ⟨b4, rfl, h⟩ := hw
        try dsimp only at h
        refine lv_if_eq (tgt := 195) hx hb dX12_move_160 (by decide) (fun c5 => ?_) (fun c5 => ?_)
        · have h := h.1 c5
          refine lv_iconst (v := (-1)) hx hb dX12_move_195 (by decide) ?_
          exact W.iret (v := (-1 : Int32)) hx hb hr (fun t ht hW => ⟨⟨_, M3, rfl, h, by rw [ht]; exact hP, va_K.moved hW.alike hK, hD⟩, hS.F ht⟩) hS.2.2 dX12_move_196
        · have h := h.2 c5
          refine lv_aload_n hx hb dX12_move_163 rfl (lv_at hl 0 rfl) ?_
          refine lv_aload_n hx hb dX12_move_164 rfl (lv_at hl 0 rfl) ?_
          refine va_get (D := (dC, dI)) (ci := 12) (v := .ref (ad 25)) (C := RX12) (T := TX12) (N := 37) hx hb hts hin hown hK hP 0 rfl rfl 25 (by decide) f1 (fun _ h9 => h9) rfl dX12_move_165 ?_
          refine lv_iconst (v := 5) hx hb dX12_move_168 (by decide) ?_
          refine wc_iald (j := 5) hx hb hK hP 12 1 (f := ma M3 25) rfl rfl (by decide) (by decide) (by decide) dX12_move_169 ?_
          refine lv_aload_n hx hb dX12_move_170 rfl (lv_at hl 0 rfl) ?_
          refine va_get (D := (dC, dI)) (ci := 12) (v := .ref (ad 25)) (C := RX12) (T := TX12) (N := 37) hx hb hts hin hown hK hP 0 rfl rfl 25 (by decide) f1 (fun _ h9 => h9) rfl dX12_move_171 ?_
          refine lv_iconst (v := 4) hx hb dX12_move_174 (by decide) ?_
          refine wc_iald (j := 4) hx hb hK hP 12 1 (f := ma M3 25) rfl rfl (by decide) (by decide) (by decide) dX12_move_175 ?_
          refine lv_iadd hx hb dX12_move_176 ?_
          refine lv_iload_n hx hb dX12_move_177 rfl (lv_at hl 1 rfl) ?_
          refine lv_iconst (v := 1) hx hb dX12_move_178 (by decide) ?_
          refine lv_isub hx hb dX12_move_179 ?_
          refine lv_iload_n hx hb dX12_move_180 rfl (lv_at hl 2 rfl) ?_
          refine lv_iload hx hb dX12_move_181 (lv_at hl 3 rfl) ?_
          refine lv_iload hx hb dX12_move_183 (lv_at hl 4 rfl) ?_
          have hFc := gs_free hD hS hA
          refine va_calli (va_runV (As := [.int ((ma M3 25 5) + (ma M3 25 4)), .int (y2 - (1 : Int32)), .int y3, .int y4, .int y5]) (rest := []) ⟨hx, hb, hml, hown, hts⟩ (kX12_can l dC dI cB cI cJ cZ h0 ad H.size ((ma M3 25 5) + (ma M3 25 4)) (y2 - (1 : Int32)) y3 y4 y5 M3 _ h) (cwV 5 hts gX12_move_X12_can rfl rfl rfl (by decide +kernel) ⟨Nat.le_of_ble_eq_true rfl, Nat.le_of_ble_eq_true rfl⟩) (mpV hK hP hD) rfl rfl hl.1 rfl (lv_room (Nat.le_of_ble_eq_true rfl)) dX12_move_185 ⟨Nat.le_of_ble_eq_true rfl, Nat.le_of_ble_eq_true rfl⟩) hS (fun q _ z => hFc q z) hFc (fun r6 M7 t H1 locs ht hvm hw hB hz1 hk1 hS => ?_)
          obtain ⟨hP, hD⟩ := gs_back ht hFc hB
          generalize H1 = H at hP hS ⊢
          obtain ⟨b8, rfl, h⟩ := hw
          try dsimp only at h
          refine lv_if_eq (tgt := 195) hx hb dX12_move_188 (by decide) (fun c9 => ?_) (fun c9 => ?_)
          · have h := h.1 c9
            refine lv_iconst (v := (-1)) hx hb dX12_move_195 (by decide) ?_
            exact W.iret (v := (-1 : Int32)) hx hb hr (fun t ht hW => ⟨⟨_, M7, rfl, h, by rw [ht]; exact hP, va_K.moved hW.alike hK, hD⟩, hS.F ht⟩) hS.2.2 dX12_move_196
          · have h := h.2 c9
            refine lv_iconst (v := 4) hx hb dX12_move_191 (by decide) ?_
            refine lv_goto (tgt := 196) hx hb dX12_move_192 (by decide) ?_
            exact W.iret (v := (4 : Int32)) hx hb hr (fun t ht hW => ⟨⟨_, M7, rfl, h, by rw [ht]; exact hP, va_K.moved hW.alike hK, hD⟩, hS.F ht⟩) hS.2.2 dX12_move_196
      · have h := h.2 c1
        refine lv_aload_n hx hb dX12_move_90 rfl (lv_at hl 0 rfl) ?_
        refine va_get (D := (dC, dI)) (ci := 12) (v := .ref (ad 25)) (C := RX12) (T := TX12) (N := 37) hx hb hts hin hown hK hP 0 rfl rfl 25 (by decide) f1 (fun _ h9 => h9) rfl dX12_move_91 ?_
        refine lv_iconst (v := 5) hx hb dX12_move_94 (by decide) ?_
        refine wc_iald (j := 5) hx hb hK hP 12 1 (f := ma M 25) rfl rfl (by decide) (by decide) (by decide) dX12_move_95 ?_
        refine lv_aload_n hx hb dX12_move_96 rfl (lv_at hl 0 rfl) ?_
        refine va_get (D := (dC, dI)) (ci := 12) (v := .ref (ad 25)) (C := RX12) (T := TX12) (N := 37) hx hb hts hin hown hK hP 0 rfl rfl 25 (by decide) f1 (fun _ h9 => h9) rfl dX12_move_97 ?_
        refine lv_bipush (v := (28)) hx hb dX12_move_100 (by decide) ?_
        refine lv_iload hx hb dX12_move_102 (lv_at hl 5 rfl) ?_
        refine lv_iadd hx hb dX12_move_104 ?_
        refine va_iald hx hb hK hP 12 1 (f := ma M 25) rfl rfl h.1 dX12_move_105 ?_
        have h := h.2
        refine lv_isub hx hb dX12_move_106 ?_
        refine lv_iload hx hb dX12_move_107 (lv_at hl 5 rfl) ?_
        refine lv_iload hx hb dX12_move_109 (lv_at hl 3 rfl) ?_
        refine lv_icmp_ne (tgt := 123) hx hb dX12_move_111 (by decide) (fun c10 => ?_) (fun c10 => ?_)
        · have h := h.2 c10
          refine lv_iconst (v := 0) hx hb dX12_move_123 (by decide) ?_
          exact b124 _ hB79 y2 y3 y4 y5 y6 ((ma M 25 5) - (ma M 25 (Int32.toNatClampNeg ((28 : Int32) + y6)))) (0 : Int32) M H locs ls hP hD hS (lv_sub hl [0, 1, 2, 3, 4, 5] rfl) h
        · have h := h.1 c10
          refine lv_aload_n hx hb dX12_move_114 rfl (lv_at hl 0 rfl) ?_
          refine va_get (D := (dC, dI)) (ci := 12) (v := .ref (ad 25)) (C := RX12) (T := TX12) (N := 37) hx hb hts hin hown hK hP 0 rfl rfl 25 (by decide) f1 (fun _ h9 => h9) rfl dX12_move_115 ?_
          refine lv_iconst (v := 2) hx hb dX12_move_118 (by decide) ?_
          refine wc_iald (j := 2) hx hb hK hP 12 1 (f := ma M 25) rfl rfl (by decide) (by decide) (by decide) dX12_move_119 ?_
          refine lv_goto (tgt := 124) hx hb dX12_move_120 (by decide) ?_
          exact b124 _ hB79 y2 y3 y4 y5 y6 ((ma M 25 5) - (ma M 25 (Int32.toNatClampNeg ((28 : Int32) + y6)))) (ma M 25 2) M H locs ls hP hD hS (lv_sub hl [0, 1, 2, 3, 4, 5] rfl) h
  have bE : ∀ (M : gS) (H : Heap) (locs : List Loc) (ls : Array Slot), va_P (dC, dI) vwCl (mW cB cI cJ cZ h0 ad M) H → va_D A (mW cB cI cJ cZ h0 ad M) → va_S A s.heap H locs → lv_has ls 8 [(0, .ref h0)] → wX12_move  M Q → W p l e (headSpec wsX12_move rmX12_move).room s m ([.ref h0] : List Value).toArray below meth c H locs 0 0 (MQ below (va_Qi (fun (r : Int32) (u : gS) => Q r u) (mB dC dI cB cI cJ cZ h0 ad A) A) ([.ref h0] : List Value).toArray s 0 0 A) (F0 m 0 ls []) := by
    intro M H locs ls hP hD hS hl h
    unfold wX12_move at h
    refine lv_aload_n hx hb dX12_move_0 rfl (lv_at hl 0 rfl) ?_
    have hFc := gs_free hD hS hA
    refine va_calli (va_runV (As := []) (rest := []) ⟨hx, hb, hml, hown, hts⟩ (kX12_goesOn l dC dI cB cI cJ cZ h0 ad H.size  M _ h) (cwV 0 hts gX12_move_X12_goesOn rfl rfl rfl (by decide +kernel) ⟨Nat.le_of_ble_eq_true rfl, Nat.le_of_ble_eq_true rfl⟩) (mpV hK hP hD) rfl rfl hl.1 rfl (lv_room (Nat.le_of_ble_eq_true rfl)) dX12_move_1 ⟨Nat.le_of_ble_eq_true rfl, Nat.le_of_ble_eq_true rfl⟩) hS (fun q _ z => hFc q z) hFc (fun r1 M2 t H1 locs ht hvm hw hB hz1 hk1 hS => ?_)
    obtain ⟨hP, hD⟩ := gs_back ht hFc hB
    generalize H1 = H at hP hS ⊢
    obtain ⟨b3, rfl, h⟩ := hw
    try dsimp only at h
    refine lv_if_ne (tgt := 10) hx hb dX12_move_4 (by decide) (fun c4 => ?_) (fun c4 => ?_)
    · have h := h.2 c4
      refine lv_aload_n hx hb dX12_move_10 rfl (lv_at hl 0 rfl) ?_
      refine lv_aload_n hx hb dX12_move_11 rfl (lv_at hl 0 rfl) ?_
      refine va_get (D := (dC, dI)) (ci := 12) (v := .ref (ad 25)) (C := RX12) (T := TX12) (N := 37) hx hb hts hin hown hK hP 0 rfl rfl 25 (by decide) f1 (fun _ h9 => h9) rfl dX12_move_12 ?_
      refine lv_iconst (v := 4) hx hb dX12_move_15 (by decide) ?_
      refine wc_iald (j := 4) hx hb hK hP 12 1 (f := ma M2 25) rfl rfl (by decide) (by decide) (by decide) dX12_move_16 ?_
      have hFc := gs_free hD hS hA
      refine va_callv (va_runV (As := [.int (ma M2 25 4)]) (rest := []) ⟨hx, hb, hml, hown, hts⟩ (kX12_fillsTable l dC dI cB cI cJ cZ h0 ad H.size (ma M2 25 4) M2 _ h) (cwV 1 hts gX12_move_X12_fillsTable rfl rfl rfl (by decide +kernel) ⟨Nat.le_of_ble_eq_true rfl, Nat.le_of_ble_eq_true rfl⟩) (mpV hK hP hD) rfl rfl hl.1 rfl (lv_room (Nat.le_of_ble_eq_true rfl)) dX12_move_17 ⟨Nat.le_of_ble_eq_true rfl, Nat.le_of_ble_eq_true rfl⟩) hS (fun q _ z => hFc q z) hFc (fun M6 t H1 locs ht hvm hw hB hz1 hk1 hS => ?_)
      obtain ⟨hP, hD⟩ := gs_back ht hFc hB
      generalize H1 = H at hP hS ⊢
      have h := hw
      try dsimp only at h
      refine lv_aload_n hx hb dX12_move_20 rfl (lv_at hl 0 rfl) ?_
      refine va_get (D := (dC, dI)) (ci := 12) (v := .ref (ad 25)) (C := RX12) (T := TX12) (N := 37) hx hb hts hin hown hK hP 0 rfl rfl 25 (by decide) f1 (fun _ h9 => h9) rfl dX12_move_21 ?_
      refine lv_bipush (v := (6)) hx hb dX12_move_24 (by decide) ?_
      refine wc_iald (j := 6) hx hb hK hP 12 1 (f := ma M6 25) rfl rfl (by decide) (by decide) (by decide) dX12_move_26 ?_
      refine lv_topi (fun x7 ex7 => ?_)
      have h := h x7 ex7
      refine lv_istore_n (lv' := [(1, .int x7), (0, .ref h0)]) hx hb dX12_move_27 rfl hl (by decide) rfl (fun ls hl => ?_)
      refine lv_aload_n hx hb dX12_move_28 rfl (lv_at hl 1 rfl) ?_
      refine va_get (D := (dC, dI)) (ci := 12) (v := .ref (ad 25)) (C := RX12) (T := TX12) (N := 37) hx hb hts hin hown hK hP 0 rfl rfl 25 (by decide) f1 (fun _ h9 => h9) rfl dX12_move_29 ?_
      refine lv_bipush (v := (12)) hx hb dX12_move_32 (by decide) ?_
      refine lv_iload_n hx hb dX12_move_34 rfl (lv_at hl 0 rfl) ?_
      refine lv_iadd hx hb dX12_move_35 ?_
      refine va_iald hx hb hK hP 12 1 (f := ma M6 25) rfl rfl h.1 dX12_move_36 ?_
      have h := h.2
      refine lv_topi (fun x8 ex8 => ?_)
      have h := h x8 ex8
      refine lv_istore_n (lv' := [(2, .int x8), (1, .int x7), (0, .ref h0)]) hx hb dX12_move_37 rfl hl (by decide) rfl (fun ls hl => ?_)
      refine lv_aload_n hx hb dX12_move_38 rfl (lv_at hl 2 rfl) ?_
      refine va_get (D := (dC, dI)) (ci := 12) (v := .ref (ad 25)) (C := RX12) (T := TX12) (N := 37) hx hb hts hin hown hK hP 0 rfl rfl 25 (by decide) f1 (fun _ h9 => h9) rfl dX12_move_39 ?_
      refine lv_bipush (v := (13)) hx hb dX12_move_42 (by decide) ?_
      refine lv_iload_n hx hb dX12_move_44 rfl (lv_at hl 1 rfl) ?_
      refine lv_isub hx hb dX12_move_45 ?_
      refine va_iald hx hb hK hP 12 1 (f := ma M6 25) rfl rfl h.1 dX12_move_46 ?_
      have h := h.2
      refine lv_topi (fun x9 ex9 => ?_)
      have h := h x9 ex9
      refine lv_istore_n (lv' := [(3, .int x9), (2, .int x8), (1, .int x7), (0, .ref h0)]) hx hb dX12_move_47 rfl hl (by decide) rfl (fun ls hl => ?_)
      refine lv_aload_n hx hb dX12_move_48 rfl (lv_at hl 3 rfl) ?_
      refine va_get (D := (dC, dI)) (ci := 12) (v := .ref (ad 25)) (C := RX12) (T := TX12) (N := 37) hx hb hts hin hown hK hP 0 rfl rfl 25 (by decide) f1 (fun _ h9 => h9) rfl dX12_move_49 ?_
      refine lv_bipush (v := (14)) hx hb dX12_move_52 (by decide) ?_
      refine lv_iload_n hx hb dX12_move_54 rfl (lv_at hl 2 rfl) ?_
      refine lv_iadd hx hb dX12_move_55 ?_
      refine va_iald hx hb hK hP 12 1 (f := ma M6 25) rfl rfl h.1 dX12_move_56 ?_
      have h := h.2
      have hFc := gs_free hD hS hA
      refine va_calli (va_runS (As := [.int (ma M6 25 (Int32.toNatClampNeg ((14 : Int32) + x7)))]) (rest := []) ⟨hx, hb, hml, hown, hts⟩ (kX12_lastAs l dC dI cB cI cJ cZ h0 ad H.size (ma M6 25 (Int32.toNatClampNeg ((14 : Int32) + x7))) M6 _ h) (cwS 1 hts gX12_move_X12_lastAs rfl rfl rfl (by decide +kernel) ⟨Nat.le_of_ble_eq_true rfl, Nat.le_of_ble_eq_true rfl⟩) (mpS hK hP hD) rfl rfl hl.1 rfl (lv_room (Nat.le_of_ble_eq_true rfl)) dX12_move_57 ⟨Nat.le_of_ble_eq_true rfl, Nat.le_of_ble_eq_true rfl⟩) hS (fun q _ z => hFc q z) hFc (fun r10 M11 t H1 locs ht hvm hw hB hz1 hk1 hS => ?_)
      obtain ⟨hP, hD⟩ := gs_back ht hFc hB
      generalize H1 = H at hP hS ⊢
      have h := hw
      try dsimp only at h
      refine lv_istore (lv' := [(4, .int r10), (3, .int x9), (2, .int x8), (1, .int x7), (0, .ref h0)]) hx hb dX12_move_60 hl (by decide) rfl (fun ls hl => ?_)
      refine lv_aload_n hx hb dX12_move_62 rfl (lv_at hl 4 rfl) ?_
      refine va_get (D := (dC, dI)) (ci := 12) (v := .ref (ad 25)) (C := RX12) (T := TX12) (N := 37) hx hb hts hin hown hK hP 0 rfl rfl 25 (by decide) f1 (fun _ h9 => h9) rfl dX12_move_63 ?_
      refine lv_bipush (v := (15)) hx hb dX12_move_66 (by decide) ?_
      refine lv_iload_n hx hb dX12_move_68 rfl (lv_at hl 3 rfl) ?_
      refine lv_isub hx hb dX12_move_69 ?_
      refine va_iald hx hb hK hP 12 1 (f := ma M11 25) rfl rfl h.1 dX12_move_70 ?_
      have h := h.2
      have hFc := gs_free hD hS hA
      refine va_calli (va_runS (As := [.int (ma M11 25 (Int32.toNatClampNeg ((15 : Int32) - x7)))]) (rest := []) ⟨hx, hb, hml, hown, hts⟩ (kX12_lastAs l dC dI cB cI cJ cZ h0 ad H.size (ma M11 25 (Int32.toNatClampNeg ((15 : Int32) - x7))) M11 _ h) (cwS 1 hts gX12_move_X12_lastAs rfl rfl rfl (by decide +kernel) ⟨Nat.le_of_ble_eq_true rfl, Nat.le_of_ble_eq_true rfl⟩) (mpS hK hP hD) rfl rfl hl.1 rfl (lv_room (Nat.le_of_ble_eq_true rfl)) dX12_move_71 ⟨Nat.le_of_ble_eq_true rfl, Nat.le_of_ble_eq_true rfl⟩) hS (fun q _ z => hFc q z) hFc (fun r12 M13 t H1 locs ht hvm hw hB hz1 hk1 hS => ?_)
      obtain ⟨hP, hD⟩ := gs_back ht hFc hB
      generalize H1 = H at hP hS ⊢
      have h := hw
      try dsimp only at h
      refine lv_istore (lv' := [(5, .int r12), (4, .int r10), (3, .int x9), (2, .int x8), (1, .int x7), (0, .ref h0)]) hx hb dX12_move_74 hl (by decide) rfl (fun ls hl => ?_)
      refine lv_iconst (v := 0) hx hb dX12_move_76 (by decide) ?_
      refine lv_istore (lv' := [(6, .int (0 : Int32)), (5, .int r12), (4, .int r10), (3, .int x9), (2, .int x8), (1, .int x7), (0, .ref h0)]) hx hb dX12_move_77 hl (by decide) rfl (fun ls hl => ?_)
      obtain ⟨n9, h⟩ := h
      exact b79  n9 x8 x9 r10 r12 (0 : Int32) M13 H locs ls hP hD hS (lv_sub hl [6, 4, 3, 2, 1, 0] rfl) h
    · have h := h.1 c4
      refine lv_bipush (v := (-2)) hx hb dX12_move_7 (by decide) ?_
      exact W.iret (v := (-2 : Int32)) hx hb hr (fun t ht hW => ⟨⟨_, M2, rfl, h, by rw [ht]; exact hP, va_K.moved hW.alike hK, hD⟩, hS.F ht⟩) hS.2.2 dX12_move_9
  have hl := lv_entry ([.ref h0]) (n := 8) (Nat.le_of_ble_eq_true rfl)
  rw [lg_entry_eq]
  generalize (lg_sl ([.ref h0]) ++ List.replicate (8 - (lg_sl ([.ref h0])).length) Slot.unset).toArray = ls at hl ⊢
  have hl : lv_has ls 8 [(0, .ref h0)] := hl
  exact bE M s.heap [] ls hP hD hS hl h
def wX12_haverIf_38  (Q : Int32 → gS → Prop) (z2 : Int32) (z1 : Int32) (z0 : Int32) (M : gS) : Prop :=
 (wX12_haver z2 z1 z0 M (fun (r1 : Int32) (M2 : gS) => (Q r1 M2)))
def wX12_haverIf_22  (Q : Int32 → gS → Prop) (y1 : Int32) (y2 : Int32) (z1 : Int32) (z0 : Int32) (M : gS) : Prop :=
 ((y1 = (1 : Int32) → (wX12_haverIf_38  Q z1 z0 y2 M))
 ∧ (¬ y1 = (1 : Int32) → (wX12_haverIf_38  Q z1 z0 (ma M 25 13) M)))
def wX12_haverIf (p1 : Int32) (p2 : Int32) (M : gS) (Q : Int32 → gS → Prop) : Prop :=
 ((p1 = 0 → (wX12_haverIf_22  Q p1 p2 (ma M 25 5) p2 M))
 ∧ (¬ p1 = 0 → (wX12_haverIf_22  Q p1 p2 (ma M 25 5) (ma M 25 12) M)))
def rmX12_haverIf : Room := { frames := 3, cells := 0, slots := 0, locals := 72 }
set_option maxHeartbeats 4000000 in
set_option maxRecDepth 100000 in
theorem kX12_haverIf (l : Launch) (dC : Nat → ClassId) (dI : Nat → Nat → Nat) (cB cI cJ cZ : ClassId) (h0 : Nat) (ad : Nat → Nat) (sz : Nat) (p1 : Int32) (p2 : Int32) (M : gS) (Q : Int32 → gS → Prop) (h : wX12_haverIf p1 p2 M Q) : Met l yX12_haverIf wsX12_haverIf rmX12_haverIf (va_Pc [.ref h0, .int p1, .int p2] (mI dC dI cB cI cJ cZ h0 ad M sz)) (va_Qi (fun (r : Int32) (u : gS) => Q r u) (mB dC dI cB cI cJ cZ h0 ad (va_A (mW cB cI cJ cZ h0 ad M) sz)) (va_A (mW cB cI cJ cZ h0 ad M) sz)) 0 0 (va_A (mW cB cI cJ cZ h0 ad M) sz) := by
  refine Met.ofW (cc := cX12_haverIf) (maxL := 3) (ret := (some .int)) (by decide) rfl ?_
  intro p e s m args below meth c s₁ B hml hv
  obtain ⟨rfl, hsz, hP, hK, hD0⟩ := hv
  have hx := B.exec
  have hb := B.bytes
  have hr := B.returns
  have hts := atoms_spec (ws := wsX12_haverIf) B.pre
  have hown : s.vm.findClass RX12 = some m.cls := findClass_of_methodNamed B.named
  have hlocks := B.notSynchronized
  subst hsz
  have hD := hD0.self (sz := s.heap.size)
  generalize hAe : va_A (mW cB cI cJ cZ h0 ad M) s.heap.size = A at hD ⊢
  have hA : ∀ q : Nat, s.heap.size ≤ q → A q := fun q h => by rw [← hAe]; exact Or.inr h
  have hS : va_S A s.heap s.heap [] := va_S.rf
  have hin : ∀ w ∈ wsX120, w ∈ wsX12_haverIf := fun w h => List.mem_cons_of_mem _ (List.mem_append_right _ h)
  have f1 := hts (.fieldLink RX12 45 "LastWordsModel" "said" "[I") (by decide +kernel)
  have b38 : ∀ (z2 : Int32) (z1 : Int32) (z0 : Int32) (M : gS) (H : Heap) (locs : List Loc) (ls : Array Slot), va_P (dC, dI) vwCl (mW cB cI cJ cZ h0 ad M) H → va_D A (mW cB cI cJ cZ h0 ad M) → va_S A s.heap H locs → lv_has ls 3 [] → wX12_haverIf_38  Q z2 z1 z0 M → W p l e (headSpec wsX12_haverIf rmX12_haverIf).room s m ([.ref h0, .int p1, .int p2] : List Value).toArray below meth c H locs 0 0 (MQ below (va_Qi (fun (r : Int32) (u : gS) => Q r u) (mB dC dI cB cI cJ cZ h0 ad A) A) ([.ref h0, .int p1, .int p2] : List Value).toArray s 0 0 A) (F0 m 38 ls [.int z0, .int z1, .int z2, .ref h0]) := by
    intro  z2 z1 z0 M H locs ls hP hD hS hl h
    unfold wX12_haverIf_38 at h
    have hFc := gs_free hD hS hA
    refine va_calli (va_runV (As := [.int z2, .int z1, .int z0]) (rest := []) ⟨hx, hb, hml, hown, hts⟩ (kX12_haver l dC dI cB cI cJ cZ h0 ad H.size z2 z1 z0 M _ h) (cwV 3 hts gX12_haverIf_X12_haver rfl rfl rfl (by decide +kernel) ⟨Nat.le_of_ble_eq_true rfl, Nat.le_of_ble_eq_true rfl⟩) (mpV hK hP hD) rfl rfl hl.1 rfl (lv_room (Nat.le_of_ble_eq_true rfl)) dX12_haverIf_38 ⟨Nat.le_of_ble_eq_true rfl, Nat.le_of_ble_eq_true rfl⟩) hS (fun q _ z => hFc q z) hFc (fun r1 M2 t H1 locs ht hvm hw hB hz1 hk1 hS => ?_)
    obtain ⟨hP, hD⟩ := gs_back ht hFc hB
    generalize H1 = H at hP hS ⊢
    have h := hw
    try dsimp only at h
    exact W.iret (v := r1) hx hb hr (fun t ht hW => ⟨⟨_, M2, rfl, h, by rw [ht]; exact hP, va_K.moved hW.alike hK, hD⟩, hS.F ht⟩) hS.2.2 dX12_haverIf_41
  have b22 : ∀ (y1 : Int32) (y2 : Int32) (z1 : Int32) (z0 : Int32) (M : gS) (H : Heap) (locs : List Loc) (ls : Array Slot), va_P (dC, dI) vwCl (mW cB cI cJ cZ h0 ad M) H → va_D A (mW cB cI cJ cZ h0 ad M) → va_S A s.heap H locs → lv_has ls 3 [(0, .ref h0), (1, .int y1), (2, .int y2)] → wX12_haverIf_22  Q y1 y2 z1 z0 M → W p l e (headSpec wsX12_haverIf rmX12_haverIf).room s m ([.ref h0, .int p1, .int p2] : List Value).toArray below meth c H locs 0 0 (MQ below (va_Qi (fun (r : Int32) (u : gS) => Q r u) (mB dC dI cB cI cJ cZ h0 ad A) A) ([.ref h0, .int p1, .int p2] : List Value).toArray s 0 0 A) (F0 m 22 ls [.int z0, .int z1, .ref h0]) := by
    intro  y1 y2 z1 z0 M H locs ls hP hD hS hl h
    unfold wX12_haverIf_22 at h
    refine lv_iload_n hx hb dX12_haverIf_22 rfl (lv_at hl 1 rfl) ?_
    refine lv_iconst (v := 1) hx hb dX12_haverIf_23 (by decide) ?_
    refine lv_icmp_ne (tgt := 31) hx hb dX12_haverIf_24 (by decide) (fun c1 => ?_) (fun c1 => ?_)
    · have h := h.2 c1
      refine lv_aload_n hx hb dX12_haverIf_31 rfl (lv_at hl 0 rfl) ?_
      refine va_get (D := (dC, dI)) (ci := 12) (v := .ref (ad 25)) (C := RX12) (T := TX12) (N := 37) hx hb hts hin hown hK hP 0 rfl rfl 25 (by decide) f1 (fun _ h9 => h9) rfl dX12_haverIf_32 ?_
      refine lv_bipush (v := (13)) hx hb dX12_haverIf_35 (by decide) ?_
      refine wc_iald (j := 13) hx hb hK hP 12 1 (f := ma M 25) rfl rfl (by decide) (by decide) (by decide) dX12_haverIf_37 ?_
      exact b38  z1 z0 (ma M 25 13) M H locs ls hP hD hS (lv_sub hl [] rfl) h
    · have h := h.1 c1
      refine lv_iload_n hx hb dX12_haverIf_27 rfl (lv_at hl 2 rfl) ?_
      refine lv_goto (tgt := 38) hx hb dX12_haverIf_28 (by decide) ?_
      exact b38  z1 z0 y2 M H locs ls hP hD hS (lv_sub hl [] rfl) h
  have bE : ∀ (M : gS) (H : Heap) (locs : List Loc) (ls : Array Slot), va_P (dC, dI) vwCl (mW cB cI cJ cZ h0 ad M) H → va_D A (mW cB cI cJ cZ h0 ad M) → va_S A s.heap H locs → lv_has ls 3 [(0, .ref h0), (1, .int p1), (2, .int p2)] → wX12_haverIf p1 p2 M Q → W p l e (headSpec wsX12_haverIf rmX12_haverIf).room s m ([.ref h0, .int p1, .int p2] : List Value).toArray below meth c H locs 0 0 (MQ below (va_Qi (fun (r : Int32) (u : gS) => Q r u) (mB dC dI cB cI cJ cZ h0 ad A) A) ([.ref h0, .int p1, .int p2] : List Value).toArray s 0 0 A) (F0 m 0 ls []) := by
    intro M H locs ls hP hD hS hl h
    unfold wX12_haverIf at h
    refine lv_aload_n hx hb dX12_haverIf_0 rfl (lv_at hl 0 rfl) ?_
    refine lv_aload_n hx hb dX12_haverIf_1 rfl (lv_at hl 0 rfl) ?_
    refine va_get (D := (dC, dI)) (ci := 12) (v := .ref (ad 25)) (C := RX12) (T := TX12) (N := 37) hx hb hts hin hown hK hP 0 rfl rfl 25 (by decide) f1 (fun _ h9 => h9) rfl dX12_haverIf_2 ?_
    refine lv_iconst (v := 5) hx hb dX12_haverIf_5 (by decide) ?_
    refine wc_iald (j := 5) hx hb hK hP 12 1 (f := ma M 25) rfl rfl (by decide) (by decide) (by decide) dX12_haverIf_6 ?_
    refine lv_iload_n hx hb dX12_haverIf_7 rfl (lv_at hl 1 rfl) ?_
    refine lv_if_ne (tgt := 15) hx hb dX12_haverIf_8 (by decide) (fun c1 => ?_) (fun c1 => ?_)
    · have h := h.2 c1
      refine lv_aload_n hx hb dX12_haverIf_15 rfl (lv_at hl 0 rfl) ?_
      refine va_get (D := (dC, dI)) (ci := 12) (v := .ref (ad 25)) (C := RX12) (T := TX12) (N := 37) hx hb hts hin hown hK hP 0 rfl rfl 25 (by decide) f1 (fun _ h9 => h9) rfl dX12_haverIf_16 ?_
      refine lv_bipush (v := (12)) hx hb dX12_haverIf_19 (by decide) ?_
      refine wc_iald (j := 12) hx hb hK hP 12 1 (f := ma M 25) rfl rfl (by decide) (by decide) (by decide) dX12_haverIf_21 ?_
      exact b22  p1 p2 (ma M 25 5) (ma M 25 12) M H locs ls hP hD hS (lv_sub hl [0, 1, 2] rfl) h
    · have h := h.1 c1
      refine lv_iload_n hx hb dX12_haverIf_11 rfl (lv_at hl 2 rfl) ?_
      refine lv_goto (tgt := 22) hx hb dX12_haverIf_12 (by decide) ?_
      exact b22  p1 p2 (ma M 25 5) p2 M H locs ls hP hD hS (lv_sub hl [0, 1, 2] rfl) h
  have hl := lv_entry ([.ref h0, .int p1, .int p2]) (n := 3) (Nat.le_of_ble_eq_true rfl)
  rw [lg_entry_eq]
  generalize (lg_sl ([.ref h0, .int p1, .int p2]) ++ List.replicate (3 - (lg_sl ([.ref h0, .int p1, .int p2])).length) Slot.unset).toArray = ls at hl ⊢
  have hl : lv_has ls 3 [(0, .ref h0), (1, .int p1), (2, .int p2)] := hl
  exact bE M s.heap [] ls hP hD hS hl h
def wX12_enough_29  (Q : Int32 → gS → Prop) : Nat → Int32 → Int32 → gS → Prop
 | 0, _, _, _ => False
 | n + 1, y1, y2, M => (((7 : Int32) < y2 → (Q (-1 : Int32) M))
 ∧ (¬ (7 : Int32) < y2 → (wX12_haverIf y1 y2 M (fun (r2 : Int32) (M3 : gS) => ((r2 = y1 → (Q y2 M3))
 ∧ (¬ r2 = y1 → (∀ x5 : Int32, x5 = y2 + (1 : Int32) → (wX12_enough_29  Q n y1 x5 M3))))))))
def wX12_enough (p1 : Int32) (M : gS) (Q : Int32 → gS → Prop) : Prop :=
 (wX12_goesOn  M (fun (b3 : Bool) (M2 : gS) => (((bI b3) = 0 → (Q (-2 : Int32) M2))
 ∧ (¬ (bI b3) = 0 → (wX12_isSide p1 M2 (fun (b7 : Bool) (M6 : gS) => (((bI b7) = 0 → (Q (-2 : Int32) M6))
 ∧ (¬ (bI b7) = 0 → (wX12_fillsTable (ma M6 25 4) M6 (fun (M10 : gS) => (∃ k29 : Nat, wX12_enough_29  Q k29 p1 (0 : Int32) M10)))))))))))
def rmX12_enough : Room := { frames := 5, cells := 0, slots := 0, locals := 126 }
set_option maxHeartbeats 4000000 in
set_option maxRecDepth 100000 in
theorem kX12_enough (l : Launch) (dC : Nat → ClassId) (dI : Nat → Nat → Nat) (cB cI cJ cZ : ClassId) (h0 : Nat) (ad : Nat → Nat) (sz : Nat) (p1 : Int32) (M : gS) (Q : Int32 → gS → Prop) (h : wX12_enough p1 M Q) : Met l yX12_enough wsX12_enough rmX12_enough (va_Pc [.ref h0, .int p1] (mI dC dI cB cI cJ cZ h0 ad M sz)) (va_Qi (fun (r : Int32) (u : gS) => Q r u) (mB dC dI cB cI cJ cZ h0 ad (va_A (mW cB cI cJ cZ h0 ad M) sz)) (va_A (mW cB cI cJ cZ h0 ad M) sz)) 0 0 (va_A (mW cB cI cJ cZ h0 ad M) sz) := by
  refine Met.ofW (cc := cX12_enough) (maxL := 3) (ret := (some .int)) (by decide) rfl ?_
  intro p e s m args below meth c s₁ B hml hv
  obtain ⟨rfl, hsz, hP, hK, hD0⟩ := hv
  have hx := B.exec
  have hb := B.bytes
  have hr := B.returns
  have hts := atoms_spec (ws := wsX12_enough) B.pre
  have hown : s.vm.findClass RX12 = some m.cls := findClass_of_methodNamed B.named
  have hlocks := B.notSynchronized
  subst hsz
  have hD := hD0.self (sz := s.heap.size)
  generalize hAe : va_A (mW cB cI cJ cZ h0 ad M) s.heap.size = A at hD ⊢
  have hA : ∀ q : Nat, s.heap.size ≤ q → A q := fun q h => by rw [← hAe]; exact Or.inr h
  have hS : va_S A s.heap s.heap [] := va_S.rf
  have hin : ∀ w ∈ wsX120, w ∈ wsX12_enough := fun w h => List.mem_cons_of_mem _ (List.mem_append_right _ h)
  have f1 := hts (.fieldLink RX12 45 "LastWordsModel" "said" "[I") (by decide +kernel)
  have b29 : ∀ (n : Nat) (y1 : Int32) (y2 : Int32) (M : gS) (H : Heap) (locs : List Loc) (ls : Array Slot), va_P (dC, dI) vwCl (mW cB cI cJ cZ h0 ad M) H → va_D A (mW cB cI cJ cZ h0 ad M) → va_S A s.heap H locs → lv_has ls 3 [(0, .ref h0), (1, .int y1), (2, .int y2)] → wX12_enough_29  Q n y1 y2 M → W p l e (headSpec wsX12_enough rmX12_enough).room s m ([.ref h0, .int p1] : List Value).toArray below meth c H locs 0 0 (MQ below (va_Qi (fun (r : Int32) (u : gS) => Q r u) (mB dC dI cB cI cJ cZ h0 ad A) A) ([.ref h0, .int p1] : List Value).toArray s 0 0 A) (F0 m 29 ls []) := by
    intro  n
    induction n with
    | zero => intro y1 y2 M H locs ls hP hD hS hl h; exact absurd h (by simp [wX12_enough_29])
    | succ n hB290 =>
      intro y1 y2 M H locs ls hP hD hS hl h
      have hB29 := hB290
      rw [wX12_enough_29] at h
      refine lv_iload_n hx hb dX12_enough_29 rfl (lv_at hl 2 rfl) ?_
      refine lv_bipush (v := (7)) hx hb dX12_enough_30 (by decide) ?_
      refine lv_icmp_gt (tgt := 53) hx hb dX12_enough_32 (by decide) (fun c1 => ?_) (fun c1 => ?_)
      · have h := h.1 c1
        refine lv_iconst (v := (-1)) hx hb dX12_enough_53 (by decide) ?_
        exact W.iret (v := (-1 : Int32)) hx hb hr (fun t ht hW => ⟨⟨_, M, rfl, h, by rw [ht]; exact hP, va_K.moved hW.alike hK, hD⟩, hS.F ht⟩) hS.2.2 dX12_enough_54
      · have h := h.2 c1
        refine lv_aload_n hx hb dX12_enough_35 rfl (lv_at hl 0 rfl) ?_
        refine lv_iload_n hx hb dX12_enough_36 rfl (lv_at hl 1 rfl) ?_
        refine lv_iload_n hx hb dX12_enough_37 rfl (lv_at hl 2 rfl) ?_
        have hFc := gs_free hD hS hA
        refine va_calli (va_runV (As := [.int y1, .int y2]) (rest := []) ⟨hx, hb, hml, hown, hts⟩ (kX12_haverIf l dC dI cB cI cJ cZ h0 ad H.size y1 y2 M _ h) (cwV 2 hts gX12_enough_X12_haverIf rfl rfl rfl (by decide +kernel) ⟨Nat.le_of_ble_eq_true rfl, Nat.le_of_ble_eq_true rfl⟩) (mpV hK hP hD) rfl rfl hl.1 rfl (lv_room (Nat.le_of_ble_eq_true rfl)) dX12_enough_38 ⟨Nat.le_of_ble_eq_true rfl, Nat.le_of_ble_eq_true rfl⟩) hS (fun q _ z => hFc q z) hFc (fun r2 M3 t H1 locs ht hvm hw hB hz1 hk1 hS => ?_)
        obtain ⟨hP, hD⟩ := gs_back ht hFc hB
        generalize H1 = H at hP hS ⊢
        have h := hw
        try dsimp only at h
        refine lv_iload_n hx hb dX12_enough_41 rfl (lv_at hl 1 rfl) ?_
        refine lv_icmp_ne (tgt := 47) hx hb dX12_enough_42 (by decide) (fun c4 => ?_) (fun c4 => ?_)
        · have h := h.2 c4
          obtain ⟨x5, ex5⟩ : ∃ y : Int32, y = y2 + (1 : Int32) := ⟨_, rfl⟩
          have h := h x5 ex5
          refine lv_iinc (v := x5) (lv' := [(2, .int x5), (0, .ref h0), (1, .int y1)]) hx hb dX12_enough_47 hl (k := 2) rfl (by rw [ex5]; rfl) (by decide) rfl (fun ls hl => ?_)
          refine lv_goto (tgt := 29) hx hb dX12_enough_50 (by decide) ?_
          exact hB29 y1 x5 M3 H locs ls hP hD hS (lv_sub hl [1, 2, 0] rfl) h
        · have h := h.1 c4
          refine lv_iload_n hx hb dX12_enough_45 rfl (lv_at hl 2 rfl) ?_
          exact W.iret (v := y2) hx hb hr (fun t ht hW => ⟨⟨_, M3, rfl, h, by rw [ht]; exact hP, va_K.moved hW.alike hK, hD⟩, hS.F ht⟩) hS.2.2 dX12_enough_46
  have bE : ∀ (M : gS) (H : Heap) (locs : List Loc) (ls : Array Slot), va_P (dC, dI) vwCl (mW cB cI cJ cZ h0 ad M) H → va_D A (mW cB cI cJ cZ h0 ad M) → va_S A s.heap H locs → lv_has ls 3 [(0, .ref h0), (1, .int p1)] → wX12_enough p1 M Q → W p l e (headSpec wsX12_enough rmX12_enough).room s m ([.ref h0, .int p1] : List Value).toArray below meth c H locs 0 0 (MQ below (va_Qi (fun (r : Int32) (u : gS) => Q r u) (mB dC dI cB cI cJ cZ h0 ad A) A) ([.ref h0, .int p1] : List Value).toArray s 0 0 A) (F0 m 0 ls []) := by
    intro M H locs ls hP hD hS hl h
    unfold wX12_enough at h
    refine lv_aload_n hx hb dX12_enough_0 rfl (lv_at hl 0 rfl) ?_
    have hFc := gs_free hD hS hA
    refine va_calli (va_runV (As := []) (rest := []) ⟨hx, hb, hml, hown, hts⟩ (kX12_goesOn l dC dI cB cI cJ cZ h0 ad H.size  M _ h) (cwV 0 hts gX12_enough_X12_goesOn rfl rfl rfl (by decide +kernel) ⟨Nat.le_of_ble_eq_true rfl, Nat.le_of_ble_eq_true rfl⟩) (mpV hK hP hD) rfl rfl hl.1 rfl (lv_room (Nat.le_of_ble_eq_true rfl)) dX12_enough_1 ⟨Nat.le_of_ble_eq_true rfl, Nat.le_of_ble_eq_true rfl⟩) hS (fun q _ z => hFc q z) hFc (fun r1 M2 t H1 locs ht hvm hw hB hz1 hk1 hS => ?_)
    obtain ⟨hP, hD⟩ := gs_back ht hFc hB
    generalize H1 = H at hP hS ⊢
    obtain ⟨b3, rfl, h⟩ := hw
    try dsimp only at h
    refine lv_if_eq (tgt := 14) hx hb dX12_enough_4 (by decide) (fun c4 => ?_) (fun c4 => ?_)
    · have h := h.1 c4
      refine lv_bipush (v := (-2)) hx hb dX12_enough_14 (by decide) ?_
      exact W.iret (v := (-2 : Int32)) hx hb hr (fun t ht hW => ⟨⟨_, M2, rfl, h, by rw [ht]; exact hP, va_K.moved hW.alike hK, hD⟩, hS.F ht⟩) hS.2.2 dX12_enough_16
    · have h := h.2 c4
      refine lv_iload_n hx hb dX12_enough_7 rfl (lv_at hl 1 rfl) ?_
      have hFc := gs_free hD hS hA
      refine va_calli (va_runS (As := [.int p1]) (rest := []) ⟨hx, hb, hml, hown, hts⟩ (kX12_isSide l dC dI cB cI cJ cZ h0 ad H.size p1 M2 _ h) (cwS 1 hts gX12_enough_X12_isSide rfl rfl rfl (by decide +kernel) ⟨Nat.le_of_ble_eq_true rfl, Nat.le_of_ble_eq_true rfl⟩) (mpS hK hP hD) rfl rfl hl.1 rfl (lv_room (Nat.le_of_ble_eq_true rfl)) dX12_enough_8 ⟨Nat.le_of_ble_eq_true rfl, Nat.le_of_ble_eq_true rfl⟩) hS (fun q _ z => hFc q z) hFc (fun r5 M6 t H1 locs ht hvm hw hB hz1 hk1 hS => ?_)
      obtain ⟨hP, hD⟩ := gs_back ht hFc hB
      generalize H1 = H at hP hS ⊢
      obtain ⟨b7, rfl, h⟩ := hw
      try dsimp only at h
      refine lv_if_ne (tgt := 17) hx hb dX12_enough_11 (by decide) (fun c8 => ?_) (fun c8 => ?_)
      · have h := h.2 c8
        refine lv_aload_n hx hb dX12_enough_17 rfl (lv_at hl 0 rfl) ?_
        refine lv_aload_n hx hb dX12_enough_18 rfl (lv_at hl 0 rfl) ?_
        refine va_get (D := (dC, dI)) (ci := 12) (v := .ref (ad 25)) (C := RX12) (T := TX12) (N := 37) hx hb hts hin hown hK hP 0 rfl rfl 25 (by decide) f1 (fun _ h9 => h9) rfl dX12_enough_19 ?_
        refine lv_iconst (v := 4) hx hb dX12_enough_22 (by decide) ?_
        refine wc_iald (j := 4) hx hb hK hP 12 1 (f := ma M6 25) rfl rfl (by decide) (by decide) (by decide) dX12_enough_23 ?_
        have hFc := gs_free hD hS hA
        refine va_callv (va_runV (As := [.int (ma M6 25 4)]) (rest := []) ⟨hx, hb, hml, hown, hts⟩ (kX12_fillsTable l dC dI cB cI cJ cZ h0 ad H.size (ma M6 25 4) M6 _ h) (cwV 1 hts gX12_enough_X12_fillsTable rfl rfl rfl (by decide +kernel) ⟨Nat.le_of_ble_eq_true rfl, Nat.le_of_ble_eq_true rfl⟩) (mpV hK hP hD) rfl rfl hl.1 rfl (lv_room (Nat.le_of_ble_eq_true rfl)) dX12_enough_24 ⟨Nat.le_of_ble_eq_true rfl, Nat.le_of_ble_eq_true rfl⟩) hS (fun q _ z => hFc q z) hFc (fun M10 t H1 locs ht hvm hw hB hz1 hk1 hS => ?_)
        obtain ⟨hP, hD⟩ := gs_back ht hFc hB
        generalize H1 = H at hP hS ⊢
        have h := hw
        try dsimp only at h
        refine lv_iconst (v := 0) hx hb dX12_enough_27 (by decide) ?_
        refine lv_istore_n (lv' := [(2, .int (0 : Int32)), (0, .ref h0), (1, .int p1)]) hx hb dX12_enough_28 rfl hl (by decide) rfl (fun ls hl => ?_)
        obtain ⟨n9, h⟩ := h
        exact b29  n9 p1 (0 : Int32) M10 H locs ls hP hD hS (lv_sub hl [1, 2, 0] rfl) h
      · have h := h.1 c8
        refine lv_bipush (v := (-2)) hx hb dX12_enough_14 (by decide) ?_
        exact W.iret (v := (-2 : Int32)) hx hb hr (fun t ht hW => ⟨⟨_, M6, rfl, h, by rw [ht]; exact hP, va_K.moved hW.alike hK, hD⟩, hS.F ht⟩) hS.2.2 dX12_enough_16
  have hl := lv_entry ([.ref h0, .int p1]) (n := 3) (Nat.le_of_ble_eq_true rfl)
  rw [lg_entry_eq]
  generalize (lg_sl ([.ref h0, .int p1]) ++ List.replicate (3 - (lg_sl ([.ref h0, .int p1])).length) Slot.unset).toArray = ls at hl ⊢
  have hl : lv_has ls 3 [(0, .ref h0), (1, .int p1)] := hl
  exact bE M s.heap [] ls hP hD hS hl h
def wX12_divisor_4  (Q : Int32 → gS → Prop) : Nat → Int32 → Int32 → gS → Prop
 | 0, _, _, _ => False
 | n + 1, y2, y3, M => ((y3 = 0 → (Q y2 M))
 ∧ (¬ y3 = 0 → (¬ y3 = 0 ∧ (∀ x2 : Int32, x2 = (y2 - y2 / y3 * y3) → (wX12_divisor_4  Q n y3 x2 M)))))
def wX12_divisor (p1 : Int32) (p2 : Int32) (M : gS) (Q : Int32 → gS → Prop) : Prop :=
 (∃ k4 : Nat, wX12_divisor_4  Q k4 p1 p2 M)
def rmX12_divisor : Room := { frames := 0, cells := 0, slots := 0, locals := 0 }
set_option maxHeartbeats 4000000 in
set_option maxRecDepth 100000 in
theorem kX12_divisor (l : Launch) (dC : Nat → ClassId) (dI : Nat → Nat → Nat) (cB cI cJ cZ : ClassId) (h0 : Nat) (ad : Nat → Nat) (sz : Nat) (p1 : Int32) (p2 : Int32) (M : gS) (Q : Int32 → gS → Prop) (h : wX12_divisor p1 p2 M Q) : Met l yX12_divisor wsX12_divisor rmX12_divisor (va_Pc [.int p1, .int p2] (mI dC dI cB cI cJ cZ h0 ad M sz)) (va_Qi (fun (r : Int32) (u : gS) => Q r u) (mB dC dI cB cI cJ cZ h0 ad (va_A (mW cB cI cJ cZ h0 ad M) sz)) (va_A (mW cB cI cJ cZ h0 ad M) sz)) 0 0 (va_A (mW cB cI cJ cZ h0 ad M) sz) := by
  refine Met.ofW (cc := cX12_divisor) (maxL := 5) (ret := (some .int)) (by decide) rfl ?_
  intro p e s m args below meth c s₁ B hml hv
  obtain ⟨rfl, hsz, hP, hK, hD0⟩ := hv
  have hx := B.exec
  have hb := B.bytes
  have hr := B.returns
  have hts := atoms_spec (ws := wsX12_divisor) B.pre
  have hown : s.vm.findClass RX12 = some m.cls := findClass_of_methodNamed B.named
  have hlocks := B.notSynchronized
  subst hsz
  have hD := hD0.self (sz := s.heap.size)
  generalize hAe : va_A (mW cB cI cJ cZ h0 ad M) s.heap.size = A at hD ⊢
  have hA : ∀ q : Nat, s.heap.size ≤ q → A q := fun q h => by rw [← hAe]; exact Or.inr h
  have hS : va_S A s.heap s.heap [] := va_S.rf
  have b4 : ∀ (n : Nat) (y2 : Int32) (y3 : Int32) (M : gS) (H : Heap) (locs : List Loc) (ls : Array Slot), va_P (dC, dI) vwCl (mW cB cI cJ cZ h0 ad M) H → va_D A (mW cB cI cJ cZ h0 ad M) → va_S A s.heap H locs → lv_has ls 5 [(2, .int y2), (3, .int y3)] → wX12_divisor_4  Q n y2 y3 M → W p l e (headSpec wsX12_divisor rmX12_divisor).room s m ([.int p1, .int p2] : List Value).toArray below meth c H locs 0 0 (MQ below (va_Qi (fun (r : Int32) (u : gS) => Q r u) (mB dC dI cB cI cJ cZ h0 ad A) A) ([.int p1, .int p2] : List Value).toArray s 0 0 A) (F0 m 4 ls []) := by
    intro  n
    induction n with
    | zero => intro y2 y3 M H locs ls hP hD hS hl h; exact absurd h (by simp [wX12_divisor_4])
    | succ n hB40 =>
      intro y2 y3 M H locs ls hP hD hS hl h
      have hB4 := hB40
      rw [wX12_divisor_4] at h
      refine lv_iload_n hx hb dX12_divisor_4 rfl (lv_at hl 1 rfl) ?_
      refine lv_if_eq (tgt := 21) hx hb dX12_divisor_5 (by decide) (fun c1 => ?_) (fun c1 => ?_)
      · have h := h.1 c1
        refine lv_iload_n hx hb dX12_divisor_21 rfl (lv_at hl 0 rfl) ?_
        exact W.iret (v := y2) hx hb hr (fun t ht hW => ⟨⟨_, M, rfl, h, by rw [ht]; exact hP, va_K.moved hW.alike hK, hD⟩, hS.F ht⟩) hS.2.2 dX12_divisor_22
      · have h := h.2 c1
        refine lv_iload_n hx hb dX12_divisor_8 rfl (lv_at hl 0 rfl) ?_
        refine lv_iload_n hx hb dX12_divisor_9 rfl (lv_at hl 1 rfl) ?_
        refine lv_irem hx hb dX12_divisor_10 h.1 ?_
        have h := h.2
        refine lv_topi (fun x2 ex2 => ?_)
        have h := h x2 ex2
        refine lv_istore (lv' := [(4, .int x2), (2, .int y2), (3, .int y3)]) hx hb dX12_divisor_11 hl (by decide) rfl (fun ls hl => ?_)
        refine lv_iload_n hx hb dX12_divisor_13 rfl (lv_at hl 2 rfl) ?_
        refine lv_istore_n (lv' := [(2, .int y3), (4, .int x2), (3, .int y3)]) hx hb dX12_divisor_14 rfl hl (by decide) rfl (fun ls hl => ?_)
        refine lv_iload hx hb dX12_divisor_15 (lv_at hl 1 rfl) ?_
        refine lv_istore_n (lv' := [(3, .int x2), (2, .int y3), (4, .int x2)]) hx hb dX12_divisor_17 rfl hl (by decide) rfl (fun ls hl => ?_)
        refine lv_goto (tgt := 4) hx hb dX12_divisor_18 (by decide) ?_
        exact hB4 y3 x2 M H locs ls hP hD hS (lv_sub hl [1, 0] rfl) h
  have bE : ∀ (M : gS) (H : Heap) (locs : List Loc) (ls : Array Slot), va_P (dC, dI) vwCl (mW cB cI cJ cZ h0 ad M) H → va_D A (mW cB cI cJ cZ h0 ad M) → va_S A s.heap H locs → lv_has ls 5 [(0, .int p1), (1, .int p2)] → wX12_divisor p1 p2 M Q → W p l e (headSpec wsX12_divisor rmX12_divisor).room s m ([.int p1, .int p2] : List Value).toArray below meth c H locs 0 0 (MQ below (va_Qi (fun (r : Int32) (u : gS) => Q r u) (mB dC dI cB cI cJ cZ h0 ad A) A) ([.int p1, .int p2] : List Value).toArray s 0 0 A) (F0 m 0 ls []) := by
    intro M H locs ls hP hD hS hl h
    unfold wX12_divisor at h
    refine lv_iload_n hx hb dX12_divisor_0 rfl (lv_at hl 0 rfl) ?_
    refine lv_istore_n (lv' := [(2, .int p1), (0, .int p1), (1, .int p2)]) hx hb dX12_divisor_1 rfl hl (by decide) rfl (fun ls hl => ?_)
    refine lv_iload_n hx hb dX12_divisor_2 rfl (lv_at hl 2 rfl) ?_
    refine lv_istore_n (lv' := [(3, .int p2), (2, .int p1), (0, .int p1), (1, .int p2)]) hx hb dX12_divisor_3 rfl hl (by decide) rfl (fun ls hl => ?_)
    obtain ⟨n9, h⟩ := h
    exact b4  n9 p1 p2 M H locs ls hP hD hS (lv_sub hl [1, 0] rfl) h
  have hl := lv_entry ([.int p1, .int p2]) (n := 5) (Nat.le_of_ble_eq_true rfl)
  rw [lg_entry_eq]
  generalize (lg_sl ([.int p1, .int p2]) ++ List.replicate (5 - (lg_sl ([.int p1, .int p2])).length) Slot.unset).toArray = ls at hl ⊢
  have hl : lv_has ls 5 [(0, .int p1), (1, .int p2)] := hl
  exact bE M s.heap [] ls hP hD hS hl h
def wX12_hidden_102  (Q : Int32 → gS → Prop) (y2 : Int32) (y4 : Int32) (z0 : Int32) (M : gS) : Prop :=
 (wX12_divisor y4 (y2 + (1 : Int32)) M (fun (r1 : Int32) (M2 : gS) => (¬ r1 = 0 ∧ (Q (z0 / r1) M2))))
def wX12_hidden_81 (B55 : Int32 → Int32 → Int32 → Int32 → Int32 → gS → Prop) (Q : Int32 → gS → Prop) (y1 : Int32) (y2 : Int32) (y3 : Int32) (y5 : Int32) (z1 : Int32) (z0 : Int32) (M : gS) : Prop :=
 (∀ x1 : Int32, x1 = (z1 + z0) → (∀ x2 : Int32, x2 = y5 + (1 : Int32) → (B55 y1 y2 y3 x1 x2 M)))
def wX12_hidden_55  (Q : Int32 → gS → Prop) : Nat → Int32 → Int32 → Int32 → Int32 → Int32 → gS → Prop
 | 0, _, _, _, _, _, _ => False
 | n + 1, y1, y2, y3, y4, y5, M => ((y2 < y5 → ((y3 = 0 → (wX12_hidden_102  Q y2 y4 y4 M))
 ∧ (¬ y3 = 0 → (wX12_hidden_102  Q y2 y4 (y2 + (1 : Int32)) M))))
 ∧ (¬ y2 < y5 → (wX12_haverIf ((1 : Int32) - y1) y5 M (fun (r3 : Int32) (M4 : gS) => ((r3 = y1 → (wX12_hidden_81 (fun (y1 : Int32) (y2 : Int32) (y3 : Int32) (y4 : Int32) (y5 : Int32) (M : gS) => wX12_hidden_55  Q n y1 y2 y3 y4 y5 M) Q y1 y2 y3 y5 y4 (1 : Int32) M4))
 ∧ (¬ r3 = y1 → (wX12_hidden_81 (fun (y1 : Int32) (y2 : Int32) (y3 : Int32) (y4 : Int32) (y5 : Int32) (M : gS) => wX12_hidden_55  Q n y1 y2 y3 y4 y5 M) Q y1 y2 y3 y5 y4 (0 : Int32) M4)))))))
def wX12_hidden (p1 : Int32) (p2 : Int32) (p3 : Int32) (M : gS) (Q : Int32 → gS → Prop) : Prop :=
 (wX12_goesOn  M (fun (b3 : Bool) (M2 : gS) => (((bI b3) = 0 → (Q (-2 : Int32) M2))
 ∧ (¬ (bI b3) = 0 → (wX12_isSide p1 M2 (fun (b7 : Bool) (M6 : gS) => (((bI b7) = 0 → (Q (-2 : Int32) M6))
 ∧ (¬ (bI b7) = 0 → (wX12_in (Int32.toInt64 p2) (0 : Int64) (7 : Int64) M6 (fun (b11 : Bool) (M10 : gS) => (((bI b11) = 0 → (Q (-2 : Int32) M10))
 ∧ (¬ (bI b11) = 0 → (wX12_in (Int32.toInt64 p3) (0 : Int64) (1 : Int64) M10 (fun (b15 : Bool) (M14 : gS) => (((bI b15) = 0 → (Q (-2 : Int32) M14))
 ∧ (¬ (bI b15) = 0 → (wX12_fillsTable (ma M14 25 4) M14 (fun (M18 : gS) => (∃ k55 : Nat, wX12_hidden_55  Q k55 p1 p2 p3 (0 : Int32) (0 : Int32) M18)))))))))))))))))))
def rmX12_hidden : Room := { frames := 5, cells := 0, slots := 0, locals := 126 }
set_option maxHeartbeats 4000000 in
set_option maxRecDepth 100000 in
theorem kX12_hidden (l : Launch) (dC : Nat → ClassId) (dI : Nat → Nat → Nat) (cB cI cJ cZ : ClassId) (h0 : Nat) (ad : Nat → Nat) (sz : Nat) (p1 : Int32) (p2 : Int32) (p3 : Int32) (M : gS) (Q : Int32 → gS → Prop) (h : wX12_hidden p1 p2 p3 M Q) : Met l yX12_hidden wsX12_hidden rmX12_hidden (va_Pc [.ref h0, .int p1, .int p2, .int p3] (mI dC dI cB cI cJ cZ h0 ad M sz)) (va_Qi (fun (r : Int32) (u : gS) => Q r u) (mB dC dI cB cI cJ cZ h0 ad (va_A (mW cB cI cJ cZ h0 ad M) sz)) (va_A (mW cB cI cJ cZ h0 ad M) sz)) 0 0 (va_A (mW cB cI cJ cZ h0 ad M) sz) := by
  refine Met.ofW (cc := cX12_hidden) (maxL := 6) (ret := (some .int)) (by decide) rfl ?_
  intro p e s m args below meth c s₁ B hml hv
  obtain ⟨rfl, hsz, hP, hK, hD0⟩ := hv
  have hx := B.exec
  have hb := B.bytes
  have hr := B.returns
  have hts := atoms_spec (ws := wsX12_hidden) B.pre
  have hown : s.vm.findClass RX12 = some m.cls := findClass_of_methodNamed B.named
  have hlocks := B.notSynchronized
  subst hsz
  have hD := hD0.self (sz := s.heap.size)
  generalize hAe : va_A (mW cB cI cJ cZ h0 ad M) s.heap.size = A at hD ⊢
  have hA : ∀ q : Nat, s.heap.size ≤ q → A q := fun q h => by rw [← hAe]; exact Or.inr h
  have hS : va_S A s.heap s.heap [] := va_S.rf
  have hin : ∀ w ∈ wsX120, w ∈ wsX12_hidden := fun w h => List.mem_cons_of_mem _ (List.mem_append_right _ h)
  have f1 := hts (.constantLong RX12 321 (7)) (by decide +kernel)
  have f2 := hts (.fieldLink RX12 45 "LastWordsModel" "said" "[I") (by decide +kernel)
  have b102 : ∀ (y2 : Int32) (y4 : Int32) (z0 : Int32) (M : gS) (H : Heap) (locs : List Loc) (ls : Array Slot), va_P (dC, dI) vwCl (mW cB cI cJ cZ h0 ad M) H → va_D A (mW cB cI cJ cZ h0 ad M) → va_S A s.heap H locs → lv_has ls 6 [(2, .int y2), (4, .int y4)] → wX12_hidden_102  Q y2 y4 z0 M → W p l e (headSpec wsX12_hidden rmX12_hidden).room s m ([.ref h0, .int p1, .int p2, .int p3] : List Value).toArray below meth c H locs 0 0 (MQ below (va_Qi (fun (r : Int32) (u : gS) => Q r u) (mB dC dI cB cI cJ cZ h0 ad A) A) ([.ref h0, .int p1, .int p2, .int p3] : List Value).toArray s 0 0 A) (F0 m 102 ls [.int z0]) := by
    intro  y2 y4 z0 M H locs ls hP hD hS hl h
    unfold wX12_hidden_102 at h
    refine lv_iload hx hb dX12_hidden_102 (lv_at hl 1 rfl) ?_
    refine lv_iload_n hx hb dX12_hidden_104 rfl (lv_at hl 0 rfl) ?_
    refine lv_iconst (v := 1) hx hb dX12_hidden_105 (by decide) ?_
    refine lv_iadd hx hb dX12_hidden_106 ?_
    have hFc := gs_free hD hS hA
    refine va_calli (va_runS (As := [.int y4, .int (y2 + (1 : Int32))]) (rest := [.int z0]) ⟨hx, hb, hml, hown, hts⟩ (kX12_divisor l dC dI cB cI cJ cZ h0 ad H.size y4 (y2 + (1 : Int32)) M _ h) (cwS 2 hts gX12_hidden_X12_divisor rfl rfl rfl (by decide +kernel) ⟨Nat.le_of_ble_eq_true rfl, Nat.le_of_ble_eq_true rfl⟩) (mpS hK hP hD) rfl rfl hl.1 rfl (lv_room (Nat.le_of_ble_eq_true rfl)) dX12_hidden_107 ⟨Nat.le_of_ble_eq_true rfl, Nat.le_of_ble_eq_true rfl⟩) hS (fun q _ z => hFc q z) hFc (fun r1 M2 t H1 locs ht hvm hw hB hz1 hk1 hS => ?_)
    obtain ⟨hP, hD⟩ := gs_back ht hFc hB
    generalize H1 = H at hP hS ⊢
    have h := hw
    try dsimp only at h
    refine lv_idiv hx hb dX12_hidden_110 h.1 ?_
    have h := h.2
    exact W.iret (v := (z0 / r1)) hx hb hr (fun t ht hW => ⟨⟨_, M2, rfl, h, by rw [ht]; exact hP, va_K.moved hW.alike hK, hD⟩, hS.F ht⟩) hS.2.2 dX12_hidden_111
  have b81 : ∀ (B55 : Int32 → Int32 → Int32 → Int32 → Int32 → gS → Prop) (hB55 : ∀ (y1 : Int32) (y2 : Int32) (y3 : Int32) (y4 : Int32) (y5 : Int32) (M : gS) (H : Heap) (locs : List Loc) (ls : Array Slot), va_P (dC, dI) vwCl (mW cB cI cJ cZ h0 ad M) H → va_D A (mW cB cI cJ cZ h0 ad M) → va_S A s.heap H locs → lv_has ls 6 [(0, .ref h0), (1, .int y1), (2, .int y2), (3, .int y3), (4, .int y4), (5, .int y5)] → B55 y1 y2 y3 y4 y5 M → W p l e (headSpec wsX12_hidden rmX12_hidden).room s m ([.ref h0, .int p1, .int p2, .int p3] : List Value).toArray below meth c H locs 0 0 (MQ below (va_Qi (fun (r : Int32) (u : gS) => Q r u) (mB dC dI cB cI cJ cZ h0 ad A) A) ([.ref h0, .int p1, .int p2, .int p3] : List Value).toArray s 0 0 A) (F0 m 55 ls [])) (y1 : Int32) (y2 : Int32) (y3 : Int32) (y5 : Int32) (z1 : Int32) (z0 : Int32) (M : gS) (H : Heap) (locs : List Loc) (ls : Array Slot), va_P (dC, dI) vwCl (mW cB cI cJ cZ h0 ad M) H → va_D A (mW cB cI cJ cZ h0 ad M) → va_S A s.heap H locs → lv_has ls 6 [(0, .ref h0), (1, .int y1), (2, .int y2), (3, .int y3), (5, .int y5)] → wX12_hidden_81 B55 Q y1 y2 y3 y5 z1 z0 M → W p l e (headSpec wsX12_hidden rmX12_hidden).room s m ([.ref h0, .int p1, .int p2, .int p3] : List Value).toArray below meth c H locs 0 0 (MQ below (va_Qi (fun (r : Int32) (u : gS) => Q r u) (mB dC dI cB cI cJ cZ h0 ad A) A) ([.ref h0, .int p1, .int p2, .int p3] : List Value).toArray s 0 0 A) (F0 m 81 ls [.int z0, .int z1]) := by
    intro B55 hB55 y1 y2 y3 y5 z1 z0 M H locs ls hP hD hS hl h
    unfold wX12_hidden_81 at h
    refine lv_iadd hx hb dX12_hidden_81 ?_
    refine lv_topi (fun x1 ex1 => ?_)
    have h := h x1 ex1
    refine lv_istore (lv' := [(4, .int x1), (0, .ref h0), (1, .int y1), (2, .int y2), (3, .int y3), (5, .int y5)]) hx hb dX12_hidden_82 hl (by decide) rfl (fun ls hl => ?_)
    obtain ⟨x2, ex2⟩ : ∃ y : Int32, y = y5 + (1 : Int32) := ⟨_, rfl⟩
    have h := h x2 ex2
    refine lv_iinc (v := x2) (lv' := [(5, .int x2), (4, .int x1), (0, .ref h0), (1, .int y1), (2, .int y2), (3, .int y3)]) hx hb dX12_hidden_84 hl (k := 5) rfl (by rw [ex2]; rfl) (by decide) rfl (fun ls hl => ?_)
    refine lv_goto (tgt := 55) hx hb dX12_hidden_87 (by decide) ?_
    exact hB55 y1 y2 y3 x1 x2 M H locs ls hP hD hS (lv_sub hl [2, 3, 4, 5, 1, 0] rfl) h
  have b55 : ∀ (n : Nat) (y1 : Int32) (y2 : Int32) (y3 : Int32) (y4 : Int32) (y5 : Int32) (M : gS) (H : Heap) (locs : List Loc) (ls : Array Slot), va_P (dC, dI) vwCl (mW cB cI cJ cZ h0 ad M) H → va_D A (mW cB cI cJ cZ h0 ad M) → va_S A s.heap H locs → lv_has ls 6 [(0, .ref h0), (1, .int y1), (2, .int y2), (3, .int y3), (4, .int y4), (5, .int y5)] → wX12_hidden_55  Q n y1 y2 y3 y4 y5 M → W p l e (headSpec wsX12_hidden rmX12_hidden).room s m ([.ref h0, .int p1, .int p2, .int p3] : List Value).toArray below meth c H locs 0 0 (MQ below (va_Qi (fun (r : Int32) (u : gS) => Q r u) (mB dC dI cB cI cJ cZ h0 ad A) A) ([.ref h0, .int p1, .int p2, .int p3] : List Value).toArray s 0 0 A) (F0 m 55 ls []) := by
    intro  n
    induction n with
    | zero => intro y1 y2 y3 y4 y5 M H locs ls hP hD hS hl h; exact absurd h (by simp [wX12_hidden_55])
    | succ n hB550 =>
      intro y1 y2 y3 y4 y5 M H locs ls hP hD hS hl h
      have hB55 := hB550
      rw [wX12_hidden_55] at h
      refine lv_iload hx hb dX12_hidden_55 (lv_at hl 5 rfl) ?_
      refine lv_iload_n hx hb dX12_hidden_57 rfl (lv_at hl 2 rfl) ?_
      refine lv_icmp_gt (tgt := 90) hx hb dX12_hidden_58 (by decide) (fun c1 => ?_) (fun c1 => ?_)
      · have h := h.1 c1
        refine lv_iload_n hx hb dX12_hidden_90 rfl (lv_at hl 3 rfl) ?_
        refine lv_if_ne (tgt := 99) hx hb dX12_hidden_91 (by decide) (fun c2 => ?_) (fun c2 => ?_)
        · have h := h.2 c2
          refine lv_iload_n hx hb dX12_hidden_99 rfl (lv_at hl 2 rfl) ?_
          refine lv_iconst (v := 1) hx hb dX12_hidden_100 (by decide) ?_
          refine lv_iadd hx hb dX12_hidden_101 ?_
          exact b102  y2 y4 (y2 + (1 : Int32)) M H locs ls hP hD hS (lv_sub hl [2, 4] rfl) h
        · have h := h.1 c2
          refine lv_iload hx hb dX12_hidden_94 (lv_at hl 4 rfl) ?_
          refine lv_goto (tgt := 102) hx hb dX12_hidden_96 (by decide) ?_
          exact b102  y2 y4 y4 M H locs ls hP hD hS (lv_sub hl [2, 4] rfl) h
      · have h := h.2 c1
        refine lv_iload hx hb dX12_hidden_61 (lv_at hl 4 rfl) ?_
        refine lv_aload_n hx hb dX12_hidden_63 rfl (lv_at hl 0 rfl) ?_
        refine lv_iconst (v := 1) hx hb dX12_hidden_64 (by decide) ?_
        refine lv_iload_n hx hb dX12_hidden_65 rfl (lv_at hl 1 rfl) ?_
        refine lv_isub hx hb dX12_hidden_66 ?_
        refine lv_iload hx hb dX12_hidden_67 (lv_at hl 5 rfl) ?_
        have hFc := gs_free hD hS hA
        refine va_calli (va_runV (As := [.int ((1 : Int32) - y1), .int y5]) (rest := [.int y4]) ⟨hx, hb, hml, hown, hts⟩ (kX12_haverIf l dC dI cB cI cJ cZ h0 ad H.size ((1 : Int32) - y1) y5 M _ h) (cwV 2 hts gX12_hidden_X12_haverIf rfl rfl rfl (by decide +kernel) ⟨Nat.le_of_ble_eq_true rfl, Nat.le_of_ble_eq_true rfl⟩) (mpV hK hP hD) rfl rfl hl.1 rfl (lv_room (Nat.le_of_ble_eq_true rfl)) dX12_hidden_69 ⟨Nat.le_of_ble_eq_true rfl, Nat.le_of_ble_eq_true rfl⟩) hS (fun q _ z => hFc q z) hFc (fun r3 M4 t H1 locs ht hvm hw hB hz1 hk1 hS => ?_)
        obtain ⟨hP, hD⟩ := gs_back ht hFc hB
        generalize H1 = H at hP hS ⊢
        have h := hw
        try dsimp only at h
        refine lv_iload_n hx hb dX12_hidden_72 rfl (lv_at hl 1 rfl) ?_
        refine lv_icmp_ne (tgt := 80) hx hb dX12_hidden_73 (by decide) (fun c5 => ?_) (fun c5 => ?_)
        · have h := h.2 c5
          refine lv_iconst (v := 0) hx hb dX12_hidden_80 (by decide) ?_
          exact b81 _ hB55 y1 y2 y3 y5 y4 (0 : Int32) M4 H locs ls hP hD hS (lv_sub hl [0, 1, 2, 3, 5] rfl) h
        · have h := h.1 c5
          refine lv_iconst (v := 1) hx hb dX12_hidden_76 (by decide) ?_
          refine lv_goto (tgt := 81) hx hb dX12_hidden_77 (by decide) ?_
          exact b81 _ hB55 y1 y2 y3 y5 y4 (1 : Int32) M4 H locs ls hP hD hS (lv_sub hl [0, 1, 2, 3, 5] rfl) h
  have bE : ∀ (M : gS) (H : Heap) (locs : List Loc) (ls : Array Slot), va_P (dC, dI) vwCl (mW cB cI cJ cZ h0 ad M) H → va_D A (mW cB cI cJ cZ h0 ad M) → va_S A s.heap H locs → lv_has ls 6 [(0, .ref h0), (1, .int p1), (2, .int p2), (3, .int p3)] → wX12_hidden p1 p2 p3 M Q → W p l e (headSpec wsX12_hidden rmX12_hidden).room s m ([.ref h0, .int p1, .int p2, .int p3] : List Value).toArray below meth c H locs 0 0 (MQ below (va_Qi (fun (r : Int32) (u : gS) => Q r u) (mB dC dI cB cI cJ cZ h0 ad A) A) ([.ref h0, .int p1, .int p2, .int p3] : List Value).toArray s 0 0 A) (F0 m 0 ls []) := by
    intro M H locs ls hP hD hS hl h
    unfold wX12_hidden at h
    refine lv_aload_n hx hb dX12_hidden_0 rfl (lv_at hl 0 rfl) ?_
    have hFc := gs_free hD hS hA
    refine va_calli (va_runV (As := []) (rest := []) ⟨hx, hb, hml, hown, hts⟩ (kX12_goesOn l dC dI cB cI cJ cZ h0 ad H.size  M _ h) (cwV 0 hts gX12_hidden_X12_goesOn rfl rfl rfl (by decide +kernel) ⟨Nat.le_of_ble_eq_true rfl, Nat.le_of_ble_eq_true rfl⟩) (mpV hK hP hD) rfl rfl hl.1 rfl (lv_room (Nat.le_of_ble_eq_true rfl)) dX12_hidden_1 ⟨Nat.le_of_ble_eq_true rfl, Nat.le_of_ble_eq_true rfl⟩) hS (fun q _ z => hFc q z) hFc (fun r1 M2 t H1 locs ht hvm hw hB hz1 hk1 hS => ?_)
    obtain ⟨hP, hD⟩ := gs_back ht hFc hB
    generalize H1 = H at hP hS ⊢
    obtain ⟨b3, rfl, h⟩ := hw
    try dsimp only at h
    refine lv_if_eq (tgt := 36) hx hb dX12_hidden_4 (by decide) (fun c4 => ?_) (fun c4 => ?_)
    · have h := h.1 c4
      refine lv_bipush (v := (-2)) hx hb dX12_hidden_36 (by decide) ?_
      exact W.iret (v := (-2 : Int32)) hx hb hr (fun t ht hW => ⟨⟨_, M2, rfl, h, by rw [ht]; exact hP, va_K.moved hW.alike hK, hD⟩, hS.F ht⟩) hS.2.2 dX12_hidden_38
    · have h := h.2 c4
      refine lv_iload_n hx hb dX12_hidden_7 rfl (lv_at hl 1 rfl) ?_
      have hFc := gs_free hD hS hA
      refine va_calli (va_runS (As := [.int p1]) (rest := []) ⟨hx, hb, hml, hown, hts⟩ (kX12_isSide l dC dI cB cI cJ cZ h0 ad H.size p1 M2 _ h) (cwS 1 hts gX12_hidden_X12_isSide rfl rfl rfl (by decide +kernel) ⟨Nat.le_of_ble_eq_true rfl, Nat.le_of_ble_eq_true rfl⟩) (mpS hK hP hD) rfl rfl hl.1 rfl (lv_room (Nat.le_of_ble_eq_true rfl)) dX12_hidden_8 ⟨Nat.le_of_ble_eq_true rfl, Nat.le_of_ble_eq_true rfl⟩) hS (fun q _ z => hFc q z) hFc (fun r5 M6 t H1 locs ht hvm hw hB hz1 hk1 hS => ?_)
      obtain ⟨hP, hD⟩ := gs_back ht hFc hB
      generalize H1 = H at hP hS ⊢
      obtain ⟨b7, rfl, h⟩ := hw
      try dsimp only at h
      refine lv_if_eq (tgt := 36) hx hb dX12_hidden_11 (by decide) (fun c8 => ?_) (fun c8 => ?_)
      · have h := h.1 c8
        refine lv_bipush (v := (-2)) hx hb dX12_hidden_36 (by decide) ?_
        exact W.iret (v := (-2 : Int32)) hx hb hr (fun t ht hW => ⟨⟨_, M6, rfl, h, by rw [ht]; exact hP, va_K.moved hW.alike hK, hD⟩, hS.F ht⟩) hS.2.2 dX12_hidden_38
      · have h := h.2 c8
        refine lv_iload_n hx hb dX12_hidden_14 rfl (lv_at hl 2 rfl) ?_
        refine lv_i2l hx hb dX12_hidden_15 rfl ?_
        refine lv_lconst (v := 0) hx hb dX12_hidden_16 (by decide) ?_
        refine lv_ldc2 (v := (7)) hx hb hown f1 dX12_hidden_17 ?_
        have hFc := gs_free hD hS hA
        refine va_calli (va_runS (As := [.long (Int32.toInt64 p2), .long (0 : Int64), .long (7 : Int64)]) (rest := []) ⟨hx, hb, hml, hown, hts⟩ (kX12_in l dC dI cB cI cJ cZ h0 ad H.size (Int32.toInt64 p2) (0 : Int64) (7 : Int64) M6 _ h) (cwS 3 hts gX12_hidden_X12_in rfl rfl rfl (by decide +kernel) ⟨Nat.le_of_ble_eq_true rfl, Nat.le_of_ble_eq_true rfl⟩) (mpS hK hP hD) rfl rfl hl.1 rfl (lv_room (Nat.le_of_ble_eq_true rfl)) dX12_hidden_20 ⟨Nat.le_of_ble_eq_true rfl, Nat.le_of_ble_eq_true rfl⟩) hS (fun q _ z => hFc q z) hFc (fun r9 M10 t H1 locs ht hvm hw hB hz1 hk1 hS => ?_)
        obtain ⟨hP, hD⟩ := gs_back ht hFc hB
        generalize H1 = H at hP hS ⊢
        obtain ⟨b11, rfl, h⟩ := hw
        try dsimp only at h
        refine lv_if_eq (tgt := 36) hx hb dX12_hidden_23 (by decide) (fun c12 => ?_) (fun c12 => ?_)
        · have h := h.1 c12
          refine lv_bipush (v := (-2)) hx hb dX12_hidden_36 (by decide) ?_
          exact W.iret (v := (-2 : Int32)) hx hb hr (fun t ht hW => ⟨⟨_, M10, rfl, h, by rw [ht]; exact hP, va_K.moved hW.alike hK, hD⟩, hS.F ht⟩) hS.2.2 dX12_hidden_38
        · have h := h.2 c12
          refine lv_iload_n hx hb dX12_hidden_26 rfl (lv_at hl 3 rfl) ?_
          refine lv_i2l hx hb dX12_hidden_27 rfl ?_
          refine lv_lconst (v := 0) hx hb dX12_hidden_28 (by decide) ?_
          refine lv_lconst (v := 1) hx hb dX12_hidden_29 (by decide) ?_
          have hFc := gs_free hD hS hA
          refine va_calli (va_runS (As := [.long (Int32.toInt64 p3), .long (0 : Int64), .long (1 : Int64)]) (rest := []) ⟨hx, hb, hml, hown, hts⟩ (kX12_in l dC dI cB cI cJ cZ h0 ad H.size (Int32.toInt64 p3) (0 : Int64) (1 : Int64) M10 _ h) (cwS 3 hts gX12_hidden_X12_in rfl rfl rfl (by decide +kernel) ⟨Nat.le_of_ble_eq_true rfl, Nat.le_of_ble_eq_true rfl⟩) (mpS hK hP hD) rfl rfl hl.1 rfl (lv_room (Nat.le_of_ble_eq_true rfl)) dX12_hidden_30 ⟨Nat.le_of_ble_eq_true rfl, Nat.le_of_ble_eq_true rfl⟩) hS (fun q _ z => hFc q z) hFc (fun r13 M14 t H1 locs ht hvm hw hB hz1 hk1 hS => ?_)
          obtain ⟨hP, hD⟩ := gs_back ht hFc hB
          generalize H1 = H at hP hS ⊢
          obtain ⟨b15, rfl, h⟩ := hw
          try dsimp only at h
          refine lv_if_ne (tgt := 39) hx hb dX12_hidden_33 (by decide) (fun c16 => ?_) (fun c16 => ?_)
          · have h := h.2 c16
            refine lv_aload_n hx hb dX12_hidden_39 rfl (lv_at hl 0 rfl) ?_
            refine lv_aload_n hx hb dX12_hidden_40 rfl (lv_at hl 0 rfl) ?_
            refine va_get (D := (dC, dI)) (ci := 12) (v := .ref (ad 25)) (C := RX12) (T := TX12) (N := 37) hx hb hts hin hown hK hP 0 rfl rfl 25 (by decide) f2 (fun _ h9 => h9) rfl dX12_hidden_41 ?_
            refine lv_iconst (v := 4) hx hb dX12_hidden_44 (by decide) ?_
            refine wc_iald (j := 4) hx hb hK hP 12 1 (f := ma M14 25) rfl rfl (by decide) (by decide) (by decide) dX12_hidden_45 ?_
            have hFc := gs_free hD hS hA
            refine va_callv (va_runV (As := [.int (ma M14 25 4)]) (rest := []) ⟨hx, hb, hml, hown, hts⟩ (kX12_fillsTable l dC dI cB cI cJ cZ h0 ad H.size (ma M14 25 4) M14 _ h) (cwV 1 hts gX12_hidden_X12_fillsTable rfl rfl rfl (by decide +kernel) ⟨Nat.le_of_ble_eq_true rfl, Nat.le_of_ble_eq_true rfl⟩) (mpV hK hP hD) rfl rfl hl.1 rfl (lv_room (Nat.le_of_ble_eq_true rfl)) dX12_hidden_46 ⟨Nat.le_of_ble_eq_true rfl, Nat.le_of_ble_eq_true rfl⟩) hS (fun q _ z => hFc q z) hFc (fun M18 t H1 locs ht hvm hw hB hz1 hk1 hS => ?_)
            obtain ⟨hP, hD⟩ := gs_back ht hFc hB
            generalize H1 = H at hP hS ⊢
            have h := hw
            try dsimp only at h
            refine lv_iconst (v := 0) hx hb dX12_hidden_49 (by decide) ?_
            refine lv_istore (lv' := [(4, .int (0 : Int32)), (0, .ref h0), (1, .int p1), (2, .int p2), (3, .int p3)]) hx hb dX12_hidden_50 hl (by decide) rfl (fun ls hl => ?_)
            refine lv_iconst (v := 0) hx hb dX12_hidden_52 (by decide) ?_
            refine lv_istore (lv' := [(5, .int (0 : Int32)), (4, .int (0 : Int32)), (0, .ref h0), (1, .int p1), (2, .int p2), (3, .int p3)]) hx hb dX12_hidden_53 hl (by decide) rfl (fun ls hl => ?_)
            obtain ⟨n9, h⟩ := h
            exact b55  n9 p1 p2 p3 (0 : Int32) (0 : Int32) M18 H locs ls hP hD hS (lv_sub hl [2, 3, 4, 5, 1, 0] rfl) h
          · have h := h.1 c16
            refine lv_bipush (v := (-2)) hx hb dX12_hidden_36 (by decide) ?_
            exact W.iret (v := (-2 : Int32)) hx hb hr (fun t ht hW => ⟨⟨_, M14, rfl, h, by rw [ht]; exact hP, va_K.moved hW.alike hK, hD⟩, hS.F ht⟩) hS.2.2 dX12_hidden_38
  have hl := lv_entry ([.ref h0, .int p1, .int p2, .int p3]) (n := 6) (Nat.le_of_ble_eq_true rfl)
  rw [lg_entry_eq]
  generalize (lg_sl ([.ref h0, .int p1, .int p2, .int p3]) ++ List.replicate (6 - (lg_sl ([.ref h0, .int p1, .int p2, .int p3])).length) Slot.unset).toArray = ls at hl ⊢
  have hl : lv_has ls 6 [(0, .ref h0), (1, .int p1), (2, .int p2), (3, .int p3)] := hl
  exact bE M s.heap [] ls hP hD hS hl h
def wX12_isFirsts (p1 : Int32) (p2 : Int32) (p3 : Int32) (M : gS) (Q : Bool → gS → Prop) : Prop :=
 (wX12_can p1 p2 p3 (4 : Int32) (4 : Int32) M (fun (b3 : Bool) (M2 : gS) => (Q b3 M2)))
def rmX12_isFirsts : Room := { frames := 2, cells := 0, slots := 0, locals := 47 }
set_option maxHeartbeats 4000000 in
set_option maxRecDepth 100000 in
theorem kX12_isFirsts (l : Launch) (dC : Nat → ClassId) (dI : Nat → Nat → Nat) (cB cI cJ cZ : ClassId) (h0 : Nat) (ad : Nat → Nat) (sz : Nat) (p1 : Int32) (p2 : Int32) (p3 : Int32) (M : gS) (Q : Bool → gS → Prop) (h : wX12_isFirsts p1 p2 p3 M Q) : Met l yX12_isFirsts wsX12_isFirsts rmX12_isFirsts (va_Pc [.ref h0, .int p1, .int p2, .int p3] (mI dC dI cB cI cJ cZ h0 ad M sz)) (va_Qi (fun (r : Int32) (u : gS) => ∃ b : Bool, r = bI b ∧ Q b u) (mB dC dI cB cI cJ cZ h0 ad (va_A (mW cB cI cJ cZ h0 ad M) sz)) (va_A (mW cB cI cJ cZ h0 ad M) sz)) 0 0 (va_A (mW cB cI cJ cZ h0 ad M) sz) := by
  refine Met.ofW (cc := cX12_isFirsts) (maxL := 4) (ret := (some .boolean)) (by decide) rfl ?_
  intro p e s m args below meth c s₁ B hml hv
  obtain ⟨rfl, hsz, hP, hK, hD0⟩ := hv
  have hx := B.exec
  have hb := B.bytes
  have hr := B.returns
  have hts := atoms_spec (ws := wsX12_isFirsts) B.pre
  have hown : s.vm.findClass RX12 = some m.cls := findClass_of_methodNamed B.named
  have hlocks := B.notSynchronized
  subst hsz
  have hD := hD0.self (sz := s.heap.size)
  generalize hAe : va_A (mW cB cI cJ cZ h0 ad M) s.heap.size = A at hD ⊢
  have hA : ∀ q : Nat, s.heap.size ≤ q → A q := fun q h => by rw [← hAe]; exact Or.inr h
  have hS : va_S A s.heap s.heap [] := va_S.rf
  have bE : ∀ (M : gS) (H : Heap) (locs : List Loc) (ls : Array Slot), va_P (dC, dI) vwCl (mW cB cI cJ cZ h0 ad M) H → va_D A (mW cB cI cJ cZ h0 ad M) → va_S A s.heap H locs → lv_has ls 4 [(0, .ref h0), (1, .int p1), (2, .int p2), (3, .int p3)] → wX12_isFirsts p1 p2 p3 M Q → W p l e (headSpec wsX12_isFirsts rmX12_isFirsts).room s m ([.ref h0, .int p1, .int p2, .int p3] : List Value).toArray below meth c H locs 0 0 (MQ below (va_Qi (fun (r : Int32) (u : gS) => ∃ b : Bool, r = bI b ∧ Q b u) (mB dC dI cB cI cJ cZ h0 ad A) A) ([.ref h0, .int p1, .int p2, .int p3] : List Value).toArray s 0 0 A) (F0 m 0 ls []) := by
    intro M H locs ls hP hD hS hl h
    unfold wX12_isFirsts at h
    refine lv_aload_n hx hb dX12_isFirsts_0 rfl (lv_at hl 0 rfl) ?_
    refine lv_iload_n hx hb dX12_isFirsts_1 rfl (lv_at hl 1 rfl) ?_
    refine lv_iload_n hx hb dX12_isFirsts_2 rfl (lv_at hl 2 rfl) ?_
    refine lv_iload_n hx hb dX12_isFirsts_3 rfl (lv_at hl 3 rfl) ?_
    refine lv_iconst (v := 4) hx hb dX12_isFirsts_4 (by decide) ?_
    refine lv_iconst (v := 4) hx hb dX12_isFirsts_5 (by decide) ?_
    have hFc := gs_free hD hS hA
    refine va_calli (va_runV (As := [.int p1, .int p2, .int p3, .int (4 : Int32), .int (4 : Int32)]) (rest := []) ⟨hx, hb, hml, hown, hts⟩ (kX12_can l dC dI cB cI cJ cZ h0 ad H.size p1 p2 p3 (4 : Int32) (4 : Int32) M _ h) (cwV 5 hts gX12_isFirsts_X12_can rfl rfl rfl (by decide +kernel) ⟨Nat.le_of_ble_eq_true rfl, Nat.le_of_ble_eq_true rfl⟩) (mpV hK hP hD) rfl rfl hl.1 rfl (lv_room (Nat.le_of_ble_eq_true rfl)) dX12_isFirsts_6 ⟨Nat.le_of_ble_eq_true rfl, Nat.le_of_ble_eq_true rfl⟩) hS (fun q _ z => hFc q z) hFc (fun r1 M2 t H1 locs ht hvm hw hB hz1 hk1 hS => ?_)
    obtain ⟨hP, hD⟩ := gs_back ht hFc hB
    generalize H1 = H at hP hS ⊢
    obtain ⟨b3, rfl, h⟩ := hw
    try dsimp only at h
    exact W.zret (v := (bI b3)) hx hb hr (nar_bI b3) (fun t ht hW => ⟨⟨_, M2, rfl, ⟨b3, rfl, h⟩, by rw [ht]; exact hP, va_K.moved hW.alike hK, hD⟩, hS.F ht⟩) hS.2.2 dX12_isFirsts_9
  have hl := lv_entry ([.ref h0, .int p1, .int p2, .int p3]) (n := 4) (Nat.le_of_ble_eq_true rfl)
  rw [lg_entry_eq]
  generalize (lg_sl ([.ref h0, .int p1, .int p2, .int p3]) ++ List.replicate (4 - (lg_sl ([.ref h0, .int p1, .int p2, .int p3])).length) Slot.unset).toArray = ls at hl ⊢
  have hl : lv_has ls 4 [(0, .ref h0), (1, .int p1), (2, .int p2), (3, .int p3)] := hl
  exact bE M s.heap [] ls hP hD hS hl h
def wX12_fair_136 (B25 : Int32 → Int32 → Int32 → gS → Prop) (Q : Int32 → gS → Prop) (y1 : Int32) (y3 : Int32) (z1 : Int32) (z0 : Int32) (M : gS) : Prop :=
 (∀ x1 : Int32, x1 = (z1 ||| z0) → (∀ x2 : Int32, x2 = y3 + (1 : Int32) → (B25 y1 x1 x2 M)))
def wX12_fair_120 (B25 : Int32 → Int32 → Int32 → gS → Prop) (Q : Int32 → gS → Prop) (y1 : Int32) (y2 : Int32) (y3 : Int32) (z0 : Int32) (M : gS) : Prop :=
 ((z0 = y1 → (wX12_fair_136 B25 Q y1 y3 y2 ((1 : Int32) <<< (y3 &&& 31)) M))
 ∧ (¬ z0 = y1 → (wX12_fair_136 B25 Q y1 y3 y2 (0 : Int32) M)))
def wX12_fair_25  (Q : Int32 → gS → Prop) : Nat → Int32 → Int32 → Int32 → gS → Prop
 | 0, _, _, _, _ => False
 | n + 1, y1, y2, y3, M => (((ma M 25 0) ≤ y3 → (Q y2 M))
 ∧ (¬ (ma M 25 0) ≤ y3 → (wX12_verseOf y3 M (fun (r2 : Int32) (M3 : gS) => (wX12_fillsTable r2 M3 (fun (M5 : gS) => (wX12_isFirsts r2 (ma M5 25 12) (ma M5 25 13) M5 (fun (b8 : Bool) (M7 : gS) => (wX12_isFirsts r2 (ma M7 25 13) (ma M7 25 12) M7 (fun (b11 : Bool) (M10 : gS) => (((bI b8) = 0 → (((bI b11) = 0 → (wX12_fair_120 (fun (y1 : Int32) (y2 : Int32) (y3 : Int32) (M : gS) => wX12_fair_25  Q n y1 y2 y3 M) Q y1 y2 y3 (3 : Int32) M10))
 ∧ (¬ (bI b11) = 0 → (wX12_fair_120 (fun (y1 : Int32) (y2 : Int32) (y3 : Int32) (M : gS) => wX12_fair_25  Q n y1 y2 y3 M) Q y1 y2 y3 (2 : Int32) M10))))
 ∧ (¬ (bI b8) = 0 → (((bI b11) = 0 → (wX12_fair_120 (fun (y1 : Int32) (y2 : Int32) (y3 : Int32) (M : gS) => wX12_fair_25  Q n y1 y2 y3 M) Q y1 y2 y3 (1 : Int32) M10))
 ∧ (¬ (bI b11) = 0 → (wX12_fair_120 (fun (y1 : Int32) (y2 : Int32) (y3 : Int32) (M : gS) => wX12_fair_25  Q n y1 y2 y3 M) Q y1 y2 y3 (0 : Int32) M10)))))))))))))))
def wX12_fair (p1 : Int32) (M : gS) (Q : Int32 → gS → Prop) : Prop :=
 (wX12_isCorner  M (fun (b3 : Bool) (M2 : gS) => (((bI b3) = 0 → (Q (-1 : Int32) M2))
 ∧ (¬ (bI b3) = 0 → (wX12_in (Int32.toInt64 p1) (0 : Int64) (3 : Int64) M2 (fun (b7 : Bool) (M6 : gS) => (((bI b7) = 0 → (Q (-1 : Int32) M6))
 ∧ (¬ (bI b7) = 0 → (∃ k25 : Nat, wX12_fair_25  Q k25 p1 (0 : Int32) (0 : Int32) M6)))))))))
def rmX12_fair : Room := { frames := 5, cells := 0, slots := 0, locals := 126 }
set_option maxHeartbeats 4000000 in
set_option maxRecDepth 100000 in
theorem kX12_fair (l : Launch) (dC : Nat → ClassId) (dI : Nat → Nat → Nat) (cB cI cJ cZ : ClassId) (h0 : Nat) (ad : Nat → Nat) (sz : Nat) (p1 : Int32) (M : gS) (Q : Int32 → gS → Prop) (h : wX12_fair p1 M Q) : Met l yX12_fair wsX12_fair rmX12_fair (va_Pc [.ref h0, .int p1] (mI dC dI cB cI cJ cZ h0 ad M sz)) (va_Qi (fun (r : Int32) (u : gS) => Q r u) (mB dC dI cB cI cJ cZ h0 ad (va_A (mW cB cI cJ cZ h0 ad M) sz)) (va_A (mW cB cI cJ cZ h0 ad M) sz)) 0 0 (va_A (mW cB cI cJ cZ h0 ad M) sz) := by
  refine Met.ofW (cc := cX12_fair) (maxL := 8) (ret := (some .int)) (by decide) rfl ?_
  intro p e s m args below meth c s₁ B hml hv
  obtain ⟨rfl, hsz, hP, hK, hD0⟩ := hv
  have hx := B.exec
  have hb := B.bytes
  have hr := B.returns
  have hts := atoms_spec (ws := wsX12_fair) B.pre
  have hown : s.vm.findClass RX12 = some m.cls := findClass_of_methodNamed B.named
  have hlocks := B.notSynchronized
  subst hsz
  have hD := hD0.self (sz := s.heap.size)
  generalize hAe : va_A (mW cB cI cJ cZ h0 ad M) s.heap.size = A at hD ⊢
  have hA : ∀ q : Nat, s.heap.size ≤ q → A q := fun q h => by rw [← hAe]; exact Or.inr h
  have hS : va_S A s.heap s.heap [] := va_S.rf
  have hin : ∀ w ∈ wsX120, w ∈ wsX12_fair := fun w h => List.mem_cons_of_mem _ (List.mem_append_right _ h)
  have f1 := hts (.fieldLink RX12 45 "LastWordsModel" "said" "[I") (by decide +kernel)
  have f2 := hts (.constantLong RX12 319 (3)) (by decide +kernel)
  have b136 : ∀ (B25 : Int32 → Int32 → Int32 → gS → Prop) (hB25 : ∀ (y1 : Int32) (y2 : Int32) (y3 : Int32) (M : gS) (H : Heap) (locs : List Loc) (ls : Array Slot), va_P (dC, dI) vwCl (mW cB cI cJ cZ h0 ad M) H → va_D A (mW cB cI cJ cZ h0 ad M) → va_S A s.heap H locs → lv_has ls 8 [(0, .ref h0), (1, .int y1), (2, .int y2), (3, .int y3)] → B25 y1 y2 y3 M → W p l e (headSpec wsX12_fair rmX12_fair).room s m ([.ref h0, .int p1] : List Value).toArray below meth c H locs 0 0 (MQ below (va_Qi (fun (r : Int32) (u : gS) => Q r u) (mB dC dI cB cI cJ cZ h0 ad A) A) ([.ref h0, .int p1] : List Value).toArray s 0 0 A) (F0 m 25 ls [])) (y1 : Int32) (y3 : Int32) (z1 : Int32) (z0 : Int32) (M : gS) (H : Heap) (locs : List Loc) (ls : Array Slot), va_P (dC, dI) vwCl (mW cB cI cJ cZ h0 ad M) H → va_D A (mW cB cI cJ cZ h0 ad M) → va_S A s.heap H locs → lv_has ls 8 [(0, .ref h0), (1, .int y1), (3, .int y3)] → wX12_fair_136 B25 Q y1 y3 z1 z0 M → W p l e (headSpec wsX12_fair rmX12_fair).room s m ([.ref h0, .int p1] : List Value).toArray below meth c H locs 0 0 (MQ below (va_Qi (fun (r : Int32) (u : gS) => Q r u) (mB dC dI cB cI cJ cZ h0 ad A) A) ([.ref h0, .int p1] : List Value).toArray s 0 0 A) (F0 m 136 ls [.int z0, .int z1]) := by
    intro B25 hB25 y1 y3 z1 z0 M H locs ls hP hD hS hl h
    unfold wX12_fair_136 at h
    refine lv_ior hx hb dX12_fair_136 ?_
    refine lv_topi (fun x1 ex1 => ?_)
    have h := h x1 ex1
    refine lv_istore_n (lv' := [(2, .int x1), (0, .ref h0), (1, .int y1), (3, .int y3)]) hx hb dX12_fair_137 rfl hl (by decide) rfl (fun ls hl => ?_)
    obtain ⟨x2, ex2⟩ : ∃ y : Int32, y = y3 + (1 : Int32) := ⟨_, rfl⟩
    have h := h x2 ex2
    refine lv_iinc (v := x2) (lv' := [(3, .int x2), (2, .int x1), (0, .ref h0), (1, .int y1)]) hx hb dX12_fair_138 hl (k := 3) rfl (by rw [ex2]; rfl) (by decide) rfl (fun ls hl => ?_)
    refine lv_goto (tgt := 25) hx hb dX12_fair_141 (by decide) ?_
    exact hB25 y1 x1 x2 M H locs ls hP hD hS (lv_sub hl [2, 3, 1, 0] rfl) h
  have b120 : ∀ (B25 : Int32 → Int32 → Int32 → gS → Prop) (hB25 : ∀ (y1 : Int32) (y2 : Int32) (y3 : Int32) (M : gS) (H : Heap) (locs : List Loc) (ls : Array Slot), va_P (dC, dI) vwCl (mW cB cI cJ cZ h0 ad M) H → va_D A (mW cB cI cJ cZ h0 ad M) → va_S A s.heap H locs → lv_has ls 8 [(0, .ref h0), (1, .int y1), (2, .int y2), (3, .int y3)] → B25 y1 y2 y3 M → W p l e (headSpec wsX12_fair rmX12_fair).room s m ([.ref h0, .int p1] : List Value).toArray below meth c H locs 0 0 (MQ below (va_Qi (fun (r : Int32) (u : gS) => Q r u) (mB dC dI cB cI cJ cZ h0 ad A) A) ([.ref h0, .int p1] : List Value).toArray s 0 0 A) (F0 m 25 ls [])) (y1 : Int32) (y2 : Int32) (y3 : Int32) (z0 : Int32) (M : gS) (H : Heap) (locs : List Loc) (ls : Array Slot), va_P (dC, dI) vwCl (mW cB cI cJ cZ h0 ad M) H → va_D A (mW cB cI cJ cZ h0 ad M) → va_S A s.heap H locs → lv_has ls 8 [(0, .ref h0), (1, .int y1), (2, .int y2), (3, .int y3)] → wX12_fair_120 B25 Q y1 y2 y3 z0 M → W p l e (headSpec wsX12_fair rmX12_fair).room s m ([.ref h0, .int p1] : List Value).toArray below meth c H locs 0 0 (MQ below (va_Qi (fun (r : Int32) (u : gS) => Q r u) (mB dC dI cB cI cJ cZ h0 ad A) A) ([.ref h0, .int p1] : List Value).toArray s 0 0 A) (F0 m 120 ls [.int z0]) := by
    intro B25 hB25 y1 y2 y3 z0 M H locs ls hP hD hS hl h
    unfold wX12_fair_120 at h
    refine lv_istore (lv' := [(7, .int z0), (0, .ref h0), (1, .int y1), (2, .int y2), (3, .int y3)]) hx hb dX12_fair_120 hl (by decide) rfl (fun ls hl => ?_)
    refine lv_iload_n hx hb dX12_fair_122 rfl (lv_at hl 3 rfl) ?_
    refine lv_iload hx hb dX12_fair_123 (lv_at hl 0 rfl) ?_
    refine lv_iload_n hx hb dX12_fair_125 rfl (lv_at hl 2 rfl) ?_
    refine lv_icmp_ne (tgt := 135) hx hb dX12_fair_126 (by decide) (fun c1 => ?_) (fun c1 => ?_)
    · have h := h.2 c1
      refine lv_iconst (v := 0) hx hb dX12_fair_135 (by decide) ?_
      exact b136 _ hB25 y1 y3 y2 (0 : Int32) M H locs ls hP hD hS (lv_sub hl [1, 2, 4] rfl) h
    · have h := h.1 c1
      refine lv_iconst (v := 1) hx hb dX12_fair_129 (by decide) ?_
      refine lv_iload_n hx hb dX12_fair_130 rfl (lv_at hl 4 rfl) ?_
      refine lv_ishl hx hb dX12_fair_131 ?_
      refine lv_goto (tgt := 136) hx hb dX12_fair_132 (by decide) ?_
      exact b136 _ hB25 y1 y3 y2 ((1 : Int32) <<< (y3 &&& 31)) M H locs ls hP hD hS (lv_sub hl [1, 2, 4] rfl) h
  have b25 : ∀ (n : Nat) (y1 : Int32) (y2 : Int32) (y3 : Int32) (M : gS) (H : Heap) (locs : List Loc) (ls : Array Slot), va_P (dC, dI) vwCl (mW cB cI cJ cZ h0 ad M) H → va_D A (mW cB cI cJ cZ h0 ad M) → va_S A s.heap H locs → lv_has ls 8 [(0, .ref h0), (1, .int y1), (2, .int y2), (3, .int y3)] → wX12_fair_25  Q n y1 y2 y3 M → W p l e (headSpec wsX12_fair rmX12_fair).room s m ([.ref h0, .int p1] : List Value).toArray below meth c H locs 0 0 (MQ below (va_Qi (fun (r : Int32) (u : gS) => Q r u) (mB dC dI cB cI cJ cZ h0 ad A) A) ([.ref h0, .int p1] : List Value).toArray s 0 0 A) (F0 m 25 ls []) := by
    intro  n
    induction n with
    | zero => intro y1 y2 y3 M H locs ls hP hD hS hl h; exact absurd h (by simp [wX12_fair_25])
    | succ n hB250 =>
      intro y1 y2 y3 M H locs ls hP hD hS hl h
      have hB25 := hB250
      rw [wX12_fair_25] at h
      refine lv_iload_n hx hb dX12_fair_25 rfl (lv_at hl 3 rfl) ?_
      refine lv_aload_n hx hb dX12_fair_26 rfl (lv_at hl 0 rfl) ?_
      refine va_get (D := (dC, dI)) (ci := 12) (v := .ref (ad 25)) (C := RX12) (T := TX12) (N := 37) hx hb hts hin hown hK hP 0 rfl rfl 25 (by decide) f1 (fun _ h9 => h9) rfl dX12_fair_27 ?_
      refine lv_iconst (v := 0) hx hb dX12_fair_30 (by decide) ?_
      refine wc_iald (j := 0) hx hb hK hP 12 1 (f := ma M 25) rfl rfl (by decide) (by decide) (by decide) dX12_fair_31 ?_
      refine lv_icmp_ge (tgt := 144) hx hb dX12_fair_32 (by decide) (fun c1 => ?_) (fun c1 => ?_)
      · have h := h.1 c1
        refine lv_iload_n hx hb dX12_fair_144 rfl (lv_at hl 2 rfl) ?_
        exact W.iret (v := y2) hx hb hr (fun t ht hW => ⟨⟨_, M, rfl, h, by rw [ht]; exact hP, va_K.moved hW.alike hK, hD⟩, hS.F ht⟩) hS.2.2 dX12_fair_145
      · have h := h.2 c1
        refine lv_aload_n hx hb dX12_fair_35 rfl (lv_at hl 0 rfl) ?_
        refine lv_iload_n hx hb dX12_fair_36 rfl (lv_at hl 3 rfl) ?_
        have hFc := gs_free hD hS hA
        refine va_calli (va_runV (As := [.int y3]) (rest := []) ⟨hx, hb, hml, hown, hts⟩ (kX12_verseOf l dC dI cB cI cJ cZ h0 ad H.size y3 M _ h) (cwV 1 hts gX12_fair_X12_verseOf rfl rfl rfl (by decide +kernel) ⟨Nat.le_of_ble_eq_true rfl, Nat.le_of_ble_eq_true rfl⟩) (mpV hK hP hD) rfl rfl hl.1 rfl (lv_room (Nat.le_of_ble_eq_true rfl)) dX12_fair_37 ⟨Nat.le_of_ble_eq_true rfl, Nat.le_of_ble_eq_true rfl⟩) hS (fun q _ z => hFc q z) hFc (fun r2 M3 t H1 locs ht hvm hw hB hz1 hk1 hS => ?_)
        obtain ⟨hP, hD⟩ := gs_back ht hFc hB
        generalize H1 = H at hP hS ⊢
        have h := hw
        try dsimp only at h
        refine lv_istore (lv' := [(4, .int r2), (0, .ref h0), (1, .int y1), (2, .int y2), (3, .int y3)]) hx hb dX12_fair_40 hl (by decide) rfl (fun ls hl => ?_)
        refine lv_aload_n hx hb dX12_fair_42 rfl (lv_at hl 1 rfl) ?_
        refine lv_iload hx hb dX12_fair_43 (lv_at hl 0 rfl) ?_
        have hFc := gs_free hD hS hA
        refine va_callv (va_runV (As := [.int r2]) (rest := []) ⟨hx, hb, hml, hown, hts⟩ (kX12_fillsTable l dC dI cB cI cJ cZ h0 ad H.size r2 M3 _ h) (cwV 1 hts gX12_fair_X12_fillsTable rfl rfl rfl (by decide +kernel) ⟨Nat.le_of_ble_eq_true rfl, Nat.le_of_ble_eq_true rfl⟩) (mpV hK hP hD) rfl rfl hl.1 rfl (lv_room (Nat.le_of_ble_eq_true rfl)) dX12_fair_45 ⟨Nat.le_of_ble_eq_true rfl, Nat.le_of_ble_eq_true rfl⟩) hS (fun q _ z => hFc q z) hFc (fun M5 t H1 locs ht hvm hw hB hz1 hk1 hS => ?_)
        obtain ⟨hP, hD⟩ := gs_back ht hFc hB
        generalize H1 = H at hP hS ⊢
        have h := hw
        try dsimp only at h
        refine lv_aload_n hx hb dX12_fair_48 rfl (lv_at hl 1 rfl) ?_
        refine lv_iload hx hb dX12_fair_49 (lv_at hl 0 rfl) ?_
        refine lv_aload_n hx hb dX12_fair_51 rfl (lv_at hl 1 rfl) ?_
        refine va_get (D := (dC, dI)) (ci := 12) (v := .ref (ad 25)) (C := RX12) (T := TX12) (N := 37) hx hb hts hin hown hK hP 0 rfl rfl 25 (by decide) f1 (fun _ h9 => h9) rfl dX12_fair_52 ?_
        refine lv_bipush (v := (12)) hx hb dX12_fair_55 (by decide) ?_
        refine wc_iald (j := 12) hx hb hK hP 12 1 (f := ma M5 25) rfl rfl (by decide) (by decide) (by decide) dX12_fair_57 ?_
        refine lv_aload_n hx hb dX12_fair_58 rfl (lv_at hl 1 rfl) ?_
        refine va_get (D := (dC, dI)) (ci := 12) (v := .ref (ad 25)) (C := RX12) (T := TX12) (N := 37) hx hb hts hin hown hK hP 0 rfl rfl 25 (by decide) f1 (fun _ h9 => h9) rfl dX12_fair_59 ?_
        refine lv_bipush (v := (13)) hx hb dX12_fair_62 (by decide) ?_
        refine wc_iald (j := 13) hx hb hK hP 12 1 (f := ma M5 25) rfl rfl (by decide) (by decide) (by decide) dX12_fair_64 ?_
        have hFc := gs_free hD hS hA
        refine va_calli (va_runV (As := [.int r2, .int (ma M5 25 12), .int (ma M5 25 13)]) (rest := []) ⟨hx, hb, hml, hown, hts⟩ (kX12_isFirsts l dC dI cB cI cJ cZ h0 ad H.size r2 (ma M5 25 12) (ma M5 25 13) M5 _ h) (cwV 3 hts gX12_fair_X12_isFirsts rfl rfl rfl (by decide +kernel) ⟨Nat.le_of_ble_eq_true rfl, Nat.le_of_ble_eq_true rfl⟩) (mpV hK hP hD) rfl rfl hl.1 rfl (lv_room (Nat.le_of_ble_eq_true rfl)) dX12_fair_65 ⟨Nat.le_of_ble_eq_true rfl, Nat.le_of_ble_eq_true rfl⟩) hS (fun q _ z => hFc q z) hFc (fun r6 M7 t H1 locs ht hvm hw hB hz1 hk1 hS => ?_)
        obtain ⟨hP, hD⟩ := gs_back ht hFc hB
        generalize H1 = H at hP hS ⊢
        obtain ⟨b8, rfl, h⟩ := hw
        try dsimp only at h
        refine lv_istore (lv' := [(5, .int (bI b8)), (4, .int r2), (0, .ref h0), (1, .int y1), (2, .int y2), (3, .int y3)]) hx hb dX12_fair_68 hl (by decide) rfl (fun ls hl => ?_)
        refine lv_aload_n hx hb dX12_fair_70 rfl (lv_at hl 2 rfl) ?_
        refine lv_iload hx hb dX12_fair_71 (lv_at hl 1 rfl) ?_
        refine lv_aload_n hx hb dX12_fair_73 rfl (lv_at hl 2 rfl) ?_
        refine va_get (D := (dC, dI)) (ci := 12) (v := .ref (ad 25)) (C := RX12) (T := TX12) (N := 37) hx hb hts hin hown hK hP 0 rfl rfl 25 (by decide) f1 (fun _ h9 => h9) rfl dX12_fair_74 ?_
        refine lv_bipush (v := (13)) hx hb dX12_fair_77 (by decide) ?_
        refine wc_iald (j := 13) hx hb hK hP 12 1 (f := ma M7 25) rfl rfl (by decide) (by decide) (by decide) dX12_fair_79 ?_
        refine lv_aload_n hx hb dX12_fair_80 rfl (lv_at hl 2 rfl) ?_
        refine va_get (D := (dC, dI)) (ci := 12) (v := .ref (ad 25)) (C := RX12) (T := TX12) (N := 37) hx hb hts hin hown hK hP 0 rfl rfl 25 (by decide) f1 (fun _ h9 => h9) rfl dX12_fair_81 ?_
        refine lv_bipush (v := (12)) hx hb dX12_fair_84 (by decide) ?_
        refine wc_iald (j := 12) hx hb hK hP 12 1 (f := ma M7 25) rfl rfl (by decide) (by decide) (by decide) dX12_fair_86 ?_
        have hFc := gs_free hD hS hA
        refine va_calli (va_runV (As := [.int r2, .int (ma M7 25 13), .int (ma M7 25 12)]) (rest := []) ⟨hx, hb, hml, hown, hts⟩ (kX12_isFirsts l dC dI cB cI cJ cZ h0 ad H.size r2 (ma M7 25 13) (ma M7 25 12) M7 _ h) (cwV 3 hts gX12_fair_X12_isFirsts rfl rfl rfl (by decide +kernel) ⟨Nat.le_of_ble_eq_true rfl, Nat.le_of_ble_eq_true rfl⟩) (mpV hK hP hD) rfl rfl hl.1 rfl (lv_room (Nat.le_of_ble_eq_true rfl)) dX12_fair_87 ⟨Nat.le_of_ble_eq_true rfl, Nat.le_of_ble_eq_true rfl⟩) hS (fun q _ z => hFc q z) hFc (fun r9 M10 t H1 locs ht hvm hw hB hz1 hk1 hS => ?_)
        obtain ⟨hP, hD⟩ := gs_back ht hFc hB
        generalize H1 = H at hP hS ⊢
        obtain ⟨b11, rfl, h⟩ := hw
        try dsimp only at h
        refine lv_istore (lv' := [(6, .int (bI b11)), (5, .int (bI b8)), (4, .int r2), (0, .ref h0), (1, .int y1), (2, .int y2), (3, .int y3)]) hx hb dX12_fair_90 hl (by decide) rfl (fun ls hl => ?_)
        refine lv_iload hx hb dX12_fair_92 (lv_at hl 1 rfl) ?_
        refine lv_if_eq (tgt := 110) hx hb dX12_fair_94 (by decide) (fun c12 => ?_) (fun c12 => ?_)
        · have h := h.1 c12
          refine lv_iload hx hb dX12_fair_110 (lv_at hl 0 rfl) ?_
          refine lv_if_eq (tgt := 119) hx hb dX12_fair_112 (by decide) (fun c13 => ?_) (fun c13 => ?_)
          · have h := h.1 c13
            refine lv_iconst (v := 3) hx hb dX12_fair_119 (by decide) ?_
            exact b120 _ hB25 y1 y2 y3 (3 : Int32) M10 H locs ls hP hD hS (lv_sub hl [3, 4, 5, 6] rfl) h
          · have h := h.2 c13
            refine lv_iconst (v := 2) hx hb dX12_fair_115 (by decide) ?_
            refine lv_goto (tgt := 120) hx hb dX12_fair_116 (by decide) ?_
            exact b120 _ hB25 y1 y2 y3 (2 : Int32) M10 H locs ls hP hD hS (lv_sub hl [3, 4, 5, 6] rfl) h
        · have h := h.2 c12
          refine lv_iload hx hb dX12_fair_97 (lv_at hl 0 rfl) ?_
          refine lv_if_eq (tgt := 106) hx hb dX12_fair_99 (by decide) (fun c14 => ?_) (fun c14 => ?_)
          · have h := h.1 c14
            refine lv_iconst (v := 1) hx hb dX12_fair_106 (by decide) ?_
            refine lv_goto (tgt := 120) hx hb dX12_fair_107 (by decide) ?_
            exact b120 _ hB25 y1 y2 y3 (1 : Int32) M10 H locs ls hP hD hS (lv_sub hl [3, 4, 5, 6] rfl) h
          · have h := h.2 c14
            refine lv_iconst (v := 0) hx hb dX12_fair_102 (by decide) ?_
            refine lv_goto (tgt := 120) hx hb dX12_fair_103 (by decide) ?_
            exact b120 _ hB25 y1 y2 y3 (0 : Int32) M10 H locs ls hP hD hS (lv_sub hl [3, 4, 5, 6] rfl) h
  have bE : ∀ (M : gS) (H : Heap) (locs : List Loc) (ls : Array Slot), va_P (dC, dI) vwCl (mW cB cI cJ cZ h0 ad M) H → va_D A (mW cB cI cJ cZ h0 ad M) → va_S A s.heap H locs → lv_has ls 8 [(0, .ref h0), (1, .int p1)] → wX12_fair p1 M Q → W p l e (headSpec wsX12_fair rmX12_fair).room s m ([.ref h0, .int p1] : List Value).toArray below meth c H locs 0 0 (MQ below (va_Qi (fun (r : Int32) (u : gS) => Q r u) (mB dC dI cB cI cJ cZ h0 ad A) A) ([.ref h0, .int p1] : List Value).toArray s 0 0 A) (F0 m 0 ls []) := by
    intro M H locs ls hP hD hS hl h
    unfold wX12_fair at h
    refine lv_aload_n hx hb dX12_fair_0 rfl (lv_at hl 0 rfl) ?_
    have hFc := gs_free hD hS hA
    refine va_calli (va_runV (As := []) (rest := []) ⟨hx, hb, hml, hown, hts⟩ (kX12_isCorner l dC dI cB cI cJ cZ h0 ad H.size  M _ h) (cwV 0 hts gX12_fair_X12_isCorner rfl rfl rfl (by decide +kernel) ⟨Nat.le_of_ble_eq_true rfl, Nat.le_of_ble_eq_true rfl⟩) (mpV hK hP hD) rfl rfl hl.1 rfl (lv_room (Nat.le_of_ble_eq_true rfl)) dX12_fair_1 ⟨Nat.le_of_ble_eq_true rfl, Nat.le_of_ble_eq_true rfl⟩) hS (fun q _ z => hFc q z) hFc (fun r1 M2 t H1 locs ht hvm hw hB hz1 hk1 hS => ?_)
    obtain ⟨hP, hD⟩ := gs_back ht hFc hB
    generalize H1 = H at hP hS ⊢
    obtain ⟨b3, rfl, h⟩ := hw
    try dsimp only at h
    refine lv_if_eq (tgt := 19) hx hb dX12_fair_4 (by decide) (fun c4 => ?_) (fun c4 => ?_)
    · have h := h.1 c4
      refine lv_iconst (v := (-1)) hx hb dX12_fair_19 (by decide) ?_
      exact W.iret (v := (-1 : Int32)) hx hb hr (fun t ht hW => ⟨⟨_, M2, rfl, h, by rw [ht]; exact hP, va_K.moved hW.alike hK, hD⟩, hS.F ht⟩) hS.2.2 dX12_fair_20
    · have h := h.2 c4
      refine lv_iload_n hx hb dX12_fair_7 rfl (lv_at hl 1 rfl) ?_
      refine lv_i2l hx hb dX12_fair_8 rfl ?_
      refine lv_lconst (v := 0) hx hb dX12_fair_9 (by decide) ?_
      refine lv_ldc2 (v := (3)) hx hb hown f2 dX12_fair_10 ?_
      have hFc := gs_free hD hS hA
      refine va_calli (va_runS (As := [.long (Int32.toInt64 p1), .long (0 : Int64), .long (3 : Int64)]) (rest := []) ⟨hx, hb, hml, hown, hts⟩ (kX12_in l dC dI cB cI cJ cZ h0 ad H.size (Int32.toInt64 p1) (0 : Int64) (3 : Int64) M2 _ h) (cwS 3 hts gX12_fair_X12_in rfl rfl rfl (by decide +kernel) ⟨Nat.le_of_ble_eq_true rfl, Nat.le_of_ble_eq_true rfl⟩) (mpS hK hP hD) rfl rfl hl.1 rfl (lv_room (Nat.le_of_ble_eq_true rfl)) dX12_fair_13 ⟨Nat.le_of_ble_eq_true rfl, Nat.le_of_ble_eq_true rfl⟩) hS (fun q _ z => hFc q z) hFc (fun r5 M6 t H1 locs ht hvm hw hB hz1 hk1 hS => ?_)
      obtain ⟨hP, hD⟩ := gs_back ht hFc hB
      generalize H1 = H at hP hS ⊢
      obtain ⟨b7, rfl, h⟩ := hw
      try dsimp only at h
      refine lv_if_ne (tgt := 21) hx hb dX12_fair_16 (by decide) (fun c8 => ?_) (fun c8 => ?_)
      · have h := h.2 c8
        refine lv_iconst (v := 0) hx hb dX12_fair_21 (by decide) ?_
        refine lv_istore_n (lv' := [(2, .int (0 : Int32)), (0, .ref h0), (1, .int p1)]) hx hb dX12_fair_22 rfl hl (by decide) rfl (fun ls hl => ?_)
        refine lv_iconst (v := 0) hx hb dX12_fair_23 (by decide) ?_
        refine lv_istore_n (lv' := [(3, .int (0 : Int32)), (2, .int (0 : Int32)), (0, .ref h0), (1, .int p1)]) hx hb dX12_fair_24 rfl hl (by decide) rfl (fun ls hl => ?_)
        obtain ⟨n9, h⟩ := h
        exact b25  n9 p1 (0 : Int32) (0 : Int32) M6 H locs ls hP hD hS (lv_sub hl [2, 3, 1, 0] rfl) h
      · have h := h.1 c8
        refine lv_iconst (v := (-1)) hx hb dX12_fair_19 (by decide) ?_
        exact W.iret (v := (-1 : Int32)) hx hb hr (fun t ht hW => ⟨⟨_, M6, rfl, h, by rw [ht]; exact hP, va_K.moved hW.alike hK, hD⟩, hS.F ht⟩) hS.2.2 dX12_fair_20
  have hl := lv_entry ([.ref h0, .int p1]) (n := 8) (Nat.le_of_ble_eq_true rfl)
  rw [lg_entry_eq]
  generalize (lg_sl ([.ref h0, .int p1]) ++ List.replicate (8 - (lg_sl ([.ref h0, .int p1])).length) Slot.unset).toArray = ls at hl ⊢
  have hl : lv_has ls 8 [(0, .ref h0), (1, .int p1)] := hl
  exact bE M s.heap [] ls hP hD hS hl h
def wX12_bribes_66  (Q : Bool → gS → Prop) (y1 : Int32) (z0 : Int32) (M : gS) : Prop :=
 (wX12_haver z0 (ma M 25 12) (ma M 25 13) M (fun (r1 : Int32) (M2 : gS) => ((r1 = y1 → (Q true M2))
 ∧ (¬ r1 = y1 → (Q false M2)))))
def wX12_bribes_24  (Q : Bool → gS → Prop) (y1 : Int32) (y2 : Int32) (z0 : Int32) (M : gS) : Prop :=
 (∀ x1 : Int32, x1 = ((ma M 25 5) + y2) → (wX12_fillsTable z0 M (fun (M3 : gS) => ((0 ≤ x1 → ((x1 ≤ (200 : Int32) → (wX12_bribes_66  Q y1 x1 M3))
 ∧ (¬ x1 ≤ (200 : Int32) → (wX12_bribes_66  Q y1 (200 : Int32) M3))))
 ∧ (¬ 0 ≤ x1 → (wX12_bribes_66  Q y1 (0 : Int32) M3))))))
def wX12_bribes (p1 : Int32) (p2 : Int32) (M : gS) (Q : Bool → gS → Prop) : Prop :=
 (((1 : Int32) ≤ ((ma M 25 4) + p2) → (wX12_bribes_24  Q p1 p2 ((ma M 25 4) + p2) M))
 ∧ (¬ (1 : Int32) ≤ ((ma M 25 4) + p2) → (wX12_bribes_24  Q p1 p2 (1 : Int32) M)))
def rmX12_bribes : Room := { frames := 5, cells := 0, slots := 0, locals := 126 }
set_option maxHeartbeats 4000000 in
set_option maxRecDepth 100000 in
theorem kX12_bribes (l : Launch) (dC : Nat → ClassId) (dI : Nat → Nat → Nat) (cB cI cJ cZ : ClassId) (h0 : Nat) (ad : Nat → Nat) (sz : Nat) (p1 : Int32) (p2 : Int32) (M : gS) (Q : Bool → gS → Prop) (h : wX12_bribes p1 p2 M Q) : Met l yX12_bribes wsX12_bribes rmX12_bribes (va_Pc [.ref h0, .int p1, .int p2] (mI dC dI cB cI cJ cZ h0 ad M sz)) (va_Qi (fun (r : Int32) (u : gS) => ∃ b : Bool, r = bI b ∧ Q b u) (mB dC dI cB cI cJ cZ h0 ad (va_A (mW cB cI cJ cZ h0 ad M) sz)) (va_A (mW cB cI cJ cZ h0 ad M) sz)) 0 0 (va_A (mW cB cI cJ cZ h0 ad M) sz) := by
  refine Met.ofW (cc := cX12_bribes) (maxL := 5) (ret := (some .boolean)) (by decide) rfl ?_
  intro p e s m args below meth c s₁ B hml hv
  obtain ⟨rfl, hsz, hP, hK, hD0⟩ := hv
  have hx := B.exec
  have hb := B.bytes
  have hr := B.returns
  have hts := atoms_spec (ws := wsX12_bribes) B.pre
  have hown : s.vm.findClass RX12 = some m.cls := findClass_of_methodNamed B.named
  have hlocks := B.notSynchronized
  subst hsz
  have hD := hD0.self (sz := s.heap.size)
  generalize hAe : va_A (mW cB cI cJ cZ h0 ad M) s.heap.size = A at hD ⊢
  have hA : ∀ q : Nat, s.heap.size ≤ q → A q := fun q h => by rw [← hAe]; exact Or.inr h
  have hS : va_S A s.heap s.heap [] := va_S.rf
  have hin : ∀ w ∈ wsX120, w ∈ wsX12_bribes := fun w h => List.mem_cons_of_mem _ (List.mem_append_right _ h)
  have f1 := hts (.fieldLink RX12 45 "LastWordsModel" "said" "[I") (by decide +kernel)
  have b66 : ∀ (y1 : Int32) (z0 : Int32) (M : gS) (H : Heap) (locs : List Loc) (ls : Array Slot), va_P (dC, dI) vwCl (mW cB cI cJ cZ h0 ad M) H → va_D A (mW cB cI cJ cZ h0 ad M) → va_S A s.heap H locs → lv_has ls 5 [(0, .ref h0), (1, .int y1)] → wX12_bribes_66  Q y1 z0 M → W p l e (headSpec wsX12_bribes rmX12_bribes).room s m ([.ref h0, .int p1, .int p2] : List Value).toArray below meth c H locs 0 0 (MQ below (va_Qi (fun (r : Int32) (u : gS) => ∃ b : Bool, r = bI b ∧ Q b u) (mB dC dI cB cI cJ cZ h0 ad A) A) ([.ref h0, .int p1, .int p2] : List Value).toArray s 0 0 A) (F0 m 66 ls [.int z0, .ref h0]) := by
    intro  y1 z0 M H locs ls hP hD hS hl h
    unfold wX12_bribes_66 at h
    refine lv_aload_n hx hb dX12_bribes_66 rfl (lv_at hl 0 rfl) ?_
    refine va_get (D := (dC, dI)) (ci := 12) (v := .ref (ad 25)) (C := RX12) (T := TX12) (N := 37) hx hb hts hin hown hK hP 0 rfl rfl 25 (by decide) f1 (fun _ h9 => h9) rfl dX12_bribes_67 ?_
    refine lv_bipush (v := (12)) hx hb dX12_bribes_70 (by decide) ?_
    refine wc_iald (j := 12) hx hb hK hP 12 1 (f := ma M 25) rfl rfl (by decide) (by decide) (by decide) dX12_bribes_72 ?_
    refine lv_aload_n hx hb dX12_bribes_73 rfl (lv_at hl 0 rfl) ?_
    refine va_get (D := (dC, dI)) (ci := 12) (v := .ref (ad 25)) (C := RX12) (T := TX12) (N := 37) hx hb hts hin hown hK hP 0 rfl rfl 25 (by decide) f1 (fun _ h9 => h9) rfl dX12_bribes_74 ?_
    refine lv_bipush (v := (13)) hx hb dX12_bribes_77 (by decide) ?_
    refine wc_iald (j := 13) hx hb hK hP 12 1 (f := ma M 25) rfl rfl (by decide) (by decide) (by decide) dX12_bribes_79 ?_
    have hFc := gs_free hD hS hA
    refine va_calli (va_runV (As := [.int z0, .int (ma M 25 12), .int (ma M 25 13)]) (rest := []) ⟨hx, hb, hml, hown, hts⟩ (kX12_haver l dC dI cB cI cJ cZ h0 ad H.size z0 (ma M 25 12) (ma M 25 13) M _ h) (cwV 3 hts gX12_bribes_X12_haver rfl rfl rfl (by decide +kernel) ⟨Nat.le_of_ble_eq_true rfl, Nat.le_of_ble_eq_true rfl⟩) (mpV hK hP hD) rfl rfl hl.1 rfl (lv_room (Nat.le_of_ble_eq_true rfl)) dX12_bribes_80 ⟨Nat.le_of_ble_eq_true rfl, Nat.le_of_ble_eq_true rfl⟩) hS (fun q _ z => hFc q z) hFc (fun r1 M2 t H1 locs ht hvm hw hB hz1 hk1 hS => ?_)
    obtain ⟨hP, hD⟩ := gs_back ht hFc hB
    generalize H1 = H at hP hS ⊢
    have h := hw
    try dsimp only at h
    refine lv_iload_n hx hb dX12_bribes_83 rfl (lv_at hl 1 rfl) ?_
    refine lv_icmp_ne (tgt := 91) hx hb dX12_bribes_84 (by decide) (fun c3 => ?_) (fun c3 => ?_)
    · have h := h.2 c3
      refine lv_iconst (v := 0) hx hb dX12_bribes_91 (by decide) ?_
      exact W.zret (v := (bI false)) hx hb hr (nar_bI false) (fun t ht hW => ⟨⟨_, M2, rfl, ⟨false, rfl, h⟩, by rw [ht]; exact hP, va_K.moved hW.alike hK, hD⟩, hS.F ht⟩) hS.2.2 dX12_bribes_92
    · have h := h.1 c3
      refine lv_iconst (v := 1) hx hb dX12_bribes_87 (by decide) ?_
      refine lv_goto (tgt := 92) hx hb dX12_bribes_88 (by decide) ?_
      exact W.zret (v := (bI true)) hx hb hr (nar_bI true) (fun t ht hW => ⟨⟨_, M2, rfl, ⟨true, rfl, h⟩, by rw [ht]; exact hP, va_K.moved hW.alike hK, hD⟩, hS.F ht⟩) hS.2.2 dX12_bribes_92
  have b24 : ∀ (y1 : Int32) (y2 : Int32) (z0 : Int32) (M : gS) (H : Heap) (locs : List Loc) (ls : Array Slot), va_P (dC, dI) vwCl (mW cB cI cJ cZ h0 ad M) H → va_D A (mW cB cI cJ cZ h0 ad M) → va_S A s.heap H locs → lv_has ls 5 [(0, .ref h0), (1, .int y1), (2, .int y2)] → wX12_bribes_24  Q y1 y2 z0 M → W p l e (headSpec wsX12_bribes rmX12_bribes).room s m ([.ref h0, .int p1, .int p2] : List Value).toArray below meth c H locs 0 0 (MQ below (va_Qi (fun (r : Int32) (u : gS) => ∃ b : Bool, r = bI b ∧ Q b u) (mB dC dI cB cI cJ cZ h0 ad A) A) ([.ref h0, .int p1, .int p2] : List Value).toArray s 0 0 A) (F0 m 24 ls [.int z0]) := by
    intro  y1 y2 z0 M H locs ls hP hD hS hl h
    unfold wX12_bribes_24 at h
    refine lv_istore_n (lv' := [(3, .int z0), (0, .ref h0), (1, .int y1), (2, .int y2)]) hx hb dX12_bribes_24 rfl hl (by decide) rfl (fun ls hl => ?_)
    refine lv_aload_n hx hb dX12_bribes_25 rfl (lv_at hl 1 rfl) ?_
    refine va_get (D := (dC, dI)) (ci := 12) (v := .ref (ad 25)) (C := RX12) (T := TX12) (N := 37) hx hb hts hin hown hK hP 0 rfl rfl 25 (by decide) f1 (fun _ h9 => h9) rfl dX12_bribes_26 ?_
    refine lv_iconst (v := 5) hx hb dX12_bribes_29 (by decide) ?_
    refine wc_iald (j := 5) hx hb hK hP 12 1 (f := ma M 25) rfl rfl (by decide) (by decide) (by decide) dX12_bribes_30 ?_
    refine lv_iload_n hx hb dX12_bribes_31 rfl (lv_at hl 3 rfl) ?_
    refine lv_iadd hx hb dX12_bribes_32 ?_
    refine lv_topi (fun x1 ex1 => ?_)
    have h := h x1 ex1
    refine lv_istore (lv' := [(4, .int x1), (3, .int z0), (0, .ref h0), (1, .int y1), (2, .int y2)]) hx hb dX12_bribes_33 hl (by decide) rfl (fun ls hl => ?_)
    refine lv_aload_n hx hb dX12_bribes_35 rfl (lv_at hl 2 rfl) ?_
    refine lv_iload_n hx hb dX12_bribes_36 rfl (lv_at hl 1 rfl) ?_
    have hFc := gs_free hD hS hA
    refine va_callv (va_runV (As := [.int z0]) (rest := []) ⟨hx, hb, hml, hown, hts⟩ (kX12_fillsTable l dC dI cB cI cJ cZ h0 ad H.size z0 M _ h) (cwV 1 hts gX12_bribes_X12_fillsTable rfl rfl rfl (by decide +kernel) ⟨Nat.le_of_ble_eq_true rfl, Nat.le_of_ble_eq_true rfl⟩) (mpV hK hP hD) rfl rfl hl.1 rfl (lv_room (Nat.le_of_ble_eq_true rfl)) dX12_bribes_37 ⟨Nat.le_of_ble_eq_true rfl, Nat.le_of_ble_eq_true rfl⟩) hS (fun q _ z => hFc q z) hFc (fun M3 t H1 locs ht hvm hw hB hz1 hk1 hS => ?_)
    obtain ⟨hP, hD⟩ := gs_back ht hFc hB
    generalize H1 = H at hP hS ⊢
    have h := hw
    try dsimp only at h
    refine lv_aload_n hx hb dX12_bribes_40 rfl (lv_at hl 2 rfl) ?_
    refine lv_iload hx hb dX12_bribes_41 (lv_at hl 0 rfl) ?_
    refine lv_if_ge (tgt := 50) hx hb dX12_bribes_43 (by decide) (fun c4 => ?_) (fun c4 => ?_)
    · have h := h.1 c4
      refine lv_iload hx hb dX12_bribes_50 (lv_at hl 0 rfl) ?_
      refine lv_sipush (v := (200)) hx hb dX12_bribes_52 (by decide) ?_
      refine lv_icmp_le (tgt := 64) hx hb dX12_bribes_55 (by decide) (fun c5 => ?_) (fun c5 => ?_)
      · have h := h.1 c5
        refine lv_iload hx hb dX12_bribes_64 (lv_at hl 0 rfl) ?_
        exact b66  y1 x1 M3 H locs ls hP hD hS (lv_sub hl [2, 3] rfl) h
      · have h := h.2 c5
        refine lv_sipush (v := (200)) hx hb dX12_bribes_58 (by decide) ?_
        refine lv_goto (tgt := 66) hx hb dX12_bribes_61 (by decide) ?_
        exact b66  y1 (200 : Int32) M3 H locs ls hP hD hS (lv_sub hl [2, 3] rfl) h
    · have h := h.2 c4
      refine lv_iconst (v := 0) hx hb dX12_bribes_46 (by decide) ?_
      refine lv_goto (tgt := 66) hx hb dX12_bribes_47 (by decide) ?_
      exact b66  y1 (0 : Int32) M3 H locs ls hP hD hS (lv_sub hl [2, 3] rfl) h
  have bE : ∀ (M : gS) (H : Heap) (locs : List Loc) (ls : Array Slot), va_P (dC, dI) vwCl (mW cB cI cJ cZ h0 ad M) H → va_D A (mW cB cI cJ cZ h0 ad M) → va_S A s.heap H locs → lv_has ls 5 [(0, .ref h0), (1, .int p1), (2, .int p2)] → wX12_bribes p1 p2 M Q → W p l e (headSpec wsX12_bribes rmX12_bribes).room s m ([.ref h0, .int p1, .int p2] : List Value).toArray below meth c H locs 0 0 (MQ below (va_Qi (fun (r : Int32) (u : gS) => ∃ b : Bool, r = bI b ∧ Q b u) (mB dC dI cB cI cJ cZ h0 ad A) A) ([.ref h0, .int p1, .int p2] : List Value).toArray s 0 0 A) (F0 m 0 ls []) := by
    intro M H locs ls hP hD hS hl h
    unfold wX12_bribes at h
    refine lv_aload_n hx hb dX12_bribes_0 rfl (lv_at hl 0 rfl) ?_
    refine va_get (D := (dC, dI)) (ci := 12) (v := .ref (ad 25)) (C := RX12) (T := TX12) (N := 37) hx hb hts hin hown hK hP 0 rfl rfl 25 (by decide) f1 (fun _ h9 => h9) rfl dX12_bribes_1 ?_
    refine lv_iconst (v := 4) hx hb dX12_bribes_4 (by decide) ?_
    refine wc_iald (j := 4) hx hb hK hP 12 1 (f := ma M 25) rfl rfl (by decide) (by decide) (by decide) dX12_bribes_5 ?_
    refine lv_iload_n hx hb dX12_bribes_6 rfl (lv_at hl 2 rfl) ?_
    refine lv_iadd hx hb dX12_bribes_7 ?_
    refine lv_iconst (v := 1) hx hb dX12_bribes_8 (by decide) ?_
    refine lv_icmp_ge (tgt := 16) hx hb dX12_bribes_9 (by decide) (fun c1 => ?_) (fun c1 => ?_)
    · have h := h.1 c1
      refine lv_aload_n hx hb dX12_bribes_16 rfl (lv_at hl 0 rfl) ?_
      refine va_get (D := (dC, dI)) (ci := 12) (v := .ref (ad 25)) (C := RX12) (T := TX12) (N := 37) hx hb hts hin hown hK hP 0 rfl rfl 25 (by decide) f1 (fun _ h9 => h9) rfl dX12_bribes_17 ?_
      refine lv_iconst (v := 4) hx hb dX12_bribes_20 (by decide) ?_
      refine wc_iald (j := 4) hx hb hK hP 12 1 (f := ma M 25) rfl rfl (by decide) (by decide) (by decide) dX12_bribes_21 ?_
      refine lv_iload_n hx hb dX12_bribes_22 rfl (lv_at hl 2 rfl) ?_
      refine lv_iadd hx hb dX12_bribes_23 ?_
      exact b24  p1 p2 ((ma M 25 4) + p2) M H locs ls hP hD hS (lv_sub hl [0, 1, 2] rfl) h
    · have h := h.2 c1
      refine lv_iconst (v := 1) hx hb dX12_bribes_12 (by decide) ?_
      refine lv_goto (tgt := 24) hx hb dX12_bribes_13 (by decide) ?_
      exact b24  p1 p2 (1 : Int32) M H locs ls hP hD hS (lv_sub hl [0, 1, 2] rfl) h
  have hl := lv_entry ([.ref h0, .int p1, .int p2]) (n := 5) (Nat.le_of_ble_eq_true rfl)
  rw [lg_entry_eq]
  generalize (lg_sl ([.ref h0, .int p1, .int p2]) ++ List.replicate (5 - (lg_sl ([.ref h0, .int p1, .int p2])).length) Slot.unset).toArray = ls at hl ⊢
  have hl : lv_has ls 5 [(0, .ref h0), (1, .int p1), (2, .int p2)] := hl
  exact bE M s.heap [] ls hP hD hS hl h
def wX12_bribe_31  (Q : Int32 → gS → Prop) : Nat → Int32 → Int32 → gS → Prop
 | 0, _, _, _ => False
 | n + 1, y1, y2, M => (((20 : Int32) < y2 → (Q (-100 : Int32) M))
 ∧ (¬ (20 : Int32) < y2 → (wX12_bribes y1 (-y2) M (fun (b4 : Bool) (M3 : gS) => (((bI b4) = 0 → (wX12_bribes y1 y2 M3 (fun (b8 : Bool) (M7 : gS) => (((bI b8) = 0 → (∀ x10 : Int32, x10 = y2 + (1 : Int32) → (wX12_bribe_31  Q n y1 x10 M7)))
 ∧ (¬ (bI b8) = 0 → (Q y2 M7))))))
 ∧ (¬ (bI b4) = 0 → (Q (-y2) M3)))))))
def wX12_bribe (p1 : Int32) (M : gS) (Q : Int32 → gS → Prop) : Prop :=
 (wX12_goesOn  M (fun (b3 : Bool) (M2 : gS) => (((bI b3) = 0 → (Q (-200 : Int32) M2))
 ∧ (¬ (bI b3) = 0 → (wX12_isSide p1 M2 (fun (b7 : Bool) (M6 : gS) => (((bI b7) = 0 → (Q (-200 : Int32) M6))
 ∧ (¬ (bI b7) = 0 → (wX12_bribes p1 (0 : Int32) M6 (fun (b11 : Bool) (M10 : gS) => (((bI b11) = 0 → (∃ k31 : Nat, wX12_bribe_31  Q k31 p1 (1 : Int32) M10))
 ∧ (¬ (bI b11) = 0 → (Q (0 : Int32) M10)))))))))))))
def rmX12_bribe : Room := { frames := 6, cells := 0, slots := 0, locals := 150 }
set_option maxHeartbeats 4000000 in
set_option maxRecDepth 100000 in
theorem kX12_bribe (l : Launch) (dC : Nat → ClassId) (dI : Nat → Nat → Nat) (cB cI cJ cZ : ClassId) (h0 : Nat) (ad : Nat → Nat) (sz : Nat) (p1 : Int32) (M : gS) (Q : Int32 → gS → Prop) (h : wX12_bribe p1 M Q) : Met l yX12_bribe wsX12_bribe rmX12_bribe (va_Pc [.ref h0, .int p1] (mI dC dI cB cI cJ cZ h0 ad M sz)) (va_Qi (fun (r : Int32) (u : gS) => Q r u) (mB dC dI cB cI cJ cZ h0 ad (va_A (mW cB cI cJ cZ h0 ad M) sz)) (va_A (mW cB cI cJ cZ h0 ad M) sz)) 0 0 (va_A (mW cB cI cJ cZ h0 ad M) sz) := by
  refine Met.ofW (cc := cX12_bribe) (maxL := 3) (ret := (some .int)) (by decide) rfl ?_
  intro p e s m args below meth c s₁ B hml hv
  obtain ⟨rfl, hsz, hP, hK, hD0⟩ := hv
  have hx := B.exec
  have hb := B.bytes
  have hr := B.returns
  have hts := atoms_spec (ws := wsX12_bribe) B.pre
  have hown : s.vm.findClass RX12 = some m.cls := findClass_of_methodNamed B.named
  have hlocks := B.notSynchronized
  subst hsz
  have hD := hD0.self (sz := s.heap.size)
  generalize hAe : va_A (mW cB cI cJ cZ h0 ad M) s.heap.size = A at hD ⊢
  have hA : ∀ q : Nat, s.heap.size ≤ q → A q := fun q h => by rw [← hAe]; exact Or.inr h
  have hS : va_S A s.heap s.heap [] := va_S.rf
  have b31 : ∀ (n : Nat) (y1 : Int32) (y2 : Int32) (M : gS) (H : Heap) (locs : List Loc) (ls : Array Slot), va_P (dC, dI) vwCl (mW cB cI cJ cZ h0 ad M) H → va_D A (mW cB cI cJ cZ h0 ad M) → va_S A s.heap H locs → lv_has ls 3 [(0, .ref h0), (1, .int y1), (2, .int y2)] → wX12_bribe_31  Q n y1 y2 M → W p l e (headSpec wsX12_bribe rmX12_bribe).room s m ([.ref h0, .int p1] : List Value).toArray below meth c H locs 0 0 (MQ below (va_Qi (fun (r : Int32) (u : gS) => Q r u) (mB dC dI cB cI cJ cZ h0 ad A) A) ([.ref h0, .int p1] : List Value).toArray s 0 0 A) (F0 m 31 ls []) := by
    intro  n
    induction n with
    | zero => intro y1 y2 M H locs ls hP hD hS hl h; exact absurd h (by simp [wX12_bribe_31])
    | succ n hB310 =>
      intro y1 y2 M H locs ls hP hD hS hl h
      have hB31 := hB310
      rw [wX12_bribe_31] at h
      refine lv_iload_n hx hb dX12_bribe_31 rfl (lv_at hl 2 rfl) ?_
      refine lv_bipush (v := (20)) hx hb dX12_bribe_32 (by decide) ?_
      refine lv_icmp_gt (tgt := 67) hx hb dX12_bribe_34 (by decide) (fun c1 => ?_) (fun c1 => ?_)
      · have h := h.1 c1
        refine lv_bipush (v := (-100)) hx hb dX12_bribe_67 (by decide) ?_
        exact W.iret (v := (-100 : Int32)) hx hb hr (fun t ht hW => ⟨⟨_, M, rfl, h, by rw [ht]; exact hP, va_K.moved hW.alike hK, hD⟩, hS.F ht⟩) hS.2.2 dX12_bribe_69
      · have h := h.2 c1
        refine lv_aload_n hx hb dX12_bribe_37 rfl (lv_at hl 0 rfl) ?_
        refine lv_iload_n hx hb dX12_bribe_38 rfl (lv_at hl 1 rfl) ?_
        refine lv_iload_n hx hb dX12_bribe_39 rfl (lv_at hl 2 rfl) ?_
        refine lv_ineg hx hb dX12_bribe_40 ?_
        have hFc := gs_free hD hS hA
        refine va_calli (va_runV (As := [.int y1, .int (-y2)]) (rest := []) ⟨hx, hb, hml, hown, hts⟩ (kX12_bribes l dC dI cB cI cJ cZ h0 ad H.size y1 (-y2) M _ h) (cwV 2 hts gX12_bribe_X12_bribes rfl rfl rfl (by decide +kernel) ⟨Nat.le_of_ble_eq_true rfl, Nat.le_of_ble_eq_true rfl⟩) (mpV hK hP hD) rfl rfl hl.1 rfl (lv_room (Nat.le_of_ble_eq_true rfl)) dX12_bribe_41 ⟨Nat.le_of_ble_eq_true rfl, Nat.le_of_ble_eq_true rfl⟩) hS (fun q _ z => hFc q z) hFc (fun r2 M3 t H1 locs ht hvm hw hB hz1 hk1 hS => ?_)
        obtain ⟨hP, hD⟩ := gs_back ht hFc hB
        generalize H1 = H at hP hS ⊢
        obtain ⟨b4, rfl, h⟩ := hw
        try dsimp only at h
        refine lv_if_eq (tgt := 50) hx hb dX12_bribe_44 (by decide) (fun c5 => ?_) (fun c5 => ?_)
        · have h := h.1 c5
          refine lv_aload_n hx hb dX12_bribe_50 rfl (lv_at hl 0 rfl) ?_
          refine lv_iload_n hx hb dX12_bribe_51 rfl (lv_at hl 1 rfl) ?_
          refine lv_iload_n hx hb dX12_bribe_52 rfl (lv_at hl 2 rfl) ?_
          have hFc := gs_free hD hS hA
          refine va_calli (va_runV (As := [.int y1, .int y2]) (rest := []) ⟨hx, hb, hml, hown, hts⟩ (kX12_bribes l dC dI cB cI cJ cZ h0 ad H.size y1 y2 M3 _ h) (cwV 2 hts gX12_bribe_X12_bribes rfl rfl rfl (by decide +kernel) ⟨Nat.le_of_ble_eq_true rfl, Nat.le_of_ble_eq_true rfl⟩) (mpV hK hP hD) rfl rfl hl.1 rfl (lv_room (Nat.le_of_ble_eq_true rfl)) dX12_bribe_53 ⟨Nat.le_of_ble_eq_true rfl, Nat.le_of_ble_eq_true rfl⟩) hS (fun q _ z => hFc q z) hFc (fun r6 M7 t H1 locs ht hvm hw hB hz1 hk1 hS => ?_)
          obtain ⟨hP, hD⟩ := gs_back ht hFc hB
          generalize H1 = H at hP hS ⊢
          obtain ⟨b8, rfl, h⟩ := hw
          try dsimp only at h
          refine lv_if_eq (tgt := 61) hx hb dX12_bribe_56 (by decide) (fun c9 => ?_) (fun c9 => ?_)
          · have h := h.1 c9
            obtain ⟨x10, ex10⟩ : ∃ y : Int32, y = y2 + (1 : Int32) := ⟨_, rfl⟩
            have h := h x10 ex10
            refine lv_iinc (v := x10) (lv' := [(2, .int x10), (0, .ref h0), (1, .int y1)]) hx hb dX12_bribe_61 hl (k := 2) rfl (by rw [ex10]; rfl) (by decide) rfl (fun ls hl => ?_)
            refine lv_goto (tgt := 31) hx hb dX12_bribe_64 (by decide) ?_
            exact hB31 y1 x10 M7 H locs ls hP hD hS (lv_sub hl [1, 2, 0] rfl) h
          · have h := h.2 c9
            refine lv_iload_n hx hb dX12_bribe_59 rfl (lv_at hl 2 rfl) ?_
            exact W.iret (v := y2) hx hb hr (fun t ht hW => ⟨⟨_, M7, rfl, h, by rw [ht]; exact hP, va_K.moved hW.alike hK, hD⟩, hS.F ht⟩) hS.2.2 dX12_bribe_60
        · have h := h.2 c5
          refine lv_iload_n hx hb dX12_bribe_47 rfl (lv_at hl 2 rfl) ?_
          refine lv_ineg hx hb dX12_bribe_48 ?_
          exact W.iret (v := (-y2)) hx hb hr (fun t ht hW => ⟨⟨_, M3, rfl, h, by rw [ht]; exact hP, va_K.moved hW.alike hK, hD⟩, hS.F ht⟩) hS.2.2 dX12_bribe_49
  have bE : ∀ (M : gS) (H : Heap) (locs : List Loc) (ls : Array Slot), va_P (dC, dI) vwCl (mW cB cI cJ cZ h0 ad M) H → va_D A (mW cB cI cJ cZ h0 ad M) → va_S A s.heap H locs → lv_has ls 3 [(0, .ref h0), (1, .int p1)] → wX12_bribe p1 M Q → W p l e (headSpec wsX12_bribe rmX12_bribe).room s m ([.ref h0, .int p1] : List Value).toArray below meth c H locs 0 0 (MQ below (va_Qi (fun (r : Int32) (u : gS) => Q r u) (mB dC dI cB cI cJ cZ h0 ad A) A) ([.ref h0, .int p1] : List Value).toArray s 0 0 A) (F0 m 0 ls []) := by
    intro M H locs ls hP hD hS hl h
    unfold wX12_bribe at h
    refine lv_aload_n hx hb dX12_bribe_0 rfl (lv_at hl 0 rfl) ?_
    have hFc := gs_free hD hS hA
    refine va_calli (va_runV (As := []) (rest := []) ⟨hx, hb, hml, hown, hts⟩ (kX12_goesOn l dC dI cB cI cJ cZ h0 ad H.size  M _ h) (cwV 0 hts gX12_bribe_X12_goesOn rfl rfl rfl (by decide +kernel) ⟨Nat.le_of_ble_eq_true rfl, Nat.le_of_ble_eq_true rfl⟩) (mpV hK hP hD) rfl rfl hl.1 rfl (lv_room (Nat.le_of_ble_eq_true rfl)) dX12_bribe_1 ⟨Nat.le_of_ble_eq_true rfl, Nat.le_of_ble_eq_true rfl⟩) hS (fun q _ z => hFc q z) hFc (fun r1 M2 t H1 locs ht hvm hw hB hz1 hk1 hS => ?_)
    obtain ⟨hP, hD⟩ := gs_back ht hFc hB
    generalize H1 = H at hP hS ⊢
    obtain ⟨b3, rfl, h⟩ := hw
    try dsimp only at h
    refine lv_if_eq (tgt := 14) hx hb dX12_bribe_4 (by decide) (fun c4 => ?_) (fun c4 => ?_)
    · have h := h.1 c4
      refine lv_sipush (v := (-200)) hx hb dX12_bribe_14 (by decide) ?_
      exact W.iret (v := (-200 : Int32)) hx hb hr (fun t ht hW => ⟨⟨_, M2, rfl, h, by rw [ht]; exact hP, va_K.moved hW.alike hK, hD⟩, hS.F ht⟩) hS.2.2 dX12_bribe_17
    · have h := h.2 c4
      refine lv_iload_n hx hb dX12_bribe_7 rfl (lv_at hl 1 rfl) ?_
      have hFc := gs_free hD hS hA
      refine va_calli (va_runS (As := [.int p1]) (rest := []) ⟨hx, hb, hml, hown, hts⟩ (kX12_isSide l dC dI cB cI cJ cZ h0 ad H.size p1 M2 _ h) (cwS 1 hts gX12_bribe_X12_isSide rfl rfl rfl (by decide +kernel) ⟨Nat.le_of_ble_eq_true rfl, Nat.le_of_ble_eq_true rfl⟩) (mpS hK hP hD) rfl rfl hl.1 rfl (lv_room (Nat.le_of_ble_eq_true rfl)) dX12_bribe_8 ⟨Nat.le_of_ble_eq_true rfl, Nat.le_of_ble_eq_true rfl⟩) hS (fun q _ z => hFc q z) hFc (fun r5 M6 t H1 locs ht hvm hw hB hz1 hk1 hS => ?_)
      obtain ⟨hP, hD⟩ := gs_back ht hFc hB
      generalize H1 = H at hP hS ⊢
      obtain ⟨b7, rfl, h⟩ := hw
      try dsimp only at h
      refine lv_if_ne (tgt := 18) hx hb dX12_bribe_11 (by decide) (fun c8 => ?_) (fun c8 => ?_)
      · have h := h.2 c8
        refine lv_aload_n hx hb dX12_bribe_18 rfl (lv_at hl 0 rfl) ?_
        refine lv_iload_n hx hb dX12_bribe_19 rfl (lv_at hl 1 rfl) ?_
        refine lv_iconst (v := 0) hx hb dX12_bribe_20 (by decide) ?_
        have hFc := gs_free hD hS hA
        refine va_calli (va_runV (As := [.int p1, .int (0 : Int32)]) (rest := []) ⟨hx, hb, hml, hown, hts⟩ (kX12_bribes l dC dI cB cI cJ cZ h0 ad H.size p1 (0 : Int32) M6 _ h) (cwV 2 hts gX12_bribe_X12_bribes rfl rfl rfl (by decide +kernel) ⟨Nat.le_of_ble_eq_true rfl, Nat.le_of_ble_eq_true rfl⟩) (mpV hK hP hD) rfl rfl hl.1 rfl (lv_room (Nat.le_of_ble_eq_true rfl)) dX12_bribe_21 ⟨Nat.le_of_ble_eq_true rfl, Nat.le_of_ble_eq_true rfl⟩) hS (fun q _ z => hFc q z) hFc (fun r9 M10 t H1 locs ht hvm hw hB hz1 hk1 hS => ?_)
        obtain ⟨hP, hD⟩ := gs_back ht hFc hB
        generalize H1 = H at hP hS ⊢
        obtain ⟨b11, rfl, h⟩ := hw
        try dsimp only at h
        refine lv_if_eq (tgt := 29) hx hb dX12_bribe_24 (by decide) (fun c12 => ?_) (fun c12 => ?_)
        · have h := h.1 c12
          refine lv_iconst (v := 1) hx hb dX12_bribe_29 (by decide) ?_
          refine lv_istore_n (lv' := [(2, .int (1 : Int32)), (0, .ref h0), (1, .int p1)]) hx hb dX12_bribe_30 rfl hl (by decide) rfl (fun ls hl => ?_)
          obtain ⟨n9, h⟩ := h
          exact b31  n9 p1 (1 : Int32) M10 H locs ls hP hD hS (lv_sub hl [1, 2, 0] rfl) h
        · have h := h.2 c12
          refine lv_iconst (v := 0) hx hb dX12_bribe_27 (by decide) ?_
          exact W.iret (v := (0 : Int32)) hx hb hr (fun t ht hW => ⟨⟨_, M10, rfl, h, by rw [ht]; exact hP, va_K.moved hW.alike hK, hD⟩, hS.F ht⟩) hS.2.2 dX12_bribe_28
      · have h := h.1 c8
        refine lv_sipush (v := (-200)) hx hb dX12_bribe_14 (by decide) ?_
        exact W.iret (v := (-200 : Int32)) hx hb hr (fun t ht hW => ⟨⟨_, M6, rfl, h, by rw [ht]; exact hP, va_K.moved hW.alike hK, hD⟩, hS.F ht⟩) hS.2.2 dX12_bribe_17
  have hl := lv_entry ([.ref h0, .int p1]) (n := 3) (Nat.le_of_ble_eq_true rfl)
  rw [lg_entry_eq]
  generalize (lg_sl ([.ref h0, .int p1]) ++ List.replicate (3 - (lg_sl ([.ref h0, .int p1])).length) Slot.unset).toArray = ls at hl ⊢
  have hl : lv_has ls 3 [(0, .ref h0), (1, .int p1)] := hl
  exact bE M s.heap [] ls hP hD hS hl h
