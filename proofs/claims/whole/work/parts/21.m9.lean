def wX12_placeOf (p1 : Int32) (p2 : Int32) (p3 : Int32) (M : gS) (Q : Int32 → gS → Prop) : Prop :=
 (Q ((((p1 * (8 : Int32)) + p2) * (8 : Int32)) + p3) M)
def rmX12_placeOf : Room := { frames := 0, cells := 0, slots := 0, locals := 0 }
set_option maxHeartbeats 4000000 in
set_option maxRecDepth 100000 in
theorem kX12_placeOf (l : Launch) (dC : Nat → ClassId) (dI : Nat → Nat → Nat) (cB cI cJ cZ : ClassId) (h0 : Nat) (ad : Nat → Nat) (sz : Nat) (p1 : Int32) (p2 : Int32) (p3 : Int32) (M : gS) (Q : Int32 → gS → Prop) (h : wX12_placeOf p1 p2 p3 M Q) : Met l yX12_placeOf wsX12_placeOf rmX12_placeOf (va_Pc [.int p1, .int p2, .int p3] (mI dC dI cB cI cJ cZ h0 ad M sz)) (va_Qi (fun (r : Int32) (u : gS) => Q r u) (mB dC dI cB cI cJ cZ h0 ad (va_A (mW cB cI cJ cZ h0 ad M) sz)) (va_A (mW cB cI cJ cZ h0 ad M) sz)) 0 0 (va_A (mW cB cI cJ cZ h0 ad M) sz) := by
  refine Met.ofW (cc := cX12_placeOf) (maxL := 3) (ret := (some .int)) (by decide) rfl ?_
  intro p e s m args below meth c s₁ B hml hv
  obtain ⟨rfl, hsz, hP, hK, hD0⟩ := hv
  have hx := B.exec
  have hb := B.bytes
  have hr := B.returns
  have hts := atoms_spec (ws := wsX12_placeOf) B.pre
  have hown : s.vm.findClass RX12 = some m.cls := findClass_of_methodNamed B.named
  have hlocks := B.notSynchronized
  subst hsz
  have hD := hD0.self (sz := s.heap.size)
  generalize hAe : va_A (mW cB cI cJ cZ h0 ad M) s.heap.size = A at hD ⊢
  have hA : ∀ q : Nat, s.heap.size ≤ q → A q := fun q h => by rw [← hAe]; exact Or.inr h
  have hS : va_S A s.heap s.heap [] := va_S.rf
  have bE : ∀ (M : gS) (H : Heap) (locs : List Loc) (ls : Array Slot), va_P (dC, dI) vwCl (mW cB cI cJ cZ h0 ad M) H → va_D A (mW cB cI cJ cZ h0 ad M) → va_S A s.heap H locs → lv_has ls 3 [(0, .int p1), (1, .int p2), (2, .int p3)] → wX12_placeOf p1 p2 p3 M Q → W p l e (headSpec wsX12_placeOf rmX12_placeOf).room s m ([.int p1, .int p2, .int p3] : List Value).toArray below meth c H locs 0 0 (MQ below (va_Qi (fun (r : Int32) (u : gS) => Q r u) (mB dC dI cB cI cJ cZ h0 ad A) A) ([.int p1, .int p2, .int p3] : List Value).toArray s 0 0 A) (F0 m 0 ls []) := by
    intro M H locs ls hP hD hS hl h
    unfold wX12_placeOf at h
    refine lv_iload_n hx hb dX12_placeOf_0 rfl (lv_at hl 0 rfl) ?_
    refine lv_bipush (v := (8)) hx hb dX12_placeOf_1 (by decide) ?_
    refine lv_imul hx hb dX12_placeOf_3 ?_
    refine lv_iload_n hx hb dX12_placeOf_4 rfl (lv_at hl 1 rfl) ?_
    refine lv_iadd hx hb dX12_placeOf_5 ?_
    refine lv_bipush (v := (8)) hx hb dX12_placeOf_6 (by decide) ?_
    refine lv_imul hx hb dX12_placeOf_8 ?_
    refine lv_iload_n hx hb dX12_placeOf_9 rfl (lv_at hl 2 rfl) ?_
    refine lv_iadd hx hb dX12_placeOf_10 ?_
    exact W.iret (v := ((((p1 * (8 : Int32)) + p2) * (8 : Int32)) + p3)) hx hb hr (fun t ht hW => ⟨⟨_, M, rfl, h, by rw [ht]; exact hP, va_K.moved hW.alike hK, hD⟩, hS.F ht⟩) hS.2.2 dX12_placeOf_11
  have hl := lv_entry ([.int p1, .int p2, .int p3]) (n := 3) (Nat.le_of_ble_eq_true rfl)
  rw [lg_entry_eq]
  generalize (lg_sl ([.int p1, .int p2, .int p3]) ++ List.replicate (3 - (lg_sl ([.int p1, .int p2, .int p3])).length) Slot.unset).toArray = ls at hl ⊢
  have hl : lv_has ls 3 [(0, .int p1), (1, .int p2), (2, .int p3)] := hl
  exact bE M s.heap [] ls hP hD hS hl h
def wX12_can (p1 : Int32) (p2 : Int32) (p3 : Int32) (p4 : Int32) (p5 : Int32) (M : gS) (Q : Bool → gS → Prop) : Prop :=
 (wX12_placeOf p1 p2 p3 M (fun (r1 : Int32) (M2 : gS) => (vp_in r1 12864 ∧ (((((ma M2 28 (Int32.toNatClampNeg r1)) >>> ((((5 : Int32) * p4) + p5) &&& 31)) &&& (1 : Int32)) = (1 : Int32) → (Q true M2))
 ∧ (¬ (((ma M2 28 (Int32.toNatClampNeg r1)) >>> ((((5 : Int32) * p4) + p5) &&& 31)) &&& (1 : Int32)) = (1 : Int32) → (Q false M2))))))
def rmX12_can : Room := { frames := 1, cells := 0, slots := 0, locals := 22 }
set_option maxHeartbeats 4000000 in
set_option maxRecDepth 100000 in
theorem kX12_can (l : Launch) (dC : Nat → ClassId) (dI : Nat → Nat → Nat) (cB cI cJ cZ : ClassId) (h0 : Nat) (ad : Nat → Nat) (sz : Nat) (p1 : Int32) (p2 : Int32) (p3 : Int32) (p4 : Int32) (p5 : Int32) (M : gS) (Q : Bool → gS → Prop) (h : wX12_can p1 p2 p3 p4 p5 M Q) : Met l yX12_can wsX12_can rmX12_can (va_Pc [.ref h0, .int p1, .int p2, .int p3, .int p4, .int p5] (mI dC dI cB cI cJ cZ h0 ad M sz)) (va_Qi (fun (r : Int32) (u : gS) => ∃ b : Bool, r = bI b ∧ Q b u) (mB dC dI cB cI cJ cZ h0 ad (va_A (mW cB cI cJ cZ h0 ad M) sz)) (va_A (mW cB cI cJ cZ h0 ad M) sz)) 0 0 (va_A (mW cB cI cJ cZ h0 ad M) sz) := by
  refine Met.ofW (cc := cX12_can) (maxL := 6) (ret := (some .boolean)) (by decide) rfl ?_
  intro p e s m args below meth c s₁ B hml hv
  obtain ⟨rfl, hsz, hP, hK, hD0⟩ := hv
  have hx := B.exec
  have hb := B.bytes
  have hr := B.returns
  have hts := atoms_spec (ws := wsX12_can) B.pre
  have hown : s.vm.findClass RX12 = some m.cls := findClass_of_methodNamed B.named
  have hlocks := B.notSynchronized
  subst hsz
  have hD := hD0.self (sz := s.heap.size)
  generalize hAe : va_A (mW cB cI cJ cZ h0 ad M) s.heap.size = A at hD ⊢
  have hA : ∀ q : Nat, s.heap.size ≤ q → A q := fun q h => by rw [← hAe]; exact Or.inr h
  have hS : va_S A s.heap s.heap [] := va_S.rf
  have hin : ∀ w ∈ wsX120, w ∈ wsX12_can := fun w h => List.mem_cons_of_mem _ (List.mem_append_right _ h)
  have f1 := hts (.fieldLink RX12 51 "LastWordsModel" "table" "[I") (by decide +kernel)
  have bE : ∀ (M : gS) (H : Heap) (locs : List Loc) (ls : Array Slot), va_P (dC, dI) vwCl (mW cB cI cJ cZ h0 ad M) H → va_D A (mW cB cI cJ cZ h0 ad M) → va_S A s.heap H locs → lv_has ls 6 [(0, .ref h0), (1, .int p1), (2, .int p2), (3, .int p3), (4, .int p4), (5, .int p5)] → wX12_can p1 p2 p3 p4 p5 M Q → W p l e (headSpec wsX12_can rmX12_can).room s m ([.ref h0, .int p1, .int p2, .int p3, .int p4, .int p5] : List Value).toArray below meth c H locs 0 0 (MQ below (va_Qi (fun (r : Int32) (u : gS) => ∃ b : Bool, r = bI b ∧ Q b u) (mB dC dI cB cI cJ cZ h0 ad A) A) ([.ref h0, .int p1, .int p2, .int p3, .int p4, .int p5] : List Value).toArray s 0 0 A) (F0 m 0 ls []) := by
    intro M H locs ls hP hD hS hl h
    unfold wX12_can at h
    refine lv_aload_n hx hb dX12_can_0 rfl (lv_at hl 0 rfl) ?_
    refine va_get (D := (dC, dI)) (ci := 12) (v := .ref (ad 28)) (C := RX12) (T := TX12) (N := 37) hx hb hts hin hown hK hP 0 rfl rfl 28 (by decide) f1 (fun _ h9 => h9) rfl dX12_can_1 ?_
    refine lv_iload_n hx hb dX12_can_4 rfl (lv_at hl 1 rfl) ?_
    refine lv_iload_n hx hb dX12_can_5 rfl (lv_at hl 2 rfl) ?_
    refine lv_iload_n hx hb dX12_can_6 rfl (lv_at hl 3 rfl) ?_
    have hFc := gs_free hD hS hA
    refine va_calli (va_runS (As := [.int p1, .int p2, .int p3]) (rest := [.ref (ad 28)]) ⟨hx, hb, hml, hown, hts⟩ (kX12_placeOf l dC dI cB cI cJ cZ h0 ad H.size p1 p2 p3 M _ h) (cwS 3 hts gX12_can_X12_placeOf rfl rfl rfl (by decide +kernel) ⟨Nat.le_of_ble_eq_true rfl, Nat.le_of_ble_eq_true rfl⟩) (mpS hK hP hD) rfl rfl hl.1 rfl (lv_room (Nat.le_of_ble_eq_true rfl)) dX12_can_7 ⟨Nat.le_of_ble_eq_true rfl, Nat.le_of_ble_eq_true rfl⟩) hS (fun q _ z => hFc q z) hFc (fun r1 M2 t H1 locs ht hvm hw hB hz1 hk1 hS => ?_)
    obtain ⟨hP, hD⟩ := gs_back ht hFc hB
    generalize H1 = H at hP hS ⊢
    have h := hw
    try dsimp only at h
    refine va_iald hx hb hK hP 14 1 (f := ma M2 28) rfl rfl h.1 dX12_can_10 ?_
    have h := h.2
    refine lv_iconst (v := 5) hx hb dX12_can_11 (by decide) ?_
    refine lv_iload hx hb dX12_can_12 (lv_at hl 4 rfl) ?_
    refine lv_imul hx hb dX12_can_14 ?_
    refine lv_iload hx hb dX12_can_15 (lv_at hl 5 rfl) ?_
    refine lv_iadd hx hb dX12_can_17 ?_
    refine lv_ishr hx hb dX12_can_18 ?_
    refine lv_iconst (v := 1) hx hb dX12_can_19 (by decide) ?_
    refine lv_iand hx hb dX12_can_20 ?_
    refine lv_iconst (v := 1) hx hb dX12_can_21 (by decide) ?_
    refine lv_icmp_ne (tgt := 29) hx hb dX12_can_22 (by decide) (fun c3 => ?_) (fun c3 => ?_)
    · have h := h.2 c3
      refine lv_iconst (v := 0) hx hb dX12_can_29 (by decide) ?_
      exact W.zret (v := (bI false)) hx hb hr (nar_bI false) (fun t ht hW => ⟨⟨_, M2, rfl, ⟨false, rfl, h⟩, by rw [ht]; exact hP, va_K.moved hW.alike hK, hD⟩, hS.F ht⟩) hS.2.2 dX12_can_30
    · have h := h.1 c3
      refine lv_iconst (v := 1) hx hb dX12_can_25 (by decide) ?_
      refine lv_goto (tgt := 30) hx hb dX12_can_26 (by decide) ?_
      exact W.zret (v := (bI true)) hx hb hr (nar_bI true) (fun t ht hW => ⟨⟨_, M2, rfl, ⟨true, rfl, h⟩, by rw [ht]; exact hP, va_K.moved hW.alike hK, hD⟩, hS.F ht⟩) hS.2.2 dX12_can_30
  have hl := lv_entry ([.ref h0, .int p1, .int p2, .int p3, .int p4, .int p5]) (n := 6) (Nat.le_of_ble_eq_true rfl)
  rw [lg_entry_eq]
  generalize (lg_sl ([.ref h0, .int p1, .int p2, .int p3, .int p4, .int p5]) ++ List.replicate (6 - (lg_sl ([.ref h0, .int p1, .int p2, .int p3, .int p4, .int p5])).length) Slot.unset).toArray = ls at hl ⊢
  have hl : lv_has ls 6 [(0, .ref h0), (1, .int p1), (2, .int p2), (3, .int p3), (4, .int p4), (5, .int p5)] := hl
  exact bE M s.heap [] ls hP hD hS hl h
def wX12_hasWay_69 (B3 : Int32 → Int32 → Int32 → Int32 → Int32 → Int32 → Int32 → gS → Prop) (Q : Bool → gS → Prop) (y1 : Int32) (y2 : Int32) (y3 : Int32) (y4 : Int32) (y5 : Int32) (y6 : Int32) (y7 : Int32) (M : gS) : Prop :=
 (∀ x1 : Int32, x1 = y7 + (1 : Int32) → (B3 y1 y2 y3 y4 y5 y6 x1 M))
def wX12_hasWay_43 (B3 : Int32 → Int32 → Int32 → Int32 → Int32 → Int32 → Int32 → gS → Prop) (Q : Bool → gS → Prop) (y1 : Int32) (y2 : Int32) (y3 : Int32) (y4 : Int32) (y5 : Int32) (y6 : Int32) (y7 : Int32) (z1 : Int32) (z0 : Int32) (M : gS) : Prop :=
 (∀ x1 : Int32, x1 = (z1 - z0) → ((x1 < 0 → (wX12_hasWay_69 B3 Q y1 y2 y3 y4 y5 y6 y7 M))
 ∧ (¬ x1 < 0 → (wX12_can x1 y4 y3 y6 y7 M (fun (b5 : Bool) (M4 : gS) => (((bI b5) = 0 → (Q true M4))
 ∧ (¬ (bI b5) = 0 → (wX12_hasWay_69 B3 Q y1 y2 y3 y4 y5 y6 y7 M4))))))))
def wX12_hasWay_3  (Q : Bool → gS → Prop) : Nat → Int32 → Int32 → Int32 → Int32 → Int32 → Int32 → Int32 → gS → Prop
 | 0, _, _, _, _, _, _, _, _ => False
 | n + 1, y1, y2, y3, y4, y5, y6, y7, M => (((ma M 25 1) ≤ y7 → ((y3 ≤ 0 → (Q false M))
 ∧ (¬ y3 ≤ 0 → (((200 : Int32) < (y2 + y1) → (Q false M))
 ∧ (¬ (200 : Int32) < (y2 + y1) → (wX12_can (y2 + y1) (y3 - (1 : Int32)) y4 y5 y6 M (fun (b6 : Bool) (M5 : gS) => (((bI b6) = 0 → (Q false M5))
 ∧ (¬ (bI b6) = 0 → (Q true M5))))))))))
 ∧ (¬ (ma M 25 1) ≤ y7 → (vp_in ((28 : Int32) + y7) 44 ∧ ((y7 = y5 → (wX12_hasWay_43 (fun (y1 : Int32) (y2 : Int32) (y3 : Int32) (y4 : Int32) (y5 : Int32) (y6 : Int32) (y7 : Int32) (M : gS) => wX12_hasWay_3  Q n y1 y2 y3 y4 y5 y6 y7 M) Q y1 y2 y3 y4 y5 y6 y7 (y2 - (ma M 25 (Int32.toNatClampNeg ((28 : Int32) + y7)))) (ma M 25 2) M))
 ∧ (¬ y7 = y5 → (wX12_hasWay_43 (fun (y1 : Int32) (y2 : Int32) (y3 : Int32) (y4 : Int32) (y5 : Int32) (y6 : Int32) (y7 : Int32) (M : gS) => wX12_hasWay_3  Q n y1 y2 y3 y4 y5 y6 y7 M) Q y1 y2 y3 y4 y5 y6 y7 (y2 - (ma M 25 (Int32.toNatClampNeg ((28 : Int32) + y7)))) (0 : Int32) M))))))
def wX12_hasWay (p1 : Int32) (p2 : Int32) (p3 : Int32) (p4 : Int32) (p5 : Int32) (p6 : Int32) (M : gS) (Q : Bool → gS → Prop) : Prop :=
 (∃ k3 : Nat, wX12_hasWay_3  Q k3 p1 p2 p3 p4 p5 p6 (0 : Int32) M)
def rmX12_hasWay : Room := { frames := 2, cells := 0, slots := 0, locals := 47 }
set_option maxHeartbeats 4000000 in
set_option maxRecDepth 100000 in
theorem kX12_hasWay (l : Launch) (dC : Nat → ClassId) (dI : Nat → Nat → Nat) (cB cI cJ cZ : ClassId) (h0 : Nat) (ad : Nat → Nat) (sz : Nat) (p1 : Int32) (p2 : Int32) (p3 : Int32) (p4 : Int32) (p5 : Int32) (p6 : Int32) (M : gS) (Q : Bool → gS → Prop) (h : wX12_hasWay p1 p2 p3 p4 p5 p6 M Q) : Met l yX12_hasWay wsX12_hasWay rmX12_hasWay (va_Pc [.ref h0, .int p1, .int p2, .int p3, .int p4, .int p5, .int p6] (mI dC dI cB cI cJ cZ h0 ad M sz)) (va_Qi (fun (r : Int32) (u : gS) => ∃ b : Bool, r = bI b ∧ Q b u) (mB dC dI cB cI cJ cZ h0 ad (va_A (mW cB cI cJ cZ h0 ad M) sz)) (va_A (mW cB cI cJ cZ h0 ad M) sz)) 0 0 (va_A (mW cB cI cJ cZ h0 ad M) sz) := by
  refine Met.ofW (cc := cX12_hasWay) (maxL := 9) (ret := (some .boolean)) (by decide) rfl ?_
  intro p e s m args below meth c s₁ B hml hv
  obtain ⟨rfl, hsz, hP, hK, hD0⟩ := hv
  have hx := B.exec
  have hb := B.bytes
  have hr := B.returns
  have hts := atoms_spec (ws := wsX12_hasWay) B.pre
  have hown : s.vm.findClass RX12 = some m.cls := findClass_of_methodNamed B.named
  have hlocks := B.notSynchronized
  subst hsz
  have hD := hD0.self (sz := s.heap.size)
  generalize hAe : va_A (mW cB cI cJ cZ h0 ad M) s.heap.size = A at hD ⊢
  have hA : ∀ q : Nat, s.heap.size ≤ q → A q := fun q h => by rw [← hAe]; exact Or.inr h
  have hS : va_S A s.heap s.heap [] := va_S.rf
  have hin : ∀ w ∈ wsX120, w ∈ wsX12_hasWay := fun w h => List.mem_cons_of_mem _ (List.mem_append_right _ h)
  have f1 := hts (.fieldLink RX12 45 "LastWordsModel" "said" "[I") (by decide +kernel)
  have b69 : ∀ (B3 : Int32 → Int32 → Int32 → Int32 → Int32 → Int32 → Int32 → gS → Prop) (hB3 : ∀ (y1 : Int32) (y2 : Int32) (y3 : Int32) (y4 : Int32) (y5 : Int32) (y6 : Int32) (y7 : Int32) (M : gS) (H : Heap) (locs : List Loc) (ls : Array Slot), va_P (dC, dI) vwCl (mW cB cI cJ cZ h0 ad M) H → va_D A (mW cB cI cJ cZ h0 ad M) → va_S A s.heap H locs → lv_has ls 9 [(0, .ref h0), (1, .int y1), (2, .int y2), (3, .int y3), (4, .int y4), (5, .int y5), (6, .int y6), (7, .int y7)] → B3 y1 y2 y3 y4 y5 y6 y7 M → W p l e (headSpec wsX12_hasWay rmX12_hasWay).room s m ([.ref h0, .int p1, .int p2, .int p3, .int p4, .int p5, .int p6] : List Value).toArray below meth c H locs 0 0 (MQ below (va_Qi (fun (r : Int32) (u : gS) => ∃ b : Bool, r = bI b ∧ Q b u) (mB dC dI cB cI cJ cZ h0 ad A) A) ([.ref h0, .int p1, .int p2, .int p3, .int p4, .int p5, .int p6] : List Value).toArray s 0 0 A) (F0 m 3 ls [])) (y1 : Int32) (y2 : Int32) (y3 : Int32) (y4 : Int32) (y5 : Int32) (y6 : Int32) (y7 : Int32) (M : gS) (H : Heap) (locs : List Loc) (ls : Array Slot), va_P (dC, dI) vwCl (mW cB cI cJ cZ h0 ad M) H → va_D A (mW cB cI cJ cZ h0 ad M) → va_S A s.heap H locs → lv_has ls 9 [(0, .ref h0), (1, .int y1), (2, .int y2), (3, .int y3), (4, .int y4), (5, .int y5), (6, .int y6), (7, .int y7)] → wX12_hasWay_69 B3 Q y1 y2 y3 y4 y5 y6 y7 M → W p l e (headSpec wsX12_hasWay rmX12_hasWay).room s m ([.ref h0, .int p1, .int p2, .int p3, .int p4, .int p5, .int p6] : List Value).toArray below meth c H locs 0 0 (MQ below (va_Qi (fun (r : Int32) (u : gS) => ∃ b : Bool, r = bI b ∧ Q b u) (mB dC dI cB cI cJ cZ h0 ad A) A) ([.ref h0, .int p1, .int p2, .int p3, .int p4, .int p5, .int p6] : List Value).toArray s 0 0 A) (F0 m 69 ls []) := by
    intro B3 hB3 y1 y2 y3 y4 y5 y6 y7 M H locs ls hP hD hS hl h
    unfold wX12_hasWay_69 at h
    obtain ⟨x1, ex1⟩ : ∃ y : Int32, y = y7 + (1 : Int32) := ⟨_, rfl⟩
    have h := h x1 ex1
    refine lv_iinc (v := x1) (lv' := [(7, .int x1), (0, .ref h0), (1, .int y1), (2, .int y2), (3, .int y3), (4, .int y4), (5, .int y5), (6, .int y6)]) hx hb dX12_hasWay_69 hl (k := 7) rfl (by rw [ex1]; rfl) (by decide) rfl (fun ls hl => ?_)
    refine lv_goto (tgt := 3) hx hb dX12_hasWay_72 (by decide) ?_
    exact hB3 y1 y2 y3 y4 y5 y6 x1 M H locs ls hP hD hS (lv_sub hl [1, 2, 3, 4, 5, 6, 7, 0] rfl) h
  have b43 : ∀ (B3 : Int32 → Int32 → Int32 → Int32 → Int32 → Int32 → Int32 → gS → Prop) (hB3 : ∀ (y1 : Int32) (y2 : Int32) (y3 : Int32) (y4 : Int32) (y5 : Int32) (y6 : Int32) (y7 : Int32) (M : gS) (H : Heap) (locs : List Loc) (ls : Array Slot), va_P (dC, dI) vwCl (mW cB cI cJ cZ h0 ad M) H → va_D A (mW cB cI cJ cZ h0 ad M) → va_S A s.heap H locs → lv_has ls 9 [(0, .ref h0), (1, .int y1), (2, .int y2), (3, .int y3), (4, .int y4), (5, .int y5), (6, .int y6), (7, .int y7)] → B3 y1 y2 y3 y4 y5 y6 y7 M → W p l e (headSpec wsX12_hasWay rmX12_hasWay).room s m ([.ref h0, .int p1, .int p2, .int p3, .int p4, .int p5, .int p6] : List Value).toArray below meth c H locs 0 0 (MQ below (va_Qi (fun (r : Int32) (u : gS) => ∃ b : Bool, r = bI b ∧ Q b u) (mB dC dI cB cI cJ cZ h0 ad A) A) ([.ref h0, .int p1, .int p2, .int p3, .int p4, .int p5, .int p6] : List Value).toArray s 0 0 A) (F0 m 3 ls [])) (y1 : Int32) (y2 : Int32) (y3 : Int32) (y4 : Int32) (y5 : Int32) (y6 : Int32) (y7 : Int32) (z1 : Int32) (z0 : Int32) (M : gS) (H : Heap) (locs : List Loc) (ls : Array Slot), va_P (dC, dI) vwCl (mW cB cI cJ cZ h0 ad M) H → va_D A (mW cB cI cJ cZ h0 ad M) → va_S A s.heap H locs → lv_has ls 9 [(0, .ref h0), (1, .int y1), (2, .int y2), (3, .int y3), (4, .int y4), (5, .int y5), (6, .int y6), (7, .int y7)] → wX12_hasWay_43 B3 Q y1 y2 y3 y4 y5 y6 y7 z1 z0 M → W p l e (headSpec wsX12_hasWay rmX12_hasWay).room s m ([.ref h0, .int p1, .int p2, .int p3, .int p4, .int p5, .int p6] : List Value).toArray below meth c H locs 0 0 (MQ below (va_Qi (fun (r : Int32) (u : gS) => ∃ b : Bool, r = bI b ∧ Q b u) (mB dC dI cB cI cJ cZ h0 ad A) A) ([.ref h0, .int p1, .int p2, .int p3, .int p4, .int p5, .int p6] : List Value).toArray s 0 0 A) (F0 m 43 ls [.int z0, .int z1]) := by
    intro B3 hB3 y1 y2 y3 y4 y5 y6 y7 z1 z0 M H locs ls hP hD hS hl h
    unfold wX12_hasWay_43 at h
    refine lv_isub hx hb dX12_hasWay_43 ?_
    refine lv_topi (fun x1 ex1 => ?_)
    have h := h x1 ex1
    refine lv_istore (lv' := [(8, .int x1), (0, .ref h0), (1, .int y1), (2, .int y2), (3, .int y3), (4, .int y4), (5, .int y5), (6, .int y6), (7, .int y7)]) hx hb dX12_hasWay_44 hl (by decide) rfl (fun ls hl => ?_)
    refine lv_iload hx hb dX12_hasWay_46 (lv_at hl 0 rfl) ?_
    refine lv_if_lt (tgt := 69) hx hb dX12_hasWay_48 (by decide) (fun c2 => ?_) (fun c2 => ?_)
    · have h := h.1 c2
      exact b69 _ hB3 y1 y2 y3 y4 y5 y6 y7 M H locs ls hP hD hS (lv_sub hl [1, 2, 3, 4, 5, 6, 7, 8] rfl) h
    · have h := h.2 c2
      refine lv_aload_n hx hb dX12_hasWay_51 rfl (lv_at hl 1 rfl) ?_
      refine lv_iload hx hb dX12_hasWay_52 (lv_at hl 0 rfl) ?_
      refine lv_iload hx hb dX12_hasWay_54 (lv_at hl 5 rfl) ?_
      refine lv_iload_n hx hb dX12_hasWay_56 rfl (lv_at hl 4 rfl) ?_
      refine lv_iload hx hb dX12_hasWay_57 (lv_at hl 7 rfl) ?_
      refine lv_iload hx hb dX12_hasWay_59 (lv_at hl 8 rfl) ?_
      have hFc := gs_free hD hS hA
      refine va_calli (va_runV (As := [.int x1, .int y4, .int y3, .int y6, .int y7]) (rest := []) ⟨hx, hb, hml, hown, hts⟩ (kX12_can l dC dI cB cI cJ cZ h0 ad H.size x1 y4 y3 y6 y7 M _ h) (cwV 5 hts gX12_hasWay_X12_can rfl rfl rfl (by decide +kernel) ⟨Nat.le_of_ble_eq_true rfl, Nat.le_of_ble_eq_true rfl⟩) (mpV hK hP hD) rfl rfl hl.1 rfl (lv_room (Nat.le_of_ble_eq_true rfl)) dX12_hasWay_61 ⟨Nat.le_of_ble_eq_true rfl, Nat.le_of_ble_eq_true rfl⟩) hS (fun q _ z => hFc q z) hFc (fun r3 M4 t H1 locs ht hvm hw hB hz1 hk1 hS => ?_)
      obtain ⟨hP, hD⟩ := gs_back ht hFc hB
      generalize H1 = H at hP hS ⊢
      obtain ⟨b5, rfl, h⟩ := hw
      try dsimp only at h
      refine lv_if_ne (tgt := 69) hx hb dX12_hasWay_64 (by decide) (fun c6 => ?_) (fun c6 => ?_)
      · have h := h.2 c6
        exact b69 _ hB3 y1 y2 y3 y4 y5 y6 y7 M4 H locs ls hP hD hS (lv_sub hl [1, 2, 3, 4, 5, 6, 7, 8] rfl) h
      · have h := h.1 c6
        refine lv_iconst (v := 1) hx hb dX12_hasWay_67 (by decide) ?_
        exact W.zret (v := (bI true)) hx hb hr (nar_bI true) (fun t ht hW => ⟨⟨_, M4, rfl, ⟨true, rfl, h⟩, by rw [ht]; exact hP, va_K.moved hW.alike hK, hD⟩, hS.F ht⟩) hS.2.2 dX12_hasWay_68
  have b3 : ∀ (n : Nat) (y1 : Int32) (y2 : Int32) (y3 : Int32) (y4 : Int32) (y5 : Int32) (y6 : Int32) (y7 : Int32) (M : gS) (H : Heap) (locs : List Loc) (ls : Array Slot), va_P (dC, dI) vwCl (mW cB cI cJ cZ h0 ad M) H → va_D A (mW cB cI cJ cZ h0 ad M) → va_S A s.heap H locs → lv_has ls 9 [(0, .ref h0), (1, .int y1), (2, .int y2), (3, .int y3), (4, .int y4), (5, .int y5), (6, .int y6), (7, .int y7)] → wX12_hasWay_3  Q n y1 y2 y3 y4 y5 y6 y7 M → W p l e (headSpec wsX12_hasWay rmX12_hasWay).room s m ([.ref h0, .int p1, .int p2, .int p3, .int p4, .int p5, .int p6] : List Value).toArray below meth c H locs 0 0 (MQ below (va_Qi (fun (r : Int32) (u : gS) => ∃ b : Bool, r = bI b ∧ Q b u) (mB dC dI cB cI cJ cZ h0 ad A) A) ([.ref h0, .int p1, .int p2, .int p3, .int p4, .int p5, .int p6] : List Value).toArray s 0 0 A) (F0 m 3 ls []) := by
    intro  n
    induction n with
    | zero => intro y1 y2 y3 y4 y5 y6 y7 M H locs ls hP hD hS hl h; exact absurd h (by simp [wX12_hasWay_3])
    | succ n hB30 =>
      intro y1 y2 y3 y4 y5 y6 y7 M H locs ls hP hD hS hl h
      have hB3 := hB30
      rw [wX12_hasWay_3] at h
      refine lv_iload hx hb dX12_hasWay_3 (lv_at hl 7 rfl) ?_
      refine lv_aload_n hx hb dX12_hasWay_5 rfl (lv_at hl 0 rfl) ?_
      refine va_get (D := (dC, dI)) (ci := 12) (v := .ref (ad 25)) (C := RX12) (T := TX12) (N := 37) hx hb hts hin hown hK hP 0 rfl rfl 25 (by decide) f1 (fun _ h9 => h9) rfl dX12_hasWay_6 ?_
      refine lv_iconst (v := 1) hx hb dX12_hasWay_9 (by decide) ?_
      refine wc_iald (j := 1) hx hb hK hP 12 1 (f := ma M 25) rfl rfl (by decide) (by decide) (by decide) dX12_hasWay_10 ?_
      refine lv_icmp_ge (tgt := 75) hx hb dX12_hasWay_11 (by decide) (fun c1 => ?_) (fun c1 => ?_)
      · have h := h.1 c1
        refine lv_iload_n hx hb dX12_hasWay_75 rfl (lv_at hl 3 rfl) ?_
        refine lv_if_le (tgt := 111) hx hb dX12_hasWay_76 (by decide) (fun c2 => ?_) (fun c2 => ?_)
        · have h := h.1 c2
          refine lv_iconst (v := 0) hx hb dX12_hasWay_111 (by decide) ?_
          exact W.zret (v := (bI false)) hx hb hr (nar_bI false) (fun t ht hW => ⟨⟨_, M, rfl, ⟨false, rfl, h⟩, by rw [ht]; exact hP, va_K.moved hW.alike hK, hD⟩, hS.F ht⟩) hS.2.2 dX12_hasWay_112
        · have h := h.2 c2
          refine lv_iload_n hx hb dX12_hasWay_79 rfl (lv_at hl 2 rfl) ?_
          refine lv_iload_n hx hb dX12_hasWay_80 rfl (lv_at hl 1 rfl) ?_
          refine lv_iadd hx hb dX12_hasWay_81 ?_
          refine lv_sipush (v := (200)) hx hb dX12_hasWay_82 (by decide) ?_
          refine lv_icmp_gt (tgt := 111) hx hb dX12_hasWay_85 (by decide) (fun c3 => ?_) (fun c3 => ?_)
          · have h := h.1 c3
            refine lv_iconst (v := 0) hx hb dX12_hasWay_111 (by decide) ?_
            exact W.zret (v := (bI false)) hx hb hr (nar_bI false) (fun t ht hW => ⟨⟨_, M, rfl, ⟨false, rfl, h⟩, by rw [ht]; exact hP, va_K.moved hW.alike hK, hD⟩, hS.F ht⟩) hS.2.2 dX12_hasWay_112
          · have h := h.2 c3
            refine lv_aload_n hx hb dX12_hasWay_88 rfl (lv_at hl 0 rfl) ?_
            refine lv_iload_n hx hb dX12_hasWay_89 rfl (lv_at hl 2 rfl) ?_
            refine lv_iload_n hx hb dX12_hasWay_90 rfl (lv_at hl 1 rfl) ?_
            refine lv_iadd hx hb dX12_hasWay_91 ?_
            refine lv_iload_n hx hb dX12_hasWay_92 rfl (lv_at hl 3 rfl) ?_
            refine lv_iconst (v := 1) hx hb dX12_hasWay_93 (by decide) ?_
            refine lv_isub hx hb dX12_hasWay_94 ?_
            refine lv_iload hx hb dX12_hasWay_95 (lv_at hl 4 rfl) ?_
            refine lv_iload hx hb dX12_hasWay_97 (lv_at hl 5 rfl) ?_
            refine lv_iload hx hb dX12_hasWay_99 (lv_at hl 6 rfl) ?_
            have hFc := gs_free hD hS hA
            refine va_calli (va_runV (As := [.int (y2 + y1), .int (y3 - (1 : Int32)), .int y4, .int y5, .int y6]) (rest := []) ⟨hx, hb, hml, hown, hts⟩ (kX12_can l dC dI cB cI cJ cZ h0 ad H.size (y2 + y1) (y3 - (1 : Int32)) y4 y5 y6 M _ h) (cwV 5 hts gX12_hasWay_X12_can rfl rfl rfl (by decide +kernel) ⟨Nat.le_of_ble_eq_true rfl, Nat.le_of_ble_eq_true rfl⟩) (mpV hK hP hD) rfl rfl hl.1 rfl (lv_room (Nat.le_of_ble_eq_true rfl)) dX12_hasWay_101 ⟨Nat.le_of_ble_eq_true rfl, Nat.le_of_ble_eq_true rfl⟩) hS (fun q _ z => hFc q z) hFc (fun r4 M5 t H1 locs ht hvm hw hB hz1 hk1 hS => ?_)
            obtain ⟨hP, hD⟩ := gs_back ht hFc hB
            generalize H1 = H at hP hS ⊢
            obtain ⟨b6, rfl, h⟩ := hw
            try dsimp only at h
            refine lv_if_eq (tgt := 111) hx hb dX12_hasWay_104 (by decide) (fun c7 => ?_) (fun c7 => ?_)
            · have h := h.1 c7
              refine lv_iconst (v := 0) hx hb dX12_hasWay_111 (by decide) ?_
              exact W.zret (v := (bI false)) hx hb hr (nar_bI false) (fun t ht hW => ⟨⟨_, M5, rfl, ⟨false, rfl, h⟩, by rw [ht]; exact hP, va_K.moved hW.alike hK, hD⟩, hS.F ht⟩) hS.2.2 dX12_hasWay_112
            · have h := h.2 c7
              refine lv_iconst (v := 1) hx hb dX12_hasWay_107 (by decide) ?_
              refine lv_goto (tgt := 112) hx hb dX12_hasWay_108 (by decide) ?_
              exact W.zret (v := (bI true)) hx hb hr (nar_bI true) (fun t ht hW => ⟨⟨_, M5, rfl, ⟨true, rfl, h⟩, by rw [ht]; exact hP, va_K.moved hW.alike hK, hD⟩, hS.F ht⟩) hS.2.2 dX12_hasWay_112
      · have h := h.2 c1
        refine lv_iload_n hx hb dX12_hasWay_14 rfl (lv_at hl 2 rfl) ?_
        refine lv_aload_n hx hb dX12_hasWay_15 rfl (lv_at hl 0 rfl) ?_
        refine va_get (D := (dC, dI)) (ci := 12) (v := .ref (ad 25)) (C := RX12) (T := TX12) (N := 37) hx hb hts hin hown hK hP 0 rfl rfl 25 (by decide) f1 (fun _ h9 => h9) rfl dX12_hasWay_16 ?_
        refine lv_bipush (v := (28)) hx hb dX12_hasWay_19 (by decide) ?_
        refine lv_iload hx hb dX12_hasWay_21 (lv_at hl 7 rfl) ?_
        refine lv_iadd hx hb dX12_hasWay_23 ?_
        refine va_iald hx hb hK hP 12 1 (f := ma M 25) rfl rfl h.1 dX12_hasWay_24 ?_
        have h := h.2
        refine lv_isub hx hb dX12_hasWay_25 ?_
        refine lv_iload hx hb dX12_hasWay_26 (lv_at hl 7 rfl) ?_
        refine lv_iload hx hb dX12_hasWay_28 (lv_at hl 5 rfl) ?_
        refine lv_icmp_ne (tgt := 42) hx hb dX12_hasWay_30 (by decide) (fun c8 => ?_) (fun c8 => ?_)
        · have h := h.2 c8
          refine lv_iconst (v := 0) hx hb dX12_hasWay_42 (by decide) ?_
          exact b43 _ hB3 y1 y2 y3 y4 y5 y6 y7 (y2 - (ma M 25 (Int32.toNatClampNeg ((28 : Int32) + y7)))) (0 : Int32) M H locs ls hP hD hS (lv_sub hl [0, 1, 2, 3, 4, 5, 6, 7] rfl) h
        · have h := h.1 c8
          refine lv_aload_n hx hb dX12_hasWay_33 rfl (lv_at hl 0 rfl) ?_
          refine va_get (D := (dC, dI)) (ci := 12) (v := .ref (ad 25)) (C := RX12) (T := TX12) (N := 37) hx hb hts hin hown hK hP 0 rfl rfl 25 (by decide) f1 (fun _ h9 => h9) rfl dX12_hasWay_34 ?_
          refine lv_iconst (v := 2) hx hb dX12_hasWay_37 (by decide) ?_
          refine wc_iald (j := 2) hx hb hK hP 12 1 (f := ma M 25) rfl rfl (by decide) (by decide) (by decide) dX12_hasWay_38 ?_
          refine lv_goto (tgt := 43) hx hb dX12_hasWay_39 (by decide) ?_
          exact b43 _ hB3 y1 y2 y3 y4 y5 y6 y7 (y2 - (ma M 25 (Int32.toNatClampNeg ((28 : Int32) + y7)))) (ma M 25 2) M H locs ls hP hD hS (lv_sub hl [0, 1, 2, 3, 4, 5, 6, 7] rfl) h
  have bE : ∀ (M : gS) (H : Heap) (locs : List Loc) (ls : Array Slot), va_P (dC, dI) vwCl (mW cB cI cJ cZ h0 ad M) H → va_D A (mW cB cI cJ cZ h0 ad M) → va_S A s.heap H locs → lv_has ls 9 [(0, .ref h0), (1, .int p1), (2, .int p2), (3, .int p3), (4, .int p4), (5, .int p5), (6, .int p6)] → wX12_hasWay p1 p2 p3 p4 p5 p6 M Q → W p l e (headSpec wsX12_hasWay rmX12_hasWay).room s m ([.ref h0, .int p1, .int p2, .int p3, .int p4, .int p5, .int p6] : List Value).toArray below meth c H locs 0 0 (MQ below (va_Qi (fun (r : Int32) (u : gS) => ∃ b : Bool, r = bI b ∧ Q b u) (mB dC dI cB cI cJ cZ h0 ad A) A) ([.ref h0, .int p1, .int p2, .int p3, .int p4, .int p5, .int p6] : List Value).toArray s 0 0 A) (F0 m 0 ls []) := by
    intro M H locs ls hP hD hS hl h
    unfold wX12_hasWay at h
    refine lv_iconst (v := 0) hx hb dX12_hasWay_0 (by decide) ?_
    refine lv_istore (lv' := [(7, .int (0 : Int32)), (0, .ref h0), (1, .int p1), (2, .int p2), (3, .int p3), (4, .int p4), (5, .int p5), (6, .int p6)]) hx hb dX12_hasWay_1 hl (by decide) rfl (fun ls hl => ?_)
    obtain ⟨n9, h⟩ := h
    exact b3  n9 p1 p2 p3 p4 p5 p6 (0 : Int32) M H locs ls hP hD hS (lv_sub hl [1, 2, 3, 4, 5, 6, 7, 0] rfl) h
  have hl := lv_entry ([.ref h0, .int p1, .int p2, .int p3, .int p4, .int p5, .int p6]) (n := 9) (Nat.le_of_ble_eq_true rfl)
  rw [lg_entry_eq]
  generalize (lg_sl ([.ref h0, .int p1, .int p2, .int p3, .int p4, .int p5, .int p6]) ++ List.replicate (9 - (lg_sl ([.ref h0, .int p1, .int p2, .int p3, .int p4, .int p5, .int p6])).length) Slot.unset).toArray = ls at hl ⊢
  have hl : lv_has ls 9 [(0, .ref h0), (1, .int p1), (2, .int p2), (3, .int p3), (4, .int p4), (5, .int p5), (6, .int p6)] := hl
  exact bE M s.heap [] ls hP hD hS hl h
def wX12_fillsPlace_52 (B6 : Int32 → Int32 → Int32 → Int32 → Int32 → Int32 → gS → Prop) (B15 : Int32 → Int32 → Int32 → Int32 → Int32 → Int32 → Int32 → gS → Prop) (Q : gS → Prop) (y1 : Int32) (y2 : Int32) (y3 : Int32) (y4 : Int32) (y6 : Int32) (y7 : Int32) (z1 : Int32) (z0 : Int32) (M : gS) : Prop :=
 (∀ x1 : Int32, x1 = (z1 ||| z0) → (∀ x2 : Int32, x2 = y7 + (1 : Int32) → (B15 y1 y2 y3 y4 x1 y6 x2 M)))
def wX12_fillsPlace_15 (B6 : Int32 → Int32 → Int32 → Int32 → Int32 → Int32 → gS → Prop) (Q : gS → Prop) : Nat → Int32 → Int32 → Int32 → Int32 → Int32 → Int32 → Int32 → gS → Prop
 | 0, _, _, _, _, _, _, _, _ => False
 | n + 1, y1, y2, y3, y4, y5, y6, y7, M => (((5 : Int32) ≤ y7 → (∀ x2 : Int32, x2 = y6 + (1 : Int32) → (B6 y1 y2 y3 y4 y5 x2 M)))
 ∧ (¬ (5 : Int32) ≤ y7 → (wX12_hasWay y1 y2 y3 y4 y6 y7 M (fun (b5 : Bool) (M4 : gS) => (((bI b5) = 0 → (wX12_fillsPlace_52 B6 (fun (y1 : Int32) (y2 : Int32) (y3 : Int32) (y4 : Int32) (y5 : Int32) (y6 : Int32) (y7 : Int32) (M : gS) => wX12_fillsPlace_15 B6 Q n y1 y2 y3 y4 y5 y6 y7 M) Q y1 y2 y3 y4 y6 y7 y5 (0 : Int32) M4))
 ∧ (¬ (bI b5) = 0 → (wX12_fillsPlace_52 B6 (fun (y1 : Int32) (y2 : Int32) (y3 : Int32) (y4 : Int32) (y5 : Int32) (y6 : Int32) (y7 : Int32) (M : gS) => wX12_fillsPlace_15 B6 Q n y1 y2 y3 y4 y5 y6 y7 M) Q y1 y2 y3 y4 y6 y7 y5 ((1 : Int32) <<< ((((5 : Int32) * y6) + y7) &&& 31)) M4)))))))
def wX12_fillsPlace_6  (Q : gS → Prop) : Nat → Int32 → Int32 → Int32 → Int32 → Int32 → Int32 → gS → Prop
 | 0, _, _, _, _, _, _, _ => False
 | n + 1, y1, y2, y3, y4, y5, y6, M => (((5 : Int32) ≤ y6 → (wX12_placeOf y2 y3 y4 M (fun (r2 : Int32) (M3 : gS) => (vp_in r2 12864 ∧ (∀ M4 : gS, M4 = sa M3 28 (Int32.toNatClampNeg r2) y5 → (Q M4))))))
 ∧ (¬ (5 : Int32) ≤ y6 → (∃ k15 : Nat, wX12_fillsPlace_15 (fun (y1 : Int32) (y2 : Int32) (y3 : Int32) (y4 : Int32) (y5 : Int32) (y6 : Int32) (M : gS) => wX12_fillsPlace_6  Q n y1 y2 y3 y4 y5 y6 M) Q k15 y1 y2 y3 y4 y5 y6 (0 : Int32) M)))
def wX12_fillsPlace (p1 : Int32) (p2 : Int32) (p3 : Int32) (p4 : Int32) (M : gS) (Q : gS → Prop) : Prop :=
 (∃ k6 : Nat, wX12_fillsPlace_6  Q k6 p1 p2 p3 p4 (0 : Int32) (0 : Int32) M)
def rmX12_fillsPlace : Room := { frames := 3, cells := 0, slots := 0, locals := 75 }
set_option maxHeartbeats 4000000 in
set_option maxRecDepth 100000 in
theorem kX12_fillsPlace (l : Launch) (dC : Nat → ClassId) (dI : Nat → Nat → Nat) (cB cI cJ cZ : ClassId) (h0 : Nat) (ad : Nat → Nat) (sz : Nat) (p1 : Int32) (p2 : Int32) (p3 : Int32) (p4 : Int32) (M : gS) (Q : gS → Prop) (h : wX12_fillsPlace p1 p2 p3 p4 M Q) : Met l yX12_fillsPlace wsX12_fillsPlace rmX12_fillsPlace (va_Pc [.ref h0, .int p1, .int p2, .int p3, .int p4] (mI dC dI cB cI cJ cZ h0 ad M sz)) (va_Qv (fun (u : gS) => Q u) (mB dC dI cB cI cJ cZ h0 ad (va_A (mW cB cI cJ cZ h0 ad M) sz)) (va_A (mW cB cI cJ cZ h0 ad M) sz)) 0 0 (va_A (mW cB cI cJ cZ h0 ad M) sz) := by
  refine Met.ofW (cc := cX12_fillsPlace) (maxL := 8) (ret := none) (by decide) rfl ?_
  intro p e s m args below meth c s₁ B hml hv
  obtain ⟨rfl, hsz, hP, hK, hD0⟩ := hv
  have hx := B.exec
  have hb := B.bytes
  have hr := B.returns
  have hts := atoms_spec (ws := wsX12_fillsPlace) B.pre
  have hown : s.vm.findClass RX12 = some m.cls := findClass_of_methodNamed B.named
  have hlocks := B.notSynchronized
  subst hsz
  have hD := hD0.self (sz := s.heap.size)
  generalize hAe : va_A (mW cB cI cJ cZ h0 ad M) s.heap.size = A at hD ⊢
  have hA : ∀ q : Nat, s.heap.size ≤ q → A q := fun q h => by rw [← hAe]; exact Or.inr h
  have hS : va_S A s.heap s.heap [] := va_S.rf
  have hin : ∀ w ∈ wsX120, w ∈ wsX12_fillsPlace := fun w h => List.mem_cons_of_mem _ (List.mem_append_right _ h)
  have f1 := hts (.fieldLink RX12 51 "LastWordsModel" "table" "[I") (by decide +kernel)
  have b52 : ∀ (B6 : Int32 → Int32 → Int32 → Int32 → Int32 → Int32 → gS → Prop) (hB6 : ∀ (y1 : Int32) (y2 : Int32) (y3 : Int32) (y4 : Int32) (y5 : Int32) (y6 : Int32) (M : gS) (H : Heap) (locs : List Loc) (ls : Array Slot), va_P (dC, dI) vwCl (mW cB cI cJ cZ h0 ad M) H → va_D A (mW cB cI cJ cZ h0 ad M) → va_S A s.heap H locs → lv_has ls 8 [(0, .ref h0), (1, .int y1), (2, .int y2), (3, .int y3), (4, .int y4), (5, .int y5), (6, .int y6)] → B6 y1 y2 y3 y4 y5 y6 M → W p l e (headSpec wsX12_fillsPlace rmX12_fillsPlace).room s m ([.ref h0, .int p1, .int p2, .int p3, .int p4] : List Value).toArray below meth c H locs 0 0 (MQ below (va_Qv (fun (u : gS) => Q u) (mB dC dI cB cI cJ cZ h0 ad A) A) ([.ref h0, .int p1, .int p2, .int p3, .int p4] : List Value).toArray s 0 0 A) (F0 m 6 ls [])) (B15 : Int32 → Int32 → Int32 → Int32 → Int32 → Int32 → Int32 → gS → Prop) (hB15 : ∀ (y1 : Int32) (y2 : Int32) (y3 : Int32) (y4 : Int32) (y5 : Int32) (y6 : Int32) (y7 : Int32) (M : gS) (H : Heap) (locs : List Loc) (ls : Array Slot), va_P (dC, dI) vwCl (mW cB cI cJ cZ h0 ad M) H → va_D A (mW cB cI cJ cZ h0 ad M) → va_S A s.heap H locs → lv_has ls 8 [(0, .ref h0), (1, .int y1), (2, .int y2), (3, .int y3), (4, .int y4), (5, .int y5), (6, .int y6), (7, .int y7)] → B15 y1 y2 y3 y4 y5 y6 y7 M → W p l e (headSpec wsX12_fillsPlace rmX12_fillsPlace).room s m ([.ref h0, .int p1, .int p2, .int p3, .int p4] : List Value).toArray below meth c H locs 0 0 (MQ below (va_Qv (fun (u : gS) => Q u) (mB dC dI cB cI cJ cZ h0 ad A) A) ([.ref h0, .int p1, .int p2, .int p3, .int p4] : List Value).toArray s 0 0 A) (F0 m 15 ls [])) (y1 : Int32) (y2 : Int32) (y3 : Int32) (y4 : Int32) (y6 : Int32) (y7 : Int32) (z1 : Int32) (z0 : Int32) (M : gS) (H : Heap) (locs : List Loc) (ls : Array Slot), va_P (dC, dI) vwCl (mW cB cI cJ cZ h0 ad M) H → va_D A (mW cB cI cJ cZ h0 ad M) → va_S A s.heap H locs → lv_has ls 8 [(0, .ref h0), (1, .int y1), (2, .int y2), (3, .int y3), (4, .int y4), (6, .int y6), (7, .int y7)] → wX12_fillsPlace_52 B6 B15 Q y1 y2 y3 y4 y6 y7 z1 z0 M → W p l e (headSpec wsX12_fillsPlace rmX12_fillsPlace).room s m ([.ref h0, .int p1, .int p2, .int p3, .int p4] : List Value).toArray below meth c H locs 0 0 (MQ below (va_Qv (fun (u : gS) => Q u) (mB dC dI cB cI cJ cZ h0 ad A) A) ([.ref h0, .int p1, .int p2, .int p3, .int p4] : List Value).toArray s 0 0 A) (F0 m 52 ls [.int z0, .int z1]) := by
    intro B6 hB6 B15 hB15 y1 y2 y3 y4 y6 y7 z1 z0 M H locs ls hP hD hS hl h
    unfold wX12_fillsPlace_52 at h
    refine lv_ior hx hb dX12_fillsPlace_52 ?_
    refine lv_topi (fun x1 ex1 => ?_)
    have h := h x1 ex1
    refine lv_istore (lv' := [(5, .int x1), (0, .ref h0), (1, .int y1), (2, .int y2), (3, .int y3), (4, .int y4), (6, .int y6), (7, .int y7)]) hx hb dX12_fillsPlace_53 hl (by decide) rfl (fun ls hl => ?_)
    obtain ⟨x2, ex2⟩ : ∃ y : Int32, y = y7 + (1 : Int32) := ⟨_, rfl⟩
    have h := h x2 ex2
    refine lv_iinc (v := x2) (lv' := [(7, .int x2), (5, .int x1), (0, .ref h0), (1, .int y1), (2, .int y2), (3, .int y3), (4, .int y4), (6, .int y6)]) hx hb dX12_fillsPlace_55 hl (k := 7) rfl (by rw [ex2]; rfl) (by decide) rfl (fun ls hl => ?_)
    refine lv_goto (tgt := 15) hx hb dX12_fillsPlace_58 (by decide) ?_
    exact hB15 y1 y2 y3 y4 x1 y6 x2 M H locs ls hP hD hS (lv_sub hl [2, 3, 4, 5, 6, 1, 7, 0] rfl) h
  have b15 : ∀ (B6 : Int32 → Int32 → Int32 → Int32 → Int32 → Int32 → gS → Prop) (hB6 : ∀ (y1 : Int32) (y2 : Int32) (y3 : Int32) (y4 : Int32) (y5 : Int32) (y6 : Int32) (M : gS) (H : Heap) (locs : List Loc) (ls : Array Slot), va_P (dC, dI) vwCl (mW cB cI cJ cZ h0 ad M) H → va_D A (mW cB cI cJ cZ h0 ad M) → va_S A s.heap H locs → lv_has ls 8 [(0, .ref h0), (1, .int y1), (2, .int y2), (3, .int y3), (4, .int y4), (5, .int y5), (6, .int y6)] → B6 y1 y2 y3 y4 y5 y6 M → W p l e (headSpec wsX12_fillsPlace rmX12_fillsPlace).room s m ([.ref h0, .int p1, .int p2, .int p3, .int p4] : List Value).toArray below meth c H locs 0 0 (MQ below (va_Qv (fun (u : gS) => Q u) (mB dC dI cB cI cJ cZ h0 ad A) A) ([.ref h0, .int p1, .int p2, .int p3, .int p4] : List Value).toArray s 0 0 A) (F0 m 6 ls [])) (n : Nat) (y1 : Int32) (y2 : Int32) (y3 : Int32) (y4 : Int32) (y5 : Int32) (y6 : Int32) (y7 : Int32) (M : gS) (H : Heap) (locs : List Loc) (ls : Array Slot), va_P (dC, dI) vwCl (mW cB cI cJ cZ h0 ad M) H → va_D A (mW cB cI cJ cZ h0 ad M) → va_S A s.heap H locs → lv_has ls 8 [(0, .ref h0), (1, .int y1), (2, .int y2), (3, .int y3), (4, .int y4), (5, .int y5), (6, .int y6), (7, .int y7)] → wX12_fillsPlace_15 B6 Q n y1 y2 y3 y4 y5 y6 y7 M → W p l e (headSpec wsX12_fillsPlace rmX12_fillsPlace).room s m ([.ref h0, .int p1, .int p2, .int p3, .int p4] : List Value).toArray below meth c H locs 0 0 (MQ below (va_Qv (fun (u : gS) => Q u) (mB dC dI cB cI cJ cZ h0 ad A) A) ([.ref h0, .int p1, .int p2, .int p3, .int p4] : List Value).toArray s 0 0 A) (F0 m 15 ls []) := by
    intro B6 hB6 n
    induction n with
    | zero => intro y1 y2 y3 y4 y5 y6 y7 M H locs ls hP hD hS hl h; exact absurd h (by simp [wX12_fillsPlace_15])
    | succ n hB150 =>
      intro y1 y2 y3 y4 y5 y6 y7 M H locs ls hP hD hS hl h
      have hB15 := hB150
      rw [wX12_fillsPlace_15] at h
      refine lv_iload hx hb dX12_fillsPlace_15 (lv_at hl 7 rfl) ?_
      refine lv_iconst (v := 5) hx hb dX12_fillsPlace_17 (by decide) ?_
      refine lv_icmp_ge (tgt := 61) hx hb dX12_fillsPlace_18 (by decide) (fun c1 => ?_) (fun c1 => ?_)
      · have h := h.1 c1
        obtain ⟨x2, ex2⟩ : ∃ y : Int32, y = y6 + (1 : Int32) := ⟨_, rfl⟩
        have h := h x2 ex2
        refine lv_iinc (v := x2) (lv' := [(6, .int x2), (0, .ref h0), (1, .int y1), (2, .int y2), (3, .int y3), (4, .int y4), (5, .int y5), (7, .int y7)]) hx hb dX12_fillsPlace_61 hl (k := 6) rfl (by rw [ex2]; rfl) (by decide) rfl (fun ls hl => ?_)
        refine lv_goto (tgt := 6) hx hb dX12_fillsPlace_64 (by decide) ?_
        exact hB6 y1 y2 y3 y4 y5 x2 M H locs ls hP hD hS (lv_sub hl [1, 2, 3, 4, 5, 6, 0] rfl) h
      · have h := h.2 c1
        refine lv_iload hx hb dX12_fillsPlace_21 (lv_at hl 5 rfl) ?_
        refine lv_aload_n hx hb dX12_fillsPlace_23 rfl (lv_at hl 0 rfl) ?_
        refine lv_iload_n hx hb dX12_fillsPlace_24 rfl (lv_at hl 1 rfl) ?_
        refine lv_iload_n hx hb dX12_fillsPlace_25 rfl (lv_at hl 2 rfl) ?_
        refine lv_iload_n hx hb dX12_fillsPlace_26 rfl (lv_at hl 3 rfl) ?_
        refine lv_iload hx hb dX12_fillsPlace_27 (lv_at hl 4 rfl) ?_
        refine lv_iload hx hb dX12_fillsPlace_29 (lv_at hl 6 rfl) ?_
        refine lv_iload hx hb dX12_fillsPlace_31 (lv_at hl 7 rfl) ?_
        have hFc := gs_free hD hS hA
        refine va_calli (va_runV (As := [.int y1, .int y2, .int y3, .int y4, .int y6, .int y7]) (rest := [.int y5]) ⟨hx, hb, hml, hown, hts⟩ (kX12_hasWay l dC dI cB cI cJ cZ h0 ad H.size y1 y2 y3 y4 y6 y7 M _ h) (cwV 6 hts gX12_fillsPlace_X12_hasWay rfl rfl rfl (by decide +kernel) ⟨Nat.le_of_ble_eq_true rfl, Nat.le_of_ble_eq_true rfl⟩) (mpV hK hP hD) rfl rfl hl.1 rfl (lv_room (Nat.le_of_ble_eq_true rfl)) dX12_fillsPlace_33 ⟨Nat.le_of_ble_eq_true rfl, Nat.le_of_ble_eq_true rfl⟩) hS (fun q _ z => hFc q z) hFc (fun r3 M4 t H1 locs ht hvm hw hB hz1 hk1 hS => ?_)
        obtain ⟨hP, hD⟩ := gs_back ht hFc hB
        generalize H1 = H at hP hS ⊢
        obtain ⟨b5, rfl, h⟩ := hw
        try dsimp only at h
        refine lv_if_eq (tgt := 51) hx hb dX12_fillsPlace_36 (by decide) (fun c6 => ?_) (fun c6 => ?_)
        · have h := h.1 c6
          refine lv_iconst (v := 0) hx hb dX12_fillsPlace_51 (by decide) ?_
          exact b52 _ hB6 _ hB15 y1 y2 y3 y4 y6 y7 y5 (0 : Int32) M4 H locs ls hP hD hS (lv_sub hl [0, 1, 2, 3, 4, 6, 7] rfl) h
        · have h := h.2 c6
          refine lv_iconst (v := 1) hx hb dX12_fillsPlace_39 (by decide) ?_
          refine lv_iconst (v := 5) hx hb dX12_fillsPlace_40 (by decide) ?_
          refine lv_iload hx hb dX12_fillsPlace_41 (lv_at hl 6 rfl) ?_
          refine lv_imul hx hb dX12_fillsPlace_43 ?_
          refine lv_iload hx hb dX12_fillsPlace_44 (lv_at hl 7 rfl) ?_
          refine lv_iadd hx hb dX12_fillsPlace_46 ?_
          refine lv_ishl hx hb dX12_fillsPlace_47 ?_
          refine lv_goto (tgt := 52) hx hb dX12_fillsPlace_48 (by decide) ?_
          exact b52 _ hB6 _ hB15 y1 y2 y3 y4 y6 y7 y5 ((1 : Int32) <<< ((((5 : Int32) * y6) + y7) &&& 31)) M4 H locs ls hP hD hS (lv_sub hl [0, 1, 2, 3, 4, 6, 7] rfl) h
  have b6 : ∀ (n : Nat) (y1 : Int32) (y2 : Int32) (y3 : Int32) (y4 : Int32) (y5 : Int32) (y6 : Int32) (M : gS) (H : Heap) (locs : List Loc) (ls : Array Slot), va_P (dC, dI) vwCl (mW cB cI cJ cZ h0 ad M) H → va_D A (mW cB cI cJ cZ h0 ad M) → va_S A s.heap H locs → lv_has ls 8 [(0, .ref h0), (1, .int y1), (2, .int y2), (3, .int y3), (4, .int y4), (5, .int y5), (6, .int y6)] → wX12_fillsPlace_6  Q n y1 y2 y3 y4 y5 y6 M → W p l e (headSpec wsX12_fillsPlace rmX12_fillsPlace).room s m ([.ref h0, .int p1, .int p2, .int p3, .int p4] : List Value).toArray below meth c H locs 0 0 (MQ below (va_Qv (fun (u : gS) => Q u) (mB dC dI cB cI cJ cZ h0 ad A) A) ([.ref h0, .int p1, .int p2, .int p3, .int p4] : List Value).toArray s 0 0 A) (F0 m 6 ls []) := by
    intro  n
    induction n with
    | zero => intro y1 y2 y3 y4 y5 y6 M H locs ls hP hD hS hl h; exact absurd h (by simp [wX12_fillsPlace_6])
    | succ n hB60 =>
      intro y1 y2 y3 y4 y5 y6 M H locs ls hP hD hS hl h
      have hB6 := hB60
      rw [wX12_fillsPlace_6] at h
      refine lv_iload hx hb dX12_fillsPlace_6 (lv_at hl 6 rfl) ?_
      refine lv_iconst (v := 5) hx hb dX12_fillsPlace_8 (by decide) ?_
      refine lv_icmp_ge (tgt := 67) hx hb dX12_fillsPlace_9 (by decide) (fun c1 => ?_) (fun c1 => ?_)
      · have h := h.1 c1
        refine lv_aload_n hx hb dX12_fillsPlace_67 rfl (lv_at hl 0 rfl) ?_
        refine va_get (D := (dC, dI)) (ci := 12) (v := .ref (ad 28)) (C := RX12) (T := TX12) (N := 37) hx hb hts hin hown hK hP 0 rfl rfl 28 (by decide) f1 (fun _ h9 => h9) rfl dX12_fillsPlace_68 ?_
        refine lv_iload_n hx hb dX12_fillsPlace_71 rfl (lv_at hl 2 rfl) ?_
        refine lv_iload_n hx hb dX12_fillsPlace_72 rfl (lv_at hl 3 rfl) ?_
        refine lv_iload hx hb dX12_fillsPlace_73 (lv_at hl 4 rfl) ?_
        have hFc := gs_free hD hS hA
        refine va_calli (va_runS (As := [.int y2, .int y3, .int y4]) (rest := [.ref (ad 28)]) ⟨hx, hb, hml, hown, hts⟩ (kX12_placeOf l dC dI cB cI cJ cZ h0 ad H.size y2 y3 y4 M _ h) (cwS 3 hts gX12_fillsPlace_X12_placeOf rfl rfl rfl (by decide +kernel) ⟨Nat.le_of_ble_eq_true rfl, Nat.le_of_ble_eq_true rfl⟩) (mpS hK hP hD) rfl rfl hl.1 rfl (lv_room (Nat.le_of_ble_eq_true rfl)) dX12_fillsPlace_75 ⟨Nat.le_of_ble_eq_true rfl, Nat.le_of_ble_eq_true rfl⟩) hS (fun q _ z => hFc q z) hFc (fun r2 M3 t H1 locs ht hvm hw hB hz1 hk1 hS => ?_)
        obtain ⟨hP, hD⟩ := gs_back ht hFc hB
        generalize H1 = H at hP hS ⊢
        have h := hw
        try dsimp only at h
        refine lv_iload hx hb dX12_fillsPlace_78 (lv_at hl 5 rfl) ?_
        refine va_iast hx hb hK hP hD hS 14 1 (f := ma M3 28) rfl rfl h.1 dX12_fillsPlace_80 (fun H locs hP hD hS => ?_)
        have h := h.2
        have hP := mP_a28 hP
        have hD := mD_a28 hD
        have h := h _ rfl
        generalize sa M3 28 (Int32.toNatClampNeg r2) y5 = M4 at hP hD h
        exact W.vret hx hb hr (fun t ht hW => ⟨⟨M4, rfl, h, by rw [ht]; exact hP, va_K.moved hW.alike hK, hD⟩, hS.F ht⟩) hS.2.2 dX12_fillsPlace_81
      · have h := h.2 c1
        refine lv_iconst (v := 0) hx hb dX12_fillsPlace_12 (by decide) ?_
        refine lv_istore (lv' := [(7, .int (0 : Int32)), (0, .ref h0), (1, .int y1), (2, .int y2), (3, .int y3), (4, .int y4), (5, .int y5), (6, .int y6)]) hx hb dX12_fillsPlace_13 hl (by decide) rfl (fun ls hl => ?_)
        obtain ⟨n9, h⟩ := h
        exact b15 _ hB6 n9 y1 y2 y3 y4 y5 y6 (0 : Int32) M H locs ls hP hD hS (lv_sub hl [1, 2, 3, 4, 5, 6, 7, 0] rfl) h
  have bE : ∀ (M : gS) (H : Heap) (locs : List Loc) (ls : Array Slot), va_P (dC, dI) vwCl (mW cB cI cJ cZ h0 ad M) H → va_D A (mW cB cI cJ cZ h0 ad M) → va_S A s.heap H locs → lv_has ls 8 [(0, .ref h0), (1, .int p1), (2, .int p2), (3, .int p3), (4, .int p4)] → wX12_fillsPlace p1 p2 p3 p4 M Q → W p l e (headSpec wsX12_fillsPlace rmX12_fillsPlace).room s m ([.ref h0, .int p1, .int p2, .int p3, .int p4] : List Value).toArray below meth c H locs 0 0 (MQ below (va_Qv (fun (u : gS) => Q u) (mB dC dI cB cI cJ cZ h0 ad A) A) ([.ref h0, .int p1, .int p2, .int p3, .int p4] : List Value).toArray s 0 0 A) (F0 m 0 ls []) := by
    intro M H locs ls hP hD hS hl h
    unfold wX12_fillsPlace at h
    refine lv_iconst (v := 0) hx hb dX12_fillsPlace_0 (by decide) ?_
    refine lv_istore (lv' := [(5, .int (0 : Int32)), (0, .ref h0), (1, .int p1), (2, .int p2), (3, .int p3), (4, .int p4)]) hx hb dX12_fillsPlace_1 hl (by decide) rfl (fun ls hl => ?_)
    refine lv_iconst (v := 0) hx hb dX12_fillsPlace_3 (by decide) ?_
    refine lv_istore (lv' := [(6, .int (0 : Int32)), (5, .int (0 : Int32)), (0, .ref h0), (1, .int p1), (2, .int p2), (3, .int p3), (4, .int p4)]) hx hb dX12_fillsPlace_4 hl (by decide) rfl (fun ls hl => ?_)
    obtain ⟨n9, h⟩ := h
    exact b6  n9 p1 p2 p3 p4 (0 : Int32) (0 : Int32) M H locs ls hP hD hS (lv_sub hl [2, 3, 4, 5, 6, 1, 0] rfl) h
  have hl := lv_entry ([.ref h0, .int p1, .int p2, .int p3, .int p4]) (n := 8) (Nat.le_of_ble_eq_true rfl)
  rw [lg_entry_eq]
  generalize (lg_sl ([.ref h0, .int p1, .int p2, .int p3, .int p4]) ++ List.replicate (8 - (lg_sl ([.ref h0, .int p1, .int p2, .int p3, .int p4])).length) Slot.unset).toArray = ls at hl ⊢
  have hl : lv_has ls 8 [(0, .ref h0), (1, .int p1), (2, .int p2), (3, .int p3), (4, .int p4)] := hl
  exact bE M s.heap [] ls hP hD hS hl h
def wX12_fillsTable_54 (B2 : Int32 → Int32 → gS → Prop) (B10 : Int32 → Int32 → Int32 → gS → Prop) (B20 : Int32 → Int32 → Int32 → Int32 → gS → Prop) (Q : gS → Prop) (y1 : Int32) (y2 : Int32) (y3 : Int32) (y4 : Int32) (M : gS) : Prop :=
 (∀ x1 : Int32, x1 = y4 + (1 : Int32) → (B20 y1 y2 y3 x1 M))
def wX12_fillsTable_20 (B2 : Int32 → Int32 → gS → Prop) (B10 : Int32 → Int32 → Int32 → gS → Prop) (Q : gS → Prop) : Nat → Int32 → Int32 → Int32 → Int32 → gS → Prop
 | 0, _, _, _, _, _ => False
 | n + 1, y1, y2, y3, y4, M => (((7 : Int32) < y4 → (∀ x2 : Int32, x2 = y3 + (1 : Int32) → (B10 y1 y2 x2 M)))
 ∧ (¬ (7 : Int32) < y4 → (wX12_in (Int32.toInt64 (y2 - y4)) (0 : Int64) (7 : Int64) M (fun (b5 : Bool) (M4 : gS) => (((bI b5) = 0 → (wX12_fillsTable_54 B2 B10 (fun (y1 : Int32) (y2 : Int32) (y3 : Int32) (y4 : Int32) (M : gS) => wX12_fillsTable_20 B2 B10 Q n y1 y2 y3 y4 M) Q y1 y2 y3 y4 M4))
 ∧ (¬ (bI b5) = 0 → (wX12_fillsPlace y1 y3 y4 (y2 - y4) M4 (fun (M8 : gS) => (wX12_fillsTable_54 B2 B10 (fun (y1 : Int32) (y2 : Int32) (y3 : Int32) (y4 : Int32) (M : gS) => wX12_fillsTable_20 B2 B10 Q n y1 y2 y3 y4 M) Q y1 y2 y3 y4 M8)))))))))
def wX12_fillsTable_10 (B2 : Int32 → Int32 → gS → Prop) (Q : gS → Prop) : Nat → Int32 → Int32 → Int32 → gS → Prop
 | 0, _, _, _, _ => False
 | n + 1, y1, y2, y3, M => (((200 : Int32) < y3 → (∀ x2 : Int32, x2 = y2 + (1 : Int32) → (B2 y1 x2 M)))
 ∧ (¬ (200 : Int32) < y3 → (∃ k20 : Nat, wX12_fillsTable_20 B2 (fun (y1 : Int32) (y2 : Int32) (y3 : Int32) (M : gS) => wX12_fillsTable_10 B2 Q n y1 y2 y3 M) Q k20 y1 y2 y3 (0 : Int32) M)))
def wX12_fillsTable_2  (Q : gS → Prop) : Nat → Int32 → Int32 → gS → Prop
 | 0, _, _, _ => False
 | n + 1, y1, y2, M => (((14 : Int32) < y2 → (Q M))
 ∧ (¬ (14 : Int32) < y2 → (∃ k10 : Nat, wX12_fillsTable_10 (fun (y1 : Int32) (y2 : Int32) (M : gS) => wX12_fillsTable_2  Q n y1 y2 M) Q k10 y1 y2 (0 : Int32) M)))
def wX12_fillsTable (p1 : Int32) (M : gS) (Q : gS → Prop) : Prop :=
 (∃ k2 : Nat, wX12_fillsTable_2  Q k2 p1 (0 : Int32) M)
def rmX12_fillsTable : Room := { frames := 4, cells := 0, slots := 0, locals := 102 }
set_option maxHeartbeats 4000000 in
set_option maxRecDepth 100000 in
theorem kX12_fillsTable (l : Launch) (dC : Nat → ClassId) (dI : Nat → Nat → Nat) (cB cI cJ cZ : ClassId) (h0 : Nat) (ad : Nat → Nat) (sz : Nat) (p1 : Int32) (M : gS) (Q : gS → Prop) (h : wX12_fillsTable p1 M Q) : Met l yX12_fillsTable wsX12_fillsTable rmX12_fillsTable (va_Pc [.ref h0, .int p1] (mI dC dI cB cI cJ cZ h0 ad M sz)) (va_Qv (fun (u : gS) => Q u) (mB dC dI cB cI cJ cZ h0 ad (va_A (mW cB cI cJ cZ h0 ad M) sz)) (va_A (mW cB cI cJ cZ h0 ad M) sz)) 0 0 (va_A (mW cB cI cJ cZ h0 ad M) sz) := by
  refine Met.ofW (cc := cX12_fillsTable) (maxL := 5) (ret := none) (by decide) rfl ?_
  intro p e s m args below meth c s₁ B hml hv
  obtain ⟨rfl, hsz, hP, hK, hD0⟩ := hv
  have hx := B.exec
  have hb := B.bytes
  have hr := B.returns
  have hts := atoms_spec (ws := wsX12_fillsTable) B.pre
  have hown : s.vm.findClass RX12 = some m.cls := findClass_of_methodNamed B.named
  have hlocks := B.notSynchronized
  subst hsz
  have hD := hD0.self (sz := s.heap.size)
  generalize hAe : va_A (mW cB cI cJ cZ h0 ad M) s.heap.size = A at hD ⊢
  have hA : ∀ q : Nat, s.heap.size ≤ q → A q := fun q h => by rw [← hAe]; exact Or.inr h
  have hS : va_S A s.heap s.heap [] := va_S.rf
  have f1 := hts (.constantLong RX12 321 (7)) (by decide +kernel)
  have b54 : ∀ (B2 : Int32 → Int32 → gS → Prop) (hB2 : ∀ (y1 : Int32) (y2 : Int32) (M : gS) (H : Heap) (locs : List Loc) (ls : Array Slot), va_P (dC, dI) vwCl (mW cB cI cJ cZ h0 ad M) H → va_D A (mW cB cI cJ cZ h0 ad M) → va_S A s.heap H locs → lv_has ls 5 [(0, .ref h0), (1, .int y1), (2, .int y2)] → B2 y1 y2 M → W p l e (headSpec wsX12_fillsTable rmX12_fillsTable).room s m ([.ref h0, .int p1] : List Value).toArray below meth c H locs 0 0 (MQ below (va_Qv (fun (u : gS) => Q u) (mB dC dI cB cI cJ cZ h0 ad A) A) ([.ref h0, .int p1] : List Value).toArray s 0 0 A) (F0 m 2 ls [])) (B10 : Int32 → Int32 → Int32 → gS → Prop) (hB10 : ∀ (y1 : Int32) (y2 : Int32) (y3 : Int32) (M : gS) (H : Heap) (locs : List Loc) (ls : Array Slot), va_P (dC, dI) vwCl (mW cB cI cJ cZ h0 ad M) H → va_D A (mW cB cI cJ cZ h0 ad M) → va_S A s.heap H locs → lv_has ls 5 [(0, .ref h0), (1, .int y1), (2, .int y2), (3, .int y3)] → B10 y1 y2 y3 M → W p l e (headSpec wsX12_fillsTable rmX12_fillsTable).room s m ([.ref h0, .int p1] : List Value).toArray below meth c H locs 0 0 (MQ below (va_Qv (fun (u : gS) => Q u) (mB dC dI cB cI cJ cZ h0 ad A) A) ([.ref h0, .int p1] : List Value).toArray s 0 0 A) (F0 m 10 ls [])) (B20 : Int32 → Int32 → Int32 → Int32 → gS → Prop) (hB20 : ∀ (y1 : Int32) (y2 : Int32) (y3 : Int32) (y4 : Int32) (M : gS) (H : Heap) (locs : List Loc) (ls : Array Slot), va_P (dC, dI) vwCl (mW cB cI cJ cZ h0 ad M) H → va_D A (mW cB cI cJ cZ h0 ad M) → va_S A s.heap H locs → lv_has ls 5 [(0, .ref h0), (1, .int y1), (2, .int y2), (3, .int y3), (4, .int y4)] → B20 y1 y2 y3 y4 M → W p l e (headSpec wsX12_fillsTable rmX12_fillsTable).room s m ([.ref h0, .int p1] : List Value).toArray below meth c H locs 0 0 (MQ below (va_Qv (fun (u : gS) => Q u) (mB dC dI cB cI cJ cZ h0 ad A) A) ([.ref h0, .int p1] : List Value).toArray s 0 0 A) (F0 m 20 ls [])) (y1 : Int32) (y2 : Int32) (y3 : Int32) (y4 : Int32) (M : gS) (H : Heap) (locs : List Loc) (ls : Array Slot), va_P (dC, dI) vwCl (mW cB cI cJ cZ h0 ad M) H → va_D A (mW cB cI cJ cZ h0 ad M) → va_S A s.heap H locs → lv_has ls 5 [(0, .ref h0), (1, .int y1), (2, .int y2), (3, .int y3), (4, .int y4)] → wX12_fillsTable_54 B2 B10 B20 Q y1 y2 y3 y4 M → W p l e (headSpec wsX12_fillsTable rmX12_fillsTable).room s m ([.ref h0, .int p1] : List Value).toArray below meth c H locs 0 0 (MQ below (va_Qv (fun (u : gS) => Q u) (mB dC dI cB cI cJ cZ h0 ad A) A) ([.ref h0, .int p1] : List Value).toArray s 0 0 A) (F0 m 54 ls []) := by
    intro B2 hB2 B10 hB10 B20 hB20 y1 y2 y3 y4 M H locs ls hP hD hS hl h
    unfold wX12_fillsTable_54 at h
    obtain ⟨x1, ex1⟩ : ∃ y : Int32, y = y4 + (1 : Int32) := ⟨_, rfl⟩
    have h := h x1 ex1
    refine lv_iinc (v := x1) (lv' := [(4, .int x1), (0, .ref h0), (1, .int y1), (2, .int y2), (3, .int y3)]) hx hb dX12_fillsTable_54 hl (k := 4) rfl (by rw [ex1]; rfl) (by decide) rfl (fun ls hl => ?_)
    refine lv_goto (tgt := 20) hx hb dX12_fillsTable_57 (by decide) ?_
    exact hB20 y1 y2 y3 x1 M H locs ls hP hD hS (lv_sub hl [1, 2, 3, 4, 0] rfl) h
  have b20 : ∀ (B2 : Int32 → Int32 → gS → Prop) (hB2 : ∀ (y1 : Int32) (y2 : Int32) (M : gS) (H : Heap) (locs : List Loc) (ls : Array Slot), va_P (dC, dI) vwCl (mW cB cI cJ cZ h0 ad M) H → va_D A (mW cB cI cJ cZ h0 ad M) → va_S A s.heap H locs → lv_has ls 5 [(0, .ref h0), (1, .int y1), (2, .int y2)] → B2 y1 y2 M → W p l e (headSpec wsX12_fillsTable rmX12_fillsTable).room s m ([.ref h0, .int p1] : List Value).toArray below meth c H locs 0 0 (MQ below (va_Qv (fun (u : gS) => Q u) (mB dC dI cB cI cJ cZ h0 ad A) A) ([.ref h0, .int p1] : List Value).toArray s 0 0 A) (F0 m 2 ls [])) (B10 : Int32 → Int32 → Int32 → gS → Prop) (hB10 : ∀ (y1 : Int32) (y2 : Int32) (y3 : Int32) (M : gS) (H : Heap) (locs : List Loc) (ls : Array Slot), va_P (dC, dI) vwCl (mW cB cI cJ cZ h0 ad M) H → va_D A (mW cB cI cJ cZ h0 ad M) → va_S A s.heap H locs → lv_has ls 5 [(0, .ref h0), (1, .int y1), (2, .int y2), (3, .int y3)] → B10 y1 y2 y3 M → W p l e (headSpec wsX12_fillsTable rmX12_fillsTable).room s m ([.ref h0, .int p1] : List Value).toArray below meth c H locs 0 0 (MQ below (va_Qv (fun (u : gS) => Q u) (mB dC dI cB cI cJ cZ h0 ad A) A) ([.ref h0, .int p1] : List Value).toArray s 0 0 A) (F0 m 10 ls [])) (n : Nat) (y1 : Int32) (y2 : Int32) (y3 : Int32) (y4 : Int32) (M : gS) (H : Heap) (locs : List Loc) (ls : Array Slot), va_P (dC, dI) vwCl (mW cB cI cJ cZ h0 ad M) H → va_D A (mW cB cI cJ cZ h0 ad M) → va_S A s.heap H locs → lv_has ls 5 [(0, .ref h0), (1, .int y1), (2, .int y2), (3, .int y3), (4, .int y4)] → wX12_fillsTable_20 B2 B10 Q n y1 y2 y3 y4 M → W p l e (headSpec wsX12_fillsTable rmX12_fillsTable).room s m ([.ref h0, .int p1] : List Value).toArray below meth c H locs 0 0 (MQ below (va_Qv (fun (u : gS) => Q u) (mB dC dI cB cI cJ cZ h0 ad A) A) ([.ref h0, .int p1] : List Value).toArray s 0 0 A) (F0 m 20 ls []) := by
    intro B2 hB2 B10 hB10 n
    induction n with
    | zero => intro y1 y2 y3 y4 M H locs ls hP hD hS hl h; exact absurd h (by simp [wX12_fillsTable_20])
    | succ n hB200 =>
      intro y1 y2 y3 y4 M H locs ls hP hD hS hl h
      have hB20 := hB200
      rw [wX12_fillsTable_20] at h
      refine lv_iload hx hb dX12_fillsTable_20 (lv_at hl 4 rfl) ?_
      refine lv_bipush (v := (7)) hx hb dX12_fillsTable_22 (by decide) ?_
      refine lv_icmp_gt (tgt := 60) hx hb dX12_fillsTable_24 (by decide) (fun c1 => ?_) (fun c1 => ?_)
      · have h := h.1 c1
        obtain ⟨x2, ex2⟩ : ∃ y : Int32, y = y3 + (1 : Int32) := ⟨_, rfl⟩
        have h := h x2 ex2
        refine lv_iinc (v := x2) (lv' := [(3, .int x2), (0, .ref h0), (1, .int y1), (2, .int y2), (4, .int y4)]) hx hb dX12_fillsTable_60 hl (k := 3) rfl (by rw [ex2]; rfl) (by decide) rfl (fun ls hl => ?_)
        refine lv_goto (tgt := 10) hx hb dX12_fillsTable_63 (by decide) ?_
        exact hB10 y1 y2 x2 M H locs ls hP hD hS (lv_sub hl [1, 2, 3, 0] rfl) h
      · have h := h.2 c1
        refine lv_iload_n hx hb dX12_fillsTable_27 rfl (lv_at hl 2 rfl) ?_
        refine lv_iload hx hb dX12_fillsTable_28 (lv_at hl 4 rfl) ?_
        refine lv_isub hx hb dX12_fillsTable_30 ?_
        refine lv_i2l hx hb dX12_fillsTable_31 rfl ?_
        refine lv_lconst (v := 0) hx hb dX12_fillsTable_32 (by decide) ?_
        refine lv_ldc2 (v := (7)) hx hb hown f1 dX12_fillsTable_33 ?_
        have hFc := gs_free hD hS hA
        refine va_calli (va_runS (As := [.long (Int32.toInt64 (y2 - y4)), .long (0 : Int64), .long (7 : Int64)]) (rest := []) ⟨hx, hb, hml, hown, hts⟩ (kX12_in l dC dI cB cI cJ cZ h0 ad H.size (Int32.toInt64 (y2 - y4)) (0 : Int64) (7 : Int64) M _ h) (cwS 3 hts gX12_fillsTable_X12_in rfl rfl rfl (by decide +kernel) ⟨Nat.le_of_ble_eq_true rfl, Nat.le_of_ble_eq_true rfl⟩) (mpS hK hP hD) rfl rfl hl.1 rfl (lv_room (Nat.le_of_ble_eq_true rfl)) dX12_fillsTable_36 ⟨Nat.le_of_ble_eq_true rfl, Nat.le_of_ble_eq_true rfl⟩) hS (fun q _ z => hFc q z) hFc (fun r3 M4 t H1 locs ht hvm hw hB hz1 hk1 hS => ?_)
        obtain ⟨hP, hD⟩ := gs_back ht hFc hB
        generalize H1 = H at hP hS ⊢
        obtain ⟨b5, rfl, h⟩ := hw
        try dsimp only at h
        refine lv_if_eq (tgt := 54) hx hb dX12_fillsTable_39 (by decide) (fun c6 => ?_) (fun c6 => ?_)
        · have h := h.1 c6
          exact b54 _ hB2 _ hB10 _ hB20 y1 y2 y3 y4 M4 H locs ls hP hD hS (lv_sub hl [0, 1, 2, 3, 4] rfl) h
        · have h := h.2 c6
          refine lv_aload_n hx hb dX12_fillsTable_42 rfl (lv_at hl 0 rfl) ?_
          refine lv_iload_n hx hb dX12_fillsTable_43 rfl (lv_at hl 1 rfl) ?_
          refine lv_iload_n hx hb dX12_fillsTable_44 rfl (lv_at hl 3 rfl) ?_
          refine lv_iload hx hb dX12_fillsTable_45 (lv_at hl 4 rfl) ?_
          refine lv_iload_n hx hb dX12_fillsTable_47 rfl (lv_at hl 2 rfl) ?_
          refine lv_iload hx hb dX12_fillsTable_48 (lv_at hl 4 rfl) ?_
          refine lv_isub hx hb dX12_fillsTable_50 ?_
          have hFc := gs_free hD hS hA
          refine va_callv (va_runV (As := [.int y1, .int y3, .int y4, .int (y2 - y4)]) (rest := []) ⟨hx, hb, hml, hown, hts⟩ (kX12_fillsPlace l dC dI cB cI cJ cZ h0 ad H.size y1 y3 y4 (y2 - y4) M4 _ h) (cwV 4 hts gX12_fillsTable_X12_fillsPlace rfl rfl rfl (by decide +kernel) ⟨Nat.le_of_ble_eq_true rfl, Nat.le_of_ble_eq_true rfl⟩) (mpV hK hP hD) rfl rfl hl.1 rfl (lv_room (Nat.le_of_ble_eq_true rfl)) dX12_fillsTable_51 ⟨Nat.le_of_ble_eq_true rfl, Nat.le_of_ble_eq_true rfl⟩) hS (fun q _ z => hFc q z) hFc (fun M8 t H1 locs ht hvm hw hB hz1 hk1 hS => ?_)
          obtain ⟨hP, hD⟩ := gs_back ht hFc hB
          generalize H1 = H at hP hS ⊢
          have h := hw
          try dsimp only at h
          exact b54 _ hB2 _ hB10 _ hB20 y1 y2 y3 y4 M8 H locs ls hP hD hS (lv_sub hl [0, 1, 2, 3, 4] rfl) h
  have b10 : ∀ (B2 : Int32 → Int32 → gS → Prop) (hB2 : ∀ (y1 : Int32) (y2 : Int32) (M : gS) (H : Heap) (locs : List Loc) (ls : Array Slot), va_P (dC, dI) vwCl (mW cB cI cJ cZ h0 ad M) H → va_D A (mW cB cI cJ cZ h0 ad M) → va_S A s.heap H locs → lv_has ls 5 [(0, .ref h0), (1, .int y1), (2, .int y2)] → B2 y1 y2 M → W p l e (headSpec wsX12_fillsTable rmX12_fillsTable).room s m ([.ref h0, .int p1] : List Value).toArray below meth c H locs 0 0 (MQ below (va_Qv (fun (u : gS) => Q u) (mB dC dI cB cI cJ cZ h0 ad A) A) ([.ref h0, .int p1] : List Value).toArray s 0 0 A) (F0 m 2 ls [])) (n : Nat) (y1 : Int32) (y2 : Int32) (y3 : Int32) (M : gS) (H : Heap) (locs : List Loc) (ls : Array Slot), va_P (dC, dI) vwCl (mW cB cI cJ cZ h0 ad M) H → va_D A (mW cB cI cJ cZ h0 ad M) → va_S A s.heap H locs → lv_has ls 5 [(0, .ref h0), (1, .int y1), (2, .int y2), (3, .int y3)] → wX12_fillsTable_10 B2 Q n y1 y2 y3 M → W p l e (headSpec wsX12_fillsTable rmX12_fillsTable).room s m ([.ref h0, .int p1] : List Value).toArray below meth c H locs 0 0 (MQ below (va_Qv (fun (u : gS) => Q u) (mB dC dI cB cI cJ cZ h0 ad A) A) ([.ref h0, .int p1] : List Value).toArray s 0 0 A) (F0 m 10 ls []) := by
    intro B2 hB2 n
    induction n with
    | zero => intro y1 y2 y3 M H locs ls hP hD hS hl h; exact absurd h (by simp [wX12_fillsTable_10])
    | succ n hB100 =>
      intro y1 y2 y3 M H locs ls hP hD hS hl h
      have hB10 := hB100
      rw [wX12_fillsTable_10] at h
      refine lv_iload_n hx hb dX12_fillsTable_10 rfl (lv_at hl 3 rfl) ?_
      refine lv_sipush (v := (200)) hx hb dX12_fillsTable_11 (by decide) ?_
      refine lv_icmp_gt (tgt := 66) hx hb dX12_fillsTable_14 (by decide) (fun c1 => ?_) (fun c1 => ?_)
      · have h := h.1 c1
        obtain ⟨x2, ex2⟩ : ∃ y : Int32, y = y2 + (1 : Int32) := ⟨_, rfl⟩
        have h := h x2 ex2
        refine lv_iinc (v := x2) (lv' := [(2, .int x2), (0, .ref h0), (1, .int y1), (3, .int y3)]) hx hb dX12_fillsTable_66 hl (k := 2) rfl (by rw [ex2]; rfl) (by decide) rfl (fun ls hl => ?_)
        refine lv_goto (tgt := 2) hx hb dX12_fillsTable_69 (by decide) ?_
        exact hB2 y1 x2 M H locs ls hP hD hS (lv_sub hl [1, 2, 0] rfl) h
      · have h := h.2 c1
        refine lv_iconst (v := 0) hx hb dX12_fillsTable_17 (by decide) ?_
        refine lv_istore (lv' := [(4, .int (0 : Int32)), (0, .ref h0), (1, .int y1), (2, .int y2), (3, .int y3)]) hx hb dX12_fillsTable_18 hl (by decide) rfl (fun ls hl => ?_)
        obtain ⟨n9, h⟩ := h
        exact b20 _ hB2 _ hB10 n9 y1 y2 y3 (0 : Int32) M H locs ls hP hD hS (lv_sub hl [1, 2, 3, 4, 0] rfl) h
  have b2 : ∀ (n : Nat) (y1 : Int32) (y2 : Int32) (M : gS) (H : Heap) (locs : List Loc) (ls : Array Slot), va_P (dC, dI) vwCl (mW cB cI cJ cZ h0 ad M) H → va_D A (mW cB cI cJ cZ h0 ad M) → va_S A s.heap H locs → lv_has ls 5 [(0, .ref h0), (1, .int y1), (2, .int y2)] → wX12_fillsTable_2  Q n y1 y2 M → W p l e (headSpec wsX12_fillsTable rmX12_fillsTable).room s m ([.ref h0, .int p1] : List Value).toArray below meth c H locs 0 0 (MQ below (va_Qv (fun (u : gS) => Q u) (mB dC dI cB cI cJ cZ h0 ad A) A) ([.ref h0, .int p1] : List Value).toArray s 0 0 A) (F0 m 2 ls []) := by
    intro  n
    induction n with
    | zero => intro y1 y2 M H locs ls hP hD hS hl h; exact absurd h (by simp [wX12_fillsTable_2])
    | succ n hB20 =>
      intro y1 y2 M H locs ls hP hD hS hl h
      have hB2 := hB20
      rw [wX12_fillsTable_2] at h
      refine lv_iload_n hx hb dX12_fillsTable_2 rfl (lv_at hl 2 rfl) ?_
      refine lv_bipush (v := (14)) hx hb dX12_fillsTable_3 (by decide) ?_
      refine lv_icmp_gt (tgt := 72) hx hb dX12_fillsTable_5 (by decide) (fun c1 => ?_) (fun c1 => ?_)
      · have h := h.1 c1
        exact W.vret hx hb hr (fun t ht hW => ⟨⟨M, rfl, h, by rw [ht]; exact hP, va_K.moved hW.alike hK, hD⟩, hS.F ht⟩) hS.2.2 dX12_fillsTable_72
      · have h := h.2 c1
        refine lv_iconst (v := 0) hx hb dX12_fillsTable_8 (by decide) ?_
        refine lv_istore_n (lv' := [(3, .int (0 : Int32)), (0, .ref h0), (1, .int y1), (2, .int y2)]) hx hb dX12_fillsTable_9 rfl hl (by decide) rfl (fun ls hl => ?_)
        obtain ⟨n9, h⟩ := h
        exact b10 _ hB2 n9 y1 y2 (0 : Int32) M H locs ls hP hD hS (lv_sub hl [1, 2, 3, 0] rfl) h
  have bE : ∀ (M : gS) (H : Heap) (locs : List Loc) (ls : Array Slot), va_P (dC, dI) vwCl (mW cB cI cJ cZ h0 ad M) H → va_D A (mW cB cI cJ cZ h0 ad M) → va_S A s.heap H locs → lv_has ls 5 [(0, .ref h0), (1, .int p1)] → wX12_fillsTable p1 M Q → W p l e (headSpec wsX12_fillsTable rmX12_fillsTable).room s m ([.ref h0, .int p1] : List Value).toArray below meth c H locs 0 0 (MQ below (va_Qv (fun (u : gS) => Q u) (mB dC dI cB cI cJ cZ h0 ad A) A) ([.ref h0, .int p1] : List Value).toArray s 0 0 A) (F0 m 0 ls []) := by
    intro M H locs ls hP hD hS hl h
    unfold wX12_fillsTable at h
    refine lv_iconst (v := 0) hx hb dX12_fillsTable_0 (by decide) ?_
    refine lv_istore_n (lv' := [(2, .int (0 : Int32)), (0, .ref h0), (1, .int p1)]) hx hb dX12_fillsTable_1 rfl hl (by decide) rfl (fun ls hl => ?_)
    obtain ⟨n9, h⟩ := h
    exact b2  n9 p1 (0 : Int32) M H locs ls hP hD hS (lv_sub hl [1, 2, 0] rfl) h
  have hl := lv_entry ([.ref h0, .int p1]) (n := 5) (Nat.le_of_ble_eq_true rfl)
  rw [lg_entry_eq]
  generalize (lg_sl ([.ref h0, .int p1]) ++ List.replicate (5 - (lg_sl ([.ref h0, .int p1])).length) Slot.unset).toArray = ls at hl ⊢
  have hl : lv_has ls 5 [(0, .ref h0), (1, .int p1)] := hl
  exact bE M s.heap [] ls hP hD hS hl h
