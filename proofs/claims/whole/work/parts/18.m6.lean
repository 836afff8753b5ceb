def wX12_isCorner  (M : gS) (Q : Bool → gS → Prop) : Prop :=
 (((ma M 25 0) ≤ 0 → (Q false M))
 ∧ (¬ (ma M 25 0) ≤ 0 → (Q true M)))
def rmX12_isCorner : Room := { frames := 0, cells := 0, slots := 0, locals := 0 }
set_option maxHeartbeats 4000000 in
set_option maxRecDepth 100000 in
theorem kX12_isCorner (l : Launch) (dC : Nat → ClassId) (dI : Nat → Nat → Nat) (cB cI cJ cZ : ClassId) (h0 : Nat) (ad : Nat → Nat) (sz : Nat)  (M : gS) (Q : Bool → gS → Prop) (h : wX12_isCorner  M Q) : Met l yX12_isCorner wsX12_isCorner rmX12_isCorner (va_Pc [.ref h0] (mI dC dI cB cI cJ cZ h0 ad M sz)) (va_Qi (fun (r : Int32) (u : gS) => ∃ b : Bool, r = bI b ∧ Q b u) (mB dC dI cB cI cJ cZ h0 ad (va_A (mW cB cI cJ cZ h0 ad M) sz)) (va_A (mW cB cI cJ cZ h0 ad M) sz)) 0 0 (va_A (mW cB cI cJ cZ h0 ad M) sz) := by
  refine Met.ofW (cc := cX12_isCorner) (maxL := 1) (ret := (some .boolean)) (by decide) rfl ?_
  intro p e s m args below meth c s₁ B hml hv
  obtain ⟨rfl, hsz, hP, hK, hD0⟩ := hv
  have hx := B.exec
  have hb := B.bytes
  have hr := B.returns
  have hts := atoms_spec (ws := wsX12_isCorner) B.pre
  have hown : s.vm.findClass RX12 = some m.cls := findClass_of_methodNamed B.named
  have hlocks := B.notSynchronized
  subst hsz
  have hD := hD0.self (sz := s.heap.size)
  generalize hAe : va_A (mW cB cI cJ cZ h0 ad M) s.heap.size = A at hD ⊢
  have hA : ∀ q : Nat, s.heap.size ≤ q → A q := fun q h => by rw [← hAe]; exact Or.inr h
  have hS : va_S A s.heap s.heap [] := va_S.rf
  have hin : ∀ w ∈ wsX120, w ∈ wsX12_isCorner := fun w h => List.mem_cons_of_mem _ (List.mem_append_right _ h)
  have f1 := hts (.fieldLink RX12 45 "LastWordsModel" "said" "[I") (by decide +kernel)
  have bE : ∀ (M : gS) (H : Heap) (locs : List Loc) (ls : Array Slot), va_P (dC, dI) vwCl (mW cB cI cJ cZ h0 ad M) H → va_D A (mW cB cI cJ cZ h0 ad M) → va_S A s.heap H locs → lv_has ls 1 [(0, .ref h0)] → wX12_isCorner  M Q → W p l e (headSpec wsX12_isCorner rmX12_isCorner).room s m ([.ref h0] : List Value).toArray below meth c H locs 0 0 (MQ below (va_Qi (fun (r : Int32) (u : gS) => ∃ b : Bool, r = bI b ∧ Q b u) (mB dC dI cB cI cJ cZ h0 ad A) A) ([.ref h0] : List Value).toArray s 0 0 A) (F0 m 0 ls []) := by
    intro M H locs ls hP hD hS hl h
    unfold wX12_isCorner at h
    refine lv_aload_n hx hb dX12_isCorner_0 rfl (lv_at hl 0 rfl) ?_
    refine va_get (D := (dC, dI)) (ci := 12) (v := .ref (ad 25)) (C := RX12) (T := TX12) (N := 37) hx hb hts hin hown hK hP 0 rfl rfl 25 (by decide) f1 (fun _ h9 => h9) rfl dX12_isCorner_1 ?_
    refine lv_iconst (v := 0) hx hb dX12_isCorner_4 (by decide) ?_
    refine wc_iald (j := 0) hx hb hK hP 12 1 (f := ma M 25) rfl rfl (by decide) (by decide) (by decide) dX12_isCorner_5 ?_
    refine lv_if_le (tgt := 13) hx hb dX12_isCorner_6 (by decide) (fun c1 => ?_) (fun c1 => ?_)
    · have h := h.1 c1
      refine lv_iconst (v := 0) hx hb dX12_isCorner_13 (by decide) ?_
      exact W.zret (v := (bI false)) hx hb hr (nar_bI false) (fun t ht hW => ⟨⟨_, M, rfl, ⟨false, rfl, h⟩, by rw [ht]; exact hP, va_K.moved hW.alike hK, hD⟩, hS.F ht⟩) hS.2.2 dX12_isCorner_14
    · have h := h.2 c1
      refine lv_iconst (v := 1) hx hb dX12_isCorner_9 (by decide) ?_
      refine lv_goto (tgt := 14) hx hb dX12_isCorner_10 (by decide) ?_
      exact W.zret (v := (bI true)) hx hb hr (nar_bI true) (fun t ht hW => ⟨⟨_, M, rfl, ⟨true, rfl, h⟩, by rw [ht]; exact hP, va_K.moved hW.alike hK, hD⟩, hS.F ht⟩) hS.2.2 dX12_isCorner_14
  have hl := lv_entry ([.ref h0]) (n := 1) (Nat.le_of_ble_eq_true rfl)
  rw [lg_entry_eq]
  generalize (lg_sl ([.ref h0]) ++ List.replicate (1 - (lg_sl ([.ref h0])).length) Slot.unset).toArray = ls at hl ⊢
  have hl : lv_has ls 1 [(0, .ref h0)] := hl
  exact bE M s.heap [] ls hP hD hS hl h
def wX12_goesOn  (M : gS) (Q : Bool → gS → Prop) : Prop :=
 (((ma M 25 3) = (1 : Int32) → (Q true M))
 ∧ (¬ (ma M 25 3) = (1 : Int32) → (Q false M)))
def rmX12_goesOn : Room := { frames := 0, cells := 0, slots := 0, locals := 0 }
set_option maxHeartbeats 4000000 in
set_option maxRecDepth 100000 in
theorem kX12_goesOn (l : Launch) (dC : Nat → ClassId) (dI : Nat → Nat → Nat) (cB cI cJ cZ : ClassId) (h0 : Nat) (ad : Nat → Nat) (sz : Nat)  (M : gS) (Q : Bool → gS → Prop) (h : wX12_goesOn  M Q) : Met l yX12_goesOn wsX12_goesOn rmX12_goesOn (va_Pc [.ref h0] (mI dC dI cB cI cJ cZ h0 ad M sz)) (va_Qi (fun (r : Int32) (u : gS) => ∃ b : Bool, r = bI b ∧ Q b u) (mB dC dI cB cI cJ cZ h0 ad (va_A (mW cB cI cJ cZ h0 ad M) sz)) (va_A (mW cB cI cJ cZ h0 ad M) sz)) 0 0 (va_A (mW cB cI cJ cZ h0 ad M) sz) := by
  refine Met.ofW (cc := cX12_goesOn) (maxL := 1) (ret := (some .boolean)) (by decide) rfl ?_
  intro p e s m args below meth c s₁ B hml hv
  obtain ⟨rfl, hsz, hP, hK, hD0⟩ := hv
  have hx := B.exec
  have hb := B.bytes
  have hr := B.returns
  have hts := atoms_spec (ws := wsX12_goesOn) B.pre
  have hown : s.vm.findClass RX12 = some m.cls := findClass_of_methodNamed B.named
  have hlocks := B.notSynchronized
  subst hsz
  have hD := hD0.self (sz := s.heap.size)
  generalize hAe : va_A (mW cB cI cJ cZ h0 ad M) s.heap.size = A at hD ⊢
  have hA : ∀ q : Nat, s.heap.size ≤ q → A q := fun q h => by rw [← hAe]; exact Or.inr h
  have hS : va_S A s.heap s.heap [] := va_S.rf
  have hin : ∀ w ∈ wsX120, w ∈ wsX12_goesOn := fun w h => List.mem_cons_of_mem _ (List.mem_append_right _ h)
  have f1 := hts (.fieldLink RX12 45 "LastWordsModel" "said" "[I") (by decide +kernel)
  have bE : ∀ (M : gS) (H : Heap) (locs : List Loc) (ls : Array Slot), va_P (dC, dI) vwCl (mW cB cI cJ cZ h0 ad M) H → va_D A (mW cB cI cJ cZ h0 ad M) → va_S A s.heap H locs → lv_has ls 1 [(0, .ref h0)] → wX12_goesOn  M Q → W p l e (headSpec wsX12_goesOn rmX12_goesOn).room s m ([.ref h0] : List Value).toArray below meth c H locs 0 0 (MQ below (va_Qi (fun (r : Int32) (u : gS) => ∃ b : Bool, r = bI b ∧ Q b u) (mB dC dI cB cI cJ cZ h0 ad A) A) ([.ref h0] : List Value).toArray s 0 0 A) (F0 m 0 ls []) := by
    intro M H locs ls hP hD hS hl h
    unfold wX12_goesOn at h
    refine lv_aload_n hx hb dX12_goesOn_0 rfl (lv_at hl 0 rfl) ?_
    refine va_get (D := (dC, dI)) (ci := 12) (v := .ref (ad 25)) (C := RX12) (T := TX12) (N := 37) hx hb hts hin hown hK hP 0 rfl rfl 25 (by decide) f1 (fun _ h9 => h9) rfl dX12_goesOn_1 ?_
    refine lv_iconst (v := 3) hx hb dX12_goesOn_4 (by decide) ?_
    refine wc_iald (j := 3) hx hb hK hP 12 1 (f := ma M 25) rfl rfl (by decide) (by decide) (by decide) dX12_goesOn_5 ?_
    refine lv_iconst (v := 1) hx hb dX12_goesOn_6 (by decide) ?_
    refine lv_icmp_ne (tgt := 14) hx hb dX12_goesOn_7 (by decide) (fun c1 => ?_) (fun c1 => ?_)
    · have h := h.2 c1
      refine lv_iconst (v := 0) hx hb dX12_goesOn_14 (by decide) ?_
      exact W.zret (v := (bI false)) hx hb hr (nar_bI false) (fun t ht hW => ⟨⟨_, M, rfl, ⟨false, rfl, h⟩, by rw [ht]; exact hP, va_K.moved hW.alike hK, hD⟩, hS.F ht⟩) hS.2.2 dX12_goesOn_15
    · have h := h.1 c1
      refine lv_iconst (v := 1) hx hb dX12_goesOn_10 (by decide) ?_
      refine lv_goto (tgt := 15) hx hb dX12_goesOn_11 (by decide) ?_
      exact W.zret (v := (bI true)) hx hb hr (nar_bI true) (fun t ht hW => ⟨⟨_, M, rfl, ⟨true, rfl, h⟩, by rw [ht]; exact hP, va_K.moved hW.alike hK, hD⟩, hS.F ht⟩) hS.2.2 dX12_goesOn_15
  have hl := lv_entry ([.ref h0]) (n := 1) (Nat.le_of_ble_eq_true rfl)
  rw [lg_entry_eq]
  generalize (lg_sl ([.ref h0]) ++ List.replicate (1 - (lg_sl ([.ref h0])).length) Slot.unset).toArray = ls at hl ⊢
  have hl : lv_has ls 1 [(0, .ref h0)] := hl
  exact bE M s.heap [] ls hP hD hS hl h
def wX12_isSide_9  (Q : Bool → gS → Prop)  (M : gS) : Prop :=
 (Q true M)
def wX12_isSide (p1 : Int32) (M : gS) (Q : Bool → gS → Prop) : Prop :=
 ((p1 = 0 → (wX12_isSide_9  Q M))
 ∧ (¬ p1 = 0 → ((p1 = (1 : Int32) → (wX12_isSide_9  Q M))
 ∧ (¬ p1 = (1 : Int32) → (Q false M)))))
def rmX12_isSide : Room := { frames := 0, cells := 0, slots := 0, locals := 0 }
set_option maxHeartbeats 4000000 in
set_option maxRecDepth 100000 in
theorem kX12_isSide (l : Launch) (dC : Nat → ClassId) (dI : Nat → Nat → Nat) (cB cI cJ cZ : ClassId) (h0 : Nat) (ad : Nat → Nat) (sz : Nat) (p1 : Int32) (M : gS) (Q : Bool → gS → Prop) (h : wX12_isSide p1 M Q) : Met l yX12_isSide wsX12_isSide rmX12_isSide (va_Pc [.int p1] (mI dC dI cB cI cJ cZ h0 ad M sz)) (va_Qi (fun (r : Int32) (u : gS) => ∃ b : Bool, r = bI b ∧ Q b u) (mB dC dI cB cI cJ cZ h0 ad (va_A (mW cB cI cJ cZ h0 ad M) sz)) (va_A (mW cB cI cJ cZ h0 ad M) sz)) 0 0 (va_A (mW cB cI cJ cZ h0 ad M) sz) := by
  refine Met.ofW (cc := cX12_isSide) (maxL := 1) (ret := (some .boolean)) (by decide) rfl ?_
  intro p e s m args below meth c s₁ B hml hv
  obtain ⟨rfl, hsz, hP, hK, hD0⟩ := hv
  have hx := B.exec
  have hb := B.bytes
  have hr := B.returns
  have hts := atoms_spec (ws := wsX12_isSide) B.pre
  have hown : s.vm.findClass RX12 = some m.cls := findClass_of_methodNamed B.named
  have hlocks := B.notSynchronized
  subst hsz
  have hD := hD0.self (sz := s.heap.size)
  generalize hAe : va_A (mW cB cI cJ cZ h0 ad M) s.heap.size = A at hD ⊢
  have hA : ∀ q : Nat, s.heap.size ≤ q → A q := fun q h => by rw [← hAe]; exact Or.inr h
  have hS : va_S A s.heap s.heap [] := va_S.rf
  have b9 : ∀  (M : gS) (H : Heap) (locs : List Loc) (ls : Array Slot), va_P (dC, dI) vwCl (mW cB cI cJ cZ h0 ad M) H → va_D A (mW cB cI cJ cZ h0 ad M) → va_S A s.heap H locs → lv_has ls 1 [] → wX12_isSide_9  Q  M → W p l e (headSpec wsX12_isSide rmX12_isSide).room s m ([.int p1] : List Value).toArray below meth c H locs 0 0 (MQ below (va_Qi (fun (r : Int32) (u : gS) => ∃ b : Bool, r = bI b ∧ Q b u) (mB dC dI cB cI cJ cZ h0 ad A) A) ([.int p1] : List Value).toArray s 0 0 A) (F0 m 9 ls []) := by
    intro   M H locs ls hP hD hS hl h
    unfold wX12_isSide_9 at h
    refine lv_iconst (v := 1) hx hb dX12_isSide_9 (by decide) ?_
    refine lv_goto (tgt := 14) hx hb dX12_isSide_10 (by decide) ?_
    exact W.zret (v := (bI true)) hx hb hr (nar_bI true) (fun t ht hW => ⟨⟨_, M, rfl, ⟨true, rfl, h⟩, by rw [ht]; exact hP, va_K.moved hW.alike hK, hD⟩, hS.F ht⟩) hS.2.2 dX12_isSide_14
  have bE : ∀ (M : gS) (H : Heap) (locs : List Loc) (ls : Array Slot), va_P (dC, dI) vwCl (mW cB cI cJ cZ h0 ad M) H → va_D A (mW cB cI cJ cZ h0 ad M) → va_S A s.heap H locs → lv_has ls 1 [(0, .int p1)] → wX12_isSide p1 M Q → W p l e (headSpec wsX12_isSide rmX12_isSide).room s m ([.int p1] : List Value).toArray below meth c H locs 0 0 (MQ below (va_Qi (fun (r : Int32) (u : gS) => ∃ b : Bool, r = bI b ∧ Q b u) (mB dC dI cB cI cJ cZ h0 ad A) A) ([.int p1] : List Value).toArray s 0 0 A) (F0 m 0 ls []) := by
    intro M H locs ls hP hD hS hl h
    unfold wX12_isSide at h
    refine lv_iload_n hx hb dX12_isSide_0 rfl (lv_at hl 0 rfl) ?_
    refine lv_if_eq (tgt := 9) hx hb dX12_isSide_1 (by decide) (fun c1 => ?_) (fun c1 => ?_)
    · have h := h.1 c1
      exact b9  M H locs ls hP hD hS (lv_sub hl [] rfl) h
    · have h := h.2 c1
      refine lv_iload_n hx hb dX12_isSide_4 rfl (lv_at hl 0 rfl) ?_
      refine lv_iconst (v := 1) hx hb dX12_isSide_5 (by decide) ?_
      refine lv_icmp_ne (tgt := 13) hx hb dX12_isSide_6 (by decide) (fun c2 => ?_) (fun c2 => ?_)
      · have h := h.2 c2
        refine lv_iconst (v := 0) hx hb dX12_isSide_13 (by decide) ?_
        exact W.zret (v := (bI false)) hx hb hr (nar_bI false) (fun t ht hW => ⟨⟨_, M, rfl, ⟨false, rfl, h⟩, by rw [ht]; exact hP, va_K.moved hW.alike hK, hD⟩, hS.F ht⟩) hS.2.2 dX12_isSide_14
      · have h := h.1 c2
        exact b9  M H locs ls hP hD hS (lv_sub hl [] rfl) h
  have hl := lv_entry ([.int p1]) (n := 1) (Nat.le_of_ble_eq_true rfl)
  rw [lg_entry_eq]
  generalize (lg_sl ([.int p1]) ++ List.replicate (1 - (lg_sl ([.int p1])).length) Slot.unset).toArray = ls at hl ⊢
  have hl : lv_has ls 1 [(0, .int p1)] := hl
  exact bE M s.heap [] ls hP hD hS hl h
def wX12_verseOf (p1 : Int32) (M : gS) (Q : Int32 → gS → Prop) : Prop :=
 (vp_in ((20 : Int32) + ((2 : Int32) * p1)) 44 ∧ (vp_in (((20 : Int32) + ((2 : Int32) * p1)) + (1 : Int32)) 44 ∧ (Q ((ma M 25 (Int32.toNatClampNeg ((20 : Int32) + ((2 : Int32) * p1)))) * (ma M 25 (Int32.toNatClampNeg (((20 : Int32) + ((2 : Int32) * p1)) + (1 : Int32))))) M)))
def rmX12_verseOf : Room := { frames := 0, cells := 0, slots := 0, locals := 0 }
set_option maxHeartbeats 4000000 in
set_option maxRecDepth 100000 in
theorem kX12_verseOf (l : Launch) (dC : Nat → ClassId) (dI : Nat → Nat → Nat) (cB cI cJ cZ : ClassId) (h0 : Nat) (ad : Nat → Nat) (sz : Nat) (p1 : Int32) (M : gS) (Q : Int32 → gS → Prop) (h : wX12_verseOf p1 M Q) : Met l yX12_verseOf wsX12_verseOf rmX12_verseOf (va_Pc [.ref h0, .int p1] (mI dC dI cB cI cJ cZ h0 ad M sz)) (va_Qi (fun (r : Int32) (u : gS) => Q r u) (mB dC dI cB cI cJ cZ h0 ad (va_A (mW cB cI cJ cZ h0 ad M) sz)) (va_A (mW cB cI cJ cZ h0 ad M) sz)) 0 0 (va_A (mW cB cI cJ cZ h0 ad M) sz) := by
  refine Met.ofW (cc := cX12_verseOf) (maxL := 2) (ret := (some .int)) (by decide) rfl ?_
  intro p e s m args below meth c s₁ B hml hv
  obtain ⟨rfl, hsz, hP, hK, hD0⟩ := hv
  have hx := B.exec
  have hb := B.bytes
  have hr := B.returns
  have hts := atoms_spec (ws := wsX12_verseOf) B.pre
  have hown : s.vm.findClass RX12 = some m.cls := findClass_of_methodNamed B.named
  have hlocks := B.notSynchronized
  subst hsz
  have hD := hD0.self (sz := s.heap.size)
  generalize hAe : va_A (mW cB cI cJ cZ h0 ad M) s.heap.size = A at hD ⊢
  have hA : ∀ q : Nat, s.heap.size ≤ q → A q := fun q h => by rw [← hAe]; exact Or.inr h
  have hS : va_S A s.heap s.heap [] := va_S.rf
  have hin : ∀ w ∈ wsX120, w ∈ wsX12_verseOf := fun w h => List.mem_cons_of_mem _ (List.mem_append_right _ h)
  have f1 := hts (.fieldLink RX12 45 "LastWordsModel" "said" "[I") (by decide +kernel)
  have bE : ∀ (M : gS) (H : Heap) (locs : List Loc) (ls : Array Slot), va_P (dC, dI) vwCl (mW cB cI cJ cZ h0 ad M) H → va_D A (mW cB cI cJ cZ h0 ad M) → va_S A s.heap H locs → lv_has ls 2 [(0, .ref h0), (1, .int p1)] → wX12_verseOf p1 M Q → W p l e (headSpec wsX12_verseOf rmX12_verseOf).room s m ([.ref h0, .int p1] : List Value).toArray below meth c H locs 0 0 (MQ below (va_Qi (fun (r : Int32) (u : gS) => Q r u) (mB dC dI cB cI cJ cZ h0 ad A) A) ([.ref h0, .int p1] : List Value).toArray s 0 0 A) (F0 m 0 ls []) := by
    intro M H locs ls hP hD hS hl h
    unfold wX12_verseOf at h
    refine lv_aload_n hx hb dX12_verseOf_0 rfl (lv_at hl 0 rfl) ?_
    refine va_get (D := (dC, dI)) (ci := 12) (v := .ref (ad 25)) (C := RX12) (T := TX12) (N := 37) hx hb hts hin hown hK hP 0 rfl rfl 25 (by decide) f1 (fun _ h9 => h9) rfl dX12_verseOf_1 ?_
    refine lv_bipush (v := (20)) hx hb dX12_verseOf_4 (by decide) ?_
    refine lv_iconst (v := 2) hx hb dX12_verseOf_6 (by decide) ?_
    refine lv_iload_n hx hb dX12_verseOf_7 rfl (lv_at hl 1 rfl) ?_
    refine lv_imul hx hb dX12_verseOf_8 ?_
    refine lv_iadd hx hb dX12_verseOf_9 ?_
    refine va_iald hx hb hK hP 12 1 (f := ma M 25) rfl rfl h.1 dX12_verseOf_10 ?_
    have h := h.2
    refine lv_aload_n hx hb dX12_verseOf_11 rfl (lv_at hl 0 rfl) ?_
    refine va_get (D := (dC, dI)) (ci := 12) (v := .ref (ad 25)) (C := RX12) (T := TX12) (N := 37) hx hb hts hin hown hK hP 0 rfl rfl 25 (by decide) f1 (fun _ h9 => h9) rfl dX12_verseOf_12 ?_
    refine lv_bipush (v := (20)) hx hb dX12_verseOf_15 (by decide) ?_
    refine lv_iconst (v := 2) hx hb dX12_verseOf_17 (by decide) ?_
    refine lv_iload_n hx hb dX12_verseOf_18 rfl (lv_at hl 1 rfl) ?_
    refine lv_imul hx hb dX12_verseOf_19 ?_
    refine lv_iadd hx hb dX12_verseOf_20 ?_
    refine lv_iconst (v := 1) hx hb dX12_verseOf_21 (by decide) ?_
    refine lv_iadd hx hb dX12_verseOf_22 ?_
    refine va_iald hx hb hK hP 12 1 (f := ma M 25) rfl rfl h.1 dX12_verseOf_23 ?_
    have h := h.2
    refine lv_imul hx hb dX12_verseOf_24 ?_
    exact W.iret (v := ((ma M 25 (Int32.toNatClampNeg ((20 : Int32) + ((2 : Int32) * p1)))) * (ma M 25 (Int32.toNatClampNeg (((20 : Int32) + ((2 : Int32) * p1)) + (1 : Int32)))))) hx hb hr (fun t ht hW => ⟨⟨_, M, rfl, h, by rw [ht]; exact hP, va_K.moved hW.alike hK, hD⟩, hS.F ht⟩) hS.2.2 dX12_verseOf_25
  have hl := lv_entry ([.ref h0, .int p1]) (n := 2) (Nat.le_of_ble_eq_true rfl)
  rw [lg_entry_eq]
  generalize (lg_sl ([.ref h0, .int p1]) ++ List.replicate (2 - (lg_sl ([.ref h0, .int p1])).length) Slot.unset).toArray = ls at hl ⊢
  have hl : lv_has ls 2 [(0, .ref h0), (1, .int p1)] := hl
  exact bE M s.heap [] ls hP hD hS hl h
def wX12_canSay_48  (Q : Bool → gS → Prop) (z1 : Int32) (z0 : Int32) (M : gS) : Prop :=
 (((ma M 25 5) < (z1 + z0) → (Q false M))
 ∧ (¬ (ma M 25 5) < (z1 + z0) → (Q true M)))
def wX12_canSay (p1 : Int32) (M : gS) (Q : Bool → gS → Prop) : Prop :=
 (((ma M 25 1) ≤ p1 → (Q false M))
 ∧ (¬ (ma M 25 1) ≤ p1 → (vp_in ((28 : Int32) + p1) 44 ∧ (vp_in ((14 : Int32) + (ma M 25 6)) 44 ∧ (((ma M 25 (Int32.toNatClampNeg ((14 : Int32) + (ma M 25 6)))) = p1 → (wX12_canSay_48  Q (ma M 25 (Int32.toNatClampNeg ((28 : Int32) + p1))) (ma M 25 2) M))
 ∧ (¬ (ma M 25 (Int32.toNatClampNeg ((14 : Int32) + (ma M 25 6)))) = p1 → (wX12_canSay_48  Q (ma M 25 (Int32.toNatClampNeg ((28 : Int32) + p1))) (0 : Int32) M)))))))
def rmX12_canSay : Room := { frames := 0, cells := 0, slots := 0, locals := 0 }
set_option maxHeartbeats 4000000 in
set_option maxRecDepth 100000 in
theorem kX12_canSay (l : Launch) (dC : Nat → ClassId) (dI : Nat → Nat → Nat) (cB cI cJ cZ : ClassId) (h0 : Nat) (ad : Nat → Nat) (sz : Nat) (p1 : Int32) (M : gS) (Q : Bool → gS → Prop) (h : wX12_canSay p1 M Q) : Met l yX12_canSay wsX12_canSay rmX12_canSay (va_Pc [.ref h0, .int p1] (mI dC dI cB cI cJ cZ h0 ad M sz)) (va_Qi (fun (r : Int32) (u : gS) => ∃ b : Bool, r = bI b ∧ Q b u) (mB dC dI cB cI cJ cZ h0 ad (va_A (mW cB cI cJ cZ h0 ad M) sz)) (va_A (mW cB cI cJ cZ h0 ad M) sz)) 0 0 (va_A (mW cB cI cJ cZ h0 ad M) sz) := by
  refine Met.ofW (cc := cX12_canSay) (maxL := 2) (ret := (some .boolean)) (by decide) rfl ?_
  intro p e s m args below meth c s₁ B hml hv
  obtain ⟨rfl, hsz, hP, hK, hD0⟩ := hv
  have hx := B.exec
  have hb := B.bytes
  have hr := B.returns
  have hts := atoms_spec (ws := wsX12_canSay) B.pre
  have hown : s.vm.findClass RX12 = some m.cls := findClass_of_methodNamed B.named
  have hlocks := B.notSynchronized
  subst hsz
  have hD := hD0.self (sz := s.heap.size)
  generalize hAe : va_A (mW cB cI cJ cZ h0 ad M) s.heap.size = A at hD ⊢
  have hA : ∀ q : Nat, s.heap.size ≤ q → A q := fun q h => by rw [← hAe]; exact Or.inr h
  have hS : va_S A s.heap s.heap [] := va_S.rf
  have hin : ∀ w ∈ wsX120, w ∈ wsX12_canSay := fun w h => List.mem_cons_of_mem _ (List.mem_append_right _ h)
  have f1 := hts (.fieldLink RX12 45 "LastWordsModel" "said" "[I") (by decide +kernel)
  have b48 : ∀ (z1 : Int32) (z0 : Int32) (M : gS) (H : Heap) (locs : List Loc) (ls : Array Slot), va_P (dC, dI) vwCl (mW cB cI cJ cZ h0 ad M) H → va_D A (mW cB cI cJ cZ h0 ad M) → va_S A s.heap H locs → lv_has ls 2 [(0, .ref h0)] → wX12_canSay_48  Q z1 z0 M → W p l e (headSpec wsX12_canSay rmX12_canSay).room s m ([.ref h0, .int p1] : List Value).toArray below meth c H locs 0 0 (MQ below (va_Qi (fun (r : Int32) (u : gS) => ∃ b : Bool, r = bI b ∧ Q b u) (mB dC dI cB cI cJ cZ h0 ad A) A) ([.ref h0, .int p1] : List Value).toArray s 0 0 A) (F0 m 48 ls [.int z0, .int z1]) := by
    intro  z1 z0 M H locs ls hP hD hS hl h
    unfold wX12_canSay_48 at h
    refine lv_iadd hx hb dX12_canSay_48 ?_
    refine lv_aload_n hx hb dX12_canSay_49 rfl (lv_at hl 0 rfl) ?_
    refine va_get (D := (dC, dI)) (ci := 12) (v := .ref (ad 25)) (C := RX12) (T := TX12) (N := 37) hx hb hts hin hown hK hP 0 rfl rfl 25 (by decide) f1 (fun _ h9 => h9) rfl dX12_canSay_50 ?_
    refine lv_iconst (v := 5) hx hb dX12_canSay_53 (by decide) ?_
    refine wc_iald (j := 5) hx hb hK hP 12 1 (f := ma M 25) rfl rfl (by decide) (by decide) (by decide) dX12_canSay_54 ?_
    refine lv_icmp_gt (tgt := 62) hx hb dX12_canSay_55 (by decide) (fun c1 => ?_) (fun c1 => ?_)
    · have h := h.1 c1
      refine lv_iconst (v := 0) hx hb dX12_canSay_62 (by decide) ?_
      exact W.zret (v := (bI false)) hx hb hr (nar_bI false) (fun t ht hW => ⟨⟨_, M, rfl, ⟨false, rfl, h⟩, by rw [ht]; exact hP, va_K.moved hW.alike hK, hD⟩, hS.F ht⟩) hS.2.2 dX12_canSay_63
    · have h := h.2 c1
      refine lv_iconst (v := 1) hx hb dX12_canSay_58 (by decide) ?_
      refine lv_goto (tgt := 63) hx hb dX12_canSay_59 (by decide) ?_
      exact W.zret (v := (bI true)) hx hb hr (nar_bI true) (fun t ht hW => ⟨⟨_, M, rfl, ⟨true, rfl, h⟩, by rw [ht]; exact hP, va_K.moved hW.alike hK, hD⟩, hS.F ht⟩) hS.2.2 dX12_canSay_63
  have bE : ∀ (M : gS) (H : Heap) (locs : List Loc) (ls : Array Slot), va_P (dC, dI) vwCl (mW cB cI cJ cZ h0 ad M) H → va_D A (mW cB cI cJ cZ h0 ad M) → va_S A s.heap H locs → lv_has ls 2 [(0, .ref h0), (1, .int p1)] → wX12_canSay p1 M Q → W p l e (headSpec wsX12_canSay rmX12_canSay).room s m ([.ref h0, .int p1] : List Value).toArray below meth c H locs 0 0 (MQ below (va_Qi (fun (r : Int32) (u : gS) => ∃ b : Bool, r = bI b ∧ Q b u) (mB dC dI cB cI cJ cZ h0 ad A) A) ([.ref h0, .int p1] : List Value).toArray s 0 0 A) (F0 m 0 ls []) := by
    intro M H locs ls hP hD hS hl h
    unfold wX12_canSay at h
    refine lv_iload_n hx hb dX12_canSay_0 rfl (lv_at hl 1 rfl) ?_
    refine lv_aload_n hx hb dX12_canSay_1 rfl (lv_at hl 0 rfl) ?_
    refine va_get (D := (dC, dI)) (ci := 12) (v := .ref (ad 25)) (C := RX12) (T := TX12) (N := 37) hx hb hts hin hown hK hP 0 rfl rfl 25 (by decide) f1 (fun _ h9 => h9) rfl dX12_canSay_2 ?_
    refine lv_iconst (v := 1) hx hb dX12_canSay_5 (by decide) ?_
    refine wc_iald (j := 1) hx hb hK hP 12 1 (f := ma M 25) rfl rfl (by decide) (by decide) (by decide) dX12_canSay_6 ?_
    refine lv_icmp_ge (tgt := 62) hx hb dX12_canSay_7 (by decide) (fun c1 => ?_) (fun c1 => ?_)
    · have h := h.1 c1
      refine lv_iconst (v := 0) hx hb dX12_canSay_62 (by decide) ?_
      exact W.zret (v := (bI false)) hx hb hr (nar_bI false) (fun t ht hW => ⟨⟨_, M, rfl, ⟨false, rfl, h⟩, by rw [ht]; exact hP, va_K.moved hW.alike hK, hD⟩, hS.F ht⟩) hS.2.2 dX12_canSay_63
    · have h := h.2 c1
      refine lv_aload_n hx hb dX12_canSay_10 rfl (lv_at hl 0 rfl) ?_
      refine va_get (D := (dC, dI)) (ci := 12) (v := .ref (ad 25)) (C := RX12) (T := TX12) (N := 37) hx hb hts hin hown hK hP 0 rfl rfl 25 (by decide) f1 (fun _ h9 => h9) rfl dX12_canSay_11 ?_
      refine lv_bipush (v := (28)) hx hb dX12_canSay_14 (by decide) ?_
      refine lv_iload_n hx hb dX12_canSay_16 rfl (lv_at hl 1 rfl) ?_
      refine lv_iadd hx hb dX12_canSay_17 ?_
      refine va_iald hx hb hK hP 12 1 (f := ma M 25) rfl rfl h.1 dX12_canSay_18 ?_
      have h := h.2
      refine lv_aload_n hx hb dX12_canSay_19 rfl (lv_at hl 0 rfl) ?_
      refine va_get (D := (dC, dI)) (ci := 12) (v := .ref (ad 25)) (C := RX12) (T := TX12) (N := 37) hx hb hts hin hown hK hP 0 rfl rfl 25 (by decide) f1 (fun _ h9 => h9) rfl dX12_canSay_20 ?_
      refine lv_bipush (v := (14)) hx hb dX12_canSay_23 (by decide) ?_
      refine lv_aload_n hx hb dX12_canSay_25 rfl (lv_at hl 0 rfl) ?_
      refine va_get (D := (dC, dI)) (ci := 12) (v := .ref (ad 25)) (C := RX12) (T := TX12) (N := 37) hx hb hts hin hown hK hP 0 rfl rfl 25 (by decide) f1 (fun _ h9 => h9) rfl dX12_canSay_26 ?_
      refine lv_bipush (v := (6)) hx hb dX12_canSay_29 (by decide) ?_
      refine wc_iald (j := 6) hx hb hK hP 12 1 (f := ma M 25) rfl rfl (by decide) (by decide) (by decide) dX12_canSay_31 ?_
      refine lv_iadd hx hb dX12_canSay_32 ?_
      refine va_iald hx hb hK hP 12 1 (f := ma M 25) rfl rfl h.1 dX12_canSay_33 ?_
      have h := h.2
      refine lv_iload_n hx hb dX12_canSay_34 rfl (lv_at hl 1 rfl) ?_
      refine lv_icmp_ne (tgt := 47) hx hb dX12_canSay_35 (by decide) (fun c2 => ?_) (fun c2 => ?_)
      · have h := h.2 c2
        refine lv_iconst (v := 0) hx hb dX12_canSay_47 (by decide) ?_
        exact b48  (ma M 25 (Int32.toNatClampNeg ((28 : Int32) + p1))) (0 : Int32) M H locs ls hP hD hS (lv_sub hl [0] rfl) h
      · have h := h.1 c2
        refine lv_aload_n hx hb dX12_canSay_38 rfl (lv_at hl 0 rfl) ?_
        refine va_get (D := (dC, dI)) (ci := 12) (v := .ref (ad 25)) (C := RX12) (T := TX12) (N := 37) hx hb hts hin hown hK hP 0 rfl rfl 25 (by decide) f1 (fun _ h9 => h9) rfl dX12_canSay_39 ?_
        refine lv_iconst (v := 2) hx hb dX12_canSay_42 (by decide) ?_
        refine wc_iald (j := 2) hx hb hK hP 12 1 (f := ma M 25) rfl rfl (by decide) (by decide) (by decide) dX12_canSay_43 ?_
        refine lv_goto (tgt := 48) hx hb dX12_canSay_44 (by decide) ?_
        exact b48  (ma M 25 (Int32.toNatClampNeg ((28 : Int32) + p1))) (ma M 25 2) M H locs ls hP hD hS (lv_sub hl [0] rfl) h
  have hl := lv_entry ([.ref h0, .int p1]) (n := 2) (Nat.le_of_ble_eq_true rfl)
  rw [lg_entry_eq]
  generalize (lg_sl ([.ref h0, .int p1]) ++ List.replicate (2 - (lg_sl ([.ref h0, .int p1])).length) Slot.unset).toArray = ls at hl ⊢
  have hl : lv_has ls 2 [(0, .ref h0), (1, .int p1)] := hl
  exact bE M s.heap [] ls hP hD hS hl h
def wX12_canThrow  (M : gS) (Q : Bool → gS → Prop) : Prop :=
 (vp_in ((12 : Int32) + (ma M 25 6)) 44 ∧ (((ma M 25 (Int32.toNatClampNeg ((12 : Int32) + (ma M 25 6)))) ≤ 0 → (Q false M))
 ∧ (¬ (ma M 25 (Int32.toNatClampNeg ((12 : Int32) + (ma M 25 6)))) ≤ 0 → (((200 : Int32) < ((ma M 25 5) + (ma M 25 4)) → (Q false M))
 ∧ (¬ (200 : Int32) < ((ma M 25 5) + (ma M 25 4)) → (Q true M))))))
def rmX12_canThrow : Room := { frames := 0, cells := 0, slots := 0, locals := 0 }
set_option maxHeartbeats 4000000 in
set_option maxRecDepth 100000 in
theorem kX12_canThrow (l : Launch) (dC : Nat → ClassId) (dI : Nat → Nat → Nat) (cB cI cJ cZ : ClassId) (h0 : Nat) (ad : Nat → Nat) (sz : Nat)  (M : gS) (Q : Bool → gS → Prop) (h : wX12_canThrow  M Q) : Met l yX12_canThrow wsX12_canThrow rmX12_canThrow (va_Pc [.ref h0] (mI dC dI cB cI cJ cZ h0 ad M sz)) (va_Qi (fun (r : Int32) (u : gS) => ∃ b : Bool, r = bI b ∧ Q b u) (mB dC dI cB cI cJ cZ h0 ad (va_A (mW cB cI cJ cZ h0 ad M) sz)) (va_A (mW cB cI cJ cZ h0 ad M) sz)) 0 0 (va_A (mW cB cI cJ cZ h0 ad M) sz) := by
  refine Met.ofW (cc := cX12_canThrow) (maxL := 1) (ret := (some .boolean)) (by decide) rfl ?_
  intro p e s m args below meth c s₁ B hml hv
  obtain ⟨rfl, hsz, hP, hK, hD0⟩ := hv
  have hx := B.exec
  have hb := B.bytes
  have hr := B.returns
  have hts := atoms_spec (ws := wsX12_canThrow) B.pre
  have hown : s.vm.findClass RX12 = some m.cls := findClass_of_methodNamed B.named
  have hlocks := B.notSynchronized
  subst hsz
  have hD := hD0.self (sz := s.heap.size)
  generalize hAe : va_A (mW cB cI cJ cZ h0 ad M) s.heap.size = A at hD ⊢
  have hA : ∀ q : Nat, s.heap.size ≤ q → A q := fun q h => by rw [← hAe]; exact Or.inr h
  have hS : va_S A s.heap s.heap [] := va_S.rf
  have hin : ∀ w ∈ wsX120, w ∈ wsX12_canThrow := fun w h => List.mem_cons_of_mem _ (List.mem_append_right _ h)
  have f1 := hts (.fieldLink RX12 45 "LastWordsModel" "said" "[I") (by decide +kernel)
  have bE : ∀ (M : gS) (H : Heap) (locs : List Loc) (ls : Array Slot), va_P (dC, dI) vwCl (mW cB cI cJ cZ h0 ad M) H → va_D A (mW cB cI cJ cZ h0 ad M) → va_S A s.heap H locs → lv_has ls 1 [(0, .ref h0)] → wX12_canThrow  M Q → W p l e (headSpec wsX12_canThrow rmX12_canThrow).room s m ([.ref h0] : List Value).toArray below meth c H locs 0 0 (MQ below (va_Qi (fun (r : Int32) (u : gS) => ∃ b : Bool, r = bI b ∧ Q b u) (mB dC dI cB cI cJ cZ h0 ad A) A) ([.ref h0] : List Value).toArray s 0 0 A) (F0 m 0 ls []) := by
    intro M H locs ls hP hD hS hl h
    unfold wX12_canThrow at h
    refine lv_aload_n hx hb dX12_canThrow_0 rfl (lv_at hl 0 rfl) ?_
    refine va_get (D := (dC, dI)) (ci := 12) (v := .ref (ad 25)) (C := RX12) (T := TX12) (N := 37) hx hb hts hin hown hK hP 0 rfl rfl 25 (by decide) f1 (fun _ h9 => h9) rfl dX12_canThrow_1 ?_
    refine lv_bipush (v := (12)) hx hb dX12_canThrow_4 (by decide) ?_
    refine lv_aload_n hx hb dX12_canThrow_6 rfl (lv_at hl 0 rfl) ?_
    refine va_get (D := (dC, dI)) (ci := 12) (v := .ref (ad 25)) (C := RX12) (T := TX12) (N := 37) hx hb hts hin hown hK hP 0 rfl rfl 25 (by decide) f1 (fun _ h9 => h9) rfl dX12_canThrow_7 ?_
    refine lv_bipush (v := (6)) hx hb dX12_canThrow_10 (by decide) ?_
    refine wc_iald (j := 6) hx hb hK hP 12 1 (f := ma M 25) rfl rfl (by decide) (by decide) (by decide) dX12_canThrow_12 ?_
    refine lv_iadd hx hb dX12_canThrow_13 ?_
    refine va_iald hx hb hK hP 12 1 (f := ma M 25) rfl rfl h.1 dX12_canThrow_14 ?_
    have h := h.2
    refine lv_if_le (tgt := 41) hx hb dX12_canThrow_15 (by decide) (fun c1 => ?_) (fun c1 => ?_)
    · have h := h.1 c1
      refine lv_iconst (v := 0) hx hb dX12_canThrow_41 (by decide) ?_
      exact W.zret (v := (bI false)) hx hb hr (nar_bI false) (fun t ht hW => ⟨⟨_, M, rfl, ⟨false, rfl, h⟩, by rw [ht]; exact hP, va_K.moved hW.alike hK, hD⟩, hS.F ht⟩) hS.2.2 dX12_canThrow_42
    · have h := h.2 c1
      refine lv_aload_n hx hb dX12_canThrow_18 rfl (lv_at hl 0 rfl) ?_
      refine va_get (D := (dC, dI)) (ci := 12) (v := .ref (ad 25)) (C := RX12) (T := TX12) (N := 37) hx hb hts hin hown hK hP 0 rfl rfl 25 (by decide) f1 (fun _ h9 => h9) rfl dX12_canThrow_19 ?_
      refine lv_iconst (v := 5) hx hb dX12_canThrow_22 (by decide) ?_
      refine wc_iald (j := 5) hx hb hK hP 12 1 (f := ma M 25) rfl rfl (by decide) (by decide) (by decide) dX12_canThrow_23 ?_
      refine lv_aload_n hx hb dX12_canThrow_24 rfl (lv_at hl 0 rfl) ?_
      refine va_get (D := (dC, dI)) (ci := 12) (v := .ref (ad 25)) (C := RX12) (T := TX12) (N := 37) hx hb hts hin hown hK hP 0 rfl rfl 25 (by decide) f1 (fun _ h9 => h9) rfl dX12_canThrow_25 ?_
      refine lv_iconst (v := 4) hx hb dX12_canThrow_28 (by decide) ?_
      refine wc_iald (j := 4) hx hb hK hP 12 1 (f := ma M 25) rfl rfl (by decide) (by decide) (by decide) dX12_canThrow_29 ?_
      refine lv_iadd hx hb dX12_canThrow_30 ?_
      refine lv_sipush (v := (200)) hx hb dX12_canThrow_31 (by decide) ?_
      refine lv_icmp_gt (tgt := 41) hx hb dX12_canThrow_34 (by decide) (fun c2 => ?_) (fun c2 => ?_)
      · have h := h.1 c2
        refine lv_iconst (v := 0) hx hb dX12_canThrow_41 (by decide) ?_
        exact W.zret (v := (bI false)) hx hb hr (nar_bI false) (fun t ht hW => ⟨⟨_, M, rfl, ⟨false, rfl, h⟩, by rw [ht]; exact hP, va_K.moved hW.alike hK, hD⟩, hS.F ht⟩) hS.2.2 dX12_canThrow_42
      · have h := h.2 c2
        refine lv_iconst (v := 1) hx hb dX12_canThrow_37 (by decide) ?_
        refine lv_goto (tgt := 42) hx hb dX12_canThrow_38 (by decide) ?_
        exact W.zret (v := (bI true)) hx hb hr (nar_bI true) (fun t ht hW => ⟨⟨_, M, rfl, ⟨true, rfl, h⟩, by rw [ht]; exact hP, va_K.moved hW.alike hK, hD⟩, hS.F ht⟩) hS.2.2 dX12_canThrow_42
  have hl := lv_entry ([.ref h0]) (n := 1) (Nat.le_of_ble_eq_true rfl)
  rw [lg_entry_eq]
  generalize (lg_sl ([.ref h0]) ++ List.replicate (1 - (lg_sl ([.ref h0])).length) Slot.unset).toArray = ls at hl ⊢
  have hl : lv_has ls 1 [(0, .ref h0)] := hl
  exact bE M s.heap [] ls hP hD hS hl h
def wX12_canDo_2  (Q : Bool → gS → Prop) : Nat → Int32 → gS → Prop
 | 0, _, _ => False
 | n + 1, y1, M => (((ma M 25 1) ≤ y1 → (wX12_canThrow  M (fun (b4 : Bool) (M3 : gS) => (Q b4 M3))))
 ∧ (¬ (ma M 25 1) ≤ y1 → (wX12_canSay y1 M (fun (b7 : Bool) (M6 : gS) => (((bI b7) = 0 → (∀ x9 : Int32, x9 = y1 + (1 : Int32) → (wX12_canDo_2  Q n x9 M6)))
 ∧ (¬ (bI b7) = 0 → (Q true M6)))))))
def wX12_canDo  (M : gS) (Q : Bool → gS → Prop) : Prop :=
 (∃ k2 : Nat, wX12_canDo_2  Q k2 (0 : Int32) M)
def rmX12_canDo : Room := { frames := 1, cells := 0, slots := 0, locals := 21 }
set_option maxHeartbeats 4000000 in
set_option maxRecDepth 100000 in
theorem kX12_canDo (l : Launch) (dC : Nat → ClassId) (dI : Nat → Nat → Nat) (cB cI cJ cZ : ClassId) (h0 : Nat) (ad : Nat → Nat) (sz : Nat)  (M : gS) (Q : Bool → gS → Prop) (h : wX12_canDo  M Q) : Met l yX12_canDo wsX12_canDo rmX12_canDo (va_Pc [.ref h0] (mI dC dI cB cI cJ cZ h0 ad M sz)) (va_Qi (fun (r : Int32) (u : gS) => ∃ b : Bool, r = bI b ∧ Q b u) (mB dC dI cB cI cJ cZ h0 ad (va_A (mW cB cI cJ cZ h0 ad M) sz)) (va_A (mW cB cI cJ cZ h0 ad M) sz)) 0 0 (va_A (mW cB cI cJ cZ h0 ad M) sz) := by
  refine Met.ofW (cc := cX12_canDo) (maxL := 2) (ret := (some .boolean)) (by decide) rfl ?_
  intro p e s m args below meth c s₁ B hml hv
  obtain ⟨rfl, hsz, hP, hK, hD0⟩ := hv
  have hx := B.exec
  have hb := B.bytes
  have hr := B.returns
  have hts := atoms_spec (ws := wsX12_canDo) B.pre
  have hown : s.vm.findClass RX12 = some m.cls := findClass_of_methodNamed B.named
  have hlocks := B.notSynchronized
  subst hsz
  have hD := hD0.self (sz := s.heap.size)
  generalize hAe : va_A (mW cB cI cJ cZ h0 ad M) s.heap.size = A at hD ⊢
  have hA : ∀ q : Nat, s.heap.size ≤ q → A q := fun q h => by rw [← hAe]; exact Or.inr h
  have hS : va_S A s.heap s.heap [] := va_S.rf
  have hin : ∀ w ∈ wsX120, w ∈ wsX12_canDo := fun w h => List.mem_cons_of_mem _ (List.mem_append_right _ h)
  have f1 := hts (.fieldLink RX12 45 "LastWordsModel" "said" "[I") (by decide +kernel)
  have b2 : ∀ (n : Nat) (y1 : Int32) (M : gS) (H : Heap) (locs : List Loc) (ls : Array Slot), va_P (dC, dI) vwCl (mW cB cI cJ cZ h0 ad M) H → va_D A (mW cB cI cJ cZ h0 ad M) → va_S A s.heap H locs → lv_has ls 2 [(0, .ref h0), (1, .int y1)] → wX12_canDo_2  Q n y1 M → W p l e (headSpec wsX12_canDo rmX12_canDo).room s m ([.ref h0] : List Value).toArray below meth c H locs 0 0 (MQ below (va_Qi (fun (r : Int32) (u : gS) => ∃ b : Bool, r = bI b ∧ Q b u) (mB dC dI cB cI cJ cZ h0 ad A) A) ([.ref h0] : List Value).toArray s 0 0 A) (F0 m 2 ls []) := by
    intro  n
    induction n with
    | zero => intro y1 M H locs ls hP hD hS hl h; exact absurd h (by simp [wX12_canDo_2])
    | succ n hB20 =>
      intro y1 M H locs ls hP hD hS hl h
      have hB2 := hB20
      rw [wX12_canDo_2] at h
      refine lv_iload_n hx hb dX12_canDo_2 rfl (lv_at hl 1 rfl) ?_
      refine lv_aload_n hx hb dX12_canDo_3 rfl (lv_at hl 0 rfl) ?_
      refine va_get (D := (dC, dI)) (ci := 12) (v := .ref (ad 25)) (C := RX12) (T := TX12) (N := 37) hx hb hts hin hown hK hP 0 rfl rfl 25 (by decide) f1 (fun _ h9 => h9) rfl dX12_canDo_4 ?_
      refine lv_iconst (v := 1) hx hb dX12_canDo_7 (by decide) ?_
      refine wc_iald (j := 1) hx hb hK hP 12 1 (f := ma M 25) rfl rfl (by decide) (by decide) (by decide) dX12_canDo_8 ?_
      refine lv_icmp_ge (tgt := 28) hx hb dX12_canDo_9 (by decide) (fun c1 => ?_) (fun c1 => ?_)
      · have h := h.1 c1
        refine lv_aload_n hx hb dX12_canDo_28 rfl (lv_at hl 0 rfl) ?_
        have hFc := gs_free hD hS hA
        refine va_calli (va_runV (As := []) (rest := []) ⟨hx, hb, hml, hown, hts⟩ (kX12_canThrow l dC dI cB cI cJ cZ h0 ad H.size  M _ h) (cwV 0 hts gX12_canDo_X12_canThrow rfl rfl rfl (by decide +kernel) ⟨Nat.le_of_ble_eq_true rfl, Nat.le_of_ble_eq_true rfl⟩) (mpV hK hP hD) rfl rfl hl.1 rfl (lv_room (Nat.le_of_ble_eq_true rfl)) dX12_canDo_29 ⟨Nat.le_of_ble_eq_true rfl, Nat.le_of_ble_eq_true rfl⟩) hS (fun q _ z => hFc q z) hFc (fun r2 M3 t H1 locs ht hvm hw hB hz1 hk1 hS => ?_)
        obtain ⟨hP, hD⟩ := gs_back ht hFc hB
        generalize H1 = H at hP hS ⊢
        obtain ⟨b4, rfl, h⟩ := hw
        try dsimp only at h
        exact W.zret (v := (bI b4)) hx hb hr (nar_bI b4) (fun t ht hW => ⟨⟨_, M3, rfl, ⟨b4, rfl, h⟩, by rw [ht]; exact hP, va_K.moved hW.alike hK, hD⟩, hS.F ht⟩) hS.2.2 dX12_canDo_32
      · have h := h.2 c1
        refine lv_aload_n hx hb dX12_canDo_12 rfl (lv_at hl 0 rfl) ?_
        refine lv_iload_n hx hb dX12_canDo_13 rfl (lv_at hl 1 rfl) ?_
        have hFc := gs_free hD hS hA
        refine va_calli (va_runV (As := [.int y1]) (rest := []) ⟨hx, hb, hml, hown, hts⟩ (kX12_canSay l dC dI cB cI cJ cZ h0 ad H.size y1 M _ h) (cwV 1 hts gX12_canDo_X12_canSay rfl rfl rfl (by decide +kernel) ⟨Nat.le_of_ble_eq_true rfl, Nat.le_of_ble_eq_true rfl⟩) (mpV hK hP hD) rfl rfl hl.1 rfl (lv_room (Nat.le_of_ble_eq_true rfl)) dX12_canDo_14 ⟨Nat.le_of_ble_eq_true rfl, Nat.le_of_ble_eq_true rfl⟩) hS (fun q _ z => hFc q z) hFc (fun r5 M6 t H1 locs ht hvm hw hB hz1 hk1 hS => ?_)
        obtain ⟨hP, hD⟩ := gs_back ht hFc hB
        generalize H1 = H at hP hS ⊢
        obtain ⟨b7, rfl, h⟩ := hw
        try dsimp only at h
        refine lv_if_eq (tgt := 22) hx hb dX12_canDo_17 (by decide) (fun c8 => ?_) (fun c8 => ?_)
        · have h := h.1 c8
          obtain ⟨x9, ex9⟩ : ∃ y : Int32, y = y1 + (1 : Int32) := ⟨_, rfl⟩
          have h := h x9 ex9
          refine lv_iinc (v := x9) (lv' := [(1, .int x9), (0, .ref h0)]) hx hb dX12_canDo_22 hl (k := 1) rfl (by rw [ex9]; rfl) (by decide) rfl (fun ls hl => ?_)
          refine lv_goto (tgt := 2) hx hb dX12_canDo_25 (by decide) ?_
          exact hB2 x9 M6 H locs ls hP hD hS (lv_sub hl [1, 0] rfl) h
        · have h := h.2 c8
          refine lv_iconst (v := 1) hx hb dX12_canDo_20 (by decide) ?_
          exact W.zret (v := (bI true)) hx hb hr (nar_bI true) (fun t ht hW => ⟨⟨_, M6, rfl, ⟨true, rfl, h⟩, by rw [ht]; exact hP, va_K.moved hW.alike hK, hD⟩, hS.F ht⟩) hS.2.2 dX12_canDo_21
  have bE : ∀ (M : gS) (H : Heap) (locs : List Loc) (ls : Array Slot), va_P (dC, dI) vwCl (mW cB cI cJ cZ h0 ad M) H → va_D A (mW cB cI cJ cZ h0 ad M) → va_S A s.heap H locs → lv_has ls 2 [(0, .ref h0)] → wX12_canDo  M Q → W p l e (headSpec wsX12_canDo rmX12_canDo).room s m ([.ref h0] : List Value).toArray below meth c H locs 0 0 (MQ below (va_Qi (fun (r : Int32) (u : gS) => ∃ b : Bool, r = bI b ∧ Q b u) (mB dC dI cB cI cJ cZ h0 ad A) A) ([.ref h0] : List Value).toArray s 0 0 A) (F0 m 0 ls []) := by
    intro M H locs ls hP hD hS hl h
    unfold wX12_canDo at h
    refine lv_iconst (v := 0) hx hb dX12_canDo_0 (by decide) ?_
    refine lv_istore_n (lv' := [(1, .int (0 : Int32)), (0, .ref h0)]) hx hb dX12_canDo_1 rfl hl (by decide) rfl (fun ls hl => ?_)
    obtain ⟨n9, h⟩ := h
    exact b2  n9 (0 : Int32) M H locs ls hP hD hS (lv_sub hl [1, 0] rfl) h
  have hl := lv_entry ([.ref h0]) (n := 2) (Nat.le_of_ble_eq_true rfl)
  rw [lg_entry_eq]
  generalize (lg_sl ([.ref h0]) ++ List.replicate (2 - (lg_sl ([.ref h0])).length) Slot.unset).toArray = ls at hl ⊢
  have hl : lv_has ls 2 [(0, .ref h0)] := hl
  exact bE M s.heap [] ls hP hD hS hl h
def wX12_winner  (M : gS) (Q : Int32 → gS → Prop) : Prop :=
 (((ma M 25 8) ≤ 0 → (Q ((1 : Int32) - (ma M 25 6)) M))
 ∧ (¬ (ma M 25 8) ≤ 0 → (Q ((ma M 25 8) - (1 : Int32)) M)))
def rmX12_winner : Room := { frames := 0, cells := 0, slots := 0, locals := 0 }
set_option maxHeartbeats 4000000 in
set_option maxRecDepth 100000 in
theorem kX12_winner (l : Launch) (dC : Nat → ClassId) (dI : Nat → Nat → Nat) (cB cI cJ cZ : ClassId) (h0 : Nat) (ad : Nat → Nat) (sz : Nat)  (M : gS) (Q : Int32 → gS → Prop) (h : wX12_winner  M Q) : Met l yX12_winner wsX12_winner rmX12_winner (va_Pc [.ref h0] (mI dC dI cB cI cJ cZ h0 ad M sz)) (va_Qi (fun (r : Int32) (u : gS) => Q r u) (mB dC dI cB cI cJ cZ h0 ad (va_A (mW cB cI cJ cZ h0 ad M) sz)) (va_A (mW cB cI cJ cZ h0 ad M) sz)) 0 0 (va_A (mW cB cI cJ cZ h0 ad M) sz) := by
  refine Met.ofW (cc := cX12_winner) (maxL := 1) (ret := (some .int)) (by decide) rfl ?_
  intro p e s m args below meth c s₁ B hml hv
  obtain ⟨rfl, hsz, hP, hK, hD0⟩ := hv
  have hx := B.exec
  have hb := B.bytes
  have hr := B.returns
  have hts := atoms_spec (ws := wsX12_winner) B.pre
  have hown : s.vm.findClass RX12 = some m.cls := findClass_of_methodNamed B.named
  have hlocks := B.notSynchronized
  subst hsz
  have hD := hD0.self (sz := s.heap.size)
  generalize hAe : va_A (mW cB cI cJ cZ h0 ad M) s.heap.size = A at hD ⊢
  have hA : ∀ q : Nat, s.heap.size ≤ q → A q := fun q h => by rw [← hAe]; exact Or.inr h
  have hS : va_S A s.heap s.heap [] := va_S.rf
  have hin : ∀ w ∈ wsX120, w ∈ wsX12_winner := fun w h => List.mem_cons_of_mem _ (List.mem_append_right _ h)
  have f1 := hts (.fieldLink RX12 45 "LastWordsModel" "said" "[I") (by decide +kernel)
  have bE : ∀ (M : gS) (H : Heap) (locs : List Loc) (ls : Array Slot), va_P (dC, dI) vwCl (mW cB cI cJ cZ h0 ad M) H → va_D A (mW cB cI cJ cZ h0 ad M) → va_S A s.heap H locs → lv_has ls 1 [(0, .ref h0)] → wX12_winner  M Q → W p l e (headSpec wsX12_winner rmX12_winner).room s m ([.ref h0] : List Value).toArray below meth c H locs 0 0 (MQ below (va_Qi (fun (r : Int32) (u : gS) => Q r u) (mB dC dI cB cI cJ cZ h0 ad A) A) ([.ref h0] : List Value).toArray s 0 0 A) (F0 m 0 ls []) := by
    intro M H locs ls hP hD hS hl h
    unfold wX12_winner at h
    refine lv_aload_n hx hb dX12_winner_0 rfl (lv_at hl 0 rfl) ?_
    refine va_get (D := (dC, dI)) (ci := 12) (v := .ref (ad 25)) (C := RX12) (T := TX12) (N := 37) hx hb hts hin hown hK hP 0 rfl rfl 25 (by decide) f1 (fun _ h9 => h9) rfl dX12_winner_1 ?_
    refine lv_bipush (v := (8)) hx hb dX12_winner_4 (by decide) ?_
    refine wc_iald (j := 8) hx hb hK hP 12 1 (f := ma M 25) rfl rfl (by decide) (by decide) (by decide) dX12_winner_6 ?_
    refine lv_if_le (tgt := 22) hx hb dX12_winner_7 (by decide) (fun c1 => ?_) (fun c1 => ?_)
    · have h := h.1 c1
      refine lv_iconst (v := 1) hx hb dX12_winner_22 (by decide) ?_
      refine lv_aload_n hx hb dX12_winner_23 rfl (lv_at hl 0 rfl) ?_
      refine va_get (D := (dC, dI)) (ci := 12) (v := .ref (ad 25)) (C := RX12) (T := TX12) (N := 37) hx hb hts hin hown hK hP 0 rfl rfl 25 (by decide) f1 (fun _ h9 => h9) rfl dX12_winner_24 ?_
      refine lv_bipush (v := (6)) hx hb dX12_winner_27 (by decide) ?_
      refine wc_iald (j := 6) hx hb hK hP 12 1 (f := ma M 25) rfl rfl (by decide) (by decide) (by decide) dX12_winner_29 ?_
      refine lv_isub hx hb dX12_winner_30 ?_
      exact W.iret (v := ((1 : Int32) - (ma M 25 6))) hx hb hr (fun t ht hW => ⟨⟨_, M, rfl, h, by rw [ht]; exact hP, va_K.moved hW.alike hK, hD⟩, hS.F ht⟩) hS.2.2 dX12_winner_31
    · have h := h.2 c1
      refine lv_aload_n hx hb dX12_winner_10 rfl (lv_at hl 0 rfl) ?_
      refine va_get (D := (dC, dI)) (ci := 12) (v := .ref (ad 25)) (C := RX12) (T := TX12) (N := 37) hx hb hts hin hown hK hP 0 rfl rfl 25 (by decide) f1 (fun _ h9 => h9) rfl dX12_winner_11 ?_
      refine lv_bipush (v := (8)) hx hb dX12_winner_14 (by decide) ?_
      refine wc_iald (j := 8) hx hb hK hP 12 1 (f := ma M 25) rfl rfl (by decide) (by decide) (by decide) dX12_winner_16 ?_
      refine lv_iconst (v := 1) hx hb dX12_winner_17 (by decide) ?_
      refine lv_isub hx hb dX12_winner_18 ?_
      refine lv_goto (tgt := 31) hx hb dX12_winner_19 (by decide) ?_
      exact W.iret (v := ((ma M 25 8) - (1 : Int32))) hx hb hr (fun t ht hW => ⟨⟨_, M, rfl, h, by rw [ht]; exact hP, va_K.moved hW.alike hK, hD⟩, hS.F ht⟩) hS.2.2 dX12_winner_31
  have hl := lv_entry ([.ref h0]) (n := 1) (Nat.le_of_ble_eq_true rfl)
  rw [lg_entry_eq]
  generalize (lg_sl ([.ref h0]) ++ List.replicate (1 - (lg_sl ([.ref h0])).length) Slot.unset).toArray = ls at hl ⊢
  have hl : lv_has ls 1 [(0, .ref h0)] := hl
  exact bE M s.heap [] ls hP hD hS hl h
def wX12_ends  (M : gS) (Q : Int32 → gS → Prop) : Prop :=
 (wX12_winner  M (fun (r1 : Int32) (M2 : gS) => (∀ M3 : gS, M3 = sg M2 26 r1 → (∀ M4 : gS, M4 = sa M3 25 3 (0 : Int32) → (vp_in ((18 : Int32) + (mg M4 26)) 44 ∧ (∀ x5 : Int32, x5 = ((ma M4 25 (Int32.toNatClampNeg ((18 : Int32) + (mg M4 26)))) + (1 : Int32)) → (vp_in ((18 : Int32) + (mg M4 26)) 44 ∧ (∀ M6 : gS, M6 = sa M4 25 (Int32.toNatClampNeg ((18 : Int32) + (mg M4 26))) x5 → (Q (mg M6 26) M6)))))))))
def rmX12_ends : Room := { frames := 1, cells := 0, slots := 0, locals := 20 }
set_option maxHeartbeats 4000000 in
set_option maxRecDepth 100000 in
theorem kX12_ends (l : Launch) (dC : Nat → ClassId) (dI : Nat → Nat → Nat) (cB cI cJ cZ : ClassId) (h0 : Nat) (ad : Nat → Nat) (sz : Nat)  (M : gS) (Q : Int32 → gS → Prop) (h : wX12_ends  M Q) : Met l yX12_ends wsX12_ends rmX12_ends (va_Pc [.ref h0] (mI dC dI cB cI cJ cZ h0 ad M sz)) (va_Qi (fun (r : Int32) (u : gS) => Q r u) (mB dC dI cB cI cJ cZ h0 ad (va_A (mW cB cI cJ cZ h0 ad M) sz)) (va_A (mW cB cI cJ cZ h0 ad M) sz)) 0 0 (va_A (mW cB cI cJ cZ h0 ad M) sz) := by
  refine Met.ofW (cc := cX12_ends) (maxL := 1) (ret := (some .int)) (by decide) rfl ?_
  intro p e s m args below meth c s₁ B hml hv
  obtain ⟨rfl, hsz, hP, hK, hD0⟩ := hv
  have hx := B.exec
  have hb := B.bytes
  have hr := B.returns
  have hts := atoms_spec (ws := wsX12_ends) B.pre
  have hown : s.vm.findClass RX12 = some m.cls := findClass_of_methodNamed B.named
  have hlocks := B.notSynchronized
  subst hsz
  have hD := hD0.self (sz := s.heap.size)
  generalize hAe : va_A (mW cB cI cJ cZ h0 ad M) s.heap.size = A at hD ⊢
  have hA : ∀ q : Nat, s.heap.size ≤ q → A q := fun q h => by rw [← hAe]; exact Or.inr h
  have hS : va_S A s.heap s.heap [] := va_S.rf
  have hin : ∀ w ∈ wsX120, w ∈ wsX12_ends := fun w h => List.mem_cons_of_mem _ (List.mem_append_right _ h)
  have f1 := hts (.fieldLink RX12 286 "LastWordsModel" "ended" "I") (by decide +kernel)
  have f2 := hts (.fieldLink RX12 45 "LastWordsModel" "said" "[I") (by decide +kernel)
  have bE : ∀ (M : gS) (H : Heap) (locs : List Loc) (ls : Array Slot), va_P (dC, dI) vwCl (mW cB cI cJ cZ h0 ad M) H → va_D A (mW cB cI cJ cZ h0 ad M) → va_S A s.heap H locs → lv_has ls 1 [(0, .ref h0)] → wX12_ends  M Q → W p l e (headSpec wsX12_ends rmX12_ends).room s m ([.ref h0] : List Value).toArray below meth c H locs 0 0 (MQ below (va_Qi (fun (r : Int32) (u : gS) => Q r u) (mB dC dI cB cI cJ cZ h0 ad A) A) ([.ref h0] : List Value).toArray s 0 0 A) (F0 m 0 ls []) := by
    intro M H locs ls hP hD hS hl h
    unfold wX12_ends at h
    refine lv_aload_n hx hb dX12_ends_0 rfl (lv_at hl 0 rfl) ?_
    refine lv_aload_n hx hb dX12_ends_1 rfl (lv_at hl 0 rfl) ?_
    have hFc := gs_free hD hS hA
    refine va_calli (va_runV (As := []) (rest := [.ref h0]) ⟨hx, hb, hml, hown, hts⟩ (kX12_winner l dC dI cB cI cJ cZ h0 ad H.size  M _ h) (cwV 0 hts gX12_ends_X12_winner rfl rfl rfl (by decide +kernel) ⟨Nat.le_of_ble_eq_true rfl, Nat.le_of_ble_eq_true rfl⟩) (mpV hK hP hD) rfl rfl hl.1 rfl (lv_room (Nat.le_of_ble_eq_true rfl)) dX12_ends_2 ⟨Nat.le_of_ble_eq_true rfl, Nat.le_of_ble_eq_true rfl⟩) hS (fun q _ z => hFc q z) hFc (fun r1 M2 t H1 locs ht hvm hw hB hz1 hk1 hS => ?_)
    obtain ⟨hP, hD⟩ := gs_back ht hFc hB
    generalize H1 = H at hP hS ⊢
    have h := hw
    try dsimp only at h
    refine va_put (D := (dC, dI)) (ci := 12) (v := .int r1) (ty := .int) (C := RX12) (T := TX12) (N := 37) hx hb hts hin tyX12 tyX12_ok nmX12 hown hK hP hD hS 0 rfl rfl 26 (by decide) f1 (fun _ h9 => h9) rfl (by decide +kernel) rfl rfl (Nat.le_of_ble_eq_true rfl) dX12_ends_5 (fun H locs hP hD hS => ?_)
    have hP := mP_f26 hP
    have hD := mD_f26 hD
    have h := h _ rfl
    generalize sg M2 26 r1 = M3 at hP hD h
    refine lv_aload_n hx hb dX12_ends_8 rfl (lv_at hl 0 rfl) ?_
    refine va_get (D := (dC, dI)) (ci := 12) (v := .ref (ad 25)) (C := RX12) (T := TX12) (N := 37) hx hb hts hin hown hK hP 0 rfl rfl 25 (by decide) f2 (fun _ h9 => h9) rfl dX12_ends_9 ?_
    refine lv_iconst (v := 3) hx hb dX12_ends_12 (by decide) ?_
    refine lv_iconst (v := 0) hx hb dX12_ends_13 (by decide) ?_
    refine wc_iast (j := 3) hx hb hK hP hD hS 12 1 (f := ma M3 25) rfl rfl (by decide) (by decide) (by decide) dX12_ends_14 (fun H locs hP hD hS => ?_)
    have hP := mP_a25 hP
    have hD := mD_a25 hD
    have h := h _ rfl
    generalize sa M3 25 3 (0 : Int32) = M4 at hP hD h
    refine lv_aload_n hx hb dX12_ends_15 rfl (lv_at hl 0 rfl) ?_
    refine va_get (D := (dC, dI)) (ci := 12) (v := .ref (ad 25)) (C := RX12) (T := TX12) (N := 37) hx hb hts hin hown hK hP 0 rfl rfl 25 (by decide) f2 (fun _ h9 => h9) rfl dX12_ends_16 ?_
    refine lv_bipush (v := (18)) hx hb dX12_ends_19 (by decide) ?_
    refine lv_aload_n hx hb dX12_ends_21 rfl (lv_at hl 0 rfl) ?_
    refine va_get (D := (dC, dI)) (ci := 12) (v := .int (mg M4 26)) (C := RX12) (T := TX12) (N := 37) hx hb hts hin hown hK hP 0 rfl rfl 26 (by decide) f1 (fun _ h9 => h9) rfl dX12_ends_22 ?_
    refine lv_iadd hx hb dX12_ends_25 ?_
    refine lv_dup2_11 hx hb dX12_ends_26 rfl rfl ?_
    refine va_iald hx hb hK hP 12 1 (f := ma M4 25) rfl rfl h.1 dX12_ends_27 ?_
    have h := h.2
    refine lv_iconst (v := 1) hx hb dX12_ends_28 (by decide) ?_
    refine lv_iadd hx hb dX12_ends_29 ?_
    refine lv_topi (fun x5 ex5 => ?_)
    have h := h x5 ex5
    refine va_iast hx hb hK hP hD hS 12 1 (f := ma M4 25) rfl rfl h.1 dX12_ends_30 (fun H locs hP hD hS => ?_)
    have h := h.2
    have hP := mP_a25 hP
    have hD := mD_a25 hD
    have h := h _ rfl
    generalize sa M4 25 (Int32.toNatClampNeg ((18 : Int32) + (mg M4 26))) x5 = M6 at hP hD h
    refine lv_aload_n hx hb dX12_ends_31 rfl (lv_at hl 0 rfl) ?_
    refine va_get (D := (dC, dI)) (ci := 12) (v := .int (mg M6 26)) (C := RX12) (T := TX12) (N := 37) hx hb hts hin hown hK hP 0 rfl rfl 26 (by decide) f1 (fun _ h9 => h9) rfl dX12_ends_32 ?_
    exact W.iret (v := (mg M6 26)) hx hb hr (fun t ht hW => ⟨⟨_, M6, rfl, h, by rw [ht]; exact hP, va_K.moved hW.alike hK, hD⟩, hS.F ht⟩) hS.2.2 dX12_ends_35
  have hl := lv_entry ([.ref h0]) (n := 1) (Nat.le_of_ble_eq_true rfl)
  rw [lg_entry_eq]
  generalize (lg_sl ([.ref h0]) ++ List.replicate (1 - (lg_sl ([.ref h0])).length) Slot.unset).toArray = ls at hl ⊢
  have hl : lv_has ls 1 [(0, .ref h0)] := hl
  exact bE M s.heap [] ls hP hD hS hl h
def wX12_looks  (M : gS) (Q : gS → Prop) : Prop :=
 (wX12_canDo  M (fun (b3 : Bool) (M2 : gS) => (((bI b3) = 0 → (wX12_ends  M2 (fun (r5 : Int32) (M6 : gS) => (Q M6))))
 ∧ (¬ (bI b3) = 0 → (Q M2)))))
def rmX12_looks : Room := { frames := 2, cells := 0, slots := 0, locals := 42 }
set_option maxHeartbeats 4000000 in
set_option maxRecDepth 100000 in
theorem kX12_looks (l : Launch) (dC : Nat → ClassId) (dI : Nat → Nat → Nat) (cB cI cJ cZ : ClassId) (h0 : Nat) (ad : Nat → Nat) (sz : Nat)  (M : gS) (Q : gS → Prop) (h : wX12_looks  M Q) : Met l yX12_looks wsX12_looks rmX12_looks (va_Pc [.ref h0] (mI dC dI cB cI cJ cZ h0 ad M sz)) (va_Qv (fun (u : gS) => Q u) (mB dC dI cB cI cJ cZ h0 ad (va_A (mW cB cI cJ cZ h0 ad M) sz)) (va_A (mW cB cI cJ cZ h0 ad M) sz)) 0 0 (va_A (mW cB cI cJ cZ h0 ad M) sz) := by
  refine Met.ofW (cc := cX12_looks) (maxL := 1) (ret := none) (by decide) rfl ?_
  intro p e s m args below meth c s₁ B hml hv
  obtain ⟨rfl, hsz, hP, hK, hD0⟩ := hv
  have hx := B.exec
  have hb := B.bytes
  have hr := B.returns
  have hts := atoms_spec (ws := wsX12_looks) B.pre
  have hown : s.vm.findClass RX12 = some m.cls := findClass_of_methodNamed B.named
  have hlocks := B.notSynchronized
  subst hsz
  have hD := hD0.self (sz := s.heap.size)
  generalize hAe : va_A (mW cB cI cJ cZ h0 ad M) s.heap.size = A at hD ⊢
  have hA : ∀ q : Nat, s.heap.size ≤ q → A q := fun q h => by rw [← hAe]; exact Or.inr h
  have hS : va_S A s.heap s.heap [] := va_S.rf
  have bE : ∀ (M : gS) (H : Heap) (locs : List Loc) (ls : Array Slot), va_P (dC, dI) vwCl (mW cB cI cJ cZ h0 ad M) H → va_D A (mW cB cI cJ cZ h0 ad M) → va_S A s.heap H locs → lv_has ls 1 [(0, .ref h0)] → wX12_looks  M Q → W p l e (headSpec wsX12_looks rmX12_looks).room s m ([.ref h0] : List Value).toArray below meth c H locs 0 0 (MQ below (va_Qv (fun (u : gS) => Q u) (mB dC dI cB cI cJ cZ h0 ad A) A) ([.ref h0] : List Value).toArray s 0 0 A) (F0 m 0 ls []) := by
    intro M H locs ls hP hD hS hl h
    unfold wX12_looks at h
    refine lv_aload_n hx hb dX12_looks_0 rfl (lv_at hl 0 rfl) ?_
    have hFc := gs_free hD hS hA
    refine va_calli (va_runV (As := []) (rest := []) ⟨hx, hb, hml, hown, hts⟩ (kX12_canDo l dC dI cB cI cJ cZ h0 ad H.size  M _ h) (cwV 0 hts gX12_looks_X12_canDo rfl rfl rfl (by decide +kernel) ⟨Nat.le_of_ble_eq_true rfl, Nat.le_of_ble_eq_true rfl⟩) (mpV hK hP hD) rfl rfl hl.1 rfl (lv_room (Nat.le_of_ble_eq_true rfl)) dX12_looks_1 ⟨Nat.le_of_ble_eq_true rfl, Nat.le_of_ble_eq_true rfl⟩) hS (fun q _ z => hFc q z) hFc (fun r1 M2 t H1 locs ht hvm hw hB hz1 hk1 hS => ?_)
    obtain ⟨hP, hD⟩ := gs_back ht hFc hB
    generalize H1 = H at hP hS ⊢
    obtain ⟨b3, rfl, h⟩ := hw
    try dsimp only at h
    refine lv_if_ne (tgt := 12) hx hb dX12_looks_4 (by decide) (fun c4 => ?_) (fun c4 => ?_)
    · have h := h.2 c4
      exact W.vret hx hb hr (fun t ht hW => ⟨⟨M2, rfl, h, by rw [ht]; exact hP, va_K.moved hW.alike hK, hD⟩, hS.F ht⟩) hS.2.2 dX12_looks_12
    · have h := h.1 c4
      refine lv_aload_n hx hb dX12_looks_7 rfl (lv_at hl 0 rfl) ?_
      have hFc := gs_free hD hS hA
      refine va_calli (va_runV (As := []) (rest := []) ⟨hx, hb, hml, hown, hts⟩ (kX12_ends l dC dI cB cI cJ cZ h0 ad H.size  M2 _ h) (cwV 0 hts gX12_looks_X12_ends rfl rfl rfl (by decide +kernel) ⟨Nat.le_of_ble_eq_true rfl, Nat.le_of_ble_eq_true rfl⟩) (mpV hK hP hD) rfl rfl hl.1 rfl (lv_room (Nat.le_of_ble_eq_true rfl)) dX12_looks_8 ⟨Nat.le_of_ble_eq_true rfl, Nat.le_of_ble_eq_true rfl⟩) hS (fun q _ z => hFc q z) hFc (fun r5 M6 t H1 locs ht hvm hw hB hz1 hk1 hS => ?_)
      obtain ⟨hP, hD⟩ := gs_back ht hFc hB
      generalize H1 = H at hP hS ⊢
      have h := hw
      try dsimp only at h
      refine lv_pop hx hb dX12_looks_11 rfl ?_
      exact W.vret hx hb hr (fun t ht hW => ⟨⟨M6, rfl, h, by rw [ht]; exact hP, va_K.moved hW.alike hK, hD⟩, hS.F ht⟩) hS.2.2 dX12_looks_12
  have hl := lv_entry ([.ref h0]) (n := 1) (Nat.le_of_ble_eq_true rfl)
  rw [lg_entry_eq]
  generalize (lg_sl ([.ref h0]) ++ List.replicate (1 - (lg_sl ([.ref h0])).length) Slot.unset).toArray = ls at hl ⊢
  have hl : lv_has ls 1 [(0, .ref h0)] := hl
  exact bE M s.heap [] ls hP hD hS hl h
