def wX12_rule  (M : gS) (Q : Int32 → gS → Prop) : Prop :=
 (((mg M 2) = (6 : Int32) → (Q (-1 : Int32) M))
 ∧ (¬ (mg M 2) = (6 : Int32) → (∀ x2 : Int32, x2 = (mg M 2) → (∀ M3 : gS, M3 = sg M 16 x2 → (vp_in (mg M3 16) 6 ∧ (∀ M4 : gS, M4 = sa M3 6 (Int32.toNatClampNeg (mg M3 16)) (0 : Int32) → (wX12_readsAll  M4 (fun (b7 : Bool) (M6 : gS) => (((bI b7) = 0 → (Q ((-2 : Int32) - (mg M6 14)) M6))
 ∧ (¬ (bI b7) = 0 → (∀ x9 : Int32, x9 = ((mg M6 2) + (1 : Int32)) → (∀ M10 : gS, M10 = sg M6 2 x9 → (Q ((mg M10 2) - (1 : Int32)) M10)))))))))))))
def rmX12_rule : Room := { frames := 12, cells := 0, slots := 0, locals := 264 }
set_option maxHeartbeats 4000000 in
set_option maxRecDepth 100000 in
theorem kX12_rule (l : Launch) (dC : Nat → ClassId) (dI : Nat → Nat → Nat) (cB cI cJ cZ : ClassId) (h0 : Nat) (ad : Nat → Nat) (sz : Nat)  (M : gS) (Q : Int32 → gS → Prop) (h : wX12_rule  M Q) : Met l yX12_rule wsX12_rule rmX12_rule (va_Pc [.ref h0] (mI dC dI cB cI cJ cZ h0 ad M sz)) (va_Qi (fun (r : Int32) (u : gS) => Q r u) (mB dC dI cB cI cJ cZ h0 ad (va_A (mW cB cI cJ cZ h0 ad M) sz)) (va_A (mW cB cI cJ cZ h0 ad M) sz)) 0 0 (va_A (mW cB cI cJ cZ h0 ad M) sz) := by
  refine Met.ofW (cc := cX12_rule) (maxL := 1) (ret := (some .int)) (by decide) rfl ?_
  intro p e s m args below meth c s₁ B hml hv
  obtain ⟨rfl, hsz, hP, hK, hD0⟩ := hv
  have hx := B.exec
  have hb := B.bytes
  have hr := B.returns
  have hts := atoms_spec (ws := wsX12_rule) B.pre
  have hown : s.vm.findClass RX12 = some m.cls := findClass_of_methodNamed B.named
  have hlocks := B.notSynchronized
  subst hsz
  have hD := hD0.self (sz := s.heap.size)
  generalize hAe : va_A (mW cB cI cJ cZ h0 ad M) s.heap.size = A at hD ⊢
  have hA : ∀ q : Nat, s.heap.size ≤ q → A q := fun q h => by rw [← hAe]; exact Or.inr h
  have hS : va_S A s.heap s.heap [] := va_S.rf
  have hin : ∀ w ∈ wsX120, w ∈ wsX12_rule := fun w h => List.mem_cons_of_mem _ (List.mem_append_right _ h)
  have f1 := hts (.fieldLink RX12 256 "LastWordsModel" "rules" "I") (by decide +kernel)
  have f2 := hts (.fieldLink RX12 137 "LastWordsModel" "text" "I") (by decide +kernel)
  have f3 := hts (.fieldLink RX12 23 "LastWordsModel" "clauses" "[I") (by decide +kernel)
  have f4 := hts (.fieldLink RX12 84 "LastWordsModel" "wrong" "I") (by decide +kernel)
  have bE : ∀ (M : gS) (H : Heap) (locs : List Loc) (ls : Array Slot), va_P (dC, dI) vwCl (mW cB cI cJ cZ h0 ad M) H → va_D A (mW cB cI cJ cZ h0 ad M) → va_S A s.heap H locs → lv_has ls 1 [(0, .ref h0)] → wX12_rule  M Q → W p l e (headSpec wsX12_rule rmX12_rule).room s m ([.ref h0] : List Value).toArray below meth c H locs 0 0 (MQ below (va_Qi (fun (r : Int32) (u : gS) => Q r u) (mB dC dI cB cI cJ cZ h0 ad A) A) ([.ref h0] : List Value).toArray s 0 0 A) (F0 m 0 ls []) := by
    intro M H locs ls hP hD hS hl h
    unfold wX12_rule at h
    refine lv_aload_n hx hb dX12_rule_0 rfl (lv_at hl 0 rfl) ?_
    refine va_get (D := (dC, dI)) (ci := 12) (v := .int (mg M 2)) (C := RX12) (T := TX12) (N := 37) hx hb hts hin hown hK hP 0 rfl rfl 2 (by decide) f1 (fun _ h9 => h9) rfl dX12_rule_1 ?_
    refine lv_bipush (v := (6)) hx hb dX12_rule_4 (by decide) ?_
    refine lv_icmp_ne (tgt := 11) hx hb dX12_rule_6 (by decide) (fun c1 => ?_) (fun c1 => ?_)
    · have h := h.2 c1
      refine lv_aload_n hx hb dX12_rule_11 rfl (lv_at hl 0 rfl) ?_
      refine lv_aload_n hx hb dX12_rule_12 rfl (lv_at hl 0 rfl) ?_
      refine va_get (D := (dC, dI)) (ci := 12) (v := .int (mg M 2)) (C := RX12) (T := TX12) (N := 37) hx hb hts hin hown hK hP 0 rfl rfl 2 (by decide) f1 (fun _ h9 => h9) rfl dX12_rule_13 ?_
      refine lv_topi (fun x2 ex2 => ?_)
      have h := h x2 ex2
      refine va_put (D := (dC, dI)) (ci := 12) (v := .int x2) (ty := .int) (C := RX12) (T := TX12) (N := 37) hx hb hts hin tyX12 tyX12_ok nmX12 hown hK hP hD hS 0 rfl rfl 16 (by decide) f2 (fun _ h9 => h9) rfl (by decide +kernel) rfl rfl (Nat.le_of_ble_eq_true rfl) dX12_rule_16 (fun H locs hP hD hS => ?_)
      have hP := mP_f16 hP
      have hD := mD_f16 hD
      have h := h _ rfl
      generalize sg M 16 x2 = M3 at hP hD h
      refine lv_aload_n hx hb dX12_rule_19 rfl (lv_at hl 0 rfl) ?_
      refine va_get (D := (dC, dI)) (ci := 12) (v := .ref (ad 6)) (C := RX12) (T := TX12) (N := 37) hx hb hts hin hown hK hP 0 rfl rfl 6 (by decide) f3 (fun _ h9 => h9) rfl dX12_rule_20 ?_
      refine lv_aload_n hx hb dX12_rule_23 rfl (lv_at hl 0 rfl) ?_
      refine va_get (D := (dC, dI)) (ci := 12) (v := .int (mg M3 16)) (C := RX12) (T := TX12) (N := 37) hx hb hts hin hown hK hP 0 rfl rfl 16 (by decide) f2 (fun _ h9 => h9) rfl dX12_rule_24 ?_
      refine lv_iconst (v := 0) hx hb dX12_rule_27 (by decide) ?_
      refine va_iast hx hb hK hP hD hS 5 1 (f := ma M3 6) rfl rfl h.1 dX12_rule_28 (fun H locs hP hD hS => ?_)
      have h := h.2
      have hP := mP_a6 hP
      have hD := mD_a6 hD
      have h := h _ rfl
      generalize sa M3 6 (Int32.toNatClampNeg (mg M3 16)) (0 : Int32) = M4 at hP hD h
      refine lv_aload_n hx hb dX12_rule_29 rfl (lv_at hl 0 rfl) ?_
      have hFc := gs_free hD hS hA
      refine va_calli (va_runV (As := []) (rest := []) ⟨hx, hb, hml, hown, hts⟩ (kX12_readsAll l dC dI cB cI cJ cZ h0 ad H.size  M4 _ h) (cwV 0 hts gX12_rule_X12_readsAll rfl rfl rfl (by decide +kernel) ⟨Nat.le_of_ble_eq_true rfl, Nat.le_of_ble_eq_true rfl⟩) (mpV hK hP hD) rfl rfl hl.1 rfl (lv_room (Nat.le_of_ble_eq_true rfl)) dX12_rule_30 ⟨Nat.le_of_ble_eq_true rfl, Nat.le_of_ble_eq_true rfl⟩) hS (fun q _ z => hFc q z) hFc (fun r5 M6 t H1 locs ht hvm hw hB hz1 hk1 hS => ?_)
      obtain ⟨hP, hD⟩ := gs_back ht hFc hB
      generalize H1 = H at hP hS ⊢
      obtain ⟨b7, rfl, h⟩ := hw
      try dsimp only at h
      refine lv_if_ne (tgt := 44) hx hb dX12_rule_33 (by decide) (fun c8 => ?_) (fun c8 => ?_)
      · have h := h.2 c8
        refine lv_aload_n hx hb dX12_rule_44 rfl (lv_at hl 0 rfl) ?_
        refine lv_dup hx hb dX12_rule_45 rfl ?_
        refine va_get (D := (dC, dI)) (ci := 12) (v := .int (mg M6 2)) (C := RX12) (T := TX12) (N := 37) hx hb hts hin hown hK hP 0 rfl rfl 2 (by decide) f1 (fun _ h9 => h9) rfl dX12_rule_46 ?_
        refine lv_iconst (v := 1) hx hb dX12_rule_49 (by decide) ?_
        refine lv_iadd hx hb dX12_rule_50 ?_
        refine lv_topi (fun x9 ex9 => ?_)
        have h := h x9 ex9
        refine va_put (D := (dC, dI)) (ci := 12) (v := .int x9) (ty := .int) (C := RX12) (T := TX12) (N := 37) hx hb hts hin tyX12 tyX12_ok nmX12 hown hK hP hD hS 0 rfl rfl 2 (by decide) f1 (fun _ h9 => h9) rfl (by decide +kernel) rfl rfl (Nat.le_of_ble_eq_true rfl) dX12_rule_51 (fun H locs hP hD hS => ?_)
        have hP := mP_f2 hP
        have hD := mD_f2 hD
        have h := h _ rfl
        generalize sg M6 2 x9 = M10 at hP hD h
        refine lv_aload_n hx hb dX12_rule_54 rfl (lv_at hl 0 rfl) ?_
        refine va_get (D := (dC, dI)) (ci := 12) (v := .int (mg M10 2)) (C := RX12) (T := TX12) (N := 37) hx hb hts hin hown hK hP 0 rfl rfl 2 (by decide) f1 (fun _ h9 => h9) rfl dX12_rule_55 ?_
        refine lv_iconst (v := 1) hx hb dX12_rule_58 (by decide) ?_
        refine lv_isub hx hb dX12_rule_59 ?_
        exact W.iret (v := ((mg M10 2) - (1 : Int32))) hx hb hr (fun t ht hW => ⟨⟨_, M10, rfl, h, by rw [ht]; exact hP, va_K.moved hW.alike hK, hD⟩, hS.F ht⟩) hS.2.2 dX12_rule_60
      · have h := h.1 c8
        refine lv_bipush (v := (-2)) hx hb dX12_rule_36 (by decide) ?_
        refine lv_aload_n hx hb dX12_rule_38 rfl (lv_at hl 0 rfl) ?_
        refine va_get (D := (dC, dI)) (ci := 12) (v := .int (mg M6 14)) (C := RX12) (T := TX12) (N := 37) hx hb hts hin hown hK hP 0 rfl rfl 14 (by decide) f4 (fun _ h9 => h9) rfl dX12_rule_39 ?_
        refine lv_isub hx hb dX12_rule_42 ?_
        exact W.iret (v := ((-2 : Int32) - (mg M6 14))) hx hb hr (fun t ht hW => ⟨⟨_, M6, rfl, h, by rw [ht]; exact hP, va_K.moved hW.alike hK, hD⟩, hS.F ht⟩) hS.2.2 dX12_rule_43
    · have h := h.1 c1
      refine lv_iconst (v := (-1)) hx hb dX12_rule_9 (by decide) ?_
      exact W.iret (v := (-1 : Int32)) hx hb hr (fun t ht hW => ⟨⟨_, M, rfl, h, by rw [ht]; exact hP, va_K.moved hW.alike hK, hD⟩, hS.F ht⟩) hS.2.2 dX12_rule_10
  have hl := lv_entry ([.ref h0]) (n := 1) (Nat.le_of_ble_eq_true rfl)
  rw [lg_entry_eq]
  generalize (lg_sl ([.ref h0]) ++ List.replicate (1 - (lg_sl ([.ref h0])).length) Slot.unset).toArray = ls at hl ⊢
  have hl : lv_has ls 1 [(0, .ref h0)] := hl
  exact bE M s.heap [] ls hP hD hS hl h
def wX12_corner_202  (Q : Int32 → gS → Prop) : Nat → Int32 → gS → Prop
 | 0, _, _ => False
 | n + 1, y2, M => (((mg M 8) ≤ y2 → (Q (mg M 7) M))
 ∧ (¬ (mg M 8) ≤ y2 → (vp_in y2 4 ∧ (∀ x2 : Int32, x2 = (ma M 11 (Int32.toNatClampNeg y2)) → (vp_in ((28 : Int32) + y2) 44 ∧ (∀ M3 : gS, M3 = sa M 25 (Int32.toNatClampNeg ((28 : Int32) + y2)) x2 → (∀ x4 : Int32, x4 = y2 + (1 : Int32) → (wX12_corner_202  Q n x4 M3))))))))
def wX12_corner_169  (Q : Int32 → gS → Prop) : Nat → Int32 → gS → Prop
 | 0, _, _ => False
 | n + 1, y2, M => ((((2 : Int32) * (mg M 7)) ≤ y2 → (∃ k202 : Nat, wX12_corner_202  Q k202 (0 : Int32) M))
 ∧ (¬ ((2 : Int32) * (mg M 7)) ≤ y2 → (vp_in y2 8 ∧ (∀ x2 : Int32, x2 = (ma M 10 (Int32.toNatClampNeg y2)) → (vp_in ((20 : Int32) + y2) 44 ∧ (∀ M3 : gS, M3 = sa M 25 (Int32.toNatClampNeg ((20 : Int32) + y2)) x2 → (∀ x4 : Int32, x4 = y2 + (1 : Int32) → (wX12_corner_169  Q n x4 M3))))))))
def wX12_corner_130  (Q : Int32 → gS → Prop) : Nat → Int32 → gS → Prop
 | 0, _, _ => False
 | n + 1, y2, M => (((2 : Int32) ≤ y2 → (∃ k169 : Nat, wX12_corner_169  Q k169 (0 : Int32) M))
 ∧ (¬ (2 : Int32) ≤ y2 → (vp_in y2 2 ∧ (∀ x2 : Int32, x2 = (ma M 12 (Int32.toNatClampNeg y2)) → (vp_in ((12 : Int32) + y2) 44 ∧ (∀ M3 : gS, M3 = sa M 25 (Int32.toNatClampNeg ((12 : Int32) + y2)) x2 → (vp_in ((14 : Int32) + y2) 44 ∧ (∀ M4 : gS, M4 = sa M3 25 (Int32.toNatClampNeg ((14 : Int32) + y2)) (9 : Int32) → (∀ x5 : Int32, x5 = y2 + (1 : Int32) → (wX12_corner_130  Q n x5 M4))))))))))
def wX12_corner_119  (Q : Int32 → gS → Prop) (y1 : Int32) (z1 : Int32) (z0 : Int32) (M : gS) : Prop :=
 (vp_in z1 44 ∧ (∀ M1 : gS, M1 = sa M 25 (Int32.toNatClampNeg z1) z0 → (∀ M2 : gS, M2 = sa M1 25 11 y1 → (∃ k130 : Nat, wX12_corner_130  Q k130 (0 : Int32) M2))))
def wX12_corner_60  (Q : Int32 → gS → Prop) : Nat → Int32 → Int32 → gS → Prop
 | 0, _, _, _ => False
 | n + 1, y1, y2, M => (((44 : Int32) ≤ y2 → (∀ x2 : Int32, x2 = (mg M 7) → (∀ M3 : gS, M3 = sa M 25 0 x2 → (∀ x4 : Int32, x4 = (mg M3 8) → (∀ M5 : gS, M5 = sa M3 25 1 x4 → ((0 ≤ (mg M5 9) → (wX12_corner_119  Q y1 (2 : Int32) (mg M5 9) M5))
 ∧ (¬ 0 ≤ (mg M5 9) → (wX12_corner_119  Q y1 (2 : Int32) (0 : Int32) M5))))))))
 ∧ (¬ (44 : Int32) ≤ y2 → (vp_in y2 44 ∧ (∀ M7 : gS, M7 = sa M 25 (Int32.toNatClampNeg y2) (0 : Int32) → (∀ x8 : Int32, x8 = y2 + (1 : Int32) → (wX12_corner_60  Q n y1 x8 M7))))))
def wX12_corner  (M : gS) (Q : Int32 → gS → Prop) : Prop :=
 (∀ M1 : gS, M1 = sg M 16 (6 : Int32) → (∀ M2 : gS, M2 = sg M1 7 (0 : Int32) → (∀ M3 : gS, M3 = sg M2 8 (0 : Int32) → (∀ M4 : gS, M4 = sg M3 9 (-1 : Int32) → (∀ M5 : gS, M5 = sa M4 12 0 (0 : Int32) → (∀ M6 : gS, M6 = sa M5 12 1 (0 : Int32) → (wX12_readsAll  M6 (fun (b9 : Bool) (M8 : gS) => (((bI b9) = 0 → (Q ((-2 : Int32) - (mg M8 14)) M8))
 ∧ (¬ (bI b9) = 0 → (∀ x11 : Int32, x11 = (ma M8 25 11) → (∃ k60 : Nat, wX12_corner_60  Q k60 x11 (0 : Int32) M8))))))))))))
def rmX12_corner : Room := { frames := 12, cells := 0, slots := 0, locals := 264 }
set_option maxHeartbeats 4000000 in
set_option maxRecDepth 100000 in
theorem kX12_corner (l : Launch) (dC : Nat → ClassId) (dI : Nat → Nat → Nat) (cB cI cJ cZ : ClassId) (h0 : Nat) (ad : Nat → Nat) (sz : Nat)  (M : gS) (Q : Int32 → gS → Prop) (h : wX12_corner  M Q) : Met l yX12_corner wsX12_corner rmX12_corner (va_Pc [.ref h0] (mI dC dI cB cI cJ cZ h0 ad M sz)) (va_Qi (fun (r : Int32) (u : gS) => Q r u) (mB dC dI cB cI cJ cZ h0 ad (va_A (mW cB cI cJ cZ h0 ad M) sz)) (va_A (mW cB cI cJ cZ h0 ad M) sz)) 0 0 (va_A (mW cB cI cJ cZ h0 ad M) sz) := by
  refine Met.ofW (cc := cX12_corner) (maxL := 3) (ret := (some .int)) (by decide) rfl ?_
  intro p e s m args below meth c s₁ B hml hv
  obtain ⟨rfl, hsz, hP, hK, hD0⟩ := hv
  have hx := B.exec
  have hb := B.bytes
  have hr := B.returns
  have hts := atoms_spec (ws := wsX12_corner) B.pre
  have hown : s.vm.findClass RX12 = some m.cls := findClass_of_methodNamed B.named
  have hlocks := B.notSynchronized
  subst hsz
  have hD := hD0.self (sz := s.heap.size)
  generalize hAe : va_A (mW cB cI cJ cZ h0 ad M) s.heap.size = A at hD ⊢
  have hA : ∀ q : Nat, s.heap.size ≤ q → A q := fun q h => by rw [← hAe]; exact Or.inr h
  have hS : va_S A s.heap s.heap [] := va_S.rf
  have hin : ∀ w ∈ wsX120, w ∈ wsX12_corner := fun w h => List.mem_cons_of_mem _ (List.mem_append_right _ h)
  have f1 := hts (.fieldLink RX12 212 "LastWordsModel" "wordsRead" "I") (by decide +kernel)
  have f2 := hts (.fieldLink RX12 209 "LastWordsModel" "tunesRead" "I") (by decide +kernel)
  have f3 := hts (.fieldLink RX12 45 "LastWordsModel" "said" "[I") (by decide +kernel)
  have f4 := hts (.fieldLink RX12 29 "LastWordsModel" "wordRead" "[I") (by decide +kernel)
  have f5 := hts (.fieldLink RX12 26 "LastWordsModel" "tuneRead" "[I") (by decide +kernel)
  have f6 := hts (.fieldLink RX12 32 "LastWordsModel" "purseRead" "[I") (by decide +kernel)
  have f7 := hts (.fieldLink RX12 215 "LastWordsModel" "againRead" "I") (by decide +kernel)
  have f8 := hts (.fieldLink RX12 137 "LastWordsModel" "text" "I") (by decide +kernel)
  have f9 := hts (.fieldLink RX12 84 "LastWordsModel" "wrong" "I") (by decide +kernel)
  have b202 : ∀ (n : Nat) (y2 : Int32) (M : gS) (H : Heap) (locs : List Loc) (ls : Array Slot), va_P (dC, dI) vwCl (mW cB cI cJ cZ h0 ad M) H → va_D A (mW cB cI cJ cZ h0 ad M) → va_S A s.heap H locs → lv_has ls 3 [(0, .ref h0), (2, .int y2)] → wX12_corner_202  Q n y2 M → W p l e (headSpec wsX12_corner rmX12_corner).room s m ([.ref h0] : List Value).toArray below meth c H locs 0 0 (MQ below (va_Qi (fun (r : Int32) (u : gS) => Q r u) (mB dC dI cB cI cJ cZ h0 ad A) A) ([.ref h0] : List Value).toArray s 0 0 A) (F0 m 202 ls []) := by
    intro  n
    induction n with
    | zero => intro y2 M H locs ls hP hD hS hl h; exact absurd h (by simp [wX12_corner_202])
    | succ n hB2020 =>
      intro y2 M H locs ls hP hD hS hl h
      have hB202 := hB2020
      rw [wX12_corner_202] at h
      refine lv_iload_n hx hb dX12_corner_202 rfl (lv_at hl 1 rfl) ?_
      refine lv_aload_n hx hb dX12_corner_203 rfl (lv_at hl 0 rfl) ?_
      refine va_get (D := (dC, dI)) (ci := 12) (v := .int (mg M 8)) (C := RX12) (T := TX12) (N := 37) hx hb hts hin hown hK hP 0 rfl rfl 8 (by decide) f1 (fun _ h9 => h9) rfl dX12_corner_204 ?_
      refine lv_icmp_ge (tgt := 231) hx hb dX12_corner_207 (by decide) (fun c1 => ?_) (fun c1 => ?_)
      · have h := h.1 c1
        refine lv_aload_n hx hb dX12_corner_231 rfl (lv_at hl 0 rfl) ?_
        refine va_get (D := (dC, dI)) (ci := 12) (v := .int (mg M 7)) (C := RX12) (T := TX12) (N := 37) hx hb hts hin hown hK hP 0 rfl rfl 7 (by decide) f2 (fun _ h9 => h9) rfl dX12_corner_232 ?_
        exact W.iret (v := (mg M 7)) hx hb hr (fun t ht hW => ⟨⟨_, M, rfl, h, by rw [ht]; exact hP, va_K.moved hW.alike hK, hD⟩, hS.F ht⟩) hS.2.2 dX12_corner_235
      · have h := h.2 c1
        refine lv_aload_n hx hb dX12_corner_210 rfl (lv_at hl 0 rfl) ?_
        refine va_get (D := (dC, dI)) (ci := 12) (v := .ref (ad 25)) (C := RX12) (T := TX12) (N := 37) hx hb hts hin hown hK hP 0 rfl rfl 25 (by decide) f3 (fun _ h9 => h9) rfl dX12_corner_211 ?_
        refine lv_bipush (v := (28)) hx hb dX12_corner_214 (by decide) ?_
        refine lv_iload_n hx hb dX12_corner_216 rfl (lv_at hl 1 rfl) ?_
        refine lv_iadd hx hb dX12_corner_217 ?_
        refine lv_aload_n hx hb dX12_corner_218 rfl (lv_at hl 0 rfl) ?_
        refine va_get (D := (dC, dI)) (ci := 12) (v := .ref (ad 11)) (C := RX12) (T := TX12) (N := 37) hx hb hts hin hown hK hP 0 rfl rfl 11 (by decide) f4 (fun _ h9 => h9) rfl dX12_corner_219 ?_
        refine lv_iload_n hx hb dX12_corner_222 rfl (lv_at hl 1 rfl) ?_
        refine va_iald hx hb hK hP 7 1 (f := ma M 11) rfl rfl h.1 dX12_corner_223 ?_
        have h := h.2
        refine lv_topi (fun x2 ex2 => ?_)
        have h := h x2 ex2
        refine va_iast hx hb hK hP hD hS 12 1 (f := ma M 25) rfl rfl h.1 dX12_corner_224 (fun H locs hP hD hS => ?_)
        have h := h.2
        have hP := mP_a25 hP
        have hD := mD_a25 hD
        have h := h _ rfl
        generalize sa M 25 (Int32.toNatClampNeg ((28 : Int32) + y2)) x2 = M3 at hP hD h
        obtain ⟨x4, ex4⟩ : ∃ y : Int32, y = y2 + (1 : Int32) := ⟨_, rfl⟩
        have h := h x4 ex4
        refine lv_iinc (v := x4) (lv' := [(2, .int x4), (0, .ref h0)]) hx hb dX12_corner_225 hl (k := 1) rfl (by rw [ex4]; rfl) (by decide) rfl (fun ls hl => ?_)
        refine lv_goto (tgt := 202) hx hb dX12_corner_228 (by decide) ?_
        exact hB202 x4 M3 H locs ls hP hD hS (lv_sub hl [1, 0] rfl) h
  have b169 : ∀ (n : Nat) (y2 : Int32) (M : gS) (H : Heap) (locs : List Loc) (ls : Array Slot), va_P (dC, dI) vwCl (mW cB cI cJ cZ h0 ad M) H → va_D A (mW cB cI cJ cZ h0 ad M) → va_S A s.heap H locs → lv_has ls 3 [(0, .ref h0), (2, .int y2)] → wX12_corner_169  Q n y2 M → W p l e (headSpec wsX12_corner rmX12_corner).room s m ([.ref h0] : List Value).toArray below meth c H locs 0 0 (MQ below (va_Qi (fun (r : Int32) (u : gS) => Q r u) (mB dC dI cB cI cJ cZ h0 ad A) A) ([.ref h0] : List Value).toArray s 0 0 A) (F0 m 169 ls []) := by
    intro  n
    induction n with
    | zero => intro y2 M H locs ls hP hD hS hl h; exact absurd h (by simp [wX12_corner_169])
    | succ n hB1690 =>
      intro y2 M H locs ls hP hD hS hl h
      have hB169 := hB1690
      rw [wX12_corner_169] at h
      refine lv_iload_n hx hb dX12_corner_169 rfl (lv_at hl 1 rfl) ?_
      refine lv_iconst (v := 2) hx hb dX12_corner_170 (by decide) ?_
      refine lv_aload_n hx hb dX12_corner_171 rfl (lv_at hl 0 rfl) ?_
      refine va_get (D := (dC, dI)) (ci := 12) (v := .int (mg M 7)) (C := RX12) (T := TX12) (N := 37) hx hb hts hin hown hK hP 0 rfl rfl 7 (by decide) f2 (fun _ h9 => h9) rfl dX12_corner_172 ?_
      refine lv_imul hx hb dX12_corner_175 ?_
      refine lv_icmp_ge (tgt := 200) hx hb dX12_corner_176 (by decide) (fun c1 => ?_) (fun c1 => ?_)
      · have h := h.1 c1
        refine lv_iconst (v := 0) hx hb dX12_corner_200 (by decide) ?_
        refine lv_istore_n (lv' := [(2, .int (0 : Int32)), (0, .ref h0)]) hx hb dX12_corner_201 rfl hl (by decide) rfl (fun ls hl => ?_)
        obtain ⟨n9, h⟩ := h
        exact b202  n9 (0 : Int32) M H locs ls hP hD hS (lv_sub hl [1, 0] rfl) h
      · have h := h.2 c1
        refine lv_aload_n hx hb dX12_corner_179 rfl (lv_at hl 0 rfl) ?_
        refine va_get (D := (dC, dI)) (ci := 12) (v := .ref (ad 25)) (C := RX12) (T := TX12) (N := 37) hx hb hts hin hown hK hP 0 rfl rfl 25 (by decide) f3 (fun _ h9 => h9) rfl dX12_corner_180 ?_
        refine lv_bipush (v := (20)) hx hb dX12_corner_183 (by decide) ?_
        refine lv_iload_n hx hb dX12_corner_185 rfl (lv_at hl 1 rfl) ?_
        refine lv_iadd hx hb dX12_corner_186 ?_
        refine lv_aload_n hx hb dX12_corner_187 rfl (lv_at hl 0 rfl) ?_
        refine va_get (D := (dC, dI)) (ci := 12) (v := .ref (ad 10)) (C := RX12) (T := TX12) (N := 37) hx hb hts hin hown hK hP 0 rfl rfl 10 (by decide) f5 (fun _ h9 => h9) rfl dX12_corner_188 ?_
        refine lv_iload_n hx hb dX12_corner_191 rfl (lv_at hl 1 rfl) ?_
        refine va_iald hx hb hK hP 6 1 (f := ma M 10) rfl rfl h.1 dX12_corner_192 ?_
        have h := h.2
        refine lv_topi (fun x2 ex2 => ?_)
        have h := h x2 ex2
        refine va_iast hx hb hK hP hD hS 12 1 (f := ma M 25) rfl rfl h.1 dX12_corner_193 (fun H locs hP hD hS => ?_)
        have h := h.2
        have hP := mP_a25 hP
        have hD := mD_a25 hD
        have h := h _ rfl
        generalize sa M 25 (Int32.toNatClampNeg ((20 : Int32) + y2)) x2 = M3 at hP hD h
        obtain ⟨x4, ex4⟩ : ∃ y : Int32, y = y2 + (1 : Int32) := ⟨_, rfl⟩
        have h := h x4 ex4
        refine lv_iinc (v := x4) (lv' := [(2, .int x4), (0, .ref h0)]) hx hb dX12_corner_194 hl (k := 1) rfl (by rw [ex4]; rfl) (by decide) rfl (fun ls hl => ?_)
        refine lv_goto (tgt := 169) hx hb dX12_corner_197 (by decide) ?_
        exact hB169 x4 M3 H locs ls hP hD hS (lv_sub hl [1, 0] rfl) h
  have b130 : ∀ (n : Nat) (y2 : Int32) (M : gS) (H : Heap) (locs : List Loc) (ls : Array Slot), va_P (dC, dI) vwCl (mW cB cI cJ cZ h0 ad M) H → va_D A (mW cB cI cJ cZ h0 ad M) → va_S A s.heap H locs → lv_has ls 3 [(0, .ref h0), (2, .int y2)] → wX12_corner_130  Q n y2 M → W p l e (headSpec wsX12_corner rmX12_corner).room s m ([.ref h0] : List Value).toArray below meth c H locs 0 0 (MQ below (va_Qi (fun (r : Int32) (u : gS) => Q r u) (mB dC dI cB cI cJ cZ h0 ad A) A) ([.ref h0] : List Value).toArray s 0 0 A) (F0 m 130 ls []) := by
    intro  n
    induction n with
    | zero => intro y2 M H locs ls hP hD hS hl h; exact absurd h (by simp [wX12_corner_130])
    | succ n hB1300 =>
      intro y2 M H locs ls hP hD hS hl h
      have hB130 := hB1300
      rw [wX12_corner_130] at h
      refine lv_iload_n hx hb dX12_corner_130 rfl (lv_at hl 1 rfl) ?_
      refine lv_iconst (v := 2) hx hb dX12_corner_131 (by decide) ?_
      refine lv_icmp_ge (tgt := 167) hx hb dX12_corner_132 (by decide) (fun c1 => ?_) (fun c1 => ?_)
      · have h := h.1 c1
        refine lv_iconst (v := 0) hx hb dX12_corner_167 (by decide) ?_
        refine lv_istore_n (lv' := [(2, .int (0 : Int32)), (0, .ref h0)]) hx hb dX12_corner_168 rfl hl (by decide) rfl (fun ls hl => ?_)
        obtain ⟨n9, h⟩ := h
        exact b169  n9 (0 : Int32) M H locs ls hP hD hS (lv_sub hl [1, 0] rfl) h
      · have h := h.2 c1
        refine lv_aload_n hx hb dX12_corner_135 rfl (lv_at hl 0 rfl) ?_
        refine va_get (D := (dC, dI)) (ci := 12) (v := .ref (ad 25)) (C := RX12) (T := TX12) (N := 37) hx hb hts hin hown hK hP 0 rfl rfl 25 (by decide) f3 (fun _ h9 => h9) rfl dX12_corner_136 ?_
        refine lv_bipush (v := (12)) hx hb dX12_corner_139 (by decide) ?_
        refine lv_iload_n hx hb dX12_corner_141 rfl (lv_at hl 1 rfl) ?_
        refine lv_iadd hx hb dX12_corner_142 ?_
        refine lv_aload_n hx hb dX12_corner_143 rfl (lv_at hl 0 rfl) ?_
        refine va_get (D := (dC, dI)) (ci := 12) (v := .ref (ad 12)) (C := RX12) (T := TX12) (N := 37) hx hb hts hin hown hK hP 0 rfl rfl 12 (by decide) f6 (fun _ h9 => h9) rfl dX12_corner_144 ?_
        refine lv_iload_n hx hb dX12_corner_147 rfl (lv_at hl 1 rfl) ?_
        refine va_iald hx hb hK hP 8 1 (f := ma M 12) rfl rfl h.1 dX12_corner_148 ?_
        have h := h.2
        refine lv_topi (fun x2 ex2 => ?_)
        have h := h x2 ex2
        refine va_iast hx hb hK hP hD hS 12 1 (f := ma M 25) rfl rfl h.1 dX12_corner_149 (fun H locs hP hD hS => ?_)
        have h := h.2
        have hP := mP_a25 hP
        have hD := mD_a25 hD
        have h := h _ rfl
        generalize sa M 25 (Int32.toNatClampNeg ((12 : Int32) + y2)) x2 = M3 at hP hD h
        refine lv_aload_n hx hb dX12_corner_150 rfl (lv_at hl 0 rfl) ?_
        refine va_get (D := (dC, dI)) (ci := 12) (v := .ref (ad 25)) (C := RX12) (T := TX12) (N := 37) hx hb hts hin hown hK hP 0 rfl rfl 25 (by decide) f3 (fun _ h9 => h9) rfl dX12_corner_151 ?_
        refine lv_bipush (v := (14)) hx hb dX12_corner_154 (by decide) ?_
        refine lv_iload_n hx hb dX12_corner_156 rfl (lv_at hl 1 rfl) ?_
        refine lv_iadd hx hb dX12_corner_157 ?_
        refine lv_bipush (v := (9)) hx hb dX12_corner_158 (by decide) ?_
        refine va_iast hx hb hK hP hD hS 12 1 (f := ma M3 25) rfl rfl h.1 dX12_corner_160 (fun H locs hP hD hS => ?_)
        have h := h.2
        have hP := mP_a25 hP
        have hD := mD_a25 hD
        have h := h _ rfl
        generalize sa M3 25 (Int32.toNatClampNeg ((14 : Int32) + y2)) (9 : Int32) = M4 at hP hD h
        obtain ⟨x5, ex5⟩ : ∃ y : Int32, y = y2 + (1 : Int32) := ⟨_, rfl⟩
        have h := h x5 ex5
        refine lv_iinc (v := x5) (lv' := [(2, .int x5), (0, .ref h0)]) hx hb dX12_corner_161 hl (k := 1) rfl (by rw [ex5]; rfl) (by decide) rfl (fun ls hl => ?_)
        refine lv_goto (tgt := 130) hx hb dX12_corner_164 (by decide) ?_
        exact hB130 x5 M4 H locs ls hP hD hS (lv_sub hl [1, 0] rfl) h
  have b119 : ∀ (y1 : Int32) (z1 : Int32) (z0 : Int32) (M : gS) (H : Heap) (locs : List Loc) (ls : Array Slot), va_P (dC, dI) vwCl (mW cB cI cJ cZ h0 ad M) H → va_D A (mW cB cI cJ cZ h0 ad M) → va_S A s.heap H locs → lv_has ls 3 [(0, .ref h0), (1, .int y1)] → wX12_corner_119  Q y1 z1 z0 M → W p l e (headSpec wsX12_corner rmX12_corner).room s m ([.ref h0] : List Value).toArray below meth c H locs 0 0 (MQ below (va_Qi (fun (r : Int32) (u : gS) => Q r u) (mB dC dI cB cI cJ cZ h0 ad A) A) ([.ref h0] : List Value).toArray s 0 0 A) (F0 m 119 ls [.int z0, .int z1, .ref (ad 25)]) := by
    intro  y1 z1 z0 M H locs ls hP hD hS hl h
    unfold wX12_corner_119 at h
    refine va_iast hx hb hK hP hD hS 12 1 (f := ma M 25) rfl rfl h.1 dX12_corner_119 (fun H locs hP hD hS => ?_)
    have h := h.2
    have hP := mP_a25 hP
    have hD := mD_a25 hD
    have h := h _ rfl
    generalize sa M 25 (Int32.toNatClampNeg z1) z0 = M1 at hP hD h
    refine lv_aload_n hx hb dX12_corner_120 rfl (lv_at hl 0 rfl) ?_
    refine va_get (D := (dC, dI)) (ci := 12) (v := .ref (ad 25)) (C := RX12) (T := TX12) (N := 37) hx hb hts hin hown hK hP 0 rfl rfl 25 (by decide) f3 (fun _ h9 => h9) rfl dX12_corner_121 ?_
    refine lv_bipush (v := (11)) hx hb dX12_corner_124 (by decide) ?_
    refine lv_iload_n hx hb dX12_corner_126 rfl (lv_at hl 1 rfl) ?_
    refine wc_iast (j := 11) hx hb hK hP hD hS 12 1 (f := ma M1 25) rfl rfl (by decide) (by decide) (by decide) dX12_corner_127 (fun H locs hP hD hS => ?_)
    have hP := mP_a25 hP
    have hD := mD_a25 hD
    have h := h _ rfl
    generalize sa M1 25 11 y1 = M2 at hP hD h
    refine lv_iconst (v := 0) hx hb dX12_corner_128 (by decide) ?_
    refine lv_istore_n (lv' := [(2, .int (0 : Int32)), (0, .ref h0), (1, .int y1)]) hx hb dX12_corner_129 rfl hl (by decide) rfl (fun ls hl => ?_)
    obtain ⟨n9, h⟩ := h
    exact b130  n9 (0 : Int32) M2 H locs ls hP hD hS (lv_sub hl [1, 0] rfl) h
  have b60 : ∀ (n : Nat) (y1 : Int32) (y2 : Int32) (M : gS) (H : Heap) (locs : List Loc) (ls : Array Slot), va_P (dC, dI) vwCl (mW cB cI cJ cZ h0 ad M) H → va_D A (mW cB cI cJ cZ h0 ad M) → va_S A s.heap H locs → lv_has ls 3 [(0, .ref h0), (1, .int y1), (2, .int y2)] → wX12_corner_60  Q n y1 y2 M → W p l e (headSpec wsX12_corner rmX12_corner).room s m ([.ref h0] : List Value).toArray below meth c H locs 0 0 (MQ below (va_Qi (fun (r : Int32) (u : gS) => Q r u) (mB dC dI cB cI cJ cZ h0 ad A) A) ([.ref h0] : List Value).toArray s 0 0 A) (F0 m 60 ls []) := by
    intro  n
    induction n with
    | zero => intro y1 y2 M H locs ls hP hD hS hl h; exact absurd h (by simp [wX12_corner_60])
    | succ n hB600 =>
      intro y1 y2 M H locs ls hP hD hS hl h
      have hB60 := hB600
      rw [wX12_corner_60] at h
      refine lv_iload_n hx hb dX12_corner_60 rfl (lv_at hl 2 rfl) ?_
      refine lv_bipush (v := (44)) hx hb dX12_corner_61 (by decide) ?_
      refine lv_icmp_ge (tgt := 79) hx hb dX12_corner_63 (by decide) (fun c1 => ?_) (fun c1 => ?_)
      · have h := h.1 c1
        refine lv_aload_n hx hb dX12_corner_79 rfl (lv_at hl 0 rfl) ?_
        refine va_get (D := (dC, dI)) (ci := 12) (v := .ref (ad 25)) (C := RX12) (T := TX12) (N := 37) hx hb hts hin hown hK hP 0 rfl rfl 25 (by decide) f3 (fun _ h9 => h9) rfl dX12_corner_80 ?_
        refine lv_iconst (v := 0) hx hb dX12_corner_83 (by decide) ?_
        refine lv_aload_n hx hb dX12_corner_84 rfl (lv_at hl 0 rfl) ?_
        refine va_get (D := (dC, dI)) (ci := 12) (v := .int (mg M 7)) (C := RX12) (T := TX12) (N := 37) hx hb hts hin hown hK hP 0 rfl rfl 7 (by decide) f2 (fun _ h9 => h9) rfl dX12_corner_85 ?_
        refine lv_topi (fun x2 ex2 => ?_)
        have h := h x2 ex2
        refine wc_iast (j := 0) hx hb hK hP hD hS 12 1 (f := ma M 25) rfl rfl (by decide) (by decide) (by decide) dX12_corner_88 (fun H locs hP hD hS => ?_)
        have hP := mP_a25 hP
        have hD := mD_a25 hD
        have h := h _ rfl
        generalize sa M 25 0 x2 = M3 at hP hD h
        refine lv_aload_n hx hb dX12_corner_89 rfl (lv_at hl 0 rfl) ?_
        refine va_get (D := (dC, dI)) (ci := 12) (v := .ref (ad 25)) (C := RX12) (T := TX12) (N := 37) hx hb hts hin hown hK hP 0 rfl rfl 25 (by decide) f3 (fun _ h9 => h9) rfl dX12_corner_90 ?_
        refine lv_iconst (v := 1) hx hb dX12_corner_93 (by decide) ?_
        refine lv_aload_n hx hb dX12_corner_94 rfl (lv_at hl 0 rfl) ?_
        refine va_get (D := (dC, dI)) (ci := 12) (v := .int (mg M3 8)) (C := RX12) (T := TX12) (N := 37) hx hb hts hin hown hK hP 0 rfl rfl 8 (by decide) f1 (fun _ h9 => h9) rfl dX12_corner_95 ?_
        refine lv_topi (fun x4 ex4 => ?_)
        have h := h x4 ex4
        refine wc_iast (j := 1) hx hb hK hP hD hS 12 1 (f := ma M3 25) rfl rfl (by decide) (by decide) (by decide) dX12_corner_98 (fun H locs hP hD hS => ?_)
        have hP := mP_a25 hP
        have hD := mD_a25 hD
        have h := h _ rfl
        generalize sa M3 25 1 x4 = M5 at hP hD h
        refine lv_aload_n hx hb dX12_corner_99 rfl (lv_at hl 0 rfl) ?_
        refine va_get (D := (dC, dI)) (ci := 12) (v := .ref (ad 25)) (C := RX12) (T := TX12) (N := 37) hx hb hts hin hown hK hP 0 rfl rfl 25 (by decide) f3 (fun _ h9 => h9) rfl dX12_corner_100 ?_
        refine lv_iconst (v := 2) hx hb dX12_corner_103 (by decide) ?_
        refine lv_aload_n hx hb dX12_corner_104 rfl (lv_at hl 0 rfl) ?_
        refine va_get (D := (dC, dI)) (ci := 12) (v := .int (mg M5 9)) (C := RX12) (T := TX12) (N := 37) hx hb hts hin hown hK hP 0 rfl rfl 9 (by decide) f7 (fun _ h9 => h9) rfl dX12_corner_105 ?_
        refine lv_if_ge (tgt := 115) hx hb dX12_corner_108 (by decide) (fun c6 => ?_) (fun c6 => ?_)
        · have h := h.1 c6
          refine lv_aload_n hx hb dX12_corner_115 rfl (lv_at hl 0 rfl) ?_
          refine va_get (D := (dC, dI)) (ci := 12) (v := .int (mg M5 9)) (C := RX12) (T := TX12) (N := 37) hx hb hts hin hown hK hP 0 rfl rfl 9 (by decide) f7 (fun _ h9 => h9) rfl dX12_corner_116 ?_
          exact b119  y1 (2 : Int32) (mg M5 9) M5 H locs ls hP hD hS (lv_sub hl [0, 1] rfl) h
        · have h := h.2 c6
          refine lv_iconst (v := 0) hx hb dX12_corner_111 (by decide) ?_
          refine lv_goto (tgt := 119) hx hb dX12_corner_112 (by decide) ?_
          exact b119  y1 (2 : Int32) (0 : Int32) M5 H locs ls hP hD hS (lv_sub hl [0, 1] rfl) h
      · have h := h.2 c1
        refine lv_aload_n hx hb dX12_corner_66 rfl (lv_at hl 0 rfl) ?_
        refine va_get (D := (dC, dI)) (ci := 12) (v := .ref (ad 25)) (C := RX12) (T := TX12) (N := 37) hx hb hts hin hown hK hP 0 rfl rfl 25 (by decide) f3 (fun _ h9 => h9) rfl dX12_corner_67 ?_
        refine lv_iload_n hx hb dX12_corner_70 rfl (lv_at hl 2 rfl) ?_
        refine lv_iconst (v := 0) hx hb dX12_corner_71 (by decide) ?_
        refine va_iast hx hb hK hP hD hS 12 1 (f := ma M 25) rfl rfl h.1 dX12_corner_72 (fun H locs hP hD hS => ?_)
        have h := h.2
        have hP := mP_a25 hP
        have hD := mD_a25 hD
        have h := h _ rfl
        generalize sa M 25 (Int32.toNatClampNeg y2) (0 : Int32) = M7 at hP hD h
        obtain ⟨x8, ex8⟩ : ∃ y : Int32, y = y2 + (1 : Int32) := ⟨_, rfl⟩
        have h := h x8 ex8
        refine lv_iinc (v := x8) (lv' := [(2, .int x8), (0, .ref h0), (1, .int y1)]) hx hb dX12_corner_73 hl (k := 2) rfl (by rw [ex8]; rfl) (by decide) rfl (fun ls hl => ?_)
        refine lv_goto (tgt := 60) hx hb dX12_corner_76 (by decide) ?_
        exact hB60 y1 x8 M7 H locs ls hP hD hS (lv_sub hl [1, 2, 0] rfl) h
  have bE : ∀ (M : gS) (H : Heap) (locs : List Loc) (ls : Array Slot), va_P (dC, dI) vwCl (mW cB cI cJ cZ h0 ad M) H → va_D A (mW cB cI cJ cZ h0 ad M) → va_S A s.heap H locs → lv_has ls 3 [(0, .ref h0)] → wX12_corner  M Q → W p l e (headSpec wsX12_corner rmX12_corner).room s m ([.ref h0] : List Value).toArray below meth c H locs 0 0 (MQ below (va_Qi (fun (r : Int32) (u : gS) => Q r u) (mB dC dI cB cI cJ cZ h0 ad A) A) ([.ref h0] : List Value).toArray s 0 0 A) (F0 m 0 ls []) := by
    intro M H locs ls hP hD hS hl h
    unfold wX12_corner at h
    refine lv_aload_n hx hb dX12_corner_0 rfl (lv_at hl 0 rfl) ?_
    refine lv_bipush (v := (6)) hx hb dX12_corner_1 (by decide) ?_
    refine va_put (D := (dC, dI)) (ci := 12) (v := .int (6 : Int32)) (ty := .int) (C := RX12) (T := TX12) (N := 37) hx hb hts hin tyX12 tyX12_ok nmX12 hown hK hP hD hS 0 rfl rfl 16 (by decide) f8 (fun _ h9 => h9) rfl (by decide +kernel) rfl rfl (Nat.le_of_ble_eq_true rfl) dX12_corner_3 (fun H locs hP hD hS => ?_)
    have hP := mP_f16 hP
    have hD := mD_f16 hD
    have h := h _ rfl
    generalize sg M 16 (6 : Int32) = M1 at hP hD h
    refine lv_aload_n hx hb dX12_corner_6 rfl (lv_at hl 0 rfl) ?_
    refine lv_iconst (v := 0) hx hb dX12_corner_7 (by decide) ?_
    refine va_put (D := (dC, dI)) (ci := 12) (v := .int (0 : Int32)) (ty := .int) (C := RX12) (T := TX12) (N := 37) hx hb hts hin tyX12 tyX12_ok nmX12 hown hK hP hD hS 0 rfl rfl 7 (by decide) f2 (fun _ h9 => h9) rfl (by decide +kernel) rfl rfl (Nat.le_of_ble_eq_true rfl) dX12_corner_8 (fun H locs hP hD hS => ?_)
    have hP := mP_f7 hP
    have hD := mD_f7 hD
    have h := h _ rfl
    generalize sg M1 7 (0 : Int32) = M2 at hP hD h
    refine lv_aload_n hx hb dX12_corner_11 rfl (lv_at hl 0 rfl) ?_
    refine lv_iconst (v := 0) hx hb dX12_corner_12 (by decide) ?_
    refine va_put (D := (dC, dI)) (ci := 12) (v := .int (0 : Int32)) (ty := .int) (C := RX12) (T := TX12) (N := 37) hx hb hts hin tyX12 tyX12_ok nmX12 hown hK hP hD hS 0 rfl rfl 8 (by decide) f1 (fun _ h9 => h9) rfl (by decide +kernel) rfl rfl (Nat.le_of_ble_eq_true rfl) dX12_corner_13 (fun H locs hP hD hS => ?_)
    have hP := mP_f8 hP
    have hD := mD_f8 hD
    have h := h _ rfl
    generalize sg M2 8 (0 : Int32) = M3 at hP hD h
    refine lv_aload_n hx hb dX12_corner_16 rfl (lv_at hl 0 rfl) ?_
    refine lv_iconst (v := (-1)) hx hb dX12_corner_17 (by decide) ?_
    refine va_put (D := (dC, dI)) (ci := 12) (v := .int (-1 : Int32)) (ty := .int) (C := RX12) (T := TX12) (N := 37) hx hb hts hin tyX12 tyX12_ok nmX12 hown hK hP hD hS 0 rfl rfl 9 (by decide) f7 (fun _ h9 => h9) rfl (by decide +kernel) rfl rfl (Nat.le_of_ble_eq_true rfl) dX12_corner_18 (fun H locs hP hD hS => ?_)
    have hP := mP_f9 hP
    have hD := mD_f9 hD
    have h := h _ rfl
    generalize sg M3 9 (-1 : Int32) = M4 at hP hD h
    refine lv_aload_n hx hb dX12_corner_21 rfl (lv_at hl 0 rfl) ?_
    refine va_get (D := (dC, dI)) (ci := 12) (v := .ref (ad 12)) (C := RX12) (T := TX12) (N := 37) hx hb hts hin hown hK hP 0 rfl rfl 12 (by decide) f6 (fun _ h9 => h9) rfl dX12_corner_22 ?_
    refine lv_iconst (v := 0) hx hb dX12_corner_25 (by decide) ?_
    refine lv_iconst (v := 0) hx hb dX12_corner_26 (by decide) ?_
    refine wc_iast (j := 0) hx hb hK hP hD hS 8 1 (f := ma M4 12) rfl rfl (by decide) (by decide) (by decide) dX12_corner_27 (fun H locs hP hD hS => ?_)
    have hP := mP_a12 hP
    have hD := mD_a12 hD
    have h := h _ rfl
    generalize sa M4 12 0 (0 : Int32) = M5 at hP hD h
    refine lv_aload_n hx hb dX12_corner_28 rfl (lv_at hl 0 rfl) ?_
    refine va_get (D := (dC, dI)) (ci := 12) (v := .ref (ad 12)) (C := RX12) (T := TX12) (N := 37) hx hb hts hin hown hK hP 0 rfl rfl 12 (by decide) f6 (fun _ h9 => h9) rfl dX12_corner_29 ?_
    refine lv_iconst (v := 1) hx hb dX12_corner_32 (by decide) ?_
    refine lv_iconst (v := 0) hx hb dX12_corner_33 (by decide) ?_
    refine wc_iast (j := 1) hx hb hK hP hD hS 8 1 (f := ma M5 12) rfl rfl (by decide) (by decide) (by decide) dX12_corner_34 (fun H locs hP hD hS => ?_)
    have hP := mP_a12 hP
    have hD := mD_a12 hD
    have h := h _ rfl
    generalize sa M5 12 1 (0 : Int32) = M6 at hP hD h
    refine lv_aload_n hx hb dX12_corner_35 rfl (lv_at hl 0 rfl) ?_
    have hFc := gs_free hD hS hA
    refine va_calli (va_runV (As := []) (rest := []) ⟨hx, hb, hml, hown, hts⟩ (kX12_readsAll l dC dI cB cI cJ cZ h0 ad H.size  M6 _ h) (cwV 0 hts gX12_corner_X12_readsAll rfl rfl rfl (by decide +kernel) ⟨Nat.le_of_ble_eq_true rfl, Nat.le_of_ble_eq_true rfl⟩) (mpV hK hP hD) rfl rfl hl.1 rfl (lv_room (Nat.le_of_ble_eq_true rfl)) dX12_corner_36 ⟨Nat.le_of_ble_eq_true rfl, Nat.le_of_ble_eq_true rfl⟩) hS (fun q _ z => hFc q z) hFc (fun r7 M8 t H1 locs ht hvm hw hB hz1 hk1 hS => ?_)
    obtain ⟨hP, hD⟩ := gs_back ht hFc hB
    generalize H1 = H at hP hS ⊢
    obtain ⟨b9, rfl, h⟩ := hw
    try dsimp only at h
    refine lv_if_ne (tgt := 50) hx hb dX12_corner_39 (by decide) (fun c10 => ?_) (fun c10 => ?_)
    · have h := h.2 c10
      refine lv_aload_n hx hb dX12_corner_50 rfl (lv_at hl 0 rfl) ?_
      refine va_get (D := (dC, dI)) (ci := 12) (v := .ref (ad 25)) (C := RX12) (T := TX12) (N := 37) hx hb hts hin hown hK hP 0 rfl rfl 25 (by decide) f3 (fun _ h9 => h9) rfl dX12_corner_51 ?_
      refine lv_bipush (v := (11)) hx hb dX12_corner_54 (by decide) ?_
      refine wc_iald (j := 11) hx hb hK hP 12 1 (f := ma M8 25) rfl rfl (by decide) (by decide) (by decide) dX12_corner_56 ?_
      refine lv_topi (fun x11 ex11 => ?_)
      have h := h x11 ex11
      refine lv_istore_n (lv' := [(1, .int x11), (0, .ref h0)]) hx hb dX12_corner_57 rfl hl (by decide) rfl (fun ls hl => ?_)
      refine lv_iconst (v := 0) hx hb dX12_corner_58 (by decide) ?_
      refine lv_istore_n (lv' := [(2, .int (0 : Int32)), (1, .int x11), (0, .ref h0)]) hx hb dX12_corner_59 rfl hl (by decide) rfl (fun ls hl => ?_)
      obtain ⟨n9, h⟩ := h
      exact b60  n9 x11 (0 : Int32) M8 H locs ls hP hD hS (lv_sub hl [2, 1, 0] rfl) h
    · have h := h.1 c10
      refine lv_bipush (v := (-2)) hx hb dX12_corner_42 (by decide) ?_
      refine lv_aload_n hx hb dX12_corner_44 rfl (lv_at hl 0 rfl) ?_
      refine va_get (D := (dC, dI)) (ci := 12) (v := .int (mg M8 14)) (C := RX12) (T := TX12) (N := 37) hx hb hts hin hown hK hP 0 rfl rfl 14 (by decide) f9 (fun _ h9 => h9) rfl dX12_corner_45 ?_
      refine lv_isub hx hb dX12_corner_48 ?_
      exact W.iret (v := ((-2 : Int32) - (mg M8 14))) hx hb hr (fun t ht hW => ⟨⟨_, M8, rfl, h, by rw [ht]; exact hP, va_K.moved hW.alike hK, hD⟩, hS.F ht⟩) hS.2.2 dX12_corner_49
  have hl := lv_entry ([.ref h0]) (n := 3) (Nat.le_of_ble_eq_true rfl)
  rw [lg_entry_eq]
  generalize (lg_sl ([.ref h0]) ++ List.replicate (3 - (lg_sl ([.ref h0])).length) Slot.unset).toArray = ls at hl ⊢
  have hl : lv_has ls 3 [(0, .ref h0)] := hl
  exact bE M s.heap [] ls hP hD hS hl h
def wX12_isRule (p1 : Int32) (M : gS) (Q : Bool → gS → Prop) : Prop :=
 ((p1 < 0 → (Q false M))
 ∧ (¬ p1 < 0 → (((mg M 2) ≤ p1 → (Q false M))
 ∧ (¬ (mg M 2) ≤ p1 → (Q true M)))))
def rmX12_isRule : Room := { frames := 0, cells := 0, slots := 0, locals := 0 }
set_option maxHeartbeats 4000000 in
set_option maxRecDepth 100000 in
theorem kX12_isRule (l : Launch) (dC : Nat → ClassId) (dI : Nat → Nat → Nat) (cB cI cJ cZ : ClassId) (h0 : Nat) (ad : Nat → Nat) (sz : Nat) (p1 : Int32) (M : gS) (Q : Bool → gS → Prop) (h : wX12_isRule p1 M Q) : Met l yX12_isRule wsX12_isRule rmX12_isRule (va_Pc [.ref h0, .int p1] (mI dC dI cB cI cJ cZ h0 ad M sz)) (va_Qi (fun (r : Int32) (u : gS) => ∃ b : Bool, r = bI b ∧ Q b u) (mB dC dI cB cI cJ cZ h0 ad (va_A (mW cB cI cJ cZ h0 ad M) sz)) (va_A (mW cB cI cJ cZ h0 ad M) sz)) 0 0 (va_A (mW cB cI cJ cZ h0 ad M) sz) := by
  refine Met.ofW (cc := cX12_isRule) (maxL := 2) (ret := (some .boolean)) (by decide) rfl ?_
  intro p e s m args below meth c s₁ B hml hv
  obtain ⟨rfl, hsz, hP, hK, hD0⟩ := hv
  have hx := B.exec
  have hb := B.bytes
  have hr := B.returns
  have hts := atoms_spec (ws := wsX12_isRule) B.pre
  have hown : s.vm.findClass RX12 = some m.cls := findClass_of_methodNamed B.named
  have hlocks := B.notSynchronized
  subst hsz
  have hD := hD0.self (sz := s.heap.size)
  generalize hAe : va_A (mW cB cI cJ cZ h0 ad M) s.heap.size = A at hD ⊢
  have hA : ∀ q : Nat, s.heap.size ≤ q → A q := fun q h => by rw [← hAe]; exact Or.inr h
  have hS : va_S A s.heap s.heap [] := va_S.rf
  have hin : ∀ w ∈ wsX120, w ∈ wsX12_isRule := fun w h => List.mem_cons_of_mem _ (List.mem_append_right _ h)
  have f1 := hts (.fieldLink RX12 256 "LastWordsModel" "rules" "I") (by decide +kernel)
  have bE : ∀ (M : gS) (H : Heap) (locs : List Loc) (ls : Array Slot), va_P (dC, dI) vwCl (mW cB cI cJ cZ h0 ad M) H → va_D A (mW cB cI cJ cZ h0 ad M) → va_S A s.heap H locs → lv_has ls 2 [(0, .ref h0), (1, .int p1)] → wX12_isRule p1 M Q → W p l e (headSpec wsX12_isRule rmX12_isRule).room s m ([.ref h0, .int p1] : List Value).toArray below meth c H locs 0 0 (MQ below (va_Qi (fun (r : Int32) (u : gS) => ∃ b : Bool, r = bI b ∧ Q b u) (mB dC dI cB cI cJ cZ h0 ad A) A) ([.ref h0, .int p1] : List Value).toArray s 0 0 A) (F0 m 0 ls []) := by
    intro M H locs ls hP hD hS hl h
    unfold wX12_isRule at h
    refine lv_iload_n hx hb dX12_isRule_0 rfl (lv_at hl 1 rfl) ?_
    refine lv_if_lt (tgt := 16) hx hb dX12_isRule_1 (by decide) (fun c1 => ?_) (fun c1 => ?_)
    · have h := h.1 c1
      refine lv_iconst (v := 0) hx hb dX12_isRule_16 (by decide) ?_
      exact W.zret (v := (bI false)) hx hb hr (nar_bI false) (fun t ht hW => ⟨⟨_, M, rfl, ⟨false, rfl, h⟩, by rw [ht]; exact hP, va_K.moved hW.alike hK, hD⟩, hS.F ht⟩) hS.2.2 dX12_isRule_17
    · have h := h.2 c1
      refine lv_iload_n hx hb dX12_isRule_4 rfl (lv_at hl 1 rfl) ?_
      refine lv_aload_n hx hb dX12_isRule_5 rfl (lv_at hl 0 rfl) ?_
      refine va_get (D := (dC, dI)) (ci := 12) (v := .int (mg M 2)) (C := RX12) (T := TX12) (N := 37) hx hb hts hin hown hK hP 0 rfl rfl 2 (by decide) f1 (fun _ h9 => h9) rfl dX12_isRule_6 ?_
      refine lv_icmp_ge (tgt := 16) hx hb dX12_isRule_9 (by decide) (fun c2 => ?_) (fun c2 => ?_)
      · have h := h.1 c2
        refine lv_iconst (v := 0) hx hb dX12_isRule_16 (by decide) ?_
        exact W.zret (v := (bI false)) hx hb hr (nar_bI false) (fun t ht hW => ⟨⟨_, M, rfl, ⟨false, rfl, h⟩, by rw [ht]; exact hP, va_K.moved hW.alike hK, hD⟩, hS.F ht⟩) hS.2.2 dX12_isRule_17
      · have h := h.2 c2
        refine lv_iconst (v := 1) hx hb dX12_isRule_12 (by decide) ?_
        refine lv_goto (tgt := 17) hx hb dX12_isRule_13 (by decide) ?_
        exact W.zret (v := (bI true)) hx hb hr (nar_bI true) (fun t ht hW => ⟨⟨_, M, rfl, ⟨true, rfl, h⟩, by rw [ht]; exact hP, va_K.moved hW.alike hK, hD⟩, hS.F ht⟩) hS.2.2 dX12_isRule_17
  have hl := lv_entry ([.ref h0, .int p1]) (n := 2) (Nat.le_of_ble_eq_true rfl)
  rw [lg_entry_eq]
  generalize (lg_sl ([.ref h0, .int p1]) ++ List.replicate (2 - (lg_sl ([.ref h0, .int p1])).length) Slot.unset).toArray = ls at hl ⊢
  have hl : lv_has ls 2 [(0, .ref h0), (1, .int p1)] := hl
  exact bE M s.heap [] ls hP hD hS hl h
def wX12_push (p1 : Int64) (M : gS) (Q : gS → Prop) : Prop :=
 (vp_in (mg M 23) 64 ∧ (∀ M1 : gS, M1 = sl M 22 (Int32.toNatClampNeg (mg M 23)) p1 → (∀ x2 : Int32, x2 = ((mg M1 23) + (1 : Int32)) → (∀ M3 : gS, M3 = sg M1 23 x2 → (Q M3)))))
def rmX12_push : Room := { frames := 0, cells := 0, slots := 0, locals := 0 }
set_option maxHeartbeats 4000000 in
set_option maxRecDepth 100000 in
theorem kX12_push (l : Launch) (dC : Nat → ClassId) (dI : Nat → Nat → Nat) (cB cI cJ cZ : ClassId) (h0 : Nat) (ad : Nat → Nat) (sz : Nat) (p1 : Int64) (M : gS) (Q : gS → Prop) (h : wX12_push p1 M Q) : Met l yX12_push wsX12_push rmX12_push (va_Pc [.ref h0, .long p1] (mI dC dI cB cI cJ cZ h0 ad M sz)) (va_Qv (fun (u : gS) => Q u) (mB dC dI cB cI cJ cZ h0 ad (va_A (mW cB cI cJ cZ h0 ad M) sz)) (va_A (mW cB cI cJ cZ h0 ad M) sz)) 0 0 (va_A (mW cB cI cJ cZ h0 ad M) sz) := by
  refine Met.ofW (cc := cX12_push) (maxL := 3) (ret := none) (by decide) rfl ?_
  intro p e s m args below meth c s₁ B hml hv
  obtain ⟨rfl, hsz, hP, hK, hD0⟩ := hv
  have hx := B.exec
  have hb := B.bytes
  have hr := B.returns
  have hts := atoms_spec (ws := wsX12_push) B.pre
  have hown : s.vm.findClass RX12 = some m.cls := findClass_of_methodNamed B.named
  have hlocks := B.notSynchronized
  subst hsz
  have hD := hD0.self (sz := s.heap.size)
  generalize hAe : va_A (mW cB cI cJ cZ h0 ad M) s.heap.size = A at hD ⊢
  have hA : ∀ q : Nat, s.heap.size ≤ q → A q := fun q h => by rw [← hAe]; exact Or.inr h
  have hS : va_S A s.heap s.heap [] := va_S.rf
  have hin : ∀ w ∈ wsX120, w ∈ wsX12_push := fun w h => List.mem_cons_of_mem _ (List.mem_append_right _ h)
  have f1 := hts (.fieldLink RX12 38 "LastWordsModel" "stack" "[J") (by decide +kernel)
  have f2 := hts (.fieldLink RX12 262 "LastWordsModel" "top" "I") (by decide +kernel)
  have bE : ∀ (M : gS) (H : Heap) (locs : List Loc) (ls : Array Slot), va_P (dC, dI) vwCl (mW cB cI cJ cZ h0 ad M) H → va_D A (mW cB cI cJ cZ h0 ad M) → va_S A s.heap H locs → lv_has ls 3 [(0, .ref h0), (1, .long p1)] → wX12_push p1 M Q → W p l e (headSpec wsX12_push rmX12_push).room s m ([.ref h0, .long p1] : List Value).toArray below meth c H locs 0 0 (MQ below (va_Qv (fun (u : gS) => Q u) (mB dC dI cB cI cJ cZ h0 ad A) A) ([.ref h0, .long p1] : List Value).toArray s 0 0 A) (F0 m 0 ls []) := by
    intro M H locs ls hP hD hS hl h
    unfold wX12_push at h
    refine lv_aload_n hx hb dX12_push_0 rfl (lv_at hl 0 rfl) ?_
    refine va_get (D := (dC, dI)) (ci := 12) (v := .ref (ad 22)) (C := RX12) (T := TX12) (N := 37) hx hb hts hin hown hK hP 0 rfl rfl 22 (by decide) f1 (fun _ h9 => h9) rfl dX12_push_1 ?_
    refine lv_aload_n hx hb dX12_push_4 rfl (lv_at hl 0 rfl) ?_
    refine va_get (D := (dC, dI)) (ci := 12) (v := .int (mg M 23)) (C := RX12) (T := TX12) (N := 37) hx hb hts hin hown hK hP 0 rfl rfl 23 (by decide) f2 (fun _ h9 => h9) rfl dX12_push_5 ?_
    refine lv_lload_n hx hb dX12_push_8 rfl (lv_at hl 1 rfl) ?_
    refine va_last hx hb hK hP hD hS 10 2 (f := ml M 22) rfl rfl h.1 dX12_push_9 (fun H locs hP hD hS => ?_)
    have h := h.2
    have hP := mP_a22 hP
    have hD := mD_a22 hD
    have h := h _ rfl
    generalize sl M 22 (Int32.toNatClampNeg (mg M 23)) p1 = M1 at hP hD h
    refine lv_aload_n hx hb dX12_push_10 rfl (lv_at hl 0 rfl) ?_
    refine lv_dup hx hb dX12_push_11 rfl ?_
    refine va_get (D := (dC, dI)) (ci := 12) (v := .int (mg M1 23)) (C := RX12) (T := TX12) (N := 37) hx hb hts hin hown hK hP 0 rfl rfl 23 (by decide) f2 (fun _ h9 => h9) rfl dX12_push_12 ?_
    refine lv_iconst (v := 1) hx hb dX12_push_15 (by decide) ?_
    refine lv_iadd hx hb dX12_push_16 ?_
    refine lv_topi (fun x2 ex2 => ?_)
    have h := h x2 ex2
    refine va_put (D := (dC, dI)) (ci := 12) (v := .int x2) (ty := .int) (C := RX12) (T := TX12) (N := 37) hx hb hts hin tyX12 tyX12_ok nmX12 hown hK hP hD hS 0 rfl rfl 23 (by decide) f2 (fun _ h9 => h9) rfl (by decide +kernel) rfl rfl (Nat.le_of_ble_eq_true rfl) dX12_push_17 (fun H locs hP hD hS => ?_)
    have hP := mP_f23 hP
    have hD := mD_f23 hD
    have h := h _ rfl
    generalize sg M1 23 x2 = M3 at hP hD h
    exact W.vret hx hb hr (fun t ht hW => ⟨⟨M3, rfl, h, by rw [ht]; exact hP, va_K.moved hW.alike hK, hD⟩, hS.F ht⟩) hS.2.2 dX12_push_20
  have hl := lv_entry ([.ref h0, .long p1]) (n := 3) (Nat.le_of_ble_eq_true rfl)
  rw [lg_entry_eq]
  generalize (lg_sl ([.ref h0, .long p1]) ++ List.replicate (3 - (lg_sl ([.ref h0, .long p1])).length) Slot.unset).toArray = ls at hl ⊢
  have hl : lv_has ls 3 [(0, .ref h0), (1, .long p1)] := hl
  exact bE M s.heap [] ls hP hD hS hl h
def wX12_pop  (M : gS) (Q : Int64 → gS → Prop) : Prop :=
 (∀ x1 : Int32, x1 = ((mg M 23) - (1 : Int32)) → (∀ M2 : gS, M2 = sg M 23 x1 → (vp_in (mg M2 23) 64 ∧ (Q (ml M2 22 (Int32.toNatClampNeg (mg M2 23))) M2))))
def rmX12_pop : Room := { frames := 0, cells := 0, slots := 0, locals := 0 }
set_option maxHeartbeats 4000000 in
set_option maxRecDepth 100000 in
theorem kX12_pop (l : Launch) (dC : Nat → ClassId) (dI : Nat → Nat → Nat) (cB cI cJ cZ : ClassId) (h0 : Nat) (ad : Nat → Nat) (sz : Nat)  (M : gS) (Q : Int64 → gS → Prop) (h : wX12_pop  M Q) : Met l yX12_pop wsX12_pop rmX12_pop (va_Pc [.ref h0] (mI dC dI cB cI cJ cZ h0 ad M sz)) (va_Ql (fun (r : Int64) (u : gS) => Q r u) (mB dC dI cB cI cJ cZ h0 ad (va_A (mW cB cI cJ cZ h0 ad M) sz)) (va_A (mW cB cI cJ cZ h0 ad M) sz)) 0 0 (va_A (mW cB cI cJ cZ h0 ad M) sz) := by
  refine Met.ofW (cc := cX12_pop) (maxL := 1) (ret := (some .long)) (by decide) rfl ?_
  intro p e s m args below meth c s₁ B hml hv
  obtain ⟨rfl, hsz, hP, hK, hD0⟩ := hv
  have hx := B.exec
  have hb := B.bytes
  have hr := B.returns
  have hts := atoms_spec (ws := wsX12_pop) B.pre
  have hown : s.vm.findClass RX12 = some m.cls := findClass_of_methodNamed B.named
  have hlocks := B.notSynchronized
  subst hsz
  have hD := hD0.self (sz := s.heap.size)
  generalize hAe : va_A (mW cB cI cJ cZ h0 ad M) s.heap.size = A at hD ⊢
  have hA : ∀ q : Nat, s.heap.size ≤ q → A q := fun q h => by rw [← hAe]; exact Or.inr h
  have hS : va_S A s.heap s.heap [] := va_S.rf
  have hin : ∀ w ∈ wsX120, w ∈ wsX12_pop := fun w h => List.mem_cons_of_mem _ (List.mem_append_right _ h)
  have f1 := hts (.fieldLink RX12 262 "LastWordsModel" "top" "I") (by decide +kernel)
  have f2 := hts (.fieldLink RX12 38 "LastWordsModel" "stack" "[J") (by decide +kernel)
  have bE : ∀ (M : gS) (H : Heap) (locs : List Loc) (ls : Array Slot), va_P (dC, dI) vwCl (mW cB cI cJ cZ h0 ad M) H → va_D A (mW cB cI cJ cZ h0 ad M) → va_S A s.heap H locs → lv_has ls 1 [(0, .ref h0)] → wX12_pop  M Q → W p l e (headSpec wsX12_pop rmX12_pop).room s m ([.ref h0] : List Value).toArray below meth c H locs 0 0 (MQ below (va_Ql (fun (r : Int64) (u : gS) => Q r u) (mB dC dI cB cI cJ cZ h0 ad A) A) ([.ref h0] : List Value).toArray s 0 0 A) (F0 m 0 ls []) := by
    intro M H locs ls hP hD hS hl h
    unfold wX12_pop at h
    refine lv_aload_n hx hb dX12_pop_0 rfl (lv_at hl 0 rfl) ?_
    refine lv_dup hx hb dX12_pop_1 rfl ?_
    refine va_get (D := (dC, dI)) (ci := 12) (v := .int (mg M 23)) (C := RX12) (T := TX12) (N := 37) hx hb hts hin hown hK hP 0 rfl rfl 23 (by decide) f1 (fun _ h9 => h9) rfl dX12_pop_2 ?_
    refine lv_iconst (v := 1) hx hb dX12_pop_5 (by decide) ?_
    refine lv_isub hx hb dX12_pop_6 ?_
    refine lv_topi (fun x1 ex1 => ?_)
    have h := h x1 ex1
    refine va_put (D := (dC, dI)) (ci := 12) (v := .int x1) (ty := .int) (C := RX12) (T := TX12) (N := 37) hx hb hts hin tyX12 tyX12_ok nmX12 hown hK hP hD hS 0 rfl rfl 23 (by decide) f1 (fun _ h9 => h9) rfl (by decide +kernel) rfl rfl (Nat.le_of_ble_eq_true rfl) dX12_pop_7 (fun H locs hP hD hS => ?_)
    have hP := mP_f23 hP
    have hD := mD_f23 hD
    have h := h _ rfl
    generalize sg M 23 x1 = M2 at hP hD h
    refine lv_aload_n hx hb dX12_pop_10 rfl (lv_at hl 0 rfl) ?_
    refine va_get (D := (dC, dI)) (ci := 12) (v := .ref (ad 22)) (C := RX12) (T := TX12) (N := 37) hx hb hts hin hown hK hP 0 rfl rfl 22 (by decide) f2 (fun _ h9 => h9) rfl dX12_pop_11 ?_
    refine lv_aload_n hx hb dX12_pop_14 rfl (lv_at hl 0 rfl) ?_
    refine va_get (D := (dC, dI)) (ci := 12) (v := .int (mg M2 23)) (C := RX12) (T := TX12) (N := 37) hx hb hts hin hown hK hP 0 rfl rfl 23 (by decide) f1 (fun _ h9 => h9) rfl dX12_pop_15 ?_
    refine va_lald hx hb hK hP 10 2 (f := ml M2 22) rfl rfl h.1 dX12_pop_18 ?_
    have h := h.2
    exact W.lret (v := (ml M2 22 (Int32.toNatClampNeg (mg M2 23)))) hx hb hr (fun t ht hW => ⟨⟨_, M2, rfl, h, by rw [ht]; exact hP, va_K.moved hW.alike hK, hD⟩, hS.F ht⟩) hS.2.2 dX12_pop_19
  have hl := lv_entry ([.ref h0]) (n := 1) (Nat.le_of_ble_eq_true rfl)
  rw [lg_entry_eq]
  generalize (lg_sl ([.ref h0]) ++ List.replicate (1 - (lg_sl ([.ref h0])).length) Slot.unset).toArray = ls at hl ⊢
  have hl : lv_has ls 1 [(0, .ref h0)] := hl
  exact bE M s.heap [] ls hP hD hS hl h
def wX12_one (p1 : Int32) (p2 : Int64) (p3 : Int64) (M : gS) (Q : Int64 → gS → Prop) : Prop :=
 ((p1 = (2 : Int32) → (Q (p2 + p3) M))
 ∧ (¬ p1 = (2 : Int32) → ((p1 = (3 : Int32) → (Q (p2 - p3) M))
 ∧ (¬ p1 = (3 : Int32) → ((p1 = (4 : Int32) → (Q (p2 * p3) M))
 ∧ (¬ p1 = (4 : Int32) → ((p1 = (5 : Int32) → (((lg_cmp p3 (0 : Int64)) = 0 → (Q (0 : Int64) M))
 ∧ (¬ (lg_cmp p3 (0 : Int64)) = 0 → (¬ p3 = 0 ∧ (Q (p2 / p3) M)))))
 ∧ (¬ p1 = (5 : Int32) → ((p1 = (6 : Int32) → ((0 ≤ (lg_cmp p2 p3) → (Q (0 : Int64) M))
 ∧ (¬ 0 ≤ (lg_cmp p2 p3) → (Q (1 : Int64) M))))
 ∧ (¬ p1 = (6 : Int32) → ((p1 = (7 : Int32) → ((0 < (lg_cmp p2 p3) → (Q (0 : Int64) M))
 ∧ (¬ 0 < (lg_cmp p2 p3) → (Q (1 : Int64) M))))
 ∧ (¬ p1 = (7 : Int32) → ((p1 = (8 : Int32) → (((lg_cmp p2 p3) = 0 → (Q (1 : Int64) M))
 ∧ (¬ (lg_cmp p2 p3) = 0 → (Q (0 : Int64) M))))
 ∧ (¬ p1 = (8 : Int32) → ((p1 = (9 : Int32) → (((lg_cmp p2 p3) < 0 → (Q (0 : Int64) M))
 ∧ (¬ (lg_cmp p2 p3) < 0 → (Q (1 : Int64) M))))
 ∧ (¬ p1 = (9 : Int32) → ((p1 = (10 : Int32) → (((lg_cmp p2 p3) ≤ 0 → (Q (0 : Int64) M))
 ∧ (¬ (lg_cmp p2 p3) ≤ 0 → (Q (1 : Int64) M))))
 ∧ (¬ p1 = (10 : Int32) → ((p1 = (11 : Int32) → (Q (p2 ||| p3) M))
 ∧ (¬ p1 = (11 : Int32) → ((p1 = (12 : Int32) → (Q (p2 &&& p3) M))
 ∧ (¬ p1 = (12 : Int32) → (Q (p2 ||| p3) M)))))))))))))))))))))))
def rmX12_one : Room := { frames := 0, cells := 0, slots := 0, locals := 0 }
set_option maxHeartbeats 4000000 in
set_option maxRecDepth 100000 in
theorem kX12_one (l : Launch) (dC : Nat → ClassId) (dI : Nat → Nat → Nat) (cB cI cJ cZ : ClassId) (h0 : Nat) (ad : Nat → Nat) (sz : Nat) (p1 : Int32) (p2 : Int64) (p3 : Int64) (M : gS) (Q : Int64 → gS → Prop) (h : wX12_one p1 p2 p3 M Q) : Met l yX12_one wsX12_one rmX12_one (va_Pc [.int p1, .long p2, .long p3] (mI dC dI cB cI cJ cZ h0 ad M sz)) (va_Ql (fun (r : Int64) (u : gS) => Q r u) (mB dC dI cB cI cJ cZ h0 ad (va_A (mW cB cI cJ cZ h0 ad M) sz)) (va_A (mW cB cI cJ cZ h0 ad M) sz)) 0 0 (va_A (mW cB cI cJ cZ h0 ad M) sz) := by
  refine Met.ofW (cc := cX12_one) (maxL := 5) (ret := (some .long)) (by decide) rfl ?_
  intro p e s m args below meth c s₁ B hml hv
  obtain ⟨rfl, hsz, hP, hK, hD0⟩ := hv
  have hx := B.exec
  have hb := B.bytes
  have hr := B.returns
  have hts := atoms_spec (ws := wsX12_one) B.pre
  have hown : s.vm.findClass RX12 = some m.cls := findClass_of_methodNamed B.named
  have hlocks := B.notSynchronized
  subst hsz
  have hD := hD0.self (sz := s.heap.size)
  generalize hAe : va_A (mW cB cI cJ cZ h0 ad M) s.heap.size = A at hD ⊢
  have hA : ∀ q : Nat, s.heap.size ≤ q → A q := fun q h => by rw [← hAe]; exact Or.inr h
  have hS : va_S A s.heap s.heap [] := va_S.rf
  have bE : ∀ (M : gS) (H : Heap) (locs : List Loc) (ls : Array Slot), va_P (dC, dI) vwCl (mW cB cI cJ cZ h0 ad M) H → va_D A (mW cB cI cJ cZ h0 ad M) → va_S A s.heap H locs → lv_has ls 5 [(0, .int p1), (1, .long p2), (3, .long p3)] → wX12_one p1 p2 p3 M Q → W p l e (headSpec wsX12_one rmX12_one).room s m ([.int p1, .long p2, .long p3] : List Value).toArray below meth c H locs 0 0 (MQ below (va_Ql (fun (r : Int64) (u : gS) => Q r u) (mB dC dI cB cI cJ cZ h0 ad A) A) ([.int p1, .long p2, .long p3] : List Value).toArray s 0 0 A) (F0 m 0 ls []) := by
    intro M H locs ls hP hD hS hl h
    unfold wX12_one at h
    refine lv_iload_n hx hb dX12_one_0 rfl (lv_at hl 0 rfl) ?_
    by_cases c1 : p1 = (2 : Int32)
    · have h := h.1 c1
      refine lv_tableIn (tgt := 60) hx hb dX12_one_1 (by rw [c1]; decide) (by rw [c1]; decide) (by rw [c1]; rfl) (by decide) ?_
      refine lv_lload_n hx hb dX12_one_60 rfl (lv_at hl 1 rfl) ?_
      refine lv_lload_n hx hb dX12_one_61 rfl (lv_at hl 2 rfl) ?_
      refine lv_ladd hx hb dX12_one_62 ?_
      exact W.lret (v := (p2 + p3)) hx hb hr (fun t ht hW => ⟨⟨_, M, rfl, h, by rw [ht]; exact hP, va_K.moved hW.alike hK, hD⟩, hS.F ht⟩) hS.2.2 dX12_one_63
    have h := h.2 c1
    by_cases c2 : p1 = (3 : Int32)
    · have h := h.1 c2
      refine lv_tableIn (tgt := 64) hx hb dX12_one_1 (by rw [c2]; decide) (by rw [c2]; decide) (by rw [c2]; rfl) (by decide) ?_
      refine lv_lload_n hx hb dX12_one_64 rfl (lv_at hl 1 rfl) ?_
      refine lv_lload_n hx hb dX12_one_65 rfl (lv_at hl 2 rfl) ?_
      refine lv_lsub hx hb dX12_one_66 ?_
      exact W.lret (v := (p2 - p3)) hx hb hr (fun t ht hW => ⟨⟨_, M, rfl, h, by rw [ht]; exact hP, va_K.moved hW.alike hK, hD⟩, hS.F ht⟩) hS.2.2 dX12_one_67
    have h := h.2 c2
    by_cases c3 : p1 = (4 : Int32)
    · have h := h.1 c3
      refine lv_tableIn (tgt := 68) hx hb dX12_one_1 (by rw [c3]; decide) (by rw [c3]; decide) (by rw [c3]; rfl) (by decide) ?_
      refine lv_lload_n hx hb dX12_one_68 rfl (lv_at hl 1 rfl) ?_
      refine lv_lload_n hx hb dX12_one_69 rfl (lv_at hl 2 rfl) ?_
      refine lv_lmul hx hb dX12_one_70 ?_
      exact W.lret (v := (p2 * p3)) hx hb hr (fun t ht hW => ⟨⟨_, M, rfl, h, by rw [ht]; exact hP, va_K.moved hW.alike hK, hD⟩, hS.F ht⟩) hS.2.2 dX12_one_71
    have h := h.2 c3
    by_cases c4 : p1 = (5 : Int32)
    · have h := h.1 c4
      refine lv_tableIn (tgt := 72) hx hb dX12_one_1 (by rw [c4]; decide) (by rw [c4]; decide) (by rw [c4]; rfl) (by decide) ?_
      refine lv_lload_n hx hb dX12_one_72 rfl (lv_at hl 2 rfl) ?_
      refine lv_lconst (v := 0) hx hb dX12_one_73 (by decide) ?_
      refine W.lcmp hx hb dX12_one_74 ?_
      refine lv_if_ne (tgt := 82) hx hb dX12_one_75 (by decide) (fun c5 => ?_) (fun c5 => ?_)
      · have h := h.2 c5
        refine lv_lload_n hx hb dX12_one_82 rfl (lv_at hl 1 rfl) ?_
        refine lv_lload_n hx hb dX12_one_83 rfl (lv_at hl 2 rfl) ?_
        refine lv_ldiv hx hb dX12_one_84 h.1 ?_
        have h := h.2
        exact W.lret (v := (p2 / p3)) hx hb hr (fun t ht hW => ⟨⟨_, M, rfl, h, by rw [ht]; exact hP, va_K.moved hW.alike hK, hD⟩, hS.F ht⟩) hS.2.2 dX12_one_85
      · have h := h.1 c5
        refine lv_lconst (v := 0) hx hb dX12_one_78 (by decide) ?_
        refine lv_goto (tgt := 85) hx hb dX12_one_79 (by decide) ?_
        exact W.lret (v := (0 : Int64)) hx hb hr (fun t ht hW => ⟨⟨_, M, rfl, h, by rw [ht]; exact hP, va_K.moved hW.alike hK, hD⟩, hS.F ht⟩) hS.2.2 dX12_one_85
    have h := h.2 c4
    by_cases c6 : p1 = (6 : Int32)
    · have h := h.1 c6
      refine lv_tableIn (tgt := 86) hx hb dX12_one_1 (by rw [c6]; decide) (by rw [c6]; decide) (by rw [c6]; rfl) (by decide) ?_
      refine lv_lload_n hx hb dX12_one_86 rfl (lv_at hl 1 rfl) ?_
      refine lv_lload_n hx hb dX12_one_87 rfl (lv_at hl 2 rfl) ?_
      refine W.lcmp hx hb dX12_one_88 ?_
      refine lv_if_ge (tgt := 96) hx hb dX12_one_89 (by decide) (fun c7 => ?_) (fun c7 => ?_)
      · have h := h.1 c7
        refine lv_lconst (v := 0) hx hb dX12_one_96 (by decide) ?_
        exact W.lret (v := (0 : Int64)) hx hb hr (fun t ht hW => ⟨⟨_, M, rfl, h, by rw [ht]; exact hP, va_K.moved hW.alike hK, hD⟩, hS.F ht⟩) hS.2.2 dX12_one_97
      · have h := h.2 c7
        refine lv_lconst (v := 1) hx hb dX12_one_92 (by decide) ?_
        refine lv_goto (tgt := 97) hx hb dX12_one_93 (by decide) ?_
        exact W.lret (v := (1 : Int64)) hx hb hr (fun t ht hW => ⟨⟨_, M, rfl, h, by rw [ht]; exact hP, va_K.moved hW.alike hK, hD⟩, hS.F ht⟩) hS.2.2 dX12_one_97
    have h := h.2 c6
    by_cases c8 : p1 = (7 : Int32)
    · have h := h.1 c8
      refine lv_tableIn (tgt := 98) hx hb dX12_one_1 (by rw [c8]; decide) (by rw [c8]; decide) (by rw [c8]; rfl) (by decide) ?_
      refine lv_lload_n hx hb dX12_one_98 rfl (lv_at hl 1 rfl) ?_
      refine lv_lload_n hx hb dX12_one_99 rfl (lv_at hl 2 rfl) ?_
      refine W.lcmp hx hb dX12_one_100 ?_
      refine lv_if_gt (tgt := 108) hx hb dX12_one_101 (by decide) (fun c9 => ?_) (fun c9 => ?_)
      · have h := h.1 c9
        refine lv_lconst (v := 0) hx hb dX12_one_108 (by decide) ?_
        exact W.lret (v := (0 : Int64)) hx hb hr (fun t ht hW => ⟨⟨_, M, rfl, h, by rw [ht]; exact hP, va_K.moved hW.alike hK, hD⟩, hS.F ht⟩) hS.2.2 dX12_one_109
      · have h := h.2 c9
        refine lv_lconst (v := 1) hx hb dX12_one_104 (by decide) ?_
        refine lv_goto (tgt := 109) hx hb dX12_one_105 (by decide) ?_
        exact W.lret (v := (1 : Int64)) hx hb hr (fun t ht hW => ⟨⟨_, M, rfl, h, by rw [ht]; exact hP, va_K.moved hW.alike hK, hD⟩, hS.F ht⟩) hS.2.2 dX12_one_109
    have h := h.2 c8
    by_cases c10 : p1 = (8 : Int32)
    · have h := h.1 c10
      refine lv_tableIn (tgt := 110) hx hb dX12_one_1 (by rw [c10]; decide) (by rw [c10]; decide) (by rw [c10]; rfl) (by decide) ?_
      refine lv_lload_n hx hb dX12_one_110 rfl (lv_at hl 1 rfl) ?_
      refine lv_lload_n hx hb dX12_one_111 rfl (lv_at hl 2 rfl) ?_
      refine W.lcmp hx hb dX12_one_112 ?_
      refine lv_if_ne (tgt := 120) hx hb dX12_one_113 (by decide) (fun c11 => ?_) (fun c11 => ?_)
      · have h := h.2 c11
        refine lv_lconst (v := 0) hx hb dX12_one_120 (by decide) ?_
        exact W.lret (v := (0 : Int64)) hx hb hr (fun t ht hW => ⟨⟨_, M, rfl, h, by rw [ht]; exact hP, va_K.moved hW.alike hK, hD⟩, hS.F ht⟩) hS.2.2 dX12_one_121
      · have h := h.1 c11
        refine lv_lconst (v := 1) hx hb dX12_one_116 (by decide) ?_
        refine lv_goto (tgt := 121) hx hb dX12_one_117 (by decide) ?_
        exact W.lret (v := (1 : Int64)) hx hb hr (fun t ht hW => ⟨⟨_, M, rfl, h, by rw [ht]; exact hP, va_K.moved hW.alike hK, hD⟩, hS.F ht⟩) hS.2.2 dX12_one_121
    have h := h.2 c10
    by_cases c12 : p1 = (9 : Int32)
    · have h := h.1 c12
      refine lv_tableIn (tgt := 122) hx hb dX12_one_1 (by rw [c12]; decide) (by rw [c12]; decide) (by rw [c12]; rfl) (by decide) ?_
      refine lv_lload_n hx hb dX12_one_122 rfl (lv_at hl 1 rfl) ?_
      refine lv_lload_n hx hb dX12_one_123 rfl (lv_at hl 2 rfl) ?_
      refine W.lcmp hx hb dX12_one_124 ?_
      refine lv_if_lt (tgt := 132) hx hb dX12_one_125 (by decide) (fun c13 => ?_) (fun c13 => ?_)
      · have h := h.1 c13
        refine lv_lconst (v := 0) hx hb dX12_one_132 (by decide) ?_
        exact W.lret (v := (0 : Int64)) hx hb hr (fun t ht hW => ⟨⟨_, M, rfl, h, by rw [ht]; exact hP, va_K.moved hW.alike hK, hD⟩, hS.F ht⟩) hS.2.2 dX12_one_133
      · have h := h.2 c13
        refine lv_lconst (v := 1) hx hb dX12_one_128 (by decide) ?_
        refine lv_goto (tgt := 133) hx hb dX12_one_129 (by decide) ?_
        exact W.lret (v := (1 : Int64)) hx hb hr (fun t ht hW => ⟨⟨_, M, rfl, h, by rw [ht]; exact hP, va_K.moved hW.alike hK, hD⟩, hS.F ht⟩) hS.2.2 dX12_one_133
    have h := h.2 c12
    by_cases c14 : p1 = (10 : Int32)
    · have h := h.1 c14
      refine lv_tableIn (tgt := 134) hx hb dX12_one_1 (by rw [c14]; decide) (by rw [c14]; decide) (by rw [c14]; rfl) (by decide) ?_
      refine lv_lload_n hx hb dX12_one_134 rfl (lv_at hl 1 rfl) ?_
      refine lv_lload_n hx hb dX12_one_135 rfl (lv_at hl 2 rfl) ?_
      refine W.lcmp hx hb dX12_one_136 ?_
      refine lv_if_le (tgt := 144) hx hb dX12_one_137 (by decide) (fun c15 => ?_) (fun c15 => ?_)
      · have h := h.1 c15
        refine lv_lconst (v := 0) hx hb dX12_one_144 (by decide) ?_
        exact W.lret (v := (0 : Int64)) hx hb hr (fun t ht hW => ⟨⟨_, M, rfl, h, by rw [ht]; exact hP, va_K.moved hW.alike hK, hD⟩, hS.F ht⟩) hS.2.2 dX12_one_145
      · have h := h.2 c15
        refine lv_lconst (v := 1) hx hb dX12_one_140 (by decide) ?_
        refine lv_goto (tgt := 145) hx hb dX12_one_141 (by decide) ?_
        exact W.lret (v := (1 : Int64)) hx hb hr (fun t ht hW => ⟨⟨_, M, rfl, h, by rw [ht]; exact hP, va_K.moved hW.alike hK, hD⟩, hS.F ht⟩) hS.2.2 dX12_one_145
    have h := h.2 c14
    by_cases c16 : p1 = (11 : Int32)
    · have h := h.1 c16
      refine lv_tableIn (tgt := 150) hx hb dX12_one_1 (by rw [c16]; decide) (by rw [c16]; decide) (by rw [c16]; rfl) (by decide) ?_
      refine lv_lload_n hx hb dX12_one_150 rfl (lv_at hl 1 rfl) ?_
      refine lv_lload_n hx hb dX12_one_151 rfl (lv_at hl 2 rfl) ?_
      refine lv_lor hx hb dX12_one_152 ?_
      exact W.lret (v := (p2 ||| p3)) hx hb hr (fun t ht hW => ⟨⟨_, M, rfl, h, by rw [ht]; exact hP, va_K.moved hW.alike hK, hD⟩, hS.F ht⟩) hS.2.2 dX12_one_153
    have h := h.2 c16
    by_cases c17 : p1 = (12 : Int32)
    · have h := h.1 c17
      refine lv_tableIn (tgt := 146) hx hb dX12_one_1 (by rw [c17]; decide) (by rw [c17]; decide) (by rw [c17]; rfl) (by decide) ?_
      refine lv_lload_n hx hb dX12_one_146 rfl (lv_at hl 1 rfl) ?_
      refine lv_lload_n hx hb dX12_one_147 rfl (lv_at hl 2 rfl) ?_
      refine lv_land hx hb dX12_one_148 ?_
      exact W.lret (v := (p2 &&& p3)) hx hb hr (fun t ht hW => ⟨⟨_, M, rfl, h, by rw [ht]; exact hP, va_K.moved hW.alike hK, hD⟩, hS.F ht⟩) hS.2.2 dX12_one_149
    have h := h.2 c17
    refine lv_tableOut (tgt := 150) hx hb dX12_one_1 (by have qc1 : p1.toInt ≠ 2 := fun q => c1 (Int32.toInt_inj.mp (q.trans (by decide))); have qc2 : p1.toInt ≠ 3 := fun q => c2 (Int32.toInt_inj.mp (q.trans (by decide))); have qc3 : p1.toInt ≠ 4 := fun q => c3 (Int32.toInt_inj.mp (q.trans (by decide))); have qc4 : p1.toInt ≠ 5 := fun q => c4 (Int32.toInt_inj.mp (q.trans (by decide))); have qc6 : p1.toInt ≠ 6 := fun q => c6 (Int32.toInt_inj.mp (q.trans (by decide))); have qc8 : p1.toInt ≠ 7 := fun q => c8 (Int32.toInt_inj.mp (q.trans (by decide))); have qc10 : p1.toInt ≠ 8 := fun q => c10 (Int32.toInt_inj.mp (q.trans (by decide))); have qc12 : p1.toInt ≠ 9 := fun q => c12 (Int32.toInt_inj.mp (q.trans (by decide))); have qc14 : p1.toInt ≠ 10 := fun q => c14 (Int32.toInt_inj.mp (q.trans (by decide))); have qc16 : p1.toInt ≠ 11 := fun q => c16 (Int32.toInt_inj.mp (q.trans (by decide))); have qc17 : p1.toInt ≠ 12 := fun q => c17 (Int32.toInt_inj.mp (q.trans (by decide))); omega) (by decide) ?_
    refine lv_lload_n hx hb dX12_one_150 rfl (lv_at hl 1 rfl) ?_
    refine lv_lload_n hx hb dX12_one_151 rfl (lv_at hl 2 rfl) ?_
    refine lv_lor hx hb dX12_one_152 ?_
    exact W.lret (v := (p2 ||| p3)) hx hb hr (fun t ht hW => ⟨⟨_, M, rfl, h, by rw [ht]; exact hP, va_K.moved hW.alike hK, hD⟩, hS.F ht⟩) hS.2.2 dX12_one_153
  have hl := lv_entry ([.int p1, .long p2, .long p3]) (n := 5) (Nat.le_of_ble_eq_true rfl)
  rw [lg_entry_eq]
  generalize (lg_sl ([.int p1, .long p2, .long p3]) ++ List.replicate (5 - (lg_sl ([.int p1, .long p2, .long p3])).length) Slot.unset).toArray = ls at hl ⊢
  have hl : lv_has ls 5 [(0, .int p1), (1, .long p2), (3, .long p3)] := hl
  exact bE M s.heap [] ls hP hD hS hl h
def wX12_reckons_129 (B8 : Int32 → Int32 → Int32 → gS → Prop) (Q : Int64 → gS → Prop) (y1 : Int32) (y3 : Int32) (y4 : Int32) (M : gS) : Prop :=
 (∀ x1 : Int32, x1 = y4 + (1 : Int32) → (B8 y1 y3 x1 M))
def wX12_reckons_8  (Q : Int64 → gS → Prop) : Nat → Int32 → Int32 → Int32 → gS → Prop
 | 0, _, _, _, _ => False
 | n + 1, y1, y3, y4, M => ((y3 ≤ y4 → (wX12_pop  M (fun (r2 : Int64) (M3 : gS) => (Q r2 M3))))
 ∧ (¬ y3 ≤ y4 → (vp_in (((400 : Int32) * y1) + y4) 2400 ∧ (∀ x4 : Int32, x4 = ((ma M 3 (Int32.toNatClampNeg (((400 : Int32) * y1) + y4))) &&& (15 : Int32)) → (vp_in (((400 : Int32) * y1) + y4) 2400 ∧ (∀ x5 : Int32, x5 = ((ma M 3 (Int32.toNatClampNeg (((400 : Int32) * y1) + y4))) >>> ((4 : Int32) &&& 31)) → ((x4 = 0 → (wX12_push (Int32.toInt64 x5) M (fun (M24 : gS) => (wX12_reckons_129 (fun (y1 : Int32) (y3 : Int32) (y4 : Int32) (M : gS) => wX12_reckons_8  Q n y1 y3 y4 M) Q y1 y3 y4 M24))))
 ∧ (¬ x4 = 0 → ((x4 = (1 : Int32) → (vp_in x5 9 ∧ (wX12_push (ml M 24 (Int32.toNatClampNeg x5)) M (fun (M22 : gS) => (wX12_reckons_129 (fun (y1 : Int32) (y3 : Int32) (y4 : Int32) (M : gS) => wX12_reckons_8  Q n y1 y3 y4 M) Q y1 y3 y4 M22)))))
 ∧ (¬ x4 = (1 : Int32) → ((x4 = (11 : Int32) → (wX12_pop  M (fun (r17 : Int64) (M18 : gS) => (wX12_push ((1 : Int64) - r17) M18 (fun (M20 : gS) => (wX12_reckons_129 (fun (y1 : Int32) (y3 : Int32) (y4 : Int32) (M : gS) => wX12_reckons_8  Q n y1 y3 y4 M) Q y1 y3 y4 M20))))))
 ∧ (¬ x4 = (11 : Int32) → (wX12_pop  M (fun (r9 : Int64) (M10 : gS) => (wX12_pop  M10 (fun (r11 : Int64) (M12 : gS) => (wX12_one x4 r11 r9 M12 (fun (r13 : Int64) (M14 : gS) => (wX12_push r13 M14 (fun (M16 : gS) => (wX12_reckons_129 (fun (y1 : Int32) (y3 : Int32) (y4 : Int32) (M : gS) => wX12_reckons_8  Q n y1 y3 y4 M) Q y1 y3 y4 M16)))))))))))))))))))))
def wX12_reckons (p1 : Int32) (p2 : Int32) (p3 : Int32) (M : gS) (Q : Int64 → gS → Prop) : Prop :=
 (∀ M1 : gS, M1 = sg M 23 (0 : Int32) → (∃ k8 : Nat, wX12_reckons_8  Q k8 p1 p3 p2 M1))
def rmX12_reckons : Room := { frames := 1, cells := 0, slots := 0, locals := 24 }
set_option maxHeartbeats 4000000 in
set_option maxRecDepth 100000 in
theorem kX12_reckons (l : Launch) (dC : Nat → ClassId) (dI : Nat → Nat → Nat) (cB cI cJ cZ : ClassId) (h0 : Nat) (ad : Nat → Nat) (sz : Nat) (p1 : Int32) (p2 : Int32) (p3 : Int32) (M : gS) (Q : Int64 → gS → Prop) (h : wX12_reckons p1 p2 p3 M Q) : Met l yX12_reckons wsX12_reckons rmX12_reckons (va_Pc [.ref h0, .int p1, .int p2, .int p3] (mI dC dI cB cI cJ cZ h0 ad M sz)) (va_Ql (fun (r : Int64) (u : gS) => Q r u) (mB dC dI cB cI cJ cZ h0 ad (va_A (mW cB cI cJ cZ h0 ad M) sz)) (va_A (mW cB cI cJ cZ h0 ad M) sz)) 0 0 (va_A (mW cB cI cJ cZ h0 ad M) sz) := by
  refine Met.ofW (cc := cX12_reckons) (maxL := 11) (ret := (some .long)) (by decide) rfl ?_
  intro p e s m args below meth c s₁ B hml hv
  obtain ⟨rfl, hsz, hP, hK, hD0⟩ := hv
  have hx := B.exec
  have hb := B.bytes
  have hr := B.returns
  have hts := atoms_spec (ws := wsX12_reckons) B.pre
  have hown : s.vm.findClass RX12 = some m.cls := findClass_of_methodNamed B.named
  have hlocks := B.notSynchronized
  subst hsz
  have hD := hD0.self (sz := s.heap.size)
  generalize hAe : va_A (mW cB cI cJ cZ h0 ad M) s.heap.size = A at hD ⊢
  have hA : ∀ q : Nat, s.heap.size ≤ q → A q := fun q h => by rw [← hAe]; exact Or.inr h
  have hS : va_S A s.heap s.heap [] := va_S.rf
  have hin : ∀ w ∈ wsX120, w ∈ wsX12_reckons := fun w h => List.mem_cons_of_mem _ (List.mem_append_right _ h)
  have f1 := hts (.fieldLink RX12 13 "LastWordsModel" "sign" "[I") (by decide +kernel)
  have f2 := hts (.fieldLink RX12 42 "LastWordsModel" "word" "[J") (by decide +kernel)
  have f3 := hts (.fieldLink RX12 262 "LastWordsModel" "top" "I") (by decide +kernel)
  have b129 : ∀ (B8 : Int32 → Int32 → Int32 → gS → Prop) (hB8 : ∀ (y1 : Int32) (y3 : Int32) (y4 : Int32) (M : gS) (H : Heap) (locs : List Loc) (ls : Array Slot), va_P (dC, dI) vwCl (mW cB cI cJ cZ h0 ad M) H → va_D A (mW cB cI cJ cZ h0 ad M) → va_S A s.heap H locs → lv_has ls 11 [(0, .ref h0), (1, .int y1), (3, .int y3), (4, .int y4)] → B8 y1 y3 y4 M → W p l e (headSpec wsX12_reckons rmX12_reckons).room s m ([.ref h0, .int p1, .int p2, .int p3] : List Value).toArray below meth c H locs 0 0 (MQ below (va_Ql (fun (r : Int64) (u : gS) => Q r u) (mB dC dI cB cI cJ cZ h0 ad A) A) ([.ref h0, .int p1, .int p2, .int p3] : List Value).toArray s 0 0 A) (F0 m 8 ls [])) (y1 : Int32) (y3 : Int32) (y4 : Int32) (M : gS) (H : Heap) (locs : List Loc) (ls : Array Slot), va_P (dC, dI) vwCl (mW cB cI cJ cZ h0 ad M) H → va_D A (mW cB cI cJ cZ h0 ad M) → va_S A s.heap H locs → lv_has ls 11 [(0, .ref h0), (1, .int y1), (3, .int y3), (4, .int y4)] → wX12_reckons_129 B8 Q y1 y3 y4 M → W p l e (headSpec wsX12_reckons rmX12_reckons).room s m ([.ref h0, .int p1, .int p2, .int p3] : List Value).toArray below meth c H locs 0 0 (MQ below (va_Ql (fun (r : Int64) (u : gS) => Q r u) (mB dC dI cB cI cJ cZ h0 ad A) A) ([.ref h0, .int p1, .int p2, .int p3] : List Value).toArray s 0 0 A) (F0 m 129 ls []) := by
    intro B8 hB8 y1 y3 y4 M H locs ls hP hD hS hl h
    unfold wX12_reckons_129 at h
    obtain ⟨x1, ex1⟩ : ∃ y : Int32, y = y4 + (1 : Int32) := ⟨_, rfl⟩
    have h := h x1 ex1
    refine lv_iinc (v := x1) (lv' := [(4, .int x1), (0, .ref h0), (1, .int y1), (3, .int y3)]) hx hb dX12_reckons_129 hl (k := 3) rfl (by rw [ex1]; rfl) (by decide) rfl (fun ls hl => ?_)
    refine lv_goto (tgt := 8) hx hb dX12_reckons_132 (by decide) ?_
    exact hB8 y1 y3 x1 M H locs ls hP hD hS (lv_sub hl [1, 2, 3, 0] rfl) h
  have b8 : ∀ (n : Nat) (y1 : Int32) (y3 : Int32) (y4 : Int32) (M : gS) (H : Heap) (locs : List Loc) (ls : Array Slot), va_P (dC, dI) vwCl (mW cB cI cJ cZ h0 ad M) H → va_D A (mW cB cI cJ cZ h0 ad M) → va_S A s.heap H locs → lv_has ls 11 [(0, .ref h0), (1, .int y1), (3, .int y3), (4, .int y4)] → wX12_reckons_8  Q n y1 y3 y4 M → W p l e (headSpec wsX12_reckons rmX12_reckons).room s m ([.ref h0, .int p1, .int p2, .int p3] : List Value).toArray below meth c H locs 0 0 (MQ below (va_Ql (fun (r : Int64) (u : gS) => Q r u) (mB dC dI cB cI cJ cZ h0 ad A) A) ([.ref h0, .int p1, .int p2, .int p3] : List Value).toArray s 0 0 A) (F0 m 8 ls []) := by
    intro  n
    induction n with
    | zero => intro y1 y3 y4 M H locs ls hP hD hS hl h; exact absurd h (by simp [wX12_reckons_8])
    | succ n hB80 =>
      intro y1 y3 y4 M H locs ls hP hD hS hl h
      have hB8 := hB80
      rw [wX12_reckons_8] at h
      refine lv_iload hx hb dX12_reckons_8 (lv_at hl 3 rfl) ?_
      refine lv_iload_n hx hb dX12_reckons_10 rfl (lv_at hl 2 rfl) ?_
      refine lv_icmp_ge (tgt := 135) hx hb dX12_reckons_11 (by decide) (fun c1 => ?_) (fun c1 => ?_)
      · have h := h.1 c1
        refine lv_aload_n hx hb dX12_reckons_135 rfl (lv_at hl 0 rfl) ?_
        have hFc := gs_free hD hS hA
        refine va_calll (va_runV (As := []) (rest := []) ⟨hx, hb, hml, hown, hts⟩ (kX12_pop l dC dI cB cI cJ cZ h0 ad H.size  M _ h) (cwV 0 hts gX12_reckons_X12_pop rfl rfl rfl (by decide +kernel) ⟨Nat.le_of_ble_eq_true rfl, Nat.le_of_ble_eq_true rfl⟩) (mpV hK hP hD) rfl rfl hl.1 rfl (lv_room (Nat.le_of_ble_eq_true rfl)) dX12_reckons_136 ⟨Nat.le_of_ble_eq_true rfl, Nat.le_of_ble_eq_true rfl⟩) hS (fun q _ z => hFc q z) hFc (fun r2 M3 t H1 locs ht hvm hw hB hz1 hk1 hS => ?_)
        obtain ⟨hP, hD⟩ := gs_back ht hFc hB
        generalize H1 = H at hP hS ⊢
        have h := hw
        try dsimp only at h
        exact W.lret (v := r2) hx hb hr (fun t ht hW => ⟨⟨_, M3, rfl, h, by rw [ht]; exact hP, va_K.moved hW.alike hK, hD⟩, hS.F ht⟩) hS.2.2 dX12_reckons_139
      · have h := h.2 c1
        refine lv_aload_n hx hb dX12_reckons_14 rfl (lv_at hl 0 rfl) ?_
        refine va_get (D := (dC, dI)) (ci := 12) (v := .ref (ad 3)) (C := RX12) (T := TX12) (N := 37) hx hb hts hin hown hK hP 0 rfl rfl 3 (by decide) f1 (fun _ h9 => h9) rfl dX12_reckons_15 ?_
        refine lv_sipush (v := (400)) hx hb dX12_reckons_18 (by decide) ?_
        refine lv_iload_n hx hb dX12_reckons_21 rfl (lv_at hl 1 rfl) ?_
        refine lv_imul hx hb dX12_reckons_22 ?_
        refine lv_iload hx hb dX12_reckons_23 (lv_at hl 3 rfl) ?_
        refine lv_iadd hx hb dX12_reckons_25 ?_
        refine va_iald hx hb hK hP 2 1 (f := ma M 3) rfl rfl h.1 dX12_reckons_26 ?_
        have h := h.2
        refine lv_bipush (v := (15)) hx hb dX12_reckons_27 (by decide) ?_
        refine lv_iand hx hb dX12_reckons_29 ?_
        refine lv_topi (fun x4 ex4 => ?_)
        have h := h x4 ex4
        refine lv_istore (lv' := [(5, .int x4), (0, .ref h0), (1, .int y1), (3, .int y3), (4, .int y4)]) hx hb dX12_reckons_30 hl (by decide) rfl (fun ls hl => ?_)
        refine lv_aload_n hx hb dX12_reckons_32 rfl (lv_at hl 1 rfl) ?_
        refine va_get (D := (dC, dI)) (ci := 12) (v := .ref (ad 3)) (C := RX12) (T := TX12) (N := 37) hx hb hts hin hown hK hP 0 rfl rfl 3 (by decide) f1 (fun _ h9 => h9) rfl dX12_reckons_33 ?_
        refine lv_sipush (v := (400)) hx hb dX12_reckons_36 (by decide) ?_
        refine lv_iload_n hx hb dX12_reckons_39 rfl (lv_at hl 2 rfl) ?_
        refine lv_imul hx hb dX12_reckons_40 ?_
        refine lv_iload hx hb dX12_reckons_41 (lv_at hl 4 rfl) ?_
        refine lv_iadd hx hb dX12_reckons_43 ?_
        refine va_iald hx hb hK hP 2 1 (f := ma M 3) rfl rfl h.1 dX12_reckons_44 ?_
        have h := h.2
        refine lv_iconst (v := 4) hx hb dX12_reckons_45 (by decide) ?_
        refine lv_ishr hx hb dX12_reckons_46 ?_
        refine lv_topi (fun x5 ex5 => ?_)
        have h := h x5 ex5
        refine lv_istore (lv' := [(6, .int x5), (5, .int x4), (0, .ref h0), (1, .int y1), (3, .int y3), (4, .int y4)]) hx hb dX12_reckons_47 hl (by decide) rfl (fun ls hl => ?_)
        refine lv_iload hx hb dX12_reckons_49 (lv_at hl 1 rfl) ?_
        refine lv_if_ne (tgt := 64) hx hb dX12_reckons_51 (by decide) (fun c6 => ?_) (fun c6 => ?_)
        · have h := h.2 c6
          refine lv_iload hx hb dX12_reckons_64 (lv_at hl 1 rfl) ?_
          refine lv_iconst (v := 1) hx hb dX12_reckons_66 (by decide) ?_
          refine lv_icmp_ne (tgt := 84) hx hb dX12_reckons_67 (by decide) (fun c7 => ?_) (fun c7 => ?_)
          · have h := h.2 c7
            refine lv_iload hx hb dX12_reckons_84 (lv_at hl 1 rfl) ?_
            refine lv_bipush (v := (11)) hx hb dX12_reckons_86 (by decide) ?_
            refine lv_icmp_ne (tgt := 104) hx hb dX12_reckons_88 (by decide) (fun c8 => ?_) (fun c8 => ?_)
            · have h := h.2 c8
              refine lv_aload_n hx hb dX12_reckons_104 rfl (lv_at hl 2 rfl) ?_
              have hFc := gs_free hD hS hA
              refine va_calll (va_runV (As := []) (rest := []) ⟨hx, hb, hml, hown, hts⟩ (kX12_pop l dC dI cB cI cJ cZ h0 ad H.size  M _ h) (cwV 0 hts gX12_reckons_X12_pop rfl rfl rfl (by decide +kernel) ⟨Nat.le_of_ble_eq_true rfl, Nat.le_of_ble_eq_true rfl⟩) (mpV hK hP hD) rfl rfl hl.1 rfl (lv_room (Nat.le_of_ble_eq_true rfl)) dX12_reckons_105 ⟨Nat.le_of_ble_eq_true rfl, Nat.le_of_ble_eq_true rfl⟩) hS (fun q _ z => hFc q z) hFc (fun r9 M10 t H1 locs ht hvm hw hB hz1 hk1 hS => ?_)
              obtain ⟨hP, hD⟩ := gs_back ht hFc hB
              generalize H1 = H at hP hS ⊢
              have h := hw
              try dsimp only at h
              refine lv_lstore (lv' := [(7, .long r9), (6, .int x5), (5, .int x4), (0, .ref h0), (1, .int y1), (3, .int y3), (4, .int y4)]) hx hb dX12_reckons_108 hl (by decide) rfl (fun ls hl => ?_)
              refine lv_aload_n hx hb dX12_reckons_110 rfl (lv_at hl 3 rfl) ?_
              have hFc := gs_free hD hS hA
              refine va_calll (va_runV (As := []) (rest := []) ⟨hx, hb, hml, hown, hts⟩ (kX12_pop l dC dI cB cI cJ cZ h0 ad H.size  M10 _ h) (cwV 0 hts gX12_reckons_X12_pop rfl rfl rfl (by decide +kernel) ⟨Nat.le_of_ble_eq_true rfl, Nat.le_of_ble_eq_true rfl⟩) (mpV hK hP hD) rfl rfl hl.1 rfl (lv_room (Nat.le_of_ble_eq_true rfl)) dX12_reckons_111 ⟨Nat.le_of_ble_eq_true rfl, Nat.le_of_ble_eq_true rfl⟩) hS (fun q _ z => hFc q z) hFc (fun r11 M12 t H1 locs ht hvm hw hB hz1 hk1 hS => ?_)
              obtain ⟨hP, hD⟩ := gs_back ht hFc hB
              generalize H1 = H at hP hS ⊢
              have h := hw
              try dsimp only at h
              refine lv_lstore (lv' := [(9, .long r11), (7, .long r9), (6, .int x5), (5, .int x4), (0, .ref h0), (1, .int y1), (3, .int y3), (4, .int y4)]) hx hb dX12_reckons_114 hl (by decide) rfl (fun ls hl => ?_)
              refine lv_aload_n hx hb dX12_reckons_116 rfl (lv_at hl 4 rfl) ?_
              refine lv_iload hx hb dX12_reckons_117 (lv_at hl 3 rfl) ?_
              refine lv_lload hx hb dX12_reckons_119 (lv_at hl 0 rfl) ?_
              refine lv_lload hx hb dX12_reckons_121 (lv_at hl 1 rfl) ?_
              have hFc := gs_free hD hS hA
              refine va_calll (va_runS (As := [.int x4, .long r11, .long r9]) (rest := [.ref h0]) ⟨hx, hb, hml, hown, hts⟩ (kX12_one l dC dI cB cI cJ cZ h0 ad H.size x4 r11 r9 M12 _ h) (cwS 3 hts gX12_reckons_X12_one rfl rfl rfl (by decide +kernel) ⟨Nat.le_of_ble_eq_true rfl, Nat.le_of_ble_eq_true rfl⟩) (mpS hK hP hD) rfl rfl hl.1 rfl (lv_room (Nat.le_of_ble_eq_true rfl)) dX12_reckons_123 ⟨Nat.le_of_ble_eq_true rfl, Nat.le_of_ble_eq_true rfl⟩) hS (fun q _ z => hFc q z) hFc (fun r13 M14 t H1 locs ht hvm hw hB hz1 hk1 hS => ?_)
              obtain ⟨hP, hD⟩ := gs_back ht hFc hB
              generalize H1 = H at hP hS ⊢
              have h := hw
              try dsimp only at h
              have hFc := gs_free hD hS hA
              refine va_callv (va_runV (As := [.long r13]) (rest := []) ⟨hx, hb, hml, hown, hts⟩ (kX12_push l dC dI cB cI cJ cZ h0 ad H.size r13 M14 _ h) (cwV 1 hts gX12_reckons_X12_push rfl rfl rfl (by decide +kernel) ⟨Nat.le_of_ble_eq_true rfl, Nat.le_of_ble_eq_true rfl⟩) (mpV hK hP hD) rfl rfl hl.1 rfl (lv_room (Nat.le_of_ble_eq_true rfl)) dX12_reckons_126 ⟨Nat.le_of_ble_eq_true rfl, Nat.le_of_ble_eq_true rfl⟩) hS (fun q _ z => hFc q z) hFc (fun M16 t H1 locs ht hvm hw hB hz1 hk1 hS => ?_)
              obtain ⟨hP, hD⟩ := gs_back ht hFc hB
              generalize H1 = H at hP hS ⊢
              have h := hw
              try dsimp only at h
              exact b129 _ hB8 y1 y3 y4 M16 H locs ls hP hD hS (lv_sub hl [4, 5, 6, 7] rfl) h
            · have h := h.1 c8
              refine lv_aload_n hx hb dX12_reckons_91 rfl (lv_at hl 2 rfl) ?_
              refine lv_lconst (v := 1) hx hb dX12_reckons_92 (by decide) ?_
              refine lv_aload_n hx hb dX12_reckons_93 rfl (lv_at hl 2 rfl) ?_
              have hFc := gs_free hD hS hA
              refine va_calll (va_runV (As := []) (rest := [.long (1 : Int64), .ref h0]) ⟨hx, hb, hml, hown, hts⟩ (kX12_pop l dC dI cB cI cJ cZ h0 ad H.size  M _ h) (cwV 0 hts gX12_reckons_X12_pop rfl rfl rfl (by decide +kernel) ⟨Nat.le_of_ble_eq_true rfl, Nat.le_of_ble_eq_true rfl⟩) (mpV hK hP hD) rfl rfl hl.1 rfl (lv_room (Nat.le_of_ble_eq_true rfl)) dX12_reckons_94 ⟨Nat.le_of_ble_eq_true rfl, Nat.le_of_ble_eq_true rfl⟩) hS (fun q _ z => hFc q z) hFc (fun r17 M18 t H1 locs ht hvm hw hB hz1 hk1 hS => ?_)
              obtain ⟨hP, hD⟩ := gs_back ht hFc hB
              generalize H1 = H at hP hS ⊢
              have h := hw
              try dsimp only at h
              refine lv_lsub hx hb dX12_reckons_97 ?_
              have hFc := gs_free hD hS hA
              refine va_callv (va_runV (As := [.long ((1 : Int64) - r17)]) (rest := []) ⟨hx, hb, hml, hown, hts⟩ (kX12_push l dC dI cB cI cJ cZ h0 ad H.size ((1 : Int64) - r17) M18 _ h) (cwV 1 hts gX12_reckons_X12_push rfl rfl rfl (by decide +kernel) ⟨Nat.le_of_ble_eq_true rfl, Nat.le_of_ble_eq_true rfl⟩) (mpV hK hP hD) rfl rfl hl.1 rfl (lv_room (Nat.le_of_ble_eq_true rfl)) dX12_reckons_98 ⟨Nat.le_of_ble_eq_true rfl, Nat.le_of_ble_eq_true rfl⟩) hS (fun q _ z => hFc q z) hFc (fun M20 t H1 locs ht hvm hw hB hz1 hk1 hS => ?_)
              obtain ⟨hP, hD⟩ := gs_back ht hFc hB
              generalize H1 = H at hP hS ⊢
              have h := hw
              try dsimp only at h
              refine lv_goto (tgt := 129) hx hb dX12_reckons_101 (by decide) ?_
              exact b129 _ hB8 y1 y3 y4 M20 H locs ls hP hD hS (lv_sub hl [2, 3, 4, 5] rfl) h
          · have h := h.1 c7
            refine lv_aload_n hx hb dX12_reckons_70 rfl (lv_at hl 2 rfl) ?_
            refine lv_aload_n hx hb dX12_reckons_71 rfl (lv_at hl 2 rfl) ?_
            refine va_get (D := (dC, dI)) (ci := 12) (v := .ref (ad 24)) (C := RX12) (T := TX12) (N := 37) hx hb hts hin hown hK hP 0 rfl rfl 24 (by decide) f2 (fun _ h9 => h9) rfl dX12_reckons_72 ?_
            refine lv_iload hx hb dX12_reckons_75 (lv_at hl 0 rfl) ?_
            refine va_lald hx hb hK hP 11 2 (f := ml M 24) rfl rfl h.1 dX12_reckons_77 ?_
            have h := h.2
            have hFc := gs_free hD hS hA
            refine va_callv (va_runV (As := [.long (ml M 24 (Int32.toNatClampNeg x5))]) (rest := []) ⟨hx, hb, hml, hown, hts⟩ (kX12_push l dC dI cB cI cJ cZ h0 ad H.size (ml M 24 (Int32.toNatClampNeg x5)) M _ h) (cwV 1 hts gX12_reckons_X12_push rfl rfl rfl (by decide +kernel) ⟨Nat.le_of_ble_eq_true rfl, Nat.le_of_ble_eq_true rfl⟩) (mpV hK hP hD) rfl rfl hl.1 rfl (lv_room (Nat.le_of_ble_eq_true rfl)) dX12_reckons_78 ⟨Nat.le_of_ble_eq_true rfl, Nat.le_of_ble_eq_true rfl⟩) hS (fun q _ z => hFc q z) hFc (fun M22 t H1 locs ht hvm hw hB hz1 hk1 hS => ?_)
            obtain ⟨hP, hD⟩ := gs_back ht hFc hB
            generalize H1 = H at hP hS ⊢
            have h := hw
            try dsimp only at h
            refine lv_goto (tgt := 129) hx hb dX12_reckons_81 (by decide) ?_
            exact b129 _ hB8 y1 y3 y4 M22 H locs ls hP hD hS (lv_sub hl [2, 3, 4, 5] rfl) h
        · have h := h.1 c6
          refine lv_aload_n hx hb dX12_reckons_54 rfl (lv_at hl 2 rfl) ?_
          refine lv_iload hx hb dX12_reckons_55 (lv_at hl 0 rfl) ?_
          refine lv_i2l hx hb dX12_reckons_57 rfl ?_
          have hFc := gs_free hD hS hA
          refine va_callv (va_runV (As := [.long (Int32.toInt64 x5)]) (rest := []) ⟨hx, hb, hml, hown, hts⟩ (kX12_push l dC dI cB cI cJ cZ h0 ad H.size (Int32.toInt64 x5) M _ h) (cwV 1 hts gX12_reckons_X12_push rfl rfl rfl (by decide +kernel) ⟨Nat.le_of_ble_eq_true rfl, Nat.le_of_ble_eq_true rfl⟩) (mpV hK hP hD) rfl rfl hl.1 rfl (lv_room (Nat.le_of_ble_eq_true rfl)) dX12_reckons_58 ⟨Nat.le_of_ble_eq_true rfl, Nat.le_of_ble_eq_true rfl⟩) hS (fun q _ z => hFc q z) hFc (fun M24 t H1 locs ht hvm hw hB hz1 hk1 hS => ?_)
          obtain ⟨hP, hD⟩ := gs_back ht hFc hB
          generalize H1 = H at hP hS ⊢
          have h := hw
          try dsimp only at h
          refine lv_goto (tgt := 129) hx hb dX12_reckons_61 (by decide) ?_
          exact b129 _ hB8 y1 y3 y4 M24 H locs ls hP hD hS (lv_sub hl [2, 3, 4, 5] rfl) h
  have bE : ∀ (M : gS) (H : Heap) (locs : List Loc) (ls : Array Slot), va_P (dC, dI) vwCl (mW cB cI cJ cZ h0 ad M) H → va_D A (mW cB cI cJ cZ h0 ad M) → va_S A s.heap H locs → lv_has ls 11 [(0, .ref h0), (1, .int p1), (2, .int p2), (3, .int p3)] → wX12_reckons p1 p2 p3 M Q → W p l e (headSpec wsX12_reckons rmX12_reckons).room s m ([.ref h0, .int p1, .int p2, .int p3] : List Value).toArray below meth c H locs 0 0 (MQ below (va_Ql (fun (r : Int64) (u : gS) => Q r u) (mB dC dI cB cI cJ cZ h0 ad A) A) ([.ref h0, .int p1, .int p2, .int p3] : List Value).toArray s 0 0 A) (F0 m 0 ls []) := by
    intro M H locs ls hP hD hS hl h
    unfold wX12_reckons at h
    refine lv_aload_n hx hb dX12_reckons_0 rfl (lv_at hl 0 rfl) ?_
    refine lv_iconst (v := 0) hx hb dX12_reckons_1 (by decide) ?_
    refine va_put (D := (dC, dI)) (ci := 12) (v := .int (0 : Int32)) (ty := .int) (C := RX12) (T := TX12) (N := 37) hx hb hts hin tyX12 tyX12_ok nmX12 hown hK hP hD hS 0 rfl rfl 23 (by decide) f3 (fun _ h9 => h9) rfl (by decide +kernel) rfl rfl (Nat.le_of_ble_eq_true rfl) dX12_reckons_2 (fun H locs hP hD hS => ?_)
    have hP := mP_f23 hP
    have hD := mD_f23 hD
    have h := h _ rfl
    generalize sg M 23 (0 : Int32) = M1 at hP hD h
    refine lv_iload_n hx hb dX12_reckons_5 rfl (lv_at hl 2 rfl) ?_
    refine lv_istore (lv' := [(4, .int p2), (0, .ref h0), (1, .int p1), (2, .int p2), (3, .int p3)]) hx hb dX12_reckons_6 hl (by decide) rfl (fun ls hl => ?_)
    obtain ⟨n9, h⟩ := h
    exact b8  n9 p1 p3 p2 M1 H locs ls hP hD hS (lv_sub hl [1, 2, 4, 0] rfl) h
  have hl := lv_entry ([.ref h0, .int p1, .int p2, .int p3]) (n := 11) (Nat.le_of_ble_eq_true rfl)
  rw [lg_entry_eq]
  generalize (lg_sl ([.ref h0, .int p1, .int p2, .int p3]) ++ List.replicate (11 - (lg_sl ([.ref h0, .int p1, .int p2, .int p3])).length) Slot.unset).toArray = ls at hl ⊢
  have hl : lv_has ls 11 [(0, .ref h0), (1, .int p1), (2, .int p2), (3, .int p3)] := hl
  exact bE M s.heap [] ls hP hD hS hl h
