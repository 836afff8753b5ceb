def wX12_strength (p1 : Int32) (M : gS) (Q : Int32 → gS → Prop) : Prop :=
 ((p1 = (13 : Int32) → (Q (1 : Int32) M))
 ∧ (¬ p1 = (13 : Int32) → ((p1 = (12 : Int32) → (Q (2 : Int32) M))
 ∧ (¬ p1 = (12 : Int32) → ((p1 = (11 : Int32) → (Q (3 : Int32) M))
 ∧ (¬ p1 = (11 : Int32) → (Q (0 : Int32) M)))))))
def rmX12_strength : Room := { frames := 0, cells := 0, slots := 0, locals := 0 }
set_option maxHeartbeats 4000000 in
set_option maxRecDepth 100000 in
theorem kX12_strength (l : Launch) (dC : Nat → ClassId) (dI : Nat → Nat → Nat) (cB cI cJ cZ : ClassId) (h0 : Nat) (ad : Nat → Nat) (sz : Nat) (p1 : Int32) (M : gS) (Q : Int32 → gS → Prop) (h : wX12_strength p1 M Q) : Met l yX12_strength wsX12_strength rmX12_strength (va_Pc [.int p1] (mI dC dI cB cI cJ cZ h0 ad M sz)) (va_Qi (fun (r : Int32) (u : gS) => Q r u) (mB dC dI cB cI cJ cZ h0 ad (va_A (mW cB cI cJ cZ h0 ad M) sz)) (va_A (mW cB cI cJ cZ h0 ad M) sz)) 0 0 (va_A (mW cB cI cJ cZ h0 ad M) sz) := by
  refine Met.ofW (cc := cX12_strength) (maxL := 1) (ret := (some .int)) (by decide) rfl ?_
  intro p e s m args below meth c s₁ B hml hv
  obtain ⟨rfl, hsz, hP, hK, hD0⟩ := hv
  have hx := B.exec
  have hb := B.bytes
  have hr := B.returns
  have hts := atoms_spec (ws := wsX12_strength) B.pre
  have hown : s.vm.findClass RX12 = some m.cls := findClass_of_methodNamed B.named
  have hlocks := B.notSynchronized
  subst hsz
  have hD := hD0.self (sz := s.heap.size)
  generalize hAe : va_A (mW cB cI cJ cZ h0 ad M) s.heap.size = A at hD ⊢
  have hA : ∀ q : Nat, s.heap.size ≤ q → A q := fun q h => by rw [← hAe]; exact Or.inr h
  have hS : va_S A s.heap s.heap [] := va_S.rf
  have bE : ∀ (M : gS) (H : Heap) (locs : List Loc) (ls : Array Slot), va_P (dC, dI) vwCl (mW cB cI cJ cZ h0 ad M) H → va_D A (mW cB cI cJ cZ h0 ad M) → va_S A s.heap H locs → lv_has ls 1 [(0, .int p1)] → wX12_strength p1 M Q → W p l e (headSpec wsX12_strength rmX12_strength).room s m ([.int p1] : List Value).toArray below meth c H locs 0 0 (MQ below (va_Qi (fun (r : Int32) (u : gS) => Q r u) (mB dC dI cB cI cJ cZ h0 ad A) A) ([.int p1] : List Value).toArray s 0 0 A) (F0 m 0 ls []) := by
    intro M H locs ls hP hD hS hl h
    unfold wX12_strength at h
    refine lv_iload_n hx hb dX12_strength_0 rfl (lv_at hl 0 rfl) ?_
    refine lv_bipush (v := (13)) hx hb dX12_strength_1 (by decide) ?_
    refine lv_icmp_ne (tgt := 10) hx hb dX12_strength_3 (by decide) (fun c1 => ?_) (fun c1 => ?_)
    · have h := h.2 c1
      refine lv_iload_n hx hb dX12_strength_10 rfl (lv_at hl 0 rfl) ?_
      refine lv_bipush (v := (12)) hx hb dX12_strength_11 (by decide) ?_
      refine lv_icmp_ne (tgt := 20) hx hb dX12_strength_13 (by decide) (fun c2 => ?_) (fun c2 => ?_)
      · have h := h.2 c2
        refine lv_iload_n hx hb dX12_strength_20 rfl (lv_at hl 0 rfl) ?_
        refine lv_bipush (v := (11)) hx hb dX12_strength_21 (by decide) ?_
        refine lv_icmp_ne (tgt := 30) hx hb dX12_strength_23 (by decide) (fun c3 => ?_) (fun c3 => ?_)
        · have h := h.2 c3
          refine lv_iconst (v := 0) hx hb dX12_strength_30 (by decide) ?_
          exact W.iret (v := (0 : Int32)) hx hb hr (fun t ht hW => ⟨⟨_, M, rfl, h, by rw [ht]; exact hP, va_K.moved hW.alike hK, hD⟩, hS.F ht⟩) hS.2.2 dX12_strength_31
        · have h := h.1 c3
          refine lv_iconst (v := 3) hx hb dX12_strength_26 (by decide) ?_
          refine lv_goto (tgt := 31) hx hb dX12_strength_27 (by decide) ?_
          exact W.iret (v := (3 : Int32)) hx hb hr (fun t ht hW => ⟨⟨_, M, rfl, h, by rw [ht]; exact hP, va_K.moved hW.alike hK, hD⟩, hS.F ht⟩) hS.2.2 dX12_strength_31
      · have h := h.1 c2
        refine lv_iconst (v := 2) hx hb dX12_strength_16 (by decide) ?_
        refine lv_goto (tgt := 31) hx hb dX12_strength_17 (by decide) ?_
        exact W.iret (v := (2 : Int32)) hx hb hr (fun t ht hW => ⟨⟨_, M, rfl, h, by rw [ht]; exact hP, va_K.moved hW.alike hK, hD⟩, hS.F ht⟩) hS.2.2 dX12_strength_31
    · have h := h.1 c1
      refine lv_iconst (v := 1) hx hb dX12_strength_6 (by decide) ?_
      refine lv_goto (tgt := 31) hx hb dX12_strength_7 (by decide) ?_
      exact W.iret (v := (1 : Int32)) hx hb hr (fun t ht hW => ⟨⟨_, M, rfl, h, by rw [ht]; exact hP, va_K.moved hW.alike hK, hD⟩, hS.F ht⟩) hS.2.2 dX12_strength_31
  have hl := lv_entry ([.int p1]) (n := 1) (Nat.le_of_ble_eq_true rfl)
  rw [lg_entry_eq]
  generalize (lg_sl ([.int p1]) ++ List.replicate (1 - (lg_sl ([.int p1])).length) Slot.unset).toArray = ls at hl ⊢
  have hl : lv_has ls 1 [(0, .int p1)] := hl
  exact bE M s.heap [] ls hP hD hS hl h
def wX12_settles_0  (Q : gS → Prop) : Nat → Int32 → gS → Prop
 | 0, _, _ => False
 | n + 1, y1, M => (((mg M 21) ≤ 0 → (Q M))
 ∧ (¬ (mg M 21) ≤ 0 → (vp_in ((mg M 21) - (1 : Int32)) 400 ∧ (wX12_strength (ma M 20 (Int32.toNatClampNeg ((mg M 21) - (1 : Int32)))) M (fun (r2 : Int32) (M3 : gS) => ((r2 < y1 → (Q M3))
 ∧ (¬ r2 < y1 → (∀ x5 : Int32, x5 = ((mg M3 21) - (1 : Int32)) → (∀ M6 : gS, M6 = sg M3 21 x5 → (vp_in (mg M6 21) 400 ∧ (wX12_puts (ma M6 20 (Int32.toNatClampNeg (mg M6 21))) (0 : Int32) M6 (fun (M8 : gS) => (vp_in (mg M8 21) 400 ∧ (((ma M8 20 (Int32.toNatClampNeg (mg M8 21))) = (11 : Int32) → (∀ x10 : Int32, x10 = ((mg M8 18) - (1 : Int32)) → (∀ M11 : gS, M11 = sg M8 18 x10 → (wX12_settles_0  Q n y1 M11))))
 ∧ (¬ (ma M8 20 (Int32.toNatClampNeg (mg M8 21))) = (11 : Int32) → (wX12_settles_0  Q n y1 M8))))))))))))))))
def wX12_settles (p1 : Int32) (M : gS) (Q : gS → Prop) : Prop :=
 (∃ k0 : Nat, wX12_settles_0  Q k0 p1 M)
def rmX12_settles : Room := { frames := 1, cells := 0, slots := 0, locals := 22 }
set_option maxHeartbeats 4000000 in
set_option maxRecDepth 100000 in
theorem kX12_settles (l : Launch) (dC : Nat → ClassId) (dI : Nat → Nat → Nat) (cB cI cJ cZ : ClassId) (h0 : Nat) (ad : Nat → Nat) (sz : Nat) (p1 : Int32) (M : gS) (Q : gS → Prop) (h : wX12_settles p1 M Q) : Met l yX12_settles wsX12_settles rmX12_settles (va_Pc [.ref h0, .int p1] (mI dC dI cB cI cJ cZ h0 ad M sz)) (va_Qv (fun (u : gS) => Q u) (mB dC dI cB cI cJ cZ h0 ad (va_A (mW cB cI cJ cZ h0 ad M) sz)) (va_A (mW cB cI cJ cZ h0 ad M) sz)) 0 0 (va_A (mW cB cI cJ cZ h0 ad M) sz) := by
  refine Met.ofW (cc := cX12_settles) (maxL := 2) (ret := none) (by decide) rfl ?_
  intro p e s m args below meth c s₁ B hml hv
  obtain ⟨rfl, hsz, hP, hK, hD0⟩ := hv
  have hx := B.exec
  have hb := B.bytes
  have hr := B.returns
  have hts := atoms_spec (ws := wsX12_settles) B.pre
  have hown : s.vm.findClass RX12 = some m.cls := findClass_of_methodNamed B.named
  have hlocks := B.notSynchronized
  subst hsz
  have hD := hD0.self (sz := s.heap.size)
  generalize hAe : va_A (mW cB cI cJ cZ h0 ad M) s.heap.size = A at hD ⊢
  have hA : ∀ q : Nat, s.heap.size ≤ q → A q := fun q h => by rw [← hAe]; exact Or.inr h
  have hS : va_S A s.heap s.heap [] := va_S.rf
  have hin : ∀ w ∈ wsX120, w ∈ wsX12_settles := fun w h => List.mem_cons_of_mem _ (List.mem_append_right _ h)
  have f1 := hts (.fieldLink RX12 146 "LastWordsModel" "opened" "I") (by decide +kernel)
  have f2 := hts (.fieldLink RX12 35 "LastWordsModel" "open" "[I") (by decide +kernel)
  have f3 := hts (.fieldLink RX12 143 "LastWordsModel" "deep" "I") (by decide +kernel)
  have b0 : ∀ (n : Nat) (y1 : Int32) (M : gS) (H : Heap) (locs : List Loc) (ls : Array Slot), va_P (dC, dI) vwCl (mW cB cI cJ cZ h0 ad M) H → va_D A (mW cB cI cJ cZ h0 ad M) → va_S A s.heap H locs → lv_has ls 2 [(0, .ref h0), (1, .int y1)] → wX12_settles_0  Q n y1 M → W p l e (headSpec wsX12_settles rmX12_settles).room s m ([.ref h0, .int p1] : List Value).toArray below meth c H locs 0 0 (MQ below (va_Qv (fun (u : gS) => Q u) (mB dC dI cB cI cJ cZ h0 ad A) A) ([.ref h0, .int p1] : List Value).toArray s 0 0 A) (F0 m 0 ls []) := by
    intro  n
    induction n with
    | zero => intro y1 M H locs ls hP hD hS hl h; exact absurd h (by simp [wX12_settles_0])
    | succ n hB00 =>
      intro y1 M H locs ls hP hD hS hl h
      have hB0 := hB00
      rw [wX12_settles_0] at h
      refine lv_aload_n hx hb dX12_settles_0 rfl (lv_at hl 0 rfl) ?_
      refine va_get (D := (dC, dI)) (ci := 12) (v := .int (mg M 21)) (C := RX12) (T := TX12) (N := 37) hx hb hts hin hown hK hP 0 rfl rfl 21 (by decide) f1 (fun _ h9 => h9) rfl dX12_settles_1 ?_
      refine lv_if_le (tgt := 76) hx hb dX12_settles_4 (by decide) (fun c1 => ?_) (fun c1 => ?_)
      · have h := h.1 c1
        exact W.vret hx hb hr (fun t ht hW => ⟨⟨M, rfl, h, by rw [ht]; exact hP, va_K.moved hW.alike hK, hD⟩, hS.F ht⟩) hS.2.2 dX12_settles_76
      · have h := h.2 c1
        refine lv_aload_n hx hb dX12_settles_7 rfl (lv_at hl 0 rfl) ?_
        refine va_get (D := (dC, dI)) (ci := 12) (v := .ref (ad 20)) (C := RX12) (T := TX12) (N := 37) hx hb hts hin hown hK hP 0 rfl rfl 20 (by decide) f2 (fun _ h9 => h9) rfl dX12_settles_8 ?_
        refine lv_aload_n hx hb dX12_settles_11 rfl (lv_at hl 0 rfl) ?_
        refine va_get (D := (dC, dI)) (ci := 12) (v := .int (mg M 21)) (C := RX12) (T := TX12) (N := 37) hx hb hts hin hown hK hP 0 rfl rfl 21 (by decide) f1 (fun _ h9 => h9) rfl dX12_settles_12 ?_
        refine lv_iconst (v := 1) hx hb dX12_settles_15 (by decide) ?_
        refine lv_isub hx hb dX12_settles_16 ?_
        refine va_iald hx hb hK hP 9 1 (f := ma M 20) rfl rfl h.1 dX12_settles_17 ?_
        have h := h.2
        have hFc := gs_free hD hS hA
        refine va_calli (va_runS (As := [.int (ma M 20 (Int32.toNatClampNeg ((mg M 21) - (1 : Int32))))]) (rest := []) ⟨hx, hb, hml, hown, hts⟩ (kX12_strength l dC dI cB cI cJ cZ h0 ad H.size (ma M 20 (Int32.toNatClampNeg ((mg M 21) - (1 : Int32)))) M _ h) (cwS 1 hts gX12_settles_X12_strength rfl rfl rfl (by decide +kernel) ⟨Nat.le_of_ble_eq_true rfl, Nat.le_of_ble_eq_true rfl⟩) (mpS hK hP hD) rfl rfl hl.1 rfl (lv_room (Nat.le_of_ble_eq_true rfl)) dX12_settles_18 ⟨Nat.le_of_ble_eq_true rfl, Nat.le_of_ble_eq_true rfl⟩) hS (fun q _ z => hFc q z) hFc (fun r2 M3 t H1 locs ht hvm hw hB hz1 hk1 hS => ?_)
        obtain ⟨hP, hD⟩ := gs_back ht hFc hB
        generalize H1 = H at hP hS ⊢
        have h := hw
        try dsimp only at h
        refine lv_iload_n hx hb dX12_settles_21 rfl (lv_at hl 1 rfl) ?_
        refine lv_icmp_lt (tgt := 76) hx hb dX12_settles_22 (by decide) (fun c4 => ?_) (fun c4 => ?_)
        · have h := h.1 c4
          exact W.vret hx hb hr (fun t ht hW => ⟨⟨M3, rfl, h, by rw [ht]; exact hP, va_K.moved hW.alike hK, hD⟩, hS.F ht⟩) hS.2.2 dX12_settles_76
        · have h := h.2 c4
          refine lv_aload_n hx hb dX12_settles_25 rfl (lv_at hl 0 rfl) ?_
          refine lv_dup hx hb dX12_settles_26 rfl ?_
          refine va_get (D := (dC, dI)) (ci := 12) (v := .int (mg M3 21)) (C := RX12) (T := TX12) (N := 37) hx hb hts hin hown hK hP 0 rfl rfl 21 (by decide) f1 (fun _ h9 => h9) rfl dX12_settles_27 ?_
          refine lv_iconst (v := 1) hx hb dX12_settles_30 (by decide) ?_
          refine lv_isub hx hb dX12_settles_31 ?_
          refine lv_topi (fun x5 ex5 => ?_)
          have h := h x5 ex5
          refine va_put (D := (dC, dI)) (ci := 12) (v := .int x5) (ty := .int) (C := RX12) (T := TX12) (N := 37) hx hb hts hin tyX12 tyX12_ok nmX12 hown hK hP hD hS 0 rfl rfl 21 (by decide) f1 (fun _ h9 => h9) rfl (by decide +kernel) rfl rfl (Nat.le_of_ble_eq_true rfl) dX12_settles_32 (fun H locs hP hD hS => ?_)
          have hP := mP_f21 hP
          have hD := mD_f21 hD
          have h := h _ rfl
          generalize sg M3 21 x5 = M6 at hP hD h
          refine lv_aload_n hx hb dX12_settles_35 rfl (lv_at hl 0 rfl) ?_
          refine lv_aload_n hx hb dX12_settles_36 rfl (lv_at hl 0 rfl) ?_
          refine va_get (D := (dC, dI)) (ci := 12) (v := .ref (ad 20)) (C := RX12) (T := TX12) (N := 37) hx hb hts hin hown hK hP 0 rfl rfl 20 (by decide) f2 (fun _ h9 => h9) rfl dX12_settles_37 ?_
          refine lv_aload_n hx hb dX12_settles_40 rfl (lv_at hl 0 rfl) ?_
          refine va_get (D := (dC, dI)) (ci := 12) (v := .int (mg M6 21)) (C := RX12) (T := TX12) (N := 37) hx hb hts hin hown hK hP 0 rfl rfl 21 (by decide) f1 (fun _ h9 => h9) rfl dX12_settles_41 ?_
          refine va_iald hx hb hK hP 9 1 (f := ma M6 20) rfl rfl h.1 dX12_settles_44 ?_
          have h := h.2
          refine lv_iconst (v := 0) hx hb dX12_settles_45 (by decide) ?_
          have hFc := gs_free hD hS hA
          refine va_callv (va_runV (As := [.int (ma M6 20 (Int32.toNatClampNeg (mg M6 21))), .int (0 : Int32)]) (rest := []) ⟨hx, hb, hml, hown, hts⟩ (kX12_puts l dC dI cB cI cJ cZ h0 ad H.size (ma M6 20 (Int32.toNatClampNeg (mg M6 21))) (0 : Int32) M6 _ h) (cwV 2 hts gX12_settles_X12_puts rfl rfl rfl (by decide +kernel) ⟨Nat.le_of_ble_eq_true rfl, Nat.le_of_ble_eq_true rfl⟩) (mpV hK hP hD) rfl rfl hl.1 rfl (lv_room (Nat.le_of_ble_eq_true rfl)) dX12_settles_46 ⟨Nat.le_of_ble_eq_true rfl, Nat.le_of_ble_eq_true rfl⟩) hS (fun q _ z => hFc q z) hFc (fun M8 t H1 locs ht hvm hw hB hz1 hk1 hS => ?_)
          obtain ⟨hP, hD⟩ := gs_back ht hFc hB
          generalize H1 = H at hP hS ⊢
          have h := hw
          try dsimp only at h
          refine lv_aload_n hx hb dX12_settles_49 rfl (lv_at hl 0 rfl) ?_
          refine va_get (D := (dC, dI)) (ci := 12) (v := .ref (ad 20)) (C := RX12) (T := TX12) (N := 37) hx hb hts hin hown hK hP 0 rfl rfl 20 (by decide) f2 (fun _ h9 => h9) rfl dX12_settles_50 ?_
          refine lv_aload_n hx hb dX12_settles_53 rfl (lv_at hl 0 rfl) ?_
          refine va_get (D := (dC, dI)) (ci := 12) (v := .int (mg M8 21)) (C := RX12) (T := TX12) (N := 37) hx hb hts hin hown hK hP 0 rfl rfl 21 (by decide) f1 (fun _ h9 => h9) rfl dX12_settles_54 ?_
          refine va_iald hx hb hK hP 9 1 (f := ma M8 20) rfl rfl h.1 dX12_settles_57 ?_
          have h := h.2
          refine lv_bipush (v := (11)) hx hb dX12_settles_58 (by decide) ?_
          refine lv_icmp_ne (tgt := 0) hx hb dX12_settles_60 (by decide) (fun c9 => ?_) (fun c9 => ?_)
          · have h := h.2 c9
            exact hB0 y1 M8 H locs ls hP hD hS (lv_sub hl [0, 1] rfl) h
          · have h := h.1 c9
            refine lv_aload_n hx hb dX12_settles_63 rfl (lv_at hl 0 rfl) ?_
            refine lv_dup hx hb dX12_settles_64 rfl ?_
            refine va_get (D := (dC, dI)) (ci := 12) (v := .int (mg M8 18)) (C := RX12) (T := TX12) (N := 37) hx hb hts hin hown hK hP 0 rfl rfl 18 (by decide) f3 (fun _ h9 => h9) rfl dX12_settles_65 ?_
            refine lv_iconst (v := 1) hx hb dX12_settles_68 (by decide) ?_
            refine lv_isub hx hb dX12_settles_69 ?_
            refine lv_topi (fun x10 ex10 => ?_)
            have h := h x10 ex10
            refine va_put (D := (dC, dI)) (ci := 12) (v := .int x10) (ty := .int) (C := RX12) (T := TX12) (N := 37) hx hb hts hin tyX12 tyX12_ok nmX12 hown hK hP hD hS 0 rfl rfl 18 (by decide) f3 (fun _ h9 => h9) rfl (by decide +kernel) rfl rfl (Nat.le_of_ble_eq_true rfl) dX12_settles_70 (fun H locs hP hD hS => ?_)
            have hP := mP_f18 hP
            have hD := mD_f18 hD
            have h := h _ rfl
            generalize sg M8 18 x10 = M11 at hP hD h
            refine lv_goto (tgt := 0) hx hb dX12_settles_73 (by decide) ?_
            exact hB0 y1 M11 H locs ls hP hD hS (lv_sub hl [0, 1] rfl) h
  have bE : ∀ (M : gS) (H : Heap) (locs : List Loc) (ls : Array Slot), va_P (dC, dI) vwCl (mW cB cI cJ cZ h0 ad M) H → va_D A (mW cB cI cJ cZ h0 ad M) → va_S A s.heap H locs → lv_has ls 2 [(0, .ref h0), (1, .int p1)] → wX12_settles p1 M Q → W p l e (headSpec wsX12_settles rmX12_settles).room s m ([.ref h0, .int p1] : List Value).toArray below meth c H locs 0 0 (MQ below (va_Qv (fun (u : gS) => Q u) (mB dC dI cB cI cJ cZ h0 ad A) A) ([.ref h0, .int p1] : List Value).toArray s 0 0 A) (F0 m 0 ls []) := by
    intro M H locs ls hP hD hS hl h
    unfold wX12_settles at h
    obtain ⟨n9, h⟩ := h
    exact b0  n9 p1 M H locs ls hP hD hS (lv_sub hl [0, 1] rfl) h
  have hl := lv_entry ([.ref h0, .int p1]) (n := 2) (Nat.le_of_ble_eq_true rfl)
  rw [lg_entry_eq]
  generalize (lg_sl ([.ref h0, .int p1]) ++ List.replicate (2 - (lg_sl ([.ref h0, .int p1])).length) Slot.unset).toArray = ls at hl ⊢
  have hl : lv_has ls 2 [(0, .ref h0), (1, .int p1)] := hl
  exact bE M s.heap [] ls hP hD hS hl h
def wX12_value  (M : gS) (Q : Bool → gS → Prop) : Prop :=
 (wX12_see  M (fun (r1 : Int32) (M2 : gS) => (∀ x3 : Int32, x3 = (mg M2 13) → (wX12_isDigit (mg M2 13) M2 (fun (b6 : Bool) (M5 : gS) => (((bI b6) = 0 → (wX12_wordHere  M5 (fun (r8 : Int32) (M9 : gS) => ((0 ≤ r8 → (wX12_makes x3 M9 (fun (b13 : Bool) (M12 : gS) => (((bI b13) = 0 → (Q false M12))
 ∧ (¬ (bI b13) = 0 → (wX12_passWord  M12 (fun (M16 : gS) => (wX12_puts (1 : Int32) r8 M16 (fun (M18 : gS) => (Q true M18))))))))))
 ∧ (¬ 0 ≤ r8 → (wX12_fails (0 : Int32) x3 M9 (fun (b21 : Bool) (M20 : gS) => (Q b21 M20))))))))
 ∧ (¬ (bI b6) = 0 → (wX12_numberHere (0 : Int32) (99999 : Int32) M5 (fun (b24 : Bool) (M23 : gS) => (((bI b24) = 0 → (Q false M23))
 ∧ (¬ (bI b24) = 0 → (wX12_makes x3 M23 (fun (b28 : Bool) (M27 : gS) => (((bI b28) = 0 → (Q false M27))
 ∧ (¬ (bI b28) = 0 → (wX12_puts (0 : Int32) (mg M27 15) M27 (fun (M31 : gS) => (Q true M31))))))))))))))))))
def rmX12_value : Room := { frames := 3, cells := 0, slots := 0, locals := 66 }
set_option maxHeartbeats 4000000 in
set_option maxRecDepth 100000 in
theorem kX12_value (l : Launch) (dC : Nat → ClassId) (dI : Nat → Nat → Nat) (cB cI cJ cZ : ClassId) (h0 : Nat) (ad : Nat → Nat) (sz : Nat)  (M : gS) (Q : Bool → gS → Prop) (h : wX12_value  M Q) : Met l yX12_value wsX12_value rmX12_value (va_Pc [.ref h0] (mI dC dI cB cI cJ cZ h0 ad M sz)) (va_Qi (fun (r : Int32) (u : gS) => ∃ b : Bool, r = bI b ∧ Q b u) (mB dC dI cB cI cJ cZ h0 ad (va_A (mW cB cI cJ cZ h0 ad M) sz)) (va_A (mW cB cI cJ cZ h0 ad M) sz)) 0 0 (va_A (mW cB cI cJ cZ h0 ad M) sz) := by
  refine Met.ofW (cc := cX12_value) (maxL := 3) (ret := (some .boolean)) (by decide) rfl ?_
  intro p e s m args below meth c s₁ B hml hv
  obtain ⟨rfl, hsz, hP, hK, hD0⟩ := hv
  have hx := B.exec
  have hb := B.bytes
  have hr := B.returns
  have hts := atoms_spec (ws := wsX12_value) B.pre
  have hown : s.vm.findClass RX12 = some m.cls := findClass_of_methodNamed B.named
  have hlocks := B.notSynchronized
  subst hsz
  have hD := hD0.self (sz := s.heap.size)
  generalize hAe : va_A (mW cB cI cJ cZ h0 ad M) s.heap.size = A at hD ⊢
  have hA : ∀ q : Nat, s.heap.size ≤ q → A q := fun q h => by rw [← hAe]; exact Or.inr h
  have hS : va_S A s.heap s.heap [] := va_S.rf
  have hin : ∀ w ∈ wsX120, w ∈ wsX12_value := fun w h => List.mem_cons_of_mem _ (List.mem_append_right _ h)
  have f1 := hts (.fieldLink RX12 87 "LastWordsModel" "next" "I") (by decide +kernel)
  have f2 := hts (.constant RX12 157 (99999)) (by decide +kernel)
  have f3 := hts (.fieldLink RX12 112 "LastWordsModel" "number" "I") (by decide +kernel)
  have bE : ∀ (M : gS) (H : Heap) (locs : List Loc) (ls : Array Slot), va_P (dC, dI) vwCl (mW cB cI cJ cZ h0 ad M) H → va_D A (mW cB cI cJ cZ h0 ad M) → va_S A s.heap H locs → lv_has ls 3 [(0, .ref h0)] → wX12_value  M Q → W p l e (headSpec wsX12_value rmX12_value).room s m ([.ref h0] : List Value).toArray below meth c H locs 0 0 (MQ below (va_Qi (fun (r : Int32) (u : gS) => ∃ b : Bool, r = bI b ∧ Q b u) (mB dC dI cB cI cJ cZ h0 ad A) A) ([.ref h0] : List Value).toArray s 0 0 A) (F0 m 0 ls []) := by
    intro M H locs ls hP hD hS hl h
    unfold wX12_value at h
    refine lv_aload_n hx hb dX12_value_0 rfl (lv_at hl 0 rfl) ?_
    have hFc := gs_free hD hS hA
    refine va_calli (va_runV (As := []) (rest := []) ⟨hx, hb, hml, hown, hts⟩ (kX12_see l dC dI cB cI cJ cZ h0 ad H.size  M _ h) (cwV 0 hts gX12_value_X12_see rfl rfl rfl (by decide +kernel) ⟨Nat.le_of_ble_eq_true rfl, Nat.le_of_ble_eq_true rfl⟩) (mpV hK hP hD) rfl rfl hl.1 rfl (lv_room (Nat.le_of_ble_eq_true rfl)) dX12_value_1 ⟨Nat.le_of_ble_eq_true rfl, Nat.le_of_ble_eq_true rfl⟩) hS (fun q _ z => hFc q z) hFc (fun r1 M2 t H1 locs ht hvm hw hB hz1 hk1 hS => ?_)
    obtain ⟨hP, hD⟩ := gs_back ht hFc hB
    generalize H1 = H at hP hS ⊢
    have h := hw
    try dsimp only at h
    refine lv_pop hx hb dX12_value_4 rfl ?_
    refine lv_aload_n hx hb dX12_value_5 rfl (lv_at hl 0 rfl) ?_
    refine va_get (D := (dC, dI)) (ci := 12) (v := .int (mg M2 13)) (C := RX12) (T := TX12) (N := 37) hx hb hts hin hown hK hP 0 rfl rfl 13 (by decide) f1 (fun _ h9 => h9) rfl dX12_value_6 ?_
    refine lv_topi (fun x3 ex3 => ?_)
    have h := h x3 ex3
    refine lv_istore_n (lv' := [(1, .int x3), (0, .ref h0)]) hx hb dX12_value_9 rfl hl (by decide) rfl (fun ls hl => ?_)
    refine lv_aload_n hx hb dX12_value_10 rfl (lv_at hl 1 rfl) ?_
    refine lv_aload_n hx hb dX12_value_11 rfl (lv_at hl 1 rfl) ?_
    refine va_get (D := (dC, dI)) (ci := 12) (v := .int (mg M2 13)) (C := RX12) (T := TX12) (N := 37) hx hb hts hin hown hK hP 0 rfl rfl 13 (by decide) f1 (fun _ h9 => h9) rfl dX12_value_12 ?_
    have hFc := gs_free hD hS hA
    refine va_calli (va_runV (As := [.int (mg M2 13)]) (rest := []) ⟨hx, hb, hml, hown, hts⟩ (kX12_isDigit l dC dI cB cI cJ cZ h0 ad H.size (mg M2 13) M2 _ h) (cwV 1 hts gX12_value_X12_isDigit rfl rfl rfl (by decide +kernel) ⟨Nat.le_of_ble_eq_true rfl, Nat.le_of_ble_eq_true rfl⟩) (mpV hK hP hD) rfl rfl hl.1 rfl (lv_room (Nat.le_of_ble_eq_true rfl)) dX12_value_15 ⟨Nat.le_of_ble_eq_true rfl, Nat.le_of_ble_eq_true rfl⟩) hS (fun q _ z => hFc q z) hFc (fun r4 M5 t H1 locs ht hvm hw hB hz1 hk1 hS => ?_)
    obtain ⟨hP, hD⟩ := gs_back ht hFc hB
    generalize H1 = H at hP hS ⊢
    obtain ⟨b6, rfl, h⟩ := hw
    try dsimp only at h
    refine lv_if_eq (tgt := 52) hx hb dX12_value_18 (by decide) (fun c7 => ?_) (fun c7 => ?_)
    · have h := h.1 c7
      refine lv_aload_n hx hb dX12_value_52 rfl (lv_at hl 1 rfl) ?_
      have hFc := gs_free hD hS hA
      refine va_calli (va_runV (As := []) (rest := []) ⟨hx, hb, hml, hown, hts⟩ (kX12_wordHere l dC dI cB cI cJ cZ h0 ad H.size  M5 _ h) (cwV 0 hts gX12_value_X12_wordHere rfl rfl rfl (by decide +kernel) ⟨Nat.le_of_ble_eq_true rfl, Nat.le_of_ble_eq_true rfl⟩) (mpV hK hP hD) rfl rfl hl.1 rfl (lv_room (Nat.le_of_ble_eq_true rfl)) dX12_value_53 ⟨Nat.le_of_ble_eq_true rfl, Nat.le_of_ble_eq_true rfl⟩) hS (fun q _ z => hFc q z) hFc (fun r8 M9 t H1 locs ht hvm hw hB hz1 hk1 hS => ?_)
      obtain ⟨hP, hD⟩ := gs_back ht hFc hB
      generalize H1 = H at hP hS ⊢
      have h := hw
      try dsimp only at h
      refine lv_istore_n (lv' := [(2, .int r8), (1, .int x3), (0, .ref h0)]) hx hb dX12_value_56 rfl hl (by decide) rfl (fun ls hl => ?_)
      refine lv_iload_n hx hb dX12_value_57 rfl (lv_at hl 0 rfl) ?_
      refine lv_if_ge (tgt := 68) hx hb dX12_value_58 (by decide) (fun c10 => ?_) (fun c10 => ?_)
      · have h := h.1 c10
        refine lv_aload_n hx hb dX12_value_68 rfl (lv_at hl 2 rfl) ?_
        refine lv_iload_n hx hb dX12_value_69 rfl (lv_at hl 1 rfl) ?_
        have hFc := gs_free hD hS hA
        refine va_calli (va_runV (As := [.int x3]) (rest := []) ⟨hx, hb, hml, hown, hts⟩ (kX12_makes l dC dI cB cI cJ cZ h0 ad H.size x3 M9 _ h) (cwV 1 hts gX12_value_X12_makes rfl rfl rfl (by decide +kernel) ⟨Nat.le_of_ble_eq_true rfl, Nat.le_of_ble_eq_true rfl⟩) (mpV hK hP hD) rfl rfl hl.1 rfl (lv_room (Nat.le_of_ble_eq_true rfl)) dX12_value_70 ⟨Nat.le_of_ble_eq_true rfl, Nat.le_of_ble_eq_true rfl⟩) hS (fun q _ z => hFc q z) hFc (fun r11 M12 t H1 locs ht hvm hw hB hz1 hk1 hS => ?_)
        obtain ⟨hP, hD⟩ := gs_back ht hFc hB
        generalize H1 = H at hP hS ⊢
        obtain ⟨b13, rfl, h⟩ := hw
        try dsimp only at h
        refine lv_if_ne (tgt := 78) hx hb dX12_value_73 (by decide) (fun c14 => ?_) (fun c14 => ?_)
        · have h := h.2 c14
          refine lv_aload_n hx hb dX12_value_78 rfl (lv_at hl 2 rfl) ?_
          have hFc := gs_free hD hS hA
          refine va_callv (va_runV (As := []) (rest := []) ⟨hx, hb, hml, hown, hts⟩ (kX12_passWord l dC dI cB cI cJ cZ h0 ad H.size  M12 _ h) (cwV 0 hts gX12_value_X12_passWord rfl rfl rfl (by decide +kernel) ⟨Nat.le_of_ble_eq_true rfl, Nat.le_of_ble_eq_true rfl⟩) (mpV hK hP hD) rfl rfl hl.1 rfl (lv_room (Nat.le_of_ble_eq_true rfl)) dX12_value_79 ⟨Nat.le_of_ble_eq_true rfl, Nat.le_of_ble_eq_true rfl⟩) hS (fun q _ z => hFc q z) hFc (fun M16 t H1 locs ht hvm hw hB hz1 hk1 hS => ?_)
          obtain ⟨hP, hD⟩ := gs_back ht hFc hB
          generalize H1 = H at hP hS ⊢
          have h := hw
          try dsimp only at h
          refine lv_aload_n hx hb dX12_value_82 rfl (lv_at hl 2 rfl) ?_
          refine lv_iconst (v := 1) hx hb dX12_value_83 (by decide) ?_
          refine lv_iload_n hx hb dX12_value_84 rfl (lv_at hl 0 rfl) ?_
          have hFc := gs_free hD hS hA
          refine va_callv (va_runV (As := [.int (1 : Int32), .int r8]) (rest := []) ⟨hx, hb, hml, hown, hts⟩ (kX12_puts l dC dI cB cI cJ cZ h0 ad H.size (1 : Int32) r8 M16 _ h) (cwV 2 hts gX12_value_X12_puts rfl rfl rfl (by decide +kernel) ⟨Nat.le_of_ble_eq_true rfl, Nat.le_of_ble_eq_true rfl⟩) (mpV hK hP hD) rfl rfl hl.1 rfl (lv_room (Nat.le_of_ble_eq_true rfl)) dX12_value_85 ⟨Nat.le_of_ble_eq_true rfl, Nat.le_of_ble_eq_true rfl⟩) hS (fun q _ z => hFc q z) hFc (fun M18 t H1 locs ht hvm hw hB hz1 hk1 hS => ?_)
          obtain ⟨hP, hD⟩ := gs_back ht hFc hB
          generalize H1 = H at hP hS ⊢
          have h := hw
          try dsimp only at h
          refine lv_iconst (v := 1) hx hb dX12_value_88 (by decide) ?_
          exact W.zret (v := (bI true)) hx hb hr (nar_bI true) (fun t ht hW => ⟨⟨_, M18, rfl, ⟨true, rfl, h⟩, by rw [ht]; exact hP, va_K.moved hW.alike hK, hD⟩, hS.F ht⟩) hS.2.2 dX12_value_89
        · have h := h.1 c14
          refine lv_iconst (v := 0) hx hb dX12_value_76 (by decide) ?_
          exact W.zret (v := (bI false)) hx hb hr (nar_bI false) (fun t ht hW => ⟨⟨_, M12, rfl, ⟨false, rfl, h⟩, by rw [ht]; exact hP, va_K.moved hW.alike hK, hD⟩, hS.F ht⟩) hS.2.2 dX12_value_77
      · have h := h.2 c10
        refine lv_aload_n hx hb dX12_value_61 rfl (lv_at hl 2 rfl) ?_
        refine lv_iconst (v := 0) hx hb dX12_value_62 (by decide) ?_
        refine lv_iload_n hx hb dX12_value_63 rfl (lv_at hl 1 rfl) ?_
        have hFc := gs_free hD hS hA
        refine va_calli (va_runV (As := [.int (0 : Int32), .int x3]) (rest := []) ⟨hx, hb, hml, hown, hts⟩ (kX12_fails l dC dI cB cI cJ cZ h0 ad H.size (0 : Int32) x3 M9 _ h) (cwV 2 hts gX12_value_X12_fails rfl rfl rfl (by decide +kernel) ⟨Nat.le_of_ble_eq_true rfl, Nat.le_of_ble_eq_true rfl⟩) (mpV hK hP hD) rfl rfl hl.1 rfl (lv_room (Nat.le_of_ble_eq_true rfl)) dX12_value_64 ⟨Nat.le_of_ble_eq_true rfl, Nat.le_of_ble_eq_true rfl⟩) hS (fun q _ z => hFc q z) hFc (fun r19 M20 t H1 locs ht hvm hw hB hz1 hk1 hS => ?_)
        obtain ⟨hP, hD⟩ := gs_back ht hFc hB
        generalize H1 = H at hP hS ⊢
        obtain ⟨b21, rfl, h⟩ := hw
        try dsimp only at h
        exact W.zret (v := (bI b21)) hx hb hr (nar_bI b21) (fun t ht hW => ⟨⟨_, M20, rfl, ⟨b21, rfl, h⟩, by rw [ht]; exact hP, va_K.moved hW.alike hK, hD⟩, hS.F ht⟩) hS.2.2 dX12_value_67
    · have h := h.2 c7
      refine lv_aload_n hx hb dX12_value_21 rfl (lv_at hl 1 rfl) ?_
      refine lv_iconst (v := 0) hx hb dX12_value_22 (by decide) ?_
      refine lv_ldc (v := (99999)) hx hb hown f2 dX12_value_23 ?_
      have hFc := gs_free hD hS hA
      refine va_calli (va_runV (As := [.int (0 : Int32), .int (99999 : Int32)]) (rest := []) ⟨hx, hb, hml, hown, hts⟩ (kX12_numberHere l dC dI cB cI cJ cZ h0 ad H.size (0 : Int32) (99999 : Int32) M5 _ h) (cwV 2 hts gX12_value_X12_numberHere rfl rfl rfl (by decide +kernel) ⟨Nat.le_of_ble_eq_true rfl, Nat.le_of_ble_eq_true rfl⟩) (mpV hK hP hD) rfl rfl hl.1 rfl (lv_room (Nat.le_of_ble_eq_true rfl)) dX12_value_25 ⟨Nat.le_of_ble_eq_true rfl, Nat.le_of_ble_eq_true rfl⟩) hS (fun q _ z => hFc q z) hFc (fun r22 M23 t H1 locs ht hvm hw hB hz1 hk1 hS => ?_)
      obtain ⟨hP, hD⟩ := gs_back ht hFc hB
      generalize H1 = H at hP hS ⊢
      obtain ⟨b24, rfl, h⟩ := hw
      try dsimp only at h
      refine lv_if_eq (tgt := 39) hx hb dX12_value_28 (by decide) (fun c25 => ?_) (fun c25 => ?_)
      · have h := h.1 c25
        refine lv_iconst (v := 0) hx hb dX12_value_39 (by decide) ?_
        exact W.zret (v := (bI false)) hx hb hr (nar_bI false) (fun t ht hW => ⟨⟨_, M23, rfl, ⟨false, rfl, h⟩, by rw [ht]; exact hP, va_K.moved hW.alike hK, hD⟩, hS.F ht⟩) hS.2.2 dX12_value_40
      · have h := h.2 c25
        refine lv_aload_n hx hb dX12_value_31 rfl (lv_at hl 1 rfl) ?_
        refine lv_iload_n hx hb dX12_value_32 rfl (lv_at hl 0 rfl) ?_
        have hFc := gs_free hD hS hA
        refine va_calli (va_runV (As := [.int x3]) (rest := []) ⟨hx, hb, hml, hown, hts⟩ (kX12_makes l dC dI cB cI cJ cZ h0 ad H.size x3 M23 _ h) (cwV 1 hts gX12_value_X12_makes rfl rfl rfl (by decide +kernel) ⟨Nat.le_of_ble_eq_true rfl, Nat.le_of_ble_eq_true rfl⟩) (mpV hK hP hD) rfl rfl hl.1 rfl (lv_room (Nat.le_of_ble_eq_true rfl)) dX12_value_33 ⟨Nat.le_of_ble_eq_true rfl, Nat.le_of_ble_eq_true rfl⟩) hS (fun q _ z => hFc q z) hFc (fun r26 M27 t H1 locs ht hvm hw hB hz1 hk1 hS => ?_)
        obtain ⟨hP, hD⟩ := gs_back ht hFc hB
        generalize H1 = H at hP hS ⊢
        obtain ⟨b28, rfl, h⟩ := hw
        try dsimp only at h
        refine lv_if_ne (tgt := 41) hx hb dX12_value_36 (by decide) (fun c29 => ?_) (fun c29 => ?_)
        · have h := h.2 c29
          refine lv_aload_n hx hb dX12_value_41 rfl (lv_at hl 1 rfl) ?_
          refine lv_iconst (v := 0) hx hb dX12_value_42 (by decide) ?_
          refine lv_aload_n hx hb dX12_value_43 rfl (lv_at hl 1 rfl) ?_
          refine va_get (D := (dC, dI)) (ci := 12) (v := .int (mg M27 15)) (C := RX12) (T := TX12) (N := 37) hx hb hts hin hown hK hP 0 rfl rfl 15 (by decide) f3 (fun _ h9 => h9) rfl dX12_value_44 ?_
          have hFc := gs_free hD hS hA
          refine va_callv (va_runV (As := [.int (0 : Int32), .int (mg M27 15)]) (rest := []) ⟨hx, hb, hml, hown, hts⟩ (kX12_puts l dC dI cB cI cJ cZ h0 ad H.size (0 : Int32) (mg M27 15) M27 _ h) (cwV 2 hts gX12_value_X12_puts rfl rfl rfl (by decide +kernel) ⟨Nat.le_of_ble_eq_true rfl, Nat.le_of_ble_eq_true rfl⟩) (mpV hK hP hD) rfl rfl hl.1 rfl (lv_room (Nat.le_of_ble_eq_true rfl)) dX12_value_47 ⟨Nat.le_of_ble_eq_true rfl, Nat.le_of_ble_eq_true rfl⟩) hS (fun q _ z => hFc q z) hFc (fun M31 t H1 locs ht hvm hw hB hz1 hk1 hS => ?_)
          obtain ⟨hP, hD⟩ := gs_back ht hFc hB
          generalize H1 = H at hP hS ⊢
          have h := hw
          try dsimp only at h
          refine lv_iconst (v := 1) hx hb dX12_value_50 (by decide) ?_
          exact W.zret (v := (bI true)) hx hb hr (nar_bI true) (fun t ht hW => ⟨⟨_, M31, rfl, ⟨true, rfl, h⟩, by rw [ht]; exact hP, va_K.moved hW.alike hK, hD⟩, hS.F ht⟩) hS.2.2 dX12_value_51
        · have h := h.1 c29
          refine lv_iconst (v := 0) hx hb dX12_value_39 (by decide) ?_
          exact W.zret (v := (bI false)) hx hb hr (nar_bI false) (fun t ht hW => ⟨⟨_, M27, rfl, ⟨false, rfl, h⟩, by rw [ht]; exact hP, va_K.moved hW.alike hK, hD⟩, hS.F ht⟩) hS.2.2 dX12_value_40
  have hl := lv_entry ([.ref h0]) (n := 3) (Nat.le_of_ble_eq_true rfl)
  rw [lg_entry_eq]
  generalize (lg_sl ([.ref h0]) ++ List.replicate (3 - (lg_sl ([.ref h0])).length) Slot.unset).toArray = ls at hl ⊢
  have hl : lv_has ls 3 [(0, .ref h0)] := hl
  exact bE M s.heap [] ls hP hD hS hl h
def wX12_term_46 (B9 : gS → Prop) (Q : Bool → gS → Prop) (z0 : Int32) (M : gS) : Prop :=
 (∀ x1 : Int32, x1 = ((mg M 13) + (1 : Int32)) → (∀ M2 : gS, M2 = sg M 13 x1 → (wX12_value  M2 (fun (b5 : Bool) (M4 : gS) => (((bI b5) = 0 → (Q false M4))
 ∧ (¬ (bI b5) = 0 → (wX12_puts z0 (0 : Int32) M4 (fun (M8 : gS) => (B9 M8)))))))))
def wX12_term_27 (B9 : gS → Prop) (Q : Bool → gS → Prop)  (M : gS) : Prop :=
 (vp_in (mg M 13) 400 ∧ (((ma M 0 (Int32.toNatClampNeg (mg M 13))) = (42 : Int32) → (wX12_term_46 B9 Q (4 : Int32) M))
 ∧ (¬ (ma M 0 (Int32.toNatClampNeg (mg M 13))) = (42 : Int32) → (wX12_term_46 B9 Q (5 : Int32) M))))
def wX12_term_9  (Q : Bool → gS → Prop) : Nat → gS → Prop
 | 0, _ => False
 | n + 1, M => (wX12_see  M (fun (r1 : Int32) (M2 : gS) => ((r1 = (42 : Int32) → (wX12_term_27 (fun  (M : gS) => wX12_term_9  Q n  M) Q M2))
 ∧ (¬ r1 = (42 : Int32) → (wX12_see  M2 (fun (r4 : Int32) (M5 : gS) => ((r4 = (47 : Int32) → (wX12_term_27 (fun  (M : gS) => wX12_term_9  Q n  M) Q M5))
 ∧ (¬ r4 = (47 : Int32) → (Q true M5)))))))))
def wX12_term  (M : gS) (Q : Bool → gS → Prop) : Prop :=
 (wX12_value  M (fun (b3 : Bool) (M2 : gS) => (((bI b3) = 0 → (Q false M2))
 ∧ (¬ (bI b3) = 0 → (∃ k9 : Nat, wX12_term_9  Q k9 M2)))))
def rmX12_term : Room := { frames := 4, cells := 0, slots := 0, locals := 88 }
set_option maxHeartbeats 4000000 in
set_option maxRecDepth 100000 in
theorem kX12_term (l : Launch) (dC : Nat → ClassId) (dI : Nat → Nat → Nat) (cB cI cJ cZ : ClassId) (h0 : Nat) (ad : Nat → Nat) (sz : Nat)  (M : gS) (Q : Bool → gS → Prop) (h : wX12_term  M Q) : Met l yX12_term wsX12_term rmX12_term (va_Pc [.ref h0] (mI dC dI cB cI cJ cZ h0 ad M sz)) (va_Qi (fun (r : Int32) (u : gS) => ∃ b : Bool, r = bI b ∧ Q b u) (mB dC dI cB cI cJ cZ h0 ad (va_A (mW cB cI cJ cZ h0 ad M) sz)) (va_A (mW cB cI cJ cZ h0 ad M) sz)) 0 0 (va_A (mW cB cI cJ cZ h0 ad M) sz) := by
  refine Met.ofW (cc := cX12_term) (maxL := 2) (ret := (some .boolean)) (by decide) rfl ?_
  intro p e s m args below meth c s₁ B hml hv
  obtain ⟨rfl, hsz, hP, hK, hD0⟩ := hv
  have hx := B.exec
  have hb := B.bytes
  have hr := B.returns
  have hts := atoms_spec (ws := wsX12_term) B.pre
  have hown : s.vm.findClass RX12 = some m.cls := findClass_of_methodNamed B.named
  have hlocks := B.notSynchronized
  subst hsz
  have hD := hD0.self (sz := s.heap.size)
  generalize hAe : va_A (mW cB cI cJ cZ h0 ad M) s.heap.size = A at hD ⊢
  have hA : ∀ q : Nat, s.heap.size ≤ q → A q := fun q h => by rw [← hAe]; exact Or.inr h
  have hS : va_S A s.heap s.heap [] := va_S.rf
  have hin : ∀ w ∈ wsX120, w ∈ wsX12_term := fun w h => List.mem_cons_of_mem _ (List.mem_append_right _ h)
  have f1 := hts (.fieldLink RX12 87 "LastWordsModel" "next" "I") (by decide +kernel)
  have f2 := hts (.fieldLink RX12 7 "LastWordsModel" "tape" "[B") (by decide +kernel)
  have b46 : ∀ (B9 : gS → Prop) (hB9 : ∀  (M : gS) (H : Heap) (locs : List Loc) (ls : Array Slot), va_P (dC, dI) vwCl (mW cB cI cJ cZ h0 ad M) H → va_D A (mW cB cI cJ cZ h0 ad M) → va_S A s.heap H locs → lv_has ls 2 [(0, .ref h0)] → B9  M → W p l e (headSpec wsX12_term rmX12_term).room s m ([.ref h0] : List Value).toArray below meth c H locs 0 0 (MQ below (va_Qi (fun (r : Int32) (u : gS) => ∃ b : Bool, r = bI b ∧ Q b u) (mB dC dI cB cI cJ cZ h0 ad A) A) ([.ref h0] : List Value).toArray s 0 0 A) (F0 m 9 ls [])) (z0 : Int32) (M : gS) (H : Heap) (locs : List Loc) (ls : Array Slot), va_P (dC, dI) vwCl (mW cB cI cJ cZ h0 ad M) H → va_D A (mW cB cI cJ cZ h0 ad M) → va_S A s.heap H locs → lv_has ls 2 [(0, .ref h0)] → wX12_term_46 B9 Q z0 M → W p l e (headSpec wsX12_term rmX12_term).room s m ([.ref h0] : List Value).toArray below meth c H locs 0 0 (MQ below (va_Qi (fun (r : Int32) (u : gS) => ∃ b : Bool, r = bI b ∧ Q b u) (mB dC dI cB cI cJ cZ h0 ad A) A) ([.ref h0] : List Value).toArray s 0 0 A) (F0 m 46 ls [.int z0]) := by
    intro B9 hB9 z0 M H locs ls hP hD hS hl h
    unfold wX12_term_46 at h
    refine lv_istore_n (lv' := [(1, .int z0), (0, .ref h0)]) hx hb dX12_term_46 rfl hl (by decide) rfl (fun ls hl => ?_)
    refine lv_aload_n hx hb dX12_term_47 rfl (lv_at hl 1 rfl) ?_
    refine lv_dup hx hb dX12_term_48 rfl ?_
    refine va_get (D := (dC, dI)) (ci := 12) (v := .int (mg M 13)) (C := RX12) (T := TX12) (N := 37) hx hb hts hin hown hK hP 0 rfl rfl 13 (by decide) f1 (fun _ h9 => h9) rfl dX12_term_49 ?_
    refine lv_iconst (v := 1) hx hb dX12_term_52 (by decide) ?_
    refine lv_iadd hx hb dX12_term_53 ?_
    refine lv_topi (fun x1 ex1 => ?_)
    have h := h x1 ex1
    refine va_put (D := (dC, dI)) (ci := 12) (v := .int x1) (ty := .int) (C := RX12) (T := TX12) (N := 37) hx hb hts hin tyX12 tyX12_ok nmX12 hown hK hP hD hS 0 rfl rfl 13 (by decide) f1 (fun _ h9 => h9) rfl (by decide +kernel) rfl rfl (Nat.le_of_ble_eq_true rfl) dX12_term_54 (fun H locs hP hD hS => ?_)
    have hP := mP_f13 hP
    have hD := mD_f13 hD
    have h := h _ rfl
    generalize sg M 13 x1 = M2 at hP hD h
    refine lv_aload_n hx hb dX12_term_57 rfl (lv_at hl 1 rfl) ?_
    have hFc := gs_free hD hS hA
    refine va_calli (va_runV (As := []) (rest := []) ⟨hx, hb, hml, hown, hts⟩ (kX12_value l dC dI cB cI cJ cZ h0 ad H.size  M2 _ h) (cwV 0 hts gX12_term_X12_value rfl rfl rfl (by decide +kernel) ⟨Nat.le_of_ble_eq_true rfl, Nat.le_of_ble_eq_true rfl⟩) (mpV hK hP hD) rfl rfl hl.1 rfl (lv_room (Nat.le_of_ble_eq_true rfl)) dX12_term_58 ⟨Nat.le_of_ble_eq_true rfl, Nat.le_of_ble_eq_true rfl⟩) hS (fun q _ z => hFc q z) hFc (fun r3 M4 t H1 locs ht hvm hw hB hz1 hk1 hS => ?_)
    obtain ⟨hP, hD⟩ := gs_back ht hFc hB
    generalize H1 = H at hP hS ⊢
    obtain ⟨b5, rfl, h⟩ := hw
    try dsimp only at h
    refine lv_if_ne (tgt := 66) hx hb dX12_term_61 (by decide) (fun c6 => ?_) (fun c6 => ?_)
    · have h := h.2 c6
      refine lv_aload_n hx hb dX12_term_66 rfl (lv_at hl 1 rfl) ?_
      refine lv_iload_n hx hb dX12_term_67 rfl (lv_at hl 0 rfl) ?_
      refine lv_iconst (v := 0) hx hb dX12_term_68 (by decide) ?_
      have hFc := gs_free hD hS hA
      refine va_callv (va_runV (As := [.int z0, .int (0 : Int32)]) (rest := []) ⟨hx, hb, hml, hown, hts⟩ (kX12_puts l dC dI cB cI cJ cZ h0 ad H.size z0 (0 : Int32) M4 _ h) (cwV 2 hts gX12_term_X12_puts rfl rfl rfl (by decide +kernel) ⟨Nat.le_of_ble_eq_true rfl, Nat.le_of_ble_eq_true rfl⟩) (mpV hK hP hD) rfl rfl hl.1 rfl (lv_room (Nat.le_of_ble_eq_true rfl)) dX12_term_69 ⟨Nat.le_of_ble_eq_true rfl, Nat.le_of_ble_eq_true rfl⟩) hS (fun q _ z => hFc q z) hFc (fun M8 t H1 locs ht hvm hw hB hz1 hk1 hS => ?_)
      obtain ⟨hP, hD⟩ := gs_back ht hFc hB
      generalize H1 = H at hP hS ⊢
      have h := hw
      try dsimp only at h
      refine lv_goto (tgt := 9) hx hb dX12_term_72 (by decide) ?_
      exact hB9 M8 H locs ls hP hD hS (lv_sub hl [1] rfl) h
    · have h := h.1 c6
      refine lv_iconst (v := 0) hx hb dX12_term_64 (by decide) ?_
      exact W.zret (v := (bI false)) hx hb hr (nar_bI false) (fun t ht hW => ⟨⟨_, M4, rfl, ⟨false, rfl, h⟩, by rw [ht]; exact hP, va_K.moved hW.alike hK, hD⟩, hS.F ht⟩) hS.2.2 dX12_term_65
  have b27 : ∀ (B9 : gS → Prop) (hB9 : ∀  (M : gS) (H : Heap) (locs : List Loc) (ls : Array Slot), va_P (dC, dI) vwCl (mW cB cI cJ cZ h0 ad M) H → va_D A (mW cB cI cJ cZ h0 ad M) → va_S A s.heap H locs → lv_has ls 2 [(0, .ref h0)] → B9  M → W p l e (headSpec wsX12_term rmX12_term).room s m ([.ref h0] : List Value).toArray below meth c H locs 0 0 (MQ below (va_Qi (fun (r : Int32) (u : gS) => ∃ b : Bool, r = bI b ∧ Q b u) (mB dC dI cB cI cJ cZ h0 ad A) A) ([.ref h0] : List Value).toArray s 0 0 A) (F0 m 9 ls []))  (M : gS) (H : Heap) (locs : List Loc) (ls : Array Slot), va_P (dC, dI) vwCl (mW cB cI cJ cZ h0 ad M) H → va_D A (mW cB cI cJ cZ h0 ad M) → va_S A s.heap H locs → lv_has ls 2 [(0, .ref h0)] → wX12_term_27 B9 Q  M → W p l e (headSpec wsX12_term rmX12_term).room s m ([.ref h0] : List Value).toArray below meth c H locs 0 0 (MQ below (va_Qi (fun (r : Int32) (u : gS) => ∃ b : Bool, r = bI b ∧ Q b u) (mB dC dI cB cI cJ cZ h0 ad A) A) ([.ref h0] : List Value).toArray s 0 0 A) (F0 m 27 ls []) := by
    intro B9 hB9  M H locs ls hP hD hS hl h
    unfold wX12_term_27 at h
    refine lv_aload_n hx hb dX12_term_27 rfl (lv_at hl 0 rfl) ?_
    refine va_get (D := (dC, dI)) (ci := 12) (v := .ref (ad 0)) (C := RX12) (T := TX12) (N := 37) hx hb hts hin hown hK hP 0 rfl rfl 0 (by decide) f2 (fun _ h9 => h9) rfl dX12_term_28 ?_
    refine lv_aload_n hx hb dX12_term_31 rfl (lv_at hl 0 rfl) ?_
    refine va_get (D := (dC, dI)) (ci := 12) (v := .int (mg M 13)) (C := RX12) (T := TX12) (N := 37) hx hb hts hin hown hK hP 0 rfl rfl 13 (by decide) f1 (fun _ h9 => h9) rfl dX12_term_32 ?_
    refine va_bald hx hb hK hP 1 0 (f := ma M 0) rfl rfl h.1 dX12_term_35 ?_
    have h := h.2
    refine lv_bipush (v := (42)) hx hb dX12_term_36 (by decide) ?_
    refine lv_icmp_ne (tgt := 45) hx hb dX12_term_38 (by decide) (fun c1 => ?_) (fun c1 => ?_)
    · have h := h.2 c1
      refine lv_iconst (v := 5) hx hb dX12_term_45 (by decide) ?_
      exact b46 _ hB9 (5 : Int32) M H locs ls hP hD hS (lv_sub hl [0] rfl) h
    · have h := h.1 c1
      refine lv_iconst (v := 4) hx hb dX12_term_41 (by decide) ?_
      refine lv_goto (tgt := 46) hx hb dX12_term_42 (by decide) ?_
      exact b46 _ hB9 (4 : Int32) M H locs ls hP hD hS (lv_sub hl [0] rfl) h
  have b9 : ∀ (n : Nat)  (M : gS) (H : Heap) (locs : List Loc) (ls : Array Slot), va_P (dC, dI) vwCl (mW cB cI cJ cZ h0 ad M) H → va_D A (mW cB cI cJ cZ h0 ad M) → va_S A s.heap H locs → lv_has ls 2 [(0, .ref h0)] → wX12_term_9  Q n  M → W p l e (headSpec wsX12_term rmX12_term).room s m ([.ref h0] : List Value).toArray below meth c H locs 0 0 (MQ below (va_Qi (fun (r : Int32) (u : gS) => ∃ b : Bool, r = bI b ∧ Q b u) (mB dC dI cB cI cJ cZ h0 ad A) A) ([.ref h0] : List Value).toArray s 0 0 A) (F0 m 9 ls []) := by
    intro  n
    induction n with
    | zero => intro  M H locs ls hP hD hS hl h; exact absurd h (by simp [wX12_term_9])
    | succ n hB90 =>
      intro  M H locs ls hP hD hS hl h
      have hB9 := hB90
      rw [wX12_term_9] at h
      refine lv_aload_n hx hb dX12_term_9 rfl (lv_at hl 0 rfl) ?_
      have hFc := gs_free hD hS hA
      refine va_calli (va_runV (As := []) (rest := []) ⟨hx, hb, hml, hown, hts⟩ (kX12_see l dC dI cB cI cJ cZ h0 ad H.size  M _ h) (cwV 0 hts gX12_term_X12_see rfl rfl rfl (by decide +kernel) ⟨Nat.le_of_ble_eq_true rfl, Nat.le_of_ble_eq_true rfl⟩) (mpV hK hP hD) rfl rfl hl.1 rfl (lv_room (Nat.le_of_ble_eq_true rfl)) dX12_term_10 ⟨Nat.le_of_ble_eq_true rfl, Nat.le_of_ble_eq_true rfl⟩) hS (fun q _ z => hFc q z) hFc (fun r1 M2 t H1 locs ht hvm hw hB hz1 hk1 hS => ?_)
      obtain ⟨hP, hD⟩ := gs_back ht hFc hB
      generalize H1 = H at hP hS ⊢
      have h := hw
      try dsimp only at h
      refine lv_bipush (v := (42)) hx hb dX12_term_13 (by decide) ?_
      refine lv_icmp_eq (tgt := 27) hx hb dX12_term_15 (by decide) (fun c3 => ?_) (fun c3 => ?_)
      · have h := h.1 c3
        exact b27 _ hB9 M2 H locs ls hP hD hS (lv_sub hl [0] rfl) h
      · have h := h.2 c3
        refine lv_aload_n hx hb dX12_term_18 rfl (lv_at hl 0 rfl) ?_
        have hFc := gs_free hD hS hA
        refine va_calli (va_runV (As := []) (rest := []) ⟨hx, hb, hml, hown, hts⟩ (kX12_see l dC dI cB cI cJ cZ h0 ad H.size  M2 _ h) (cwV 0 hts gX12_term_X12_see rfl rfl rfl (by decide +kernel) ⟨Nat.le_of_ble_eq_true rfl, Nat.le_of_ble_eq_true rfl⟩) (mpV hK hP hD) rfl rfl hl.1 rfl (lv_room (Nat.le_of_ble_eq_true rfl)) dX12_term_19 ⟨Nat.le_of_ble_eq_true rfl, Nat.le_of_ble_eq_true rfl⟩) hS (fun q _ z => hFc q z) hFc (fun r4 M5 t H1 locs ht hvm hw hB hz1 hk1 hS => ?_)
        obtain ⟨hP, hD⟩ := gs_back ht hFc hB
        generalize H1 = H at hP hS ⊢
        have h := hw
        try dsimp only at h
        refine lv_bipush (v := (47)) hx hb dX12_term_22 (by decide) ?_
        refine lv_icmp_ne (tgt := 75) hx hb dX12_term_24 (by decide) (fun c6 => ?_) (fun c6 => ?_)
        · have h := h.2 c6
          refine lv_iconst (v := 1) hx hb dX12_term_75 (by decide) ?_
          exact W.zret (v := (bI true)) hx hb hr (nar_bI true) (fun t ht hW => ⟨⟨_, M5, rfl, ⟨true, rfl, h⟩, by rw [ht]; exact hP, va_K.moved hW.alike hK, hD⟩, hS.F ht⟩) hS.2.2 dX12_term_76
        · have h := h.1 c6
          exact b27 _ hB9 M5 H locs ls hP hD hS (lv_sub hl [0] rfl) h
  have bE : ∀ (M : gS) (H : Heap) (locs : List Loc) (ls : Array Slot), va_P (dC, dI) vwCl (mW cB cI cJ cZ h0 ad M) H → va_D A (mW cB cI cJ cZ h0 ad M) → va_S A s.heap H locs → lv_has ls 2 [(0, .ref h0)] → wX12_term  M Q → W p l e (headSpec wsX12_term rmX12_term).room s m ([.ref h0] : List Value).toArray below meth c H locs 0 0 (MQ below (va_Qi (fun (r : Int32) (u : gS) => ∃ b : Bool, r = bI b ∧ Q b u) (mB dC dI cB cI cJ cZ h0 ad A) A) ([.ref h0] : List Value).toArray s 0 0 A) (F0 m 0 ls []) := by
    intro M H locs ls hP hD hS hl h
    unfold wX12_term at h
    refine lv_aload_n hx hb dX12_term_0 rfl (lv_at hl 0 rfl) ?_
    have hFc := gs_free hD hS hA
    refine va_calli (va_runV (As := []) (rest := []) ⟨hx, hb, hml, hown, hts⟩ (kX12_value l dC dI cB cI cJ cZ h0 ad H.size  M _ h) (cwV 0 hts gX12_term_X12_value rfl rfl rfl (by decide +kernel) ⟨Nat.le_of_ble_eq_true rfl, Nat.le_of_ble_eq_true rfl⟩) (mpV hK hP hD) rfl rfl hl.1 rfl (lv_room (Nat.le_of_ble_eq_true rfl)) dX12_term_1 ⟨Nat.le_of_ble_eq_true rfl, Nat.le_of_ble_eq_true rfl⟩) hS (fun q _ z => hFc q z) hFc (fun r1 M2 t H1 locs ht hvm hw hB hz1 hk1 hS => ?_)
    obtain ⟨hP, hD⟩ := gs_back ht hFc hB
    generalize H1 = H at hP hS ⊢
    obtain ⟨b3, rfl, h⟩ := hw
    try dsimp only at h
    refine lv_if_ne (tgt := 9) hx hb dX12_term_4 (by decide) (fun c4 => ?_) (fun c4 => ?_)
    · have h := h.2 c4
      obtain ⟨n9, h⟩ := h
      exact b9  n9 M2 H locs ls hP hD hS (lv_sub hl [0] rfl) h
    · have h := h.1 c4
      refine lv_iconst (v := 0) hx hb dX12_term_7 (by decide) ?_
      exact W.zret (v := (bI false)) hx hb hr (nar_bI false) (fun t ht hW => ⟨⟨_, M2, rfl, ⟨false, rfl, h⟩, by rw [ht]; exact hP, va_K.moved hW.alike hK, hD⟩, hS.F ht⟩) hS.2.2 dX12_term_8
  have hl := lv_entry ([.ref h0]) (n := 2) (Nat.le_of_ble_eq_true rfl)
  rw [lg_entry_eq]
  generalize (lg_sl ([.ref h0]) ++ List.replicate (2 - (lg_sl ([.ref h0])).length) Slot.unset).toArray = ls at hl ⊢
  have hl : lv_has ls 2 [(0, .ref h0)] := hl
  exact bE M s.heap [] ls hP hD hS hl h
def wX12_sum_46 (B9 : gS → Prop) (Q : Bool → gS → Prop) (z0 : Int32) (M : gS) : Prop :=
 (∀ x1 : Int32, x1 = ((mg M 13) + (1 : Int32)) → (∀ M2 : gS, M2 = sg M 13 x1 → (wX12_term  M2 (fun (b5 : Bool) (M4 : gS) => (((bI b5) = 0 → (Q false M4))
 ∧ (¬ (bI b5) = 0 → (wX12_puts z0 (0 : Int32) M4 (fun (M8 : gS) => (B9 M8)))))))))
def wX12_sum_27 (B9 : gS → Prop) (Q : Bool → gS → Prop)  (M : gS) : Prop :=
 (vp_in (mg M 13) 400 ∧ (((ma M 0 (Int32.toNatClampNeg (mg M 13))) = (43 : Int32) → (wX12_sum_46 B9 Q (2 : Int32) M))
 ∧ (¬ (ma M 0 (Int32.toNatClampNeg (mg M 13))) = (43 : Int32) → (wX12_sum_46 B9 Q (3 : Int32) M))))
def wX12_sum_9  (Q : Bool → gS → Prop) : Nat → gS → Prop
 | 0, _ => False
 | n + 1, M => (wX12_see  M (fun (r1 : Int32) (M2 : gS) => ((r1 = (43 : Int32) → (wX12_sum_27 (fun  (M : gS) => wX12_sum_9  Q n  M) Q M2))
 ∧ (¬ r1 = (43 : Int32) → (wX12_see  M2 (fun (r4 : Int32) (M5 : gS) => ((r4 = (45 : Int32) → (wX12_sum_27 (fun  (M : gS) => wX12_sum_9  Q n  M) Q M5))
 ∧ (¬ r4 = (45 : Int32) → (Q true M5)))))))))
def wX12_sum  (M : gS) (Q : Bool → gS → Prop) : Prop :=
 (wX12_term  M (fun (b3 : Bool) (M2 : gS) => (((bI b3) = 0 → (Q false M2))
 ∧ (¬ (bI b3) = 0 → (∃ k9 : Nat, wX12_sum_9  Q k9 M2)))))
def rmX12_sum : Room := { frames := 5, cells := 0, slots := 0, locals := 109 }
set_option maxHeartbeats 4000000 in
set_option maxRecDepth 100000 in
theorem kX12_sum (l : Launch) (dC : Nat → ClassId) (dI : Nat → Nat → Nat) (cB cI cJ cZ : ClassId) (h0 : Nat) (ad : Nat → Nat) (sz : Nat)  (M : gS) (Q : Bool → gS → Prop) (h : wX12_sum  M Q) : Met l yX12_sum wsX12_sum rmX12_sum (va_Pc [.ref h0] (mI dC dI cB cI cJ cZ h0 ad M sz)) (va_Qi (fun (r : Int32) (u : gS) => ∃ b : Bool, r = bI b ∧ Q b u) (mB dC dI cB cI cJ cZ h0 ad (va_A (mW cB cI cJ cZ h0 ad M) sz)) (va_A (mW cB cI cJ cZ h0 ad M) sz)) 0 0 (va_A (mW cB cI cJ cZ h0 ad M) sz) := by
  refine Met.ofW (cc := cX12_sum) (maxL := 2) (ret := (some .boolean)) (by decide) rfl ?_
  intro p e s m args below meth c s₁ B hml hv
  obtain ⟨rfl, hsz, hP, hK, hD0⟩ := hv
  have hx := B.exec
  have hb := B.bytes
  have hr := B.returns
  have hts := atoms_spec (ws := wsX12_sum) B.pre
  have hown : s.vm.findClass RX12 = some m.cls := findClass_of_methodNamed B.named
  have hlocks := B.notSynchronized
  subst hsz
  have hD := hD0.self (sz := s.heap.size)
  generalize hAe : va_A (mW cB cI cJ cZ h0 ad M) s.heap.size = A at hD ⊢
  have hA : ∀ q : Nat, s.heap.size ≤ q → A q := fun q h => by rw [← hAe]; exact Or.inr h
  have hS : va_S A s.heap s.heap [] := va_S.rf
  have hin : ∀ w ∈ wsX120, w ∈ wsX12_sum := fun w h => List.mem_cons_of_mem _ (List.mem_append_right _ h)
  have f1 := hts (.fieldLink RX12 87 "LastWordsModel" "next" "I") (by decide +kernel)
  have f2 := hts (.fieldLink RX12 7 "LastWordsModel" "tape" "[B") (by decide +kernel)
  have b46 : ∀ (B9 : gS → Prop) (hB9 : ∀  (M : gS) (H : Heap) (locs : List Loc) (ls : Array Slot), va_P (dC, dI) vwCl (mW cB cI cJ cZ h0 ad M) H → va_D A (mW cB cI cJ cZ h0 ad M) → va_S A s.heap H locs → lv_has ls 2 [(0, .ref h0)] → B9  M → W p l e (headSpec wsX12_sum rmX12_sum).room s m ([.ref h0] : List Value).toArray below meth c H locs 0 0 (MQ below (va_Qi (fun (r : Int32) (u : gS) => ∃ b : Bool, r = bI b ∧ Q b u) (mB dC dI cB cI cJ cZ h0 ad A) A) ([.ref h0] : List Value).toArray s 0 0 A) (F0 m 9 ls [])) (z0 : Int32) (M : gS) (H : Heap) (locs : List Loc) (ls : Array Slot), va_P (dC, dI) vwCl (mW cB cI cJ cZ h0 ad M) H → va_D A (mW cB cI cJ cZ h0 ad M) → va_S A s.heap H locs → lv_has ls 2 [(0, .ref h0)] → wX12_sum_46 B9 Q z0 M → W p l e (headSpec wsX12_sum rmX12_sum).room s m ([.ref h0] : List Value).toArray below meth c H locs 0 0 (MQ below (va_Qi (fun (r : Int32) (u : gS) => ∃ b : Bool, r = bI b ∧ Q b u) (mB dC dI cB cI cJ cZ h0 ad A) A) ([.ref h0] : List Value).toArray s 0 0 A) (F0 m 46 ls [.int z0]) := by
    intro B9 hB9 z0 M H locs ls hP hD hS hl h
    unfold wX12_sum_46 at h
    refine lv_istore_n (lv' := [(1, .int z0), (0, .ref h0)]) hx hb dX12_sum_46 rfl hl (by decide) rfl (fun ls hl => ?_)
    refine lv_aload_n hx hb dX12_sum_47 rfl (lv_at hl 1 rfl) ?_
    refine lv_dup hx hb dX12_sum_48 rfl ?_
    refine va_get (D := (dC, dI)) (ci := 12) (v := .int (mg M 13)) (C := RX12) (T := TX12) (N := 37) hx hb hts hin hown hK hP 0 rfl rfl 13 (by decide) f1 (fun _ h9 => h9) rfl dX12_sum_49 ?_
    refine lv_iconst (v := 1) hx hb dX12_sum_52 (by decide) ?_
    refine lv_iadd hx hb dX12_sum_53 ?_
    refine lv_topi (fun x1 ex1 => ?_)
    have h := h x1 ex1
    refine va_put (D := (dC, dI)) (ci := 12) (v := .int x1) (ty := .int) (C := RX12) (T := TX12) (N := 37) hx hb hts hin tyX12 tyX12_ok nmX12 hown hK hP hD hS 0 rfl rfl 13 (by decide) f1 (fun _ h9 => h9) rfl (by decide +kernel) rfl rfl (Nat.le_of_ble_eq_true rfl) dX12_sum_54 (fun H locs hP hD hS => ?_)
    have hP := mP_f13 hP
    have hD := mD_f13 hD
    have h := h _ rfl
    generalize sg M 13 x1 = M2 at hP hD h
    refine lv_aload_n hx hb dX12_sum_57 rfl (lv_at hl 1 rfl) ?_
    have hFc := gs_free hD hS hA
    refine va_calli (va_runV (As := []) (rest := []) ⟨hx, hb, hml, hown, hts⟩ (kX12_term l dC dI cB cI cJ cZ h0 ad H.size  M2 _ h) (cwV 0 hts gX12_sum_X12_term rfl rfl rfl (by decide +kernel) ⟨Nat.le_of_ble_eq_true rfl, Nat.le_of_ble_eq_true rfl⟩) (mpV hK hP hD) rfl rfl hl.1 rfl (lv_room (Nat.le_of_ble_eq_true rfl)) dX12_sum_58 ⟨Nat.le_of_ble_eq_true rfl, Nat.le_of_ble_eq_true rfl⟩) hS (fun q _ z => hFc q z) hFc (fun r3 M4 t H1 locs ht hvm hw hB hz1 hk1 hS => ?_)
    obtain ⟨hP, hD⟩ := gs_back ht hFc hB
    generalize H1 = H at hP hS ⊢
    obtain ⟨b5, rfl, h⟩ := hw
    try dsimp only at h
    refine lv_if_ne (tgt := 66) hx hb dX12_sum_61 (by decide) (fun c6 => ?_) (fun c6 => ?_)
    · have h := h.2 c6
      refine lv_aload_n hx hb dX12_sum_66 rfl (lv_at hl 1 rfl) ?_
      refine lv_iload_n hx hb dX12_sum_67 rfl (lv_at hl 0 rfl) ?_
      refine lv_iconst (v := 0) hx hb dX12_sum_68 (by decide) ?_
      have hFc := gs_free hD hS hA
      refine va_callv (va_runV (As := [.int z0, .int (0 : Int32)]) (rest := []) ⟨hx, hb, hml, hown, hts⟩ (kX12_puts l dC dI cB cI cJ cZ h0 ad H.size z0 (0 : Int32) M4 _ h) (cwV 2 hts gX12_sum_X12_puts rfl rfl rfl (by decide +kernel) ⟨Nat.le_of_ble_eq_true rfl, Nat.le_of_ble_eq_true rfl⟩) (mpV hK hP hD) rfl rfl hl.1 rfl (lv_room (Nat.le_of_ble_eq_true rfl)) dX12_sum_69 ⟨Nat.le_of_ble_eq_true rfl, Nat.le_of_ble_eq_true rfl⟩) hS (fun q _ z => hFc q z) hFc (fun M8 t H1 locs ht hvm hw hB hz1 hk1 hS => ?_)
      obtain ⟨hP, hD⟩ := gs_back ht hFc hB
      generalize H1 = H at hP hS ⊢
      have h := hw
      try dsimp only at h
      refine lv_goto (tgt := 9) hx hb dX12_sum_72 (by decide) ?_
      exact hB9 M8 H locs ls hP hD hS (lv_sub hl [1] rfl) h
    · have h := h.1 c6
      refine lv_iconst (v := 0) hx hb dX12_sum_64 (by decide) ?_
      exact W.zret (v := (bI false)) hx hb hr (nar_bI false) (fun t ht hW => ⟨⟨_, M4, rfl, ⟨false, rfl, h⟩, by rw [ht]; exact hP, va_K.moved hW.alike hK, hD⟩, hS.F ht⟩) hS.2.2 dX12_sum_65
  have b27 : ∀ (B9 : gS → Prop) (hB9 : ∀  (M : gS) (H : Heap) (locs : List Loc) (ls : Array Slot), va_P (dC, dI) vwCl (mW cB cI cJ cZ h0 ad M) H → va_D A (mW cB cI cJ cZ h0 ad M) → va_S A s.heap H locs → lv_has ls 2 [(0, .ref h0)] → B9  M → W p l e (headSpec wsX12_sum rmX12_sum).room s m ([.ref h0] : List Value).toArray below meth c H locs 0 0 (MQ below (va_Qi (fun (r : Int32) (u : gS) => ∃ b : Bool, r = bI b ∧ Q b u) (mB dC dI cB cI cJ cZ h0 ad A) A) ([.ref h0] : List Value).toArray s 0 0 A) (F0 m 9 ls []))  (M : gS) (H : Heap) (locs : List Loc) (ls : Array Slot), va_P (dC, dI) vwCl (mW cB cI cJ cZ h0 ad M) H → va_D A (mW cB cI cJ cZ h0 ad M) → va_S A s.heap H locs → lv_has ls 2 [(0, .ref h0)] → wX12_sum_27 B9 Q  M → W p l e (headSpec wsX12_sum rmX12_sum).room s m ([.ref h0] : List Value).toArray below meth c H locs 0 0 (MQ below (va_Qi (fun (r : Int32) (u : gS) => ∃ b : Bool, r = bI b ∧ Q b u) (mB dC dI cB cI cJ cZ h0 ad A) A) ([.ref h0] : List Value).toArray s 0 0 A) (F0 m 27 ls []) := by
    intro B9 hB9  M H locs ls hP hD hS hl h
    unfold wX12_sum_27 at h
    refine lv_aload_n hx hb dX12_sum_27 rfl (lv_at hl 0 rfl) ?_
    refine va_get (D := (dC, dI)) (ci := 12) (v := .ref (ad 0)) (C := RX12) (T := TX12) (N := 37) hx hb hts hin hown hK hP 0 rfl rfl 0 (by decide) f2 (fun _ h9 => h9) rfl dX12_sum_28 ?_
    refine lv_aload_n hx hb dX12_sum_31 rfl (lv_at hl 0 rfl) ?_
    refine va_get (D := (dC, dI)) (ci := 12) (v := .int (mg M 13)) (C := RX12) (T := TX12) (N := 37) hx hb hts hin hown hK hP 0 rfl rfl 13 (by decide) f1 (fun _ h9 => h9) rfl dX12_sum_32 ?_
    refine va_bald hx hb hK hP 1 0 (f := ma M 0) rfl rfl h.1 dX12_sum_35 ?_
    have h := h.2
    refine lv_bipush (v := (43)) hx hb dX12_sum_36 (by decide) ?_
    refine lv_icmp_ne (tgt := 45) hx hb dX12_sum_38 (by decide) (fun c1 => ?_) (fun c1 => ?_)
    · have h := h.2 c1
      refine lv_iconst (v := 3) hx hb dX12_sum_45 (by decide) ?_
      exact b46 _ hB9 (3 : Int32) M H locs ls hP hD hS (lv_sub hl [0] rfl) h
    · have h := h.1 c1
      refine lv_iconst (v := 2) hx hb dX12_sum_41 (by decide) ?_
      refine lv_goto (tgt := 46) hx hb dX12_sum_42 (by decide) ?_
      exact b46 _ hB9 (2 : Int32) M H locs ls hP hD hS (lv_sub hl [0] rfl) h
  have b9 : ∀ (n : Nat)  (M : gS) (H : Heap) (locs : List Loc) (ls : Array Slot), va_P (dC, dI) vwCl (mW cB cI cJ cZ h0 ad M) H → va_D A (mW cB cI cJ cZ h0 ad M) → va_S A s.heap H locs → lv_has ls 2 [(0, .ref h0)] → wX12_sum_9  Q n  M → W p l e (headSpec wsX12_sum rmX12_sum).room s m ([.ref h0] : List Value).toArray below meth c H locs 0 0 (MQ below (va_Qi (fun (r : Int32) (u : gS) => ∃ b : Bool, r = bI b ∧ Q b u) (mB dC dI cB cI cJ cZ h0 ad A) A) ([.ref h0] : List Value).toArray s 0 0 A) (F0 m 9 ls []) := by
    intro  n
    induction n with
    | zero => intro  M H locs ls hP hD hS hl h; exact absurd h (by simp [wX12_sum_9])
    | succ n hB90 =>
      intro  M H locs ls hP hD hS hl h
      have hB9 := hB90
      rw [wX12_sum_9] at h
      refine lv_aload_n hx hb dX12_sum_9 rfl (lv_at hl 0 rfl) ?_
      have hFc := gs_free hD hS hA
      refine va_calli (va_runV (As := []) (rest := []) ⟨hx, hb, hml, hown, hts⟩ (kX12_see l dC dI cB cI cJ cZ h0 ad H.size  M _ h) (cwV 0 hts gX12_sum_X12_see rfl rfl rfl (by decide +kernel) ⟨Nat.le_of_ble_eq_true rfl, Nat.le_of_ble_eq_true rfl⟩) (mpV hK hP hD) rfl rfl hl.1 rfl (lv_room (Nat.le_of_ble_eq_true rfl)) dX12_sum_10 ⟨Nat.le_of_ble_eq_true rfl, Nat.le_of_ble_eq_true rfl⟩) hS (fun q _ z => hFc q z) hFc (fun r1 M2 t H1 locs ht hvm hw hB hz1 hk1 hS => ?_)
      obtain ⟨hP, hD⟩ := gs_back ht hFc hB
      generalize H1 = H at hP hS ⊢
      have h := hw
      try dsimp only at h
      refine lv_bipush (v := (43)) hx hb dX12_sum_13 (by decide) ?_
      refine lv_icmp_eq (tgt := 27) hx hb dX12_sum_15 (by decide) (fun c3 => ?_) (fun c3 => ?_)
      · have h := h.1 c3
        exact b27 _ hB9 M2 H locs ls hP hD hS (lv_sub hl [0] rfl) h
      · have h := h.2 c3
        refine lv_aload_n hx hb dX12_sum_18 rfl (lv_at hl 0 rfl) ?_
        have hFc := gs_free hD hS hA
        refine va_calli (va_runV (As := []) (rest := []) ⟨hx, hb, hml, hown, hts⟩ (kX12_see l dC dI cB cI cJ cZ h0 ad H.size  M2 _ h) (cwV 0 hts gX12_sum_X12_see rfl rfl rfl (by decide +kernel) ⟨Nat.le_of_ble_eq_true rfl, Nat.le_of_ble_eq_true rfl⟩) (mpV hK hP hD) rfl rfl hl.1 rfl (lv_room (Nat.le_of_ble_eq_true rfl)) dX12_sum_19 ⟨Nat.le_of_ble_eq_true rfl, Nat.le_of_ble_eq_true rfl⟩) hS (fun q _ z => hFc q z) hFc (fun r4 M5 t H1 locs ht hvm hw hB hz1 hk1 hS => ?_)
        obtain ⟨hP, hD⟩ := gs_back ht hFc hB
        generalize H1 = H at hP hS ⊢
        have h := hw
        try dsimp only at h
        refine lv_bipush (v := (45)) hx hb dX12_sum_22 (by decide) ?_
        refine lv_icmp_ne (tgt := 75) hx hb dX12_sum_24 (by decide) (fun c6 => ?_) (fun c6 => ?_)
        · have h := h.2 c6
          refine lv_iconst (v := 1) hx hb dX12_sum_75 (by decide) ?_
          exact W.zret (v := (bI true)) hx hb hr (nar_bI true) (fun t ht hW => ⟨⟨_, M5, rfl, ⟨true, rfl, h⟩, by rw [ht]; exact hP, va_K.moved hW.alike hK, hD⟩, hS.F ht⟩) hS.2.2 dX12_sum_76
        · have h := h.1 c6
          exact b27 _ hB9 M5 H locs ls hP hD hS (lv_sub hl [0] rfl) h
  have bE : ∀ (M : gS) (H : Heap) (locs : List Loc) (ls : Array Slot), va_P (dC, dI) vwCl (mW cB cI cJ cZ h0 ad M) H → va_D A (mW cB cI cJ cZ h0 ad M) → va_S A s.heap H locs → lv_has ls 2 [(0, .ref h0)] → wX12_sum  M Q → W p l e (headSpec wsX12_sum rmX12_sum).room s m ([.ref h0] : List Value).toArray below meth c H locs 0 0 (MQ below (va_Qi (fun (r : Int32) (u : gS) => ∃ b : Bool, r = bI b ∧ Q b u) (mB dC dI cB cI cJ cZ h0 ad A) A) ([.ref h0] : List Value).toArray s 0 0 A) (F0 m 0 ls []) := by
    intro M H locs ls hP hD hS hl h
    unfold wX12_sum at h
    refine lv_aload_n hx hb dX12_sum_0 rfl (lv_at hl 0 rfl) ?_
    have hFc := gs_free hD hS hA
    refine va_calli (va_runV (As := []) (rest := []) ⟨hx, hb, hml, hown, hts⟩ (kX12_term l dC dI cB cI cJ cZ h0 ad H.size  M _ h) (cwV 0 hts gX12_sum_X12_term rfl rfl rfl (by decide +kernel) ⟨Nat.le_of_ble_eq_true rfl, Nat.le_of_ble_eq_true rfl⟩) (mpV hK hP hD) rfl rfl hl.1 rfl (lv_room (Nat.le_of_ble_eq_true rfl)) dX12_sum_1 ⟨Nat.le_of_ble_eq_true rfl, Nat.le_of_ble_eq_true rfl⟩) hS (fun q _ z => hFc q z) hFc (fun r1 M2 t H1 locs ht hvm hw hB hz1 hk1 hS => ?_)
    obtain ⟨hP, hD⟩ := gs_back ht hFc hB
    generalize H1 = H at hP hS ⊢
    obtain ⟨b3, rfl, h⟩ := hw
    try dsimp only at h
    refine lv_if_ne (tgt := 9) hx hb dX12_sum_4 (by decide) (fun c4 => ?_) (fun c4 => ?_)
    · have h := h.2 c4
      obtain ⟨n9, h⟩ := h
      exact b9  n9 M2 H locs ls hP hD hS (lv_sub hl [0] rfl) h
    · have h := h.1 c4
      refine lv_iconst (v := 0) hx hb dX12_sum_7 (by decide) ?_
      exact W.zret (v := (bI false)) hx hb hr (nar_bI false) (fun t ht hW => ⟨⟨_, M2, rfl, ⟨false, rfl, h⟩, by rw [ht]; exact hP, va_K.moved hW.alike hK, hD⟩, hS.F ht⟩) hS.2.2 dX12_sum_8
  have hl := lv_entry ([.ref h0]) (n := 2) (Nat.le_of_ble_eq_true rfl)
  rw [lg_entry_eq]
  generalize (lg_sl ([.ref h0]) ++ List.replicate (2 - (lg_sl ([.ref h0])).length) Slot.unset).toArray = ls at hl ⊢
  have hl : lv_has ls 2 [(0, .ref h0)] := hl
  exact bE M s.heap [] ls hP hD hS hl h
def wX12_compare_152  (Q : Bool → gS → Prop) (z0 : Int32) (M : gS) : Prop :=
 (wX12_sum  M (fun (b3 : Bool) (M2 : gS) => (((bI b3) = 0 → (Q false M2))
 ∧ (¬ (bI b3) = 0 → (wX12_puts ((6 : Int32) + z0) (0 : Int32) M2 (fun (M6 : gS) => (Q true M6)))))))
def wX12_compare_105  (Q : Bool → gS → Prop) (y1 : Int32) (y2 : Int32) (y3 : Int32) (M : gS) : Prop :=
 (wX12_makes y2 M (fun (b3 : Bool) (M2 : gS) => (((bI b3) = 0 → (Q false M2))
 ∧ (¬ (bI b3) = 0 → ((y1 = (60 : Int32) → ((y3 = 0 → (wX12_compare_152  Q (0 : Int32) M2))
 ∧ (¬ y3 = 0 → (wX12_compare_152  Q (1 : Int32) M2))))
 ∧ (¬ y1 = (60 : Int32) → ((y1 = (61 : Int32) → (wX12_compare_152  Q (2 : Int32) M2))
 ∧ (¬ y1 = (61 : Int32) → ((y3 = 0 → (wX12_compare_152  Q (4 : Int32) M2))
 ∧ (¬ y3 = 0 → (wX12_compare_152  Q (3 : Int32) M2)))))))))))
def wX12_compare_90  (Q : Bool → gS → Prop) (y1 : Int32) (y2 : Int32) (z0 : Int32) (M : gS) : Prop :=
 ((z0 = 0 → (wX12_compare_105  Q y1 y2 z0 M))
 ∧ (¬ z0 = 0 → (∀ x2 : Int32, x2 = ((mg M 13) + (1 : Int32)) → (∀ M3 : gS, M3 = sg M 13 x2 → (wX12_compare_105  Q y1 y2 z0 M3)))))
def wX12_compare_89  (Q : Bool → gS → Prop) (y1 : Int32) (y2 : Int32) (M : gS) : Prop :=
 (wX12_compare_90  Q y1 y2 (0 : Int32) M)
def wX12_compare_44  (Q : Bool → gS → Prop) (y1 : Int32) (y2 : Int32) (M : gS) : Prop :=
 (∀ x1 : Int32, x1 = ((mg M 13) + (1 : Int32)) → (∀ M2 : gS, M2 = sg M 13 x1 → ((y1 = (61 : Int32) → (wX12_compare_89  Q y1 y2 M2))
 ∧ (¬ y1 = (61 : Int32) → (((mg M2 1) ≤ (mg M2 13) → (wX12_compare_89  Q y1 y2 M2))
 ∧ (¬ (mg M2 1) ≤ (mg M2 13) → (vp_in (mg M2 13) 400 ∧ (((ma M2 0 (Int32.toNatClampNeg (mg M2 13))) = (61 : Int32) → (wX12_compare_90  Q y1 y2 (1 : Int32) M2))
 ∧ (¬ (ma M2 0 (Int32.toNatClampNeg (mg M2 13))) = (61 : Int32) → (wX12_compare_89  Q y1 y2 M2))))))))))
def wX12_compare  (M : gS) (Q : Bool → gS → Prop) : Prop :=
 (wX12_sum  M (fun (b3 : Bool) (M2 : gS) => (((bI b3) = 0 → (Q false M2))
 ∧ (¬ (bI b3) = 0 → (wX12_see  M2 (fun (r5 : Int32) (M6 : gS) => (∀ x7 : Int32, x7 = (mg M6 13) → ((r5 = (60 : Int32) → (wX12_compare_44  Q r5 x7 M6))
 ∧ (¬ r5 = (60 : Int32) → ((r5 = (61 : Int32) → (wX12_compare_44  Q r5 x7 M6))
 ∧ (¬ r5 = (61 : Int32) → ((r5 = (62 : Int32) → (wX12_compare_44  Q r5 x7 M6))
 ∧ (¬ r5 = (62 : Int32) → (wX12_fails (0 : Int32) x7 M6 (fun (b13 : Bool) (M12 : gS) => (Q b13 M12))))))))))))))))
def rmX12_compare : Room := { frames := 6, cells := 0, slots := 0, locals := 130 }
set_option maxHeartbeats 4000000 in
set_option maxRecDepth 100000 in
theorem kX12_compare (l : Launch) (dC : Nat → ClassId) (dI : Nat → Nat → Nat) (cB cI cJ cZ : ClassId) (h0 : Nat) (ad : Nat → Nat) (sz : Nat)  (M : gS) (Q : Bool → gS → Prop) (h : wX12_compare  M Q) : Met l yX12_compare wsX12_compare rmX12_compare (va_Pc [.ref h0] (mI dC dI cB cI cJ cZ h0 ad M sz)) (va_Qi (fun (r : Int32) (u : gS) => ∃ b : Bool, r = bI b ∧ Q b u) (mB dC dI cB cI cJ cZ h0 ad (va_A (mW cB cI cJ cZ h0 ad M) sz)) (va_A (mW cB cI cJ cZ h0 ad M) sz)) 0 0 (va_A (mW cB cI cJ cZ h0 ad M) sz) := by
  refine Met.ofW (cc := cX12_compare) (maxL := 5) (ret := (some .boolean)) (by decide) rfl ?_
  intro p e s m args below meth c s₁ B hml hv
  obtain ⟨rfl, hsz, hP, hK, hD0⟩ := hv
  have hx := B.exec
  have hb := B.bytes
  have hr := B.returns
  have hts := atoms_spec (ws := wsX12_compare) B.pre
  have hown : s.vm.findClass RX12 = some m.cls := findClass_of_methodNamed B.named
  have hlocks := B.notSynchronized
  subst hsz
  have hD := hD0.self (sz := s.heap.size)
  generalize hAe : va_A (mW cB cI cJ cZ h0 ad M) s.heap.size = A at hD ⊢
  have hA : ∀ q : Nat, s.heap.size ≤ q → A q := fun q h => by rw [← hAe]; exact Or.inr h
  have hS : va_S A s.heap s.heap [] := va_S.rf
  have hin : ∀ w ∈ wsX120, w ∈ wsX12_compare := fun w h => List.mem_cons_of_mem _ (List.mem_append_right _ h)
  have f1 := hts (.fieldLink RX12 87 "LastWordsModel" "next" "I") (by decide +kernel)
  have f2 := hts (.fieldLink RX12 76 "LastWordsModel" "taped" "I") (by decide +kernel)
  have f3 := hts (.fieldLink RX12 7 "LastWordsModel" "tape" "[B") (by decide +kernel)
  have b152 : ∀ (z0 : Int32) (M : gS) (H : Heap) (locs : List Loc) (ls : Array Slot), va_P (dC, dI) vwCl (mW cB cI cJ cZ h0 ad M) H → va_D A (mW cB cI cJ cZ h0 ad M) → va_S A s.heap H locs → lv_has ls 5 [(0, .ref h0)] → wX12_compare_152  Q z0 M → W p l e (headSpec wsX12_compare rmX12_compare).room s m ([.ref h0] : List Value).toArray below meth c H locs 0 0 (MQ below (va_Qi (fun (r : Int32) (u : gS) => ∃ b : Bool, r = bI b ∧ Q b u) (mB dC dI cB cI cJ cZ h0 ad A) A) ([.ref h0] : List Value).toArray s 0 0 A) (F0 m 152 ls [.int z0]) := by
    intro  z0 M H locs ls hP hD hS hl h
    unfold wX12_compare_152 at h
    refine lv_istore (lv' := [(4, .int z0), (0, .ref h0)]) hx hb dX12_compare_152 hl (by decide) rfl (fun ls hl => ?_)
    refine lv_aload_n hx hb dX12_compare_154 rfl (lv_at hl 1 rfl) ?_
    have hFc := gs_free hD hS hA
    refine va_calli (va_runV (As := []) (rest := []) ⟨hx, hb, hml, hown, hts⟩ (kX12_sum l dC dI cB cI cJ cZ h0 ad H.size  M _ h) (cwV 0 hts gX12_compare_X12_sum rfl rfl rfl (by decide +kernel) ⟨Nat.le_of_ble_eq_true rfl, Nat.le_of_ble_eq_true rfl⟩) (mpV hK hP hD) rfl rfl hl.1 rfl (lv_room (Nat.le_of_ble_eq_true rfl)) dX12_compare_155 ⟨Nat.le_of_ble_eq_true rfl, Nat.le_of_ble_eq_true rfl⟩) hS (fun q _ z => hFc q z) hFc (fun r1 M2 t H1 locs ht hvm hw hB hz1 hk1 hS => ?_)
    obtain ⟨hP, hD⟩ := gs_back ht hFc hB
    generalize H1 = H at hP hS ⊢
    obtain ⟨b3, rfl, h⟩ := hw
    try dsimp only at h
    refine lv_if_ne (tgt := 163) hx hb dX12_compare_158 (by decide) (fun c4 => ?_) (fun c4 => ?_)
    · have h := h.2 c4
      refine lv_aload_n hx hb dX12_compare_163 rfl (lv_at hl 1 rfl) ?_
      refine lv_bipush (v := (6)) hx hb dX12_compare_164 (by decide) ?_
      refine lv_iload hx hb dX12_compare_166 (lv_at hl 0 rfl) ?_
      refine lv_iadd hx hb dX12_compare_168 ?_
      refine lv_iconst (v := 0) hx hb dX12_compare_169 (by decide) ?_
      have hFc := gs_free hD hS hA
      refine va_callv (va_runV (As := [.int ((6 : Int32) + z0), .int (0 : Int32)]) (rest := []) ⟨hx, hb, hml, hown, hts⟩ (kX12_puts l dC dI cB cI cJ cZ h0 ad H.size ((6 : Int32) + z0) (0 : Int32) M2 _ h) (cwV 2 hts gX12_compare_X12_puts rfl rfl rfl (by decide +kernel) ⟨Nat.le_of_ble_eq_true rfl, Nat.le_of_ble_eq_true rfl⟩) (mpV hK hP hD) rfl rfl hl.1 rfl (lv_room (Nat.le_of_ble_eq_true rfl)) dX12_compare_170 ⟨Nat.le_of_ble_eq_true rfl, Nat.le_of_ble_eq_true rfl⟩) hS (fun q _ z => hFc q z) hFc (fun M6 t H1 locs ht hvm hw hB hz1 hk1 hS => ?_)
      obtain ⟨hP, hD⟩ := gs_back ht hFc hB
      generalize H1 = H at hP hS ⊢
      have h := hw
      try dsimp only at h
      refine lv_iconst (v := 1) hx hb dX12_compare_173 (by decide) ?_
      exact W.zret (v := (bI true)) hx hb hr (nar_bI true) (fun t ht hW => ⟨⟨_, M6, rfl, ⟨true, rfl, h⟩, by rw [ht]; exact hP, va_K.moved hW.alike hK, hD⟩, hS.F ht⟩) hS.2.2 dX12_compare_174
    · have h := h.1 c4
      refine lv_iconst (v := 0) hx hb dX12_compare_161 (by decide) ?_
      exact W.zret (v := (bI false)) hx hb hr (nar_bI false) (fun t ht hW => ⟨⟨_, M2, rfl, ⟨false, rfl, h⟩, by rw [ht]; exact hP, va_K.moved hW.alike hK, hD⟩, hS.F ht⟩) hS.2.2 dX12_compare_162
  have b105 : ∀ (y1 : Int32) (y2 : Int32) (y3 : Int32) (M : gS) (H : Heap) (locs : List Loc) (ls : Array Slot), va_P (dC, dI) vwCl (mW cB cI cJ cZ h0 ad M) H → va_D A (mW cB cI cJ cZ h0 ad M) → va_S A s.heap H locs → lv_has ls 5 [(0, .ref h0), (1, .int y1), (2, .int y2), (3, .int y3)] → wX12_compare_105  Q y1 y2 y3 M → W p l e (headSpec wsX12_compare rmX12_compare).room s m ([.ref h0] : List Value).toArray below meth c H locs 0 0 (MQ below (va_Qi (fun (r : Int32) (u : gS) => ∃ b : Bool, r = bI b ∧ Q b u) (mB dC dI cB cI cJ cZ h0 ad A) A) ([.ref h0] : List Value).toArray s 0 0 A) (F0 m 105 ls []) := by
    intro  y1 y2 y3 M H locs ls hP hD hS hl h
    unfold wX12_compare_105 at h
    refine lv_aload_n hx hb dX12_compare_105 rfl (lv_at hl 0 rfl) ?_
    refine lv_iload_n hx hb dX12_compare_106 rfl (lv_at hl 2 rfl) ?_
    have hFc := gs_free hD hS hA
    refine va_calli (va_runV (As := [.int y2]) (rest := []) ⟨hx, hb, hml, hown, hts⟩ (kX12_makes l dC dI cB cI cJ cZ h0 ad H.size y2 M _ h) (cwV 1 hts gX12_compare_X12_makes rfl rfl rfl (by decide +kernel) ⟨Nat.le_of_ble_eq_true rfl, Nat.le_of_ble_eq_true rfl⟩) (mpV hK hP hD) rfl rfl hl.1 rfl (lv_room (Nat.le_of_ble_eq_true rfl)) dX12_compare_107 ⟨Nat.le_of_ble_eq_true rfl, Nat.le_of_ble_eq_true rfl⟩) hS (fun q _ z => hFc q z) hFc (fun r1 M2 t H1 locs ht hvm hw hB hz1 hk1 hS => ?_)
    obtain ⟨hP, hD⟩ := gs_back ht hFc hB
    generalize H1 = H at hP hS ⊢
    obtain ⟨b3, rfl, h⟩ := hw
    try dsimp only at h
    refine lv_if_ne (tgt := 115) hx hb dX12_compare_110 (by decide) (fun c4 => ?_) (fun c4 => ?_)
    · have h := h.2 c4
      refine lv_iload_n hx hb dX12_compare_115 rfl (lv_at hl 1 rfl) ?_
      refine lv_bipush (v := (60)) hx hb dX12_compare_116 (by decide) ?_
      refine lv_icmp_ne (tgt := 133) hx hb dX12_compare_118 (by decide) (fun c5 => ?_) (fun c5 => ?_)
      · have h := h.2 c5
        refine lv_iload_n hx hb dX12_compare_133 rfl (lv_at hl 1 rfl) ?_
        refine lv_bipush (v := (61)) hx hb dX12_compare_134 (by decide) ?_
        refine lv_icmp_ne (tgt := 143) hx hb dX12_compare_136 (by decide) (fun c6 => ?_) (fun c6 => ?_)
        · have h := h.2 c6
          refine lv_iload_n hx hb dX12_compare_143 rfl (lv_at hl 3 rfl) ?_
          refine lv_if_eq (tgt := 151) hx hb dX12_compare_144 (by decide) (fun c7 => ?_) (fun c7 => ?_)
          · have h := h.1 c7
            refine lv_iconst (v := 4) hx hb dX12_compare_151 (by decide) ?_
            exact b152  (4 : Int32) M2 H locs ls hP hD hS (lv_sub hl [0] rfl) h
          · have h := h.2 c7
            refine lv_iconst (v := 3) hx hb dX12_compare_147 (by decide) ?_
            refine lv_goto (tgt := 152) hx hb dX12_compare_148 (by decide) ?_
            exact b152  (3 : Int32) M2 H locs ls hP hD hS (lv_sub hl [0] rfl) h
        · have h := h.1 c6
          refine lv_iconst (v := 2) hx hb dX12_compare_139 (by decide) ?_
          refine lv_goto (tgt := 152) hx hb dX12_compare_140 (by decide) ?_
          exact b152  (2 : Int32) M2 H locs ls hP hD hS (lv_sub hl [0] rfl) h
      · have h := h.1 c5
        refine lv_iload_n hx hb dX12_compare_121 rfl (lv_at hl 3 rfl) ?_
        refine lv_if_eq (tgt := 129) hx hb dX12_compare_122 (by decide) (fun c8 => ?_) (fun c8 => ?_)
        · have h := h.1 c8
          refine lv_iconst (v := 0) hx hb dX12_compare_129 (by decide) ?_
          refine lv_goto (tgt := 152) hx hb dX12_compare_130 (by decide) ?_
          exact b152  (0 : Int32) M2 H locs ls hP hD hS (lv_sub hl [0] rfl) h
        · have h := h.2 c8
          refine lv_iconst (v := 1) hx hb dX12_compare_125 (by decide) ?_
          refine lv_goto (tgt := 152) hx hb dX12_compare_126 (by decide) ?_
          exact b152  (1 : Int32) M2 H locs ls hP hD hS (lv_sub hl [0] rfl) h
    · have h := h.1 c4
      refine lv_iconst (v := 0) hx hb dX12_compare_113 (by decide) ?_
      exact W.zret (v := (bI false)) hx hb hr (nar_bI false) (fun t ht hW => ⟨⟨_, M2, rfl, ⟨false, rfl, h⟩, by rw [ht]; exact hP, va_K.moved hW.alike hK, hD⟩, hS.F ht⟩) hS.2.2 dX12_compare_114
  have b90 : ∀ (y1 : Int32) (y2 : Int32) (z0 : Int32) (M : gS) (H : Heap) (locs : List Loc) (ls : Array Slot), va_P (dC, dI) vwCl (mW cB cI cJ cZ h0 ad M) H → va_D A (mW cB cI cJ cZ h0 ad M) → va_S A s.heap H locs → lv_has ls 5 [(0, .ref h0), (1, .int y1), (2, .int y2)] → wX12_compare_90  Q y1 y2 z0 M → W p l e (headSpec wsX12_compare rmX12_compare).room s m ([.ref h0] : List Value).toArray below meth c H locs 0 0 (MQ below (va_Qi (fun (r : Int32) (u : gS) => ∃ b : Bool, r = bI b ∧ Q b u) (mB dC dI cB cI cJ cZ h0 ad A) A) ([.ref h0] : List Value).toArray s 0 0 A) (F0 m 90 ls [.int z0]) := by
    intro  y1 y2 z0 M H locs ls hP hD hS hl h
    unfold wX12_compare_90 at h
    refine lv_istore_n (lv' := [(3, .int z0), (0, .ref h0), (1, .int y1), (2, .int y2)]) hx hb dX12_compare_90 rfl hl (by decide) rfl (fun ls hl => ?_)
    refine lv_iload_n hx hb dX12_compare_91 rfl (lv_at hl 0 rfl) ?_
    refine lv_if_eq (tgt := 105) hx hb dX12_compare_92 (by decide) (fun c1 => ?_) (fun c1 => ?_)
    · have h := h.1 c1
      exact b105  y1 y2 z0 M H locs ls hP hD hS (lv_sub hl [1, 2, 3, 0] rfl) h
    · have h := h.2 c1
      refine lv_aload_n hx hb dX12_compare_95 rfl (lv_at hl 1 rfl) ?_
      refine lv_dup hx hb dX12_compare_96 rfl ?_
      refine va_get (D := (dC, dI)) (ci := 12) (v := .int (mg M 13)) (C := RX12) (T := TX12) (N := 37) hx hb hts hin hown hK hP 0 rfl rfl 13 (by decide) f1 (fun _ h9 => h9) rfl dX12_compare_97 ?_
      refine lv_iconst (v := 1) hx hb dX12_compare_100 (by decide) ?_
      refine lv_iadd hx hb dX12_compare_101 ?_
      refine lv_topi (fun x2 ex2 => ?_)
      have h := h x2 ex2
      refine va_put (D := (dC, dI)) (ci := 12) (v := .int x2) (ty := .int) (C := RX12) (T := TX12) (N := 37) hx hb hts hin tyX12 tyX12_ok nmX12 hown hK hP hD hS 0 rfl rfl 13 (by decide) f1 (fun _ h9 => h9) rfl (by decide +kernel) rfl rfl (Nat.le_of_ble_eq_true rfl) dX12_compare_102 (fun H locs hP hD hS => ?_)
      have hP := mP_f13 hP
      have hD := mD_f13 hD
      have h := h _ rfl
      generalize sg M 13 x2 = M3 at hP hD h
      exact b105  y1 y2 z0 M3 H locs ls hP hD hS (lv_sub hl [1, 2, 3, 0] rfl) h
  have b89 : ∀ (y1 : Int32) (y2 : Int32) (M : gS) (H : Heap) (locs : List Loc) (ls : Array Slot), va_P (dC, dI) vwCl (mW cB cI cJ cZ h0 ad M) H → va_D A (mW cB cI cJ cZ h0 ad M) → va_S A s.heap H locs → lv_has ls 5 [(0, .ref h0), (1, .int y1), (2, .int y2)] → wX12_compare_89  Q y1 y2 M → W p l e (headSpec wsX12_compare rmX12_compare).room s m ([.ref h0] : List Value).toArray below meth c H locs 0 0 (MQ below (va_Qi (fun (r : Int32) (u : gS) => ∃ b : Bool, r = bI b ∧ Q b u) (mB dC dI cB cI cJ cZ h0 ad A) A) ([.ref h0] : List Value).toArray s 0 0 A) (F0 m 89 ls []) := by
    intro  y1 y2 M H locs ls hP hD hS hl h
    unfold wX12_compare_89 at h
    refine lv_iconst (v := 0) hx hb dX12_compare_89 (by decide) ?_
    exact b90  y1 y2 (0 : Int32) M H locs ls hP hD hS (lv_sub hl [0, 1, 2] rfl) h
  have b44 : ∀ (y1 : Int32) (y2 : Int32) (M : gS) (H : Heap) (locs : List Loc) (ls : Array Slot), va_P (dC, dI) vwCl (mW cB cI cJ cZ h0 ad M) H → va_D A (mW cB cI cJ cZ h0 ad M) → va_S A s.heap H locs → lv_has ls 5 [(0, .ref h0), (1, .int y1), (2, .int y2)] → wX12_compare_44  Q y1 y2 M → W p l e (headSpec wsX12_compare rmX12_compare).room s m ([.ref h0] : List Value).toArray below meth c H locs 0 0 (MQ below (va_Qi (fun (r : Int32) (u : gS) => ∃ b : Bool, r = bI b ∧ Q b u) (mB dC dI cB cI cJ cZ h0 ad A) A) ([.ref h0] : List Value).toArray s 0 0 A) (F0 m 44 ls []) := by
    intro  y1 y2 M H locs ls hP hD hS hl h
    unfold wX12_compare_44 at h
    refine lv_aload_n hx hb dX12_compare_44 rfl (lv_at hl 0 rfl) ?_
    refine lv_dup hx hb dX12_compare_45 rfl ?_
    refine va_get (D := (dC, dI)) (ci := 12) (v := .int (mg M 13)) (C := RX12) (T := TX12) (N := 37) hx hb hts hin hown hK hP 0 rfl rfl 13 (by decide) f1 (fun _ h9 => h9) rfl dX12_compare_46 ?_
    refine lv_iconst (v := 1) hx hb dX12_compare_49 (by decide) ?_
    refine lv_iadd hx hb dX12_compare_50 ?_
    refine lv_topi (fun x1 ex1 => ?_)
    have h := h x1 ex1
    refine va_put (D := (dC, dI)) (ci := 12) (v := .int x1) (ty := .int) (C := RX12) (T := TX12) (N := 37) hx hb hts hin tyX12 tyX12_ok nmX12 hown hK hP hD hS 0 rfl rfl 13 (by decide) f1 (fun _ h9 => h9) rfl (by decide +kernel) rfl rfl (Nat.le_of_ble_eq_true rfl) dX12_compare_51 (fun H locs hP hD hS => ?_)
    have hP := mP_f13 hP
    have hD := mD_f13 hD
    have h := h _ rfl
    generalize sg M 13 x1 = M2 at hP hD h
    refine lv_iload_n hx hb dX12_compare_54 rfl (lv_at hl 1 rfl) ?_
    refine lv_bipush (v := (61)) hx hb dX12_compare_55 (by decide) ?_
    refine lv_icmp_eq (tgt := 89) hx hb dX12_compare_57 (by decide) (fun c3 => ?_) (fun c3 => ?_)
    · have h := h.1 c3
      exact b89  y1 y2 M2 H locs ls hP hD hS (lv_sub hl [0, 1, 2] rfl) h
    · have h := h.2 c3
      refine lv_aload_n hx hb dX12_compare_60 rfl (lv_at hl 0 rfl) ?_
      refine va_get (D := (dC, dI)) (ci := 12) (v := .int (mg M2 13)) (C := RX12) (T := TX12) (N := 37) hx hb hts hin hown hK hP 0 rfl rfl 13 (by decide) f1 (fun _ h9 => h9) rfl dX12_compare_61 ?_
      refine lv_aload_n hx hb dX12_compare_64 rfl (lv_at hl 0 rfl) ?_
      refine va_get (D := (dC, dI)) (ci := 12) (v := .int (mg M2 1)) (C := RX12) (T := TX12) (N := 37) hx hb hts hin hown hK hP 0 rfl rfl 1 (by decide) f2 (fun _ h9 => h9) rfl dX12_compare_65 ?_
      refine lv_icmp_ge (tgt := 89) hx hb dX12_compare_68 (by decide) (fun c4 => ?_) (fun c4 => ?_)
      · have h := h.1 c4
        exact b89  y1 y2 M2 H locs ls hP hD hS (lv_sub hl [0, 1, 2] rfl) h
      · have h := h.2 c4
        refine lv_aload_n hx hb dX12_compare_71 rfl (lv_at hl 0 rfl) ?_
        refine va_get (D := (dC, dI)) (ci := 12) (v := .ref (ad 0)) (C := RX12) (T := TX12) (N := 37) hx hb hts hin hown hK hP 0 rfl rfl 0 (by decide) f3 (fun _ h9 => h9) rfl dX12_compare_72 ?_
        refine lv_aload_n hx hb dX12_compare_75 rfl (lv_at hl 0 rfl) ?_
        refine va_get (D := (dC, dI)) (ci := 12) (v := .int (mg M2 13)) (C := RX12) (T := TX12) (N := 37) hx hb hts hin hown hK hP 0 rfl rfl 13 (by decide) f1 (fun _ h9 => h9) rfl dX12_compare_76 ?_
        refine va_bald hx hb hK hP 1 0 (f := ma M2 0) rfl rfl h.1 dX12_compare_79 ?_
        have h := h.2
        refine lv_bipush (v := (61)) hx hb dX12_compare_80 (by decide) ?_
        refine lv_icmp_ne (tgt := 89) hx hb dX12_compare_82 (by decide) (fun c5 => ?_) (fun c5 => ?_)
        · have h := h.2 c5
          exact b89  y1 y2 M2 H locs ls hP hD hS (lv_sub hl [0, 1, 2] rfl) h
        · have h := h.1 c5
          refine lv_iconst (v := 1) hx hb dX12_compare_85 (by decide) ?_
          refine lv_goto (tgt := 90) hx hb dX12_compare_86 (by decide) ?_
          exact b90  y1 y2 (1 : Int32) M2 H locs ls hP hD hS (lv_sub hl [0, 1, 2] rfl) h
  have bE : ∀ (M : gS) (H : Heap) (locs : List Loc) (ls : Array Slot), va_P (dC, dI) vwCl (mW cB cI cJ cZ h0 ad M) H → va_D A (mW cB cI cJ cZ h0 ad M) → va_S A s.heap H locs → lv_has ls 5 [(0, .ref h0)] → wX12_compare  M Q → W p l e (headSpec wsX12_compare rmX12_compare).room s m ([.ref h0] : List Value).toArray below meth c H locs 0 0 (MQ below (va_Qi (fun (r : Int32) (u : gS) => ∃ b : Bool, r = bI b ∧ Q b u) (mB dC dI cB cI cJ cZ h0 ad A) A) ([.ref h0] : List Value).toArray s 0 0 A) (F0 m 0 ls []) := by
    intro M H locs ls hP hD hS hl h
    unfold wX12_compare at h
    refine lv_aload_n hx hb dX12_compare_0 rfl (lv_at hl 0 rfl) ?_
    have hFc := gs_free hD hS hA
    refine va_calli (va_runV (As := []) (rest := []) ⟨hx, hb, hml, hown, hts⟩ (kX12_sum l dC dI cB cI cJ cZ h0 ad H.size  M _ h) (cwV 0 hts gX12_compare_X12_sum rfl rfl rfl (by decide +kernel) ⟨Nat.le_of_ble_eq_true rfl, Nat.le_of_ble_eq_true rfl⟩) (mpV hK hP hD) rfl rfl hl.1 rfl (lv_room (Nat.le_of_ble_eq_true rfl)) dX12_compare_1 ⟨Nat.le_of_ble_eq_true rfl, Nat.le_of_ble_eq_true rfl⟩) hS (fun q _ z => hFc q z) hFc (fun r1 M2 t H1 locs ht hvm hw hB hz1 hk1 hS => ?_)
    obtain ⟨hP, hD⟩ := gs_back ht hFc hB
    generalize H1 = H at hP hS ⊢
    obtain ⟨b3, rfl, h⟩ := hw
    try dsimp only at h
    refine lv_if_ne (tgt := 9) hx hb dX12_compare_4 (by decide) (fun c4 => ?_) (fun c4 => ?_)
    · have h := h.2 c4
      refine lv_aload_n hx hb dX12_compare_9 rfl (lv_at hl 0 rfl) ?_
      have hFc := gs_free hD hS hA
      refine va_calli (va_runV (As := []) (rest := []) ⟨hx, hb, hml, hown, hts⟩ (kX12_see l dC dI cB cI cJ cZ h0 ad H.size  M2 _ h) (cwV 0 hts gX12_compare_X12_see rfl rfl rfl (by decide +kernel) ⟨Nat.le_of_ble_eq_true rfl, Nat.le_of_ble_eq_true rfl⟩) (mpV hK hP hD) rfl rfl hl.1 rfl (lv_room (Nat.le_of_ble_eq_true rfl)) dX12_compare_10 ⟨Nat.le_of_ble_eq_true rfl, Nat.le_of_ble_eq_true rfl⟩) hS (fun q _ z => hFc q z) hFc (fun r5 M6 t H1 locs ht hvm hw hB hz1 hk1 hS => ?_)
      obtain ⟨hP, hD⟩ := gs_back ht hFc hB
      generalize H1 = H at hP hS ⊢
      have h := hw
      try dsimp only at h
      refine lv_istore_n (lv' := [(1, .int r5), (0, .ref h0)]) hx hb dX12_compare_13 rfl hl (by decide) rfl (fun ls hl => ?_)
      refine lv_aload_n hx hb dX12_compare_14 rfl (lv_at hl 1 rfl) ?_
      refine va_get (D := (dC, dI)) (ci := 12) (v := .int (mg M6 13)) (C := RX12) (T := TX12) (N := 37) hx hb hts hin hown hK hP 0 rfl rfl 13 (by decide) f1 (fun _ h9 => h9) rfl dX12_compare_15 ?_
      refine lv_topi (fun x7 ex7 => ?_)
      have h := h x7 ex7
      refine lv_istore_n (lv' := [(2, .int x7), (1, .int r5), (0, .ref h0)]) hx hb dX12_compare_18 rfl hl (by decide) rfl (fun ls hl => ?_)
      refine lv_iload_n hx hb dX12_compare_19 rfl (lv_at hl 1 rfl) ?_
      refine lv_bipush (v := (60)) hx hb dX12_compare_20 (by decide) ?_
      refine lv_icmp_eq (tgt := 44) hx hb dX12_compare_22 (by decide) (fun c8 => ?_) (fun c8 => ?_)
      · have h := h.1 c8
        exact b44  r5 x7 M6 H locs ls hP hD hS (lv_sub hl [2, 1, 0] rfl) h
      · have h := h.2 c8
        refine lv_iload_n hx hb dX12_compare_25 rfl (lv_at hl 1 rfl) ?_
        refine lv_bipush (v := (61)) hx hb dX12_compare_26 (by decide) ?_
        refine lv_icmp_eq (tgt := 44) hx hb dX12_compare_28 (by decide) (fun c9 => ?_) (fun c9 => ?_)
        · have h := h.1 c9
          exact b44  r5 x7 M6 H locs ls hP hD hS (lv_sub hl [2, 1, 0] rfl) h
        · have h := h.2 c9
          refine lv_iload_n hx hb dX12_compare_31 rfl (lv_at hl 1 rfl) ?_
          refine lv_bipush (v := (62)) hx hb dX12_compare_32 (by decide) ?_
          refine lv_icmp_eq (tgt := 44) hx hb dX12_compare_34 (by decide) (fun c10 => ?_) (fun c10 => ?_)
          · have h := h.1 c10
            exact b44  r5 x7 M6 H locs ls hP hD hS (lv_sub hl [2, 1, 0] rfl) h
          · have h := h.2 c10
            refine lv_aload_n hx hb dX12_compare_37 rfl (lv_at hl 2 rfl) ?_
            refine lv_iconst (v := 0) hx hb dX12_compare_38 (by decide) ?_
            refine lv_iload_n hx hb dX12_compare_39 rfl (lv_at hl 0 rfl) ?_
            have hFc := gs_free hD hS hA
            refine va_calli (va_runV (As := [.int (0 : Int32), .int x7]) (rest := []) ⟨hx, hb, hml, hown, hts⟩ (kX12_fails l dC dI cB cI cJ cZ h0 ad H.size (0 : Int32) x7 M6 _ h) (cwV 2 hts gX12_compare_X12_fails rfl rfl rfl (by decide +kernel) ⟨Nat.le_of_ble_eq_true rfl, Nat.le_of_ble_eq_true rfl⟩) (mpV hK hP hD) rfl rfl hl.1 rfl (lv_room (Nat.le_of_ble_eq_true rfl)) dX12_compare_40 ⟨Nat.le_of_ble_eq_true rfl, Nat.le_of_ble_eq_true rfl⟩) hS (fun q _ z => hFc q z) hFc (fun r11 M12 t H1 locs ht hvm hw hB hz1 hk1 hS => ?_)
            obtain ⟨hP, hD⟩ := gs_back ht hFc hB
            generalize H1 = H at hP hS ⊢
            obtain ⟨b13, rfl, h⟩ := hw
            try dsimp only at h
            exact W.zret (v := (bI b13)) hx hb hr (nar_bI b13) (fun t ht hW => ⟨⟨_, M12, rfl, ⟨b13, rfl, h⟩, by rw [ht]; exact hP, va_K.moved hW.alike hK, hD⟩, hS.F ht⟩) hS.2.2 dX12_compare_43
    · have h := h.1 c4
      refine lv_iconst (v := 0) hx hb dX12_compare_7 (by decide) ?_
      exact W.zret (v := (bI false)) hx hb hr (nar_bI false) (fun t ht hW => ⟨⟨_, M2, rfl, ⟨false, rfl, h⟩, by rw [ht]; exact hP, va_K.moved hW.alike hK, hD⟩, hS.F ht⟩) hS.2.2 dX12_compare_8
  have hl := lv_entry ([.ref h0]) (n := 5) (Nat.le_of_ble_eq_true rfl)
  rw [lg_entry_eq]
  generalize (lg_sl ([.ref h0]) ++ List.replicate (5 - (lg_sl ([.ref h0])).length) Slot.unset).toArray = ls at hl ⊢
  have hl : lv_has ls 5 [(0, .ref h0)] := hl
  exact bE M s.heap [] ls hP hD hS hl h
