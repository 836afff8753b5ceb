def wX12_fact_72 (B2 : Int32 → gS → Prop) (Q : Bool → gS → Prop) (y1 : Int32) (M : gS) : Prop :=
 (B2 y1 M)
def wX12_fact_2  (Q : Bool → gS → Prop) : Nat → Int32 → gS → Prop
 | 0, _, _ => False
 | n + 1, y1, M => ((y1 = 0 → (wX12_compare  M (fun (b4 : Bool) (M3 : gS) => (Q b4 M3))))
 ∧ (¬ y1 = 0 → (wX12_see  M (fun (r5 : Int32) (M6 : gS) => (wX12_isWord (7237492 : Int64) M6 (fun (b9 : Bool) (M8 : gS) => (((bI b9) = 0 → ((r5 = (91 : Int32) → (wX12_opens (91 : Int32) M8 (fun (b14 : Bool) (M13 : gS) => (((bI b14) = 0 → (Q false M13))
 ∧ (¬ (bI b14) = 0 → (∀ x16 : Int32, x16 = ((mg M13 13) + (1 : Int32)) → (∀ M17 : gS, M17 = sg M13 13 x16 → (wX12_fact_72 (fun (y1 : Int32) (M : gS) => wX12_fact_2  Q n y1 M) Q (1 : Int32) M17))))))))
 ∧ (¬ r5 = (91 : Int32) → (wX12_fact_72 (fun (y1 : Int32) (M : gS) => wX12_fact_2  Q n y1 M) Q (0 : Int32) M8))))
 ∧ (¬ (bI b9) = 0 → (wX12_opens (11 : Int32) M8 (fun (b20 : Bool) (M19 : gS) => (((bI b20) = 0 → (Q false M19))
 ∧ (¬ (bI b20) = 0 → (wX12_passWord  M19 (fun (M23 : gS) => (wX12_fact_72 (fun (y1 : Int32) (M : gS) => wX12_fact_2  Q n y1 M) Q (1 : Int32) M23)))))))))))))))
def wX12_fact  (M : gS) (Q : Bool → gS → Prop) : Prop :=
 (∃ k2 : Nat, wX12_fact_2  Q k2 (1 : Int32) M)
def rmX12_fact : Room := { frames := 7, cells := 0, slots := 0, locals := 154 }
set_option maxHeartbeats 4000000 in
set_option maxRecDepth 100000 in
theorem kX12_fact (l : Launch) (dC : Nat → ClassId) (dI : Nat → Nat → Nat) (cB cI cJ cZ : ClassId) (h0 : Nat) (ad : Nat → Nat) (sz : Nat)  (M : gS) (Q : Bool → gS → Prop) (h : wX12_fact  M Q) : Met l yX12_fact wsX12_fact rmX12_fact (va_Pc [.ref h0] (mI dC dI cB cI cJ cZ h0 ad M sz)) (va_Qi (fun (r : Int32) (u : gS) => ∃ b : Bool, r = bI b ∧ Q b u) (mB dC dI cB cI cJ cZ h0 ad (va_A (mW cB cI cJ cZ h0 ad M) sz)) (va_A (mW cB cI cJ cZ h0 ad M) sz)) 0 0 (va_A (mW cB cI cJ cZ h0 ad M) sz) := by
  refine Met.ofW (cc := cX12_fact) (maxL := 3) (ret := (some .boolean)) (by decide) rfl ?_
  intro p e s m args below meth c s₁ B hml hv
  obtain ⟨rfl, hsz, hP, hK, hD0⟩ := hv
  have hx := B.exec
  have hb := B.bytes
  have hr := B.returns
  have hts := atoms_spec (ws := wsX12_fact) B.pre
  have hown : s.vm.findClass RX12 = some m.cls := findClass_of_methodNamed B.named
  have hlocks := B.notSynchronized
  subst hsz
  have hD := hD0.self (sz := s.heap.size)
  generalize hAe : va_A (mW cB cI cJ cZ h0 ad M) s.heap.size = A at hD ⊢
  have hA : ∀ q : Nat, s.heap.size ≤ q → A q := fun q h => by rw [← hAe]; exact Or.inr h
  have hS : va_S A s.heap s.heap [] := va_S.rf
  have hin : ∀ w ∈ wsX120, w ∈ wsX12_fact := fun w h => List.mem_cons_of_mem _ (List.mem_append_right _ h)
  have f1 := hts (.constantLong RX12 177 (7237492)) (by decide +kernel)
  have f2 := hts (.fieldLink RX12 87 "LastWordsModel" "next" "I") (by decide +kernel)
  have b72 : ∀ (B2 : Int32 → gS → Prop) (hB2 : ∀ (y1 : Int32) (M : gS) (H : Heap) (locs : List Loc) (ls : Array Slot), va_P (dC, dI) vwCl (mW cB cI cJ cZ h0 ad M) H → va_D A (mW cB cI cJ cZ h0 ad M) → va_S A s.heap H locs → lv_has ls 3 [(0, .ref h0), (1, .int y1)] → B2 y1 M → W p l e (headSpec wsX12_fact rmX12_fact).room s m ([.ref h0] : List Value).toArray below meth c H locs 0 0 (MQ below (va_Qi (fun (r : Int32) (u : gS) => ∃ b : Bool, r = bI b ∧ Q b u) (mB dC dI cB cI cJ cZ h0 ad A) A) ([.ref h0] : List Value).toArray s 0 0 A) (F0 m 2 ls [])) (y1 : Int32) (M : gS) (H : Heap) (locs : List Loc) (ls : Array Slot), va_P (dC, dI) vwCl (mW cB cI cJ cZ h0 ad M) H → va_D A (mW cB cI cJ cZ h0 ad M) → va_S A s.heap H locs → lv_has ls 3 [(0, .ref h0), (1, .int y1)] → wX12_fact_72 B2 Q y1 M → W p l e (headSpec wsX12_fact rmX12_fact).room s m ([.ref h0] : List Value).toArray below meth c H locs 0 0 (MQ below (va_Qi (fun (r : Int32) (u : gS) => ∃ b : Bool, r = bI b ∧ Q b u) (mB dC dI cB cI cJ cZ h0 ad A) A) ([.ref h0] : List Value).toArray s 0 0 A) (F0 m 72 ls []) := by
    intro B2 hB2 y1 M H locs ls hP hD hS hl h
    unfold wX12_fact_72 at h
    refine lv_goto (tgt := 2) hx hb dX12_fact_72 (by decide) ?_
    exact hB2 y1 M H locs ls hP hD hS (lv_sub hl [0, 1] rfl) h
  have b2 : ∀ (n : Nat) (y1 : Int32) (M : gS) (H : Heap) (locs : List Loc) (ls : Array Slot), va_P (dC, dI) vwCl (mW cB cI cJ cZ h0 ad M) H → va_D A (mW cB cI cJ cZ h0 ad M) → va_S A s.heap H locs → lv_has ls 3 [(0, .ref h0), (1, .int y1)] → wX12_fact_2  Q n y1 M → W p l e (headSpec wsX12_fact rmX12_fact).room s m ([.ref h0] : List Value).toArray below meth c H locs 0 0 (MQ below (va_Qi (fun (r : Int32) (u : gS) => ∃ b : Bool, r = bI b ∧ Q b u) (mB dC dI cB cI cJ cZ h0 ad A) A) ([.ref h0] : List Value).toArray s 0 0 A) (F0 m 2 ls []) := by
    intro  n
    induction n with
    | zero => intro y1 M H locs ls hP hD hS hl h; exact absurd h (by simp [wX12_fact_2])
    | succ n hB20 =>
      intro y1 M H locs ls hP hD hS hl h
      have hB2 := hB20
      rw [wX12_fact_2] at h
      refine lv_iload_n hx hb dX12_fact_2 rfl (lv_at hl 1 rfl) ?_
      refine lv_if_eq (tgt := 75) hx hb dX12_fact_3 (by decide) (fun c1 => ?_) (fun c1 => ?_)
      · have h := h.1 c1
        refine lv_aload_n hx hb dX12_fact_75 rfl (lv_at hl 0 rfl) ?_
        have hFc := gs_free hD hS hA
        refine va_calli (va_runV (As := []) (rest := []) ⟨hx, hb, hml, hown, hts⟩ (kX12_compare l dC dI cB cI cJ cZ h0 ad H.size  M _ h) (cwV 0 hts gX12_fact_X12_compare rfl rfl rfl (by decide +kernel) ⟨Nat.le_of_ble_eq_true rfl, Nat.le_of_ble_eq_true rfl⟩) (mpV hK hP hD) rfl rfl hl.1 rfl (lv_room (Nat.le_of_ble_eq_true rfl)) dX12_fact_76 ⟨Nat.le_of_ble_eq_true rfl, Nat.le_of_ble_eq_true rfl⟩) hS (fun q _ z => hFc q z) hFc (fun r2 M3 t H1 locs ht hvm hw hB hz1 hk1 hS => ?_)
        obtain ⟨hP, hD⟩ := gs_back ht hFc hB
        generalize H1 = H at hP hS ⊢
        obtain ⟨b4, rfl, h⟩ := hw
        try dsimp only at h
        exact W.zret (v := (bI b4)) hx hb hr (nar_bI b4) (fun t ht hW => ⟨⟨_, M3, rfl, ⟨b4, rfl, h⟩, by rw [ht]; exact hP, va_K.moved hW.alike hK, hD⟩, hS.F ht⟩) hS.2.2 dX12_fact_79
      · have h := h.2 c1
        refine lv_iconst (v := 0) hx hb dX12_fact_6 (by decide) ?_
        refine lv_istore_n (lv' := [(1, .int (0 : Int32)), (0, .ref h0)]) hx hb dX12_fact_7 rfl hl (by decide) rfl (fun ls hl => ?_)
        refine lv_aload_n hx hb dX12_fact_8 rfl (lv_at hl 1 rfl) ?_
        have hFc := gs_free hD hS hA
        refine va_calli (va_runV (As := []) (rest := []) ⟨hx, hb, hml, hown, hts⟩ (kX12_see l dC dI cB cI cJ cZ h0 ad H.size  M _ h) (cwV 0 hts gX12_fact_X12_see rfl rfl rfl (by decide +kernel) ⟨Nat.le_of_ble_eq_true rfl, Nat.le_of_ble_eq_true rfl⟩) (mpV hK hP hD) rfl rfl hl.1 rfl (lv_room (Nat.le_of_ble_eq_true rfl)) dX12_fact_9 ⟨Nat.le_of_ble_eq_true rfl, Nat.le_of_ble_eq_true rfl⟩) hS (fun q _ z => hFc q z) hFc (fun r5 M6 t H1 locs ht hvm hw hB hz1 hk1 hS => ?_)
        obtain ⟨hP, hD⟩ := gs_back ht hFc hB
        generalize H1 = H at hP hS ⊢
        have h := hw
        try dsimp only at h
        refine lv_istore_n (lv' := [(2, .int r5), (1, .int (0 : Int32)), (0, .ref h0)]) hx hb dX12_fact_12 rfl hl (by decide) rfl (fun ls hl => ?_)
        refine lv_aload_n hx hb dX12_fact_13 rfl (lv_at hl 2 rfl) ?_
        refine lv_ldc2 (v := (7237492)) hx hb hown f1 dX12_fact_14 ?_
        have hFc := gs_free hD hS hA
        refine va_calli (va_runV (As := [.long (7237492 : Int64)]) (rest := []) ⟨hx, hb, hml, hown, hts⟩ (kX12_isWord l dC dI cB cI cJ cZ h0 ad H.size (7237492 : Int64) M6 _ h) (cwV 1 hts gX12_fact_X12_isWord rfl rfl rfl (by decide +kernel) ⟨Nat.le_of_ble_eq_true rfl, Nat.le_of_ble_eq_true rfl⟩) (mpV hK hP hD) rfl rfl hl.1 rfl (lv_room (Nat.le_of_ble_eq_true rfl)) dX12_fact_17 ⟨Nat.le_of_ble_eq_true rfl, Nat.le_of_ble_eq_true rfl⟩) hS (fun q _ z => hFc q z) hFc (fun r7 M8 t H1 locs ht hvm hw hB hz1 hk1 hS => ?_)
        obtain ⟨hP, hD⟩ := gs_back ht hFc hB
        generalize H1 = H at hP hS ⊢
        obtain ⟨b9, rfl, h⟩ := hw
        try dsimp only at h
        refine lv_if_eq (tgt := 43) hx hb dX12_fact_20 (by decide) (fun c10 => ?_) (fun c10 => ?_)
        · have h := h.1 c10
          refine lv_iload_n hx hb dX12_fact_43 rfl (lv_at hl 0 rfl) ?_
          refine lv_bipush (v := (91)) hx hb dX12_fact_44 (by decide) ?_
          refine lv_icmp_ne (tgt := 72) hx hb dX12_fact_46 (by decide) (fun c11 => ?_) (fun c11 => ?_)
          · have h := h.2 c11
            exact b72 _ hB2 (0 : Int32) M8 H locs ls hP hD hS (lv_sub hl [2, 1] rfl) h
          · have h := h.1 c11
            refine lv_aload_n hx hb dX12_fact_49 rfl (lv_at hl 2 rfl) ?_
            refine lv_bipush (v := (91)) hx hb dX12_fact_50 (by decide) ?_
            have hFc := gs_free hD hS hA
            refine va_calli (va_runV (As := [.int (91 : Int32)]) (rest := []) ⟨hx, hb, hml, hown, hts⟩ (kX12_opens l dC dI cB cI cJ cZ h0 ad H.size (91 : Int32) M8 _ h) (cwV 1 hts gX12_fact_X12_opens rfl rfl rfl (by decide +kernel) ⟨Nat.le_of_ble_eq_true rfl, Nat.le_of_ble_eq_true rfl⟩) (mpV hK hP hD) rfl rfl hl.1 rfl (lv_room (Nat.le_of_ble_eq_true rfl)) dX12_fact_52 ⟨Nat.le_of_ble_eq_true rfl, Nat.le_of_ble_eq_true rfl⟩) hS (fun q _ z => hFc q z) hFc (fun r12 M13 t H1 locs ht hvm hw hB hz1 hk1 hS => ?_)
            obtain ⟨hP, hD⟩ := gs_back ht hFc hB
            generalize H1 = H at hP hS ⊢
            obtain ⟨b14, rfl, h⟩ := hw
            try dsimp only at h
            refine lv_if_ne (tgt := 60) hx hb dX12_fact_55 (by decide) (fun c15 => ?_) (fun c15 => ?_)
            · have h := h.2 c15
              refine lv_aload_n hx hb dX12_fact_60 rfl (lv_at hl 2 rfl) ?_
              refine lv_dup hx hb dX12_fact_61 rfl ?_
              refine va_get (D := (dC, dI)) (ci := 12) (v := .int (mg M13 13)) (C := RX12) (T := TX12) (N := 37) hx hb hts hin hown hK hP 0 rfl rfl 13 (by decide) f2 (fun _ h9 => h9) rfl dX12_fact_62 ?_
              refine lv_iconst (v := 1) hx hb dX12_fact_65 (by decide) ?_
              refine lv_iadd hx hb dX12_fact_66 ?_
              refine lv_topi (fun x16 ex16 => ?_)
              have h := h x16 ex16
              refine va_put (D := (dC, dI)) (ci := 12) (v := .int x16) (ty := .int) (C := RX12) (T := TX12) (N := 37) hx hb hts hin tyX12 tyX12_ok nmX12 hown hK hP hD hS 0 rfl rfl 13 (by decide) f2 (fun _ h9 => h9) rfl (by decide +kernel) rfl rfl (Nat.le_of_ble_eq_true rfl) dX12_fact_67 (fun H locs hP hD hS => ?_)
              have hP := mP_f13 hP
              have hD := mD_f13 hD
              have h := h _ rfl
              generalize sg M13 13 x16 = M17 at hP hD h
              refine lv_iconst (v := 1) hx hb dX12_fact_70 (by decide) ?_
              refine lv_istore_n (lv' := [(1, .int (1 : Int32)), (2, .int r5), (0, .ref h0)]) hx hb dX12_fact_71 rfl hl (by decide) rfl (fun ls hl => ?_)
              exact b72 _ hB2 (1 : Int32) M17 H locs ls hP hD hS (lv_sub hl [2, 0] rfl) h
            · have h := h.1 c15
              refine lv_iconst (v := 0) hx hb dX12_fact_58 (by decide) ?_
              exact W.zret (v := (bI false)) hx hb hr (nar_bI false) (fun t ht hW => ⟨⟨_, M13, rfl, ⟨false, rfl, h⟩, by rw [ht]; exact hP, va_K.moved hW.alike hK, hD⟩, hS.F ht⟩) hS.2.2 dX12_fact_59
        · have h := h.2 c10
          refine lv_aload_n hx hb dX12_fact_23 rfl (lv_at hl 2 rfl) ?_
          refine lv_bipush (v := (11)) hx hb dX12_fact_24 (by decide) ?_
          have hFc := gs_free hD hS hA
          refine va_calli (va_runV (As := [.int (11 : Int32)]) (rest := []) ⟨hx, hb, hml, hown, hts⟩ (kX12_opens l dC dI cB cI cJ cZ h0 ad H.size (11 : Int32) M8 _ h) (cwV 1 hts gX12_fact_X12_opens rfl rfl rfl (by decide +kernel) ⟨Nat.le_of_ble_eq_true rfl, Nat.le_of_ble_eq_true rfl⟩) (mpV hK hP hD) rfl rfl hl.1 rfl (lv_room (Nat.le_of_ble_eq_true rfl)) dX12_fact_26 ⟨Nat.le_of_ble_eq_true rfl, Nat.le_of_ble_eq_true rfl⟩) hS (fun q _ z => hFc q z) hFc (fun r18 M19 t H1 locs ht hvm hw hB hz1 hk1 hS => ?_)
          obtain ⟨hP, hD⟩ := gs_back ht hFc hB
          generalize H1 = H at hP hS ⊢
          obtain ⟨b20, rfl, h⟩ := hw
          try dsimp only at h
          refine lv_if_ne (tgt := 34) hx hb dX12_fact_29 (by decide) (fun c21 => ?_) (fun c21 => ?_)
          · have h := h.2 c21
            refine lv_aload_n hx hb dX12_fact_34 rfl (lv_at hl 2 rfl) ?_
            have hFc := gs_free hD hS hA
            refine va_callv (va_runV (As := []) (rest := []) ⟨hx, hb, hml, hown, hts⟩ (kX12_passWord l dC dI cB cI cJ cZ h0 ad H.size  M19 _ h) (cwV 0 hts gX12_fact_X12_passWord rfl rfl rfl (by decide +kernel) ⟨Nat.le_of_ble_eq_true rfl, Nat.le_of_ble_eq_true rfl⟩) (mpV hK hP hD) rfl rfl hl.1 rfl (lv_room (Nat.le_of_ble_eq_true rfl)) dX12_fact_35 ⟨Nat.le_of_ble_eq_true rfl, Nat.le_of_ble_eq_true rfl⟩) hS (fun q _ z => hFc q z) hFc (fun M23 t H1 locs ht hvm hw hB hz1 hk1 hS => ?_)
            obtain ⟨hP, hD⟩ := gs_back ht hFc hB
            generalize H1 = H at hP hS ⊢
            have h := hw
            try dsimp only at h
            refine lv_iconst (v := 1) hx hb dX12_fact_38 (by decide) ?_
            refine lv_istore_n (lv' := [(1, .int (1 : Int32)), (2, .int r5), (0, .ref h0)]) hx hb dX12_fact_39 rfl hl (by decide) rfl (fun ls hl => ?_)
            refine lv_goto (tgt := 72) hx hb dX12_fact_40 (by decide) ?_
            exact b72 _ hB2 (1 : Int32) M23 H locs ls hP hD hS (lv_sub hl [2, 0] rfl) h
          · have h := h.1 c21
            refine lv_iconst (v := 0) hx hb dX12_fact_32 (by decide) ?_
            exact W.zret (v := (bI false)) hx hb hr (nar_bI false) (fun t ht hW => ⟨⟨_, M19, rfl, ⟨false, rfl, h⟩, by rw [ht]; exact hP, va_K.moved hW.alike hK, hD⟩, hS.F ht⟩) hS.2.2 dX12_fact_33
  have bE : ∀ (M : gS) (H : Heap) (locs : List Loc) (ls : Array Slot), va_P (dC, dI) vwCl (mW cB cI cJ cZ h0 ad M) H → va_D A (mW cB cI cJ cZ h0 ad M) → va_S A s.heap H locs → lv_has ls 3 [(0, .ref h0)] → wX12_fact  M Q → W p l e (headSpec wsX12_fact rmX12_fact).room s m ([.ref h0] : List Value).toArray below meth c H locs 0 0 (MQ below (va_Qi (fun (r : Int32) (u : gS) => ∃ b : Bool, r = bI b ∧ Q b u) (mB dC dI cB cI cJ cZ h0 ad A) A) ([.ref h0] : List Value).toArray s 0 0 A) (F0 m 0 ls []) := by
    intro M H locs ls hP hD hS hl h
    unfold wX12_fact at h
    refine lv_iconst (v := 1) hx hb dX12_fact_0 (by decide) ?_
    refine lv_istore_n (lv' := [(1, .int (1 : Int32)), (0, .ref h0)]) hx hb dX12_fact_1 rfl hl (by decide) rfl (fun ls hl => ?_)
    obtain ⟨n9, h⟩ := h
    exact b2  n9 (1 : Int32) M H locs ls hP hD hS (lv_sub hl [1, 0] rfl) h
  have hl := lv_entry ([.ref h0]) (n := 3) (Nat.le_of_ble_eq_true rfl)
  rw [lg_entry_eq]
  generalize (lg_sl ([.ref h0]) ++ List.replicate (3 - (lg_sl ([.ref h0])).length) Slot.unset).toArray = ls at hl ⊢
  have hl : lv_has ls 3 [(0, .ref h0)] := hl
  exact bE M s.heap [] ls hP hD hS hl h
def wX12_isInside_2  (Q : Bool → gS → Prop) : Nat → Int32 → gS → Prop
 | 0, _, _ => False
 | n + 1, y1, M => (((mg M 21) ≤ y1 → (Q false M))
 ∧ (¬ (mg M 21) ≤ y1 → (vp_in y1 400 ∧ (((ma M 20 (Int32.toNatClampNeg y1)) = (91 : Int32) → (Q true M))
 ∧ (¬ (ma M 20 (Int32.toNatClampNeg y1)) = (91 : Int32) → (∀ x3 : Int32, x3 = y1 + (1 : Int32) → (wX12_isInside_2  Q n x3 M)))))))
def wX12_isInside  (M : gS) (Q : Bool → gS → Prop) : Prop :=
 (∃ k2 : Nat, wX12_isInside_2  Q k2 (0 : Int32) M)
def rmX12_isInside : Room := { frames := 0, cells := 0, slots := 0, locals := 0 }
set_option maxHeartbeats 4000000 in
set_option maxRecDepth 100000 in
theorem kX12_isInside (l : Launch) (dC : Nat → ClassId) (dI : Nat → Nat → Nat) (cB cI cJ cZ : ClassId) (h0 : Nat) (ad : Nat → Nat) (sz : Nat)  (M : gS) (Q : Bool → gS → Prop) (h : wX12_isInside  M Q) : Met l yX12_isInside wsX12_isInside rmX12_isInside (va_Pc [.ref h0] (mI dC dI cB cI cJ cZ h0 ad M sz)) (va_Qi (fun (r : Int32) (u : gS) => ∃ b : Bool, r = bI b ∧ Q b u) (mB dC dI cB cI cJ cZ h0 ad (va_A (mW cB cI cJ cZ h0 ad M) sz)) (va_A (mW cB cI cJ cZ h0 ad M) sz)) 0 0 (va_A (mW cB cI cJ cZ h0 ad M) sz) := by
  refine Met.ofW (cc := cX12_isInside) (maxL := 2) (ret := (some .boolean)) (by decide) rfl ?_
  intro p e s m args below meth c s₁ B hml hv
  obtain ⟨rfl, hsz, hP, hK, hD0⟩ := hv
  have hx := B.exec
  have hb := B.bytes
  have hr := B.returns
  have hts := atoms_spec (ws := wsX12_isInside) B.pre
  have hown : s.vm.findClass RX12 = some m.cls := findClass_of_methodNamed B.named
  have hlocks := B.notSynchronized
  subst hsz
  have hD := hD0.self (sz := s.heap.size)
  generalize hAe : va_A (mW cB cI cJ cZ h0 ad M) s.heap.size = A at hD ⊢
  have hA : ∀ q : Nat, s.heap.size ≤ q → A q := fun q h => by rw [← hAe]; exact Or.inr h
  have hS : va_S A s.heap s.heap [] := va_S.rf
  have hin : ∀ w ∈ wsX120, w ∈ wsX12_isInside := fun w h => List.mem_cons_of_mem _ (List.mem_append_right _ h)
  have f1 := hts (.fieldLink RX12 146 "LastWordsModel" "opened" "I") (by decide +kernel)
  have f2 := hts (.fieldLink RX12 35 "LastWordsModel" "open" "[I") (by decide +kernel)
  have b2 : ∀ (n : Nat) (y1 : Int32) (M : gS) (H : Heap) (locs : List Loc) (ls : Array Slot), va_P (dC, dI) vwCl (mW cB cI cJ cZ h0 ad M) H → va_D A (mW cB cI cJ cZ h0 ad M) → va_S A s.heap H locs → lv_has ls 2 [(0, .ref h0), (1, .int y1)] → wX12_isInside_2  Q n y1 M → W p l e (headSpec wsX12_isInside rmX12_isInside).room s m ([.ref h0] : List Value).toArray below meth c H locs 0 0 (MQ below (va_Qi (fun (r : Int32) (u : gS) => ∃ b : Bool, r = bI b ∧ Q b u) (mB dC dI cB cI cJ cZ h0 ad A) A) ([.ref h0] : List Value).toArray s 0 0 A) (F0 m 2 ls []) := by
    intro  n
    induction n with
    | zero => intro y1 M H locs ls hP hD hS hl h; exact absurd h (by simp [wX12_isInside_2])
    | succ n hB20 =>
      intro y1 M H locs ls hP hD hS hl h
      have hB2 := hB20
      rw [wX12_isInside_2] at h
      refine lv_iload_n hx hb dX12_isInside_2 rfl (lv_at hl 1 rfl) ?_
      refine lv_aload_n hx hb dX12_isInside_3 rfl (lv_at hl 0 rfl) ?_
      refine va_get (D := (dC, dI)) (ci := 12) (v := .int (mg M 21)) (C := RX12) (T := TX12) (N := 37) hx hb hts hin hown hK hP 0 rfl rfl 21 (by decide) f1 (fun _ h9 => h9) rfl dX12_isInside_4 ?_
      refine lv_icmp_ge (tgt := 29) hx hb dX12_isInside_7 (by decide) (fun c1 => ?_) (fun c1 => ?_)
      · have h := h.1 c1
        refine lv_iconst (v := 0) hx hb dX12_isInside_29 (by decide) ?_
        exact W.zret (v := (bI false)) hx hb hr (nar_bI false) (fun t ht hW => ⟨⟨_, M, rfl, ⟨false, rfl, h⟩, by rw [ht]; exact hP, va_K.moved hW.alike hK, hD⟩, hS.F ht⟩) hS.2.2 dX12_isInside_30
      · have h := h.2 c1
        refine lv_aload_n hx hb dX12_isInside_10 rfl (lv_at hl 0 rfl) ?_
        refine va_get (D := (dC, dI)) (ci := 12) (v := .ref (ad 20)) (C := RX12) (T := TX12) (N := 37) hx hb hts hin hown hK hP 0 rfl rfl 20 (by decide) f2 (fun _ h9 => h9) rfl dX12_isInside_11 ?_
        refine lv_iload_n hx hb dX12_isInside_14 rfl (lv_at hl 1 rfl) ?_
        refine va_iald hx hb hK hP 9 1 (f := ma M 20) rfl rfl h.1 dX12_isInside_15 ?_
        have h := h.2
        refine lv_bipush (v := (91)) hx hb dX12_isInside_16 (by decide) ?_
        refine lv_icmp_ne (tgt := 23) hx hb dX12_isInside_18 (by decide) (fun c2 => ?_) (fun c2 => ?_)
        · have h := h.2 c2
          obtain ⟨x3, ex3⟩ : ∃ y : Int32, y = y1 + (1 : Int32) := ⟨_, rfl⟩
          have h := h x3 ex3
          refine lv_iinc (v := x3) (lv' := [(1, .int x3), (0, .ref h0)]) hx hb dX12_isInside_23 hl (k := 1) rfl (by rw [ex3]; rfl) (by decide) rfl (fun ls hl => ?_)
          refine lv_goto (tgt := 2) hx hb dX12_isInside_26 (by decide) ?_
          exact hB2 x3 M H locs ls hP hD hS (lv_sub hl [1, 0] rfl) h
        · have h := h.1 c2
          refine lv_iconst (v := 1) hx hb dX12_isInside_21 (by decide) ?_
          exact W.zret (v := (bI true)) hx hb hr (nar_bI true) (fun t ht hW => ⟨⟨_, M, rfl, ⟨true, rfl, h⟩, by rw [ht]; exact hP, va_K.moved hW.alike hK, hD⟩, hS.F ht⟩) hS.2.2 dX12_isInside_22
  have bE : ∀ (M : gS) (H : Heap) (locs : List Loc) (ls : Array Slot), va_P (dC, dI) vwCl (mW cB cI cJ cZ h0 ad M) H → va_D A (mW cB cI cJ cZ h0 ad M) → va_S A s.heap H locs → lv_has ls 2 [(0, .ref h0)] → wX12_isInside  M Q → W p l e (headSpec wsX12_isInside rmX12_isInside).room s m ([.ref h0] : List Value).toArray below meth c H locs 0 0 (MQ below (va_Qi (fun (r : Int32) (u : gS) => ∃ b : Bool, r = bI b ∧ Q b u) (mB dC dI cB cI cJ cZ h0 ad A) A) ([.ref h0] : List Value).toArray s 0 0 A) (F0 m 0 ls []) := by
    intro M H locs ls hP hD hS hl h
    unfold wX12_isInside at h
    refine lv_iconst (v := 0) hx hb dX12_isInside_0 (by decide) ?_
    refine lv_istore_n (lv' := [(1, .int (0 : Int32)), (0, .ref h0)]) hx hb dX12_isInside_1 rfl hl (by decide) rfl (fun ls hl => ?_)
    obtain ⟨n9, h⟩ := h
    exact b2  n9 (0 : Int32) M H locs ls hP hD hS (lv_sub hl [1, 0] rfl) h
  have hl := lv_entry ([.ref h0]) (n := 2) (Nat.le_of_ble_eq_true rfl)
  rw [lg_entry_eq]
  generalize (lg_sl ([.ref h0]) ++ List.replicate (2 - (lg_sl ([.ref h0])).length) Slot.unset).toArray = ls at hl ⊢
  have hl : lv_has ls 2 [(0, .ref h0)] := hl
  exact bE M s.heap [] ls hP hD hS hl h
def wX12_closes_5  (Q : gS → Prop) : Nat → gS → Prop
 | 0, _ => False
 | n + 1, M => (wX12_see  M (fun (r1 : Int32) (M2 : gS) => ((r1 = (93 : Int32) → (wX12_isInside  M2 (fun (b6 : Bool) (M5 : gS) => (((bI b6) = 0 → (Q M5))
 ∧ (¬ (bI b6) = 0 → (wX12_settles (1 : Int32) M5 (fun (M9 : gS) => (∀ x10 : Int32, x10 = ((mg M9 21) - (1 : Int32)) → (∀ M11 : gS, M11 = sg M9 21 x10 → (∀ x12 : Int32, x12 = ((mg M11 18) - (1 : Int32)) → (∀ M13 : gS, M13 = sg M11 18 x12 → (∀ x14 : Int32, x14 = ((mg M13 13) + (1 : Int32)) → (∀ M15 : gS, M15 = sg M13 13 x14 → (wX12_settles (3 : Int32) M15 (fun (M17 : gS) => (wX12_closes_5  Q n M17))))))))))))))))
 ∧ (¬ r1 = (93 : Int32) → (Q M2)))))
def wX12_closes  (M : gS) (Q : gS → Prop) : Prop :=
 (wX12_settles (3 : Int32) M (fun (M2 : gS) => (∃ k5 : Nat, wX12_closes_5  Q k5 M2)))
def rmX12_closes : Room := { frames := 2, cells := 0, slots := 0, locals := 43 }
set_option maxHeartbeats 4000000 in
set_option maxRecDepth 100000 in
theorem kX12_closes (l : Launch) (dC : Nat → ClassId) (dI : Nat → Nat → Nat) (cB cI cJ cZ : ClassId) (h0 : Nat) (ad : Nat → Nat) (sz : Nat)  (M : gS) (Q : gS → Prop) (h : wX12_closes  M Q) : Met l yX12_closes wsX12_closes rmX12_closes (va_Pc [.ref h0] (mI dC dI cB cI cJ cZ h0 ad M sz)) (va_Qv (fun (u : gS) => Q u) (mB dC dI cB cI cJ cZ h0 ad (va_A (mW cB cI cJ cZ h0 ad M) sz)) (va_A (mW cB cI cJ cZ h0 ad M) sz)) 0 0 (va_A (mW cB cI cJ cZ h0 ad M) sz) := by
  refine Met.ofW (cc := cX12_closes) (maxL := 1) (ret := none) (by decide) rfl ?_
  intro p e s m args below meth c s₁ B hml hv
  obtain ⟨rfl, hsz, hP, hK, hD0⟩ := hv
  have hx := B.exec
  have hb := B.bytes
  have hr := B.returns
  have hts := atoms_spec (ws := wsX12_closes) B.pre
  have hown : s.vm.findClass RX12 = some m.cls := findClass_of_methodNamed B.named
  have hlocks := B.notSynchronized
  subst hsz
  have hD := hD0.self (sz := s.heap.size)
  generalize hAe : va_A (mW cB cI cJ cZ h0 ad M) s.heap.size = A at hD ⊢
  have hA : ∀ q : Nat, s.heap.size ≤ q → A q := fun q h => by rw [← hAe]; exact Or.inr h
  have hS : va_S A s.heap s.heap [] := va_S.rf
  have hin : ∀ w ∈ wsX120, w ∈ wsX12_closes := fun w h => List.mem_cons_of_mem _ (List.mem_append_right _ h)
  have f1 := hts (.fieldLink RX12 146 "LastWordsModel" "opened" "I") (by decide +kernel)
  have f2 := hts (.fieldLink RX12 143 "LastWordsModel" "deep" "I") (by decide +kernel)
  have f3 := hts (.fieldLink RX12 87 "LastWordsModel" "next" "I") (by decide +kernel)
  have b5 : ∀ (n : Nat)  (M : gS) (H : Heap) (locs : List Loc) (ls : Array Slot), va_P (dC, dI) vwCl (mW cB cI cJ cZ h0 ad M) H → va_D A (mW cB cI cJ cZ h0 ad M) → va_S A s.heap H locs → lv_has ls 1 [(0, .ref h0)] → wX12_closes_5  Q n  M → W p l e (headSpec wsX12_closes rmX12_closes).room s m ([.ref h0] : List Value).toArray below meth c H locs 0 0 (MQ below (va_Qv (fun (u : gS) => Q u) (mB dC dI cB cI cJ cZ h0 ad A) A) ([.ref h0] : List Value).toArray s 0 0 A) (F0 m 5 ls []) := by
    intro  n
    induction n with
    | zero => intro  M H locs ls hP hD hS hl h; exact absurd h (by simp [wX12_closes_5])
    | succ n hB50 =>
      intro  M H locs ls hP hD hS hl h
      have hB5 := hB50
      rw [wX12_closes_5] at h
      refine lv_aload_n hx hb dX12_closes_5 rfl (lv_at hl 0 rfl) ?_
      have hFc := gs_free hD hS hA
      refine va_calli (va_runV (As := []) (rest := []) ⟨hx, hb, hml, hown, hts⟩ (kX12_see l dC dI cB cI cJ cZ h0 ad H.size  M _ h) (cwV 0 hts gX12_closes_X12_see rfl rfl rfl (by decide +kernel) ⟨Nat.le_of_ble_eq_true rfl, Nat.le_of_ble_eq_true rfl⟩) (mpV hK hP hD) rfl rfl hl.1 rfl (lv_room (Nat.le_of_ble_eq_true rfl)) dX12_closes_6 ⟨Nat.le_of_ble_eq_true rfl, Nat.le_of_ble_eq_true rfl⟩) hS (fun q _ z => hFc q z) hFc (fun r1 M2 t H1 locs ht hvm hw hB hz1 hk1 hS => ?_)
      obtain ⟨hP, hD⟩ := gs_back ht hFc hB
      generalize H1 = H at hP hS ⊢
      have h := hw
      try dsimp only at h
      refine lv_bipush (v := (93)) hx hb dX12_closes_9 (by decide) ?_
      refine lv_icmp_ne (tgt := 64) hx hb dX12_closes_11 (by decide) (fun c3 => ?_) (fun c3 => ?_)
      · have h := h.2 c3
        exact W.vret hx hb hr (fun t ht hW => ⟨⟨M2, rfl, h, by rw [ht]; exact hP, va_K.moved hW.alike hK, hD⟩, hS.F ht⟩) hS.2.2 dX12_closes_64
      · have h := h.1 c3
        refine lv_aload_n hx hb dX12_closes_14 rfl (lv_at hl 0 rfl) ?_
        have hFc := gs_free hD hS hA
        refine va_calli (va_runV (As := []) (rest := []) ⟨hx, hb, hml, hown, hts⟩ (kX12_isInside l dC dI cB cI cJ cZ h0 ad H.size  M2 _ h) (cwV 0 hts gX12_closes_X12_isInside rfl rfl rfl (by decide +kernel) ⟨Nat.le_of_ble_eq_true rfl, Nat.le_of_ble_eq_true rfl⟩) (mpV hK hP hD) rfl rfl hl.1 rfl (lv_room (Nat.le_of_ble_eq_true rfl)) dX12_closes_15 ⟨Nat.le_of_ble_eq_true rfl, Nat.le_of_ble_eq_true rfl⟩) hS (fun q _ z => hFc q z) hFc (fun r4 M5 t H1 locs ht hvm hw hB hz1 hk1 hS => ?_)
        obtain ⟨hP, hD⟩ := gs_back ht hFc hB
        generalize H1 = H at hP hS ⊢
        obtain ⟨b6, rfl, h⟩ := hw
        try dsimp only at h
        refine lv_if_eq (tgt := 64) hx hb dX12_closes_18 (by decide) (fun c7 => ?_) (fun c7 => ?_)
        · have h := h.1 c7
          exact W.vret hx hb hr (fun t ht hW => ⟨⟨M5, rfl, h, by rw [ht]; exact hP, va_K.moved hW.alike hK, hD⟩, hS.F ht⟩) hS.2.2 dX12_closes_64
        · have h := h.2 c7
          refine lv_aload_n hx hb dX12_closes_21 rfl (lv_at hl 0 rfl) ?_
          refine lv_iconst (v := 1) hx hb dX12_closes_22 (by decide) ?_
          have hFc := gs_free hD hS hA
          refine va_callv (va_runV (As := [.int (1 : Int32)]) (rest := []) ⟨hx, hb, hml, hown, hts⟩ (kX12_settles l dC dI cB cI cJ cZ h0 ad H.size (1 : Int32) M5 _ h) (cwV 1 hts gX12_closes_X12_settles rfl rfl rfl (by decide +kernel) ⟨Nat.le_of_ble_eq_true rfl, Nat.le_of_ble_eq_true rfl⟩) (mpV hK hP hD) rfl rfl hl.1 rfl (lv_room (Nat.le_of_ble_eq_true rfl)) dX12_closes_23 ⟨Nat.le_of_ble_eq_true rfl, Nat.le_of_ble_eq_true rfl⟩) hS (fun q _ z => hFc q z) hFc (fun M9 t H1 locs ht hvm hw hB hz1 hk1 hS => ?_)
          obtain ⟨hP, hD⟩ := gs_back ht hFc hB
          generalize H1 = H at hP hS ⊢
          have h := hw
          try dsimp only at h
          refine lv_aload_n hx hb dX12_closes_26 rfl (lv_at hl 0 rfl) ?_
          refine lv_dup hx hb dX12_closes_27 rfl ?_
          refine va_get (D := (dC, dI)) (ci := 12) (v := .int (mg M9 21)) (C := RX12) (T := TX12) (N := 37) hx hb hts hin hown hK hP 0 rfl rfl 21 (by decide) f1 (fun _ h9 => h9) rfl dX12_closes_28 ?_
          refine lv_iconst (v := 1) hx hb dX12_closes_31 (by decide) ?_
          refine lv_isub hx hb dX12_closes_32 ?_
          refine lv_topi (fun x10 ex10 => ?_)
          have h := h x10 ex10
          refine va_put (D := (dC, dI)) (ci := 12) (v := .int x10) (ty := .int) (C := RX12) (T := TX12) (N := 37) hx hb hts hin tyX12 tyX12_ok nmX12 hown hK hP hD hS 0 rfl rfl 21 (by decide) f1 (fun _ h9 => h9) rfl (by decide +kernel) rfl rfl (Nat.le_of_ble_eq_true rfl) dX12_closes_33 (fun H locs hP hD hS => ?_)
          have hP := mP_f21 hP
          have hD := mD_f21 hD
          have h := h _ rfl
          generalize sg M9 21 x10 = M11 at hP hD h
          refine lv_aload_n hx hb dX12_closes_36 rfl (lv_at hl 0 rfl) ?_
          refine lv_dup hx hb dX12_closes_37 rfl ?_
          refine va_get (D := (dC, dI)) (ci := 12) (v := .int (mg M11 18)) (C := RX12) (T := TX12) (N := 37) hx hb hts hin hown hK hP 0 rfl rfl 18 (by decide) f2 (fun _ h9 => h9) rfl dX12_closes_38 ?_
          refine lv_iconst (v := 1) hx hb dX12_closes_41 (by decide) ?_
          refine lv_isub hx hb dX12_closes_42 ?_
          refine lv_topi (fun x12 ex12 => ?_)
          have h := h x12 ex12
          refine va_put (D := (dC, dI)) (ci := 12) (v := .int x12) (ty := .int) (C := RX12) (T := TX12) (N := 37) hx hb hts hin tyX12 tyX12_ok nmX12 hown hK hP hD hS 0 rfl rfl 18 (by decide) f2 (fun _ h9 => h9) rfl (by decide +kernel) rfl rfl (Nat.le_of_ble_eq_true rfl) dX12_closes_43 (fun H locs hP hD hS => ?_)
          have hP := mP_f18 hP
          have hD := mD_f18 hD
          have h := h _ rfl
          generalize sg M11 18 x12 = M13 at hP hD h
          refine lv_aload_n hx hb dX12_closes_46 rfl (lv_at hl 0 rfl) ?_
          refine lv_dup hx hb dX12_closes_47 rfl ?_
          refine va_get (D := (dC, dI)) (ci := 12) (v := .int (mg M13 13)) (C := RX12) (T := TX12) (N := 37) hx hb hts hin hown hK hP 0 rfl rfl 13 (by decide) f3 (fun _ h9 => h9) rfl dX12_closes_48 ?_
          refine lv_iconst (v := 1) hx hb dX12_closes_51 (by decide) ?_
          refine lv_iadd hx hb dX12_closes_52 ?_
          refine lv_topi (fun x14 ex14 => ?_)
          have h := h x14 ex14
          refine va_put (D := (dC, dI)) (ci := 12) (v := .int x14) (ty := .int) (C := RX12) (T := TX12) (N := 37) hx hb hts hin tyX12 tyX12_ok nmX12 hown hK hP hD hS 0 rfl rfl 13 (by decide) f3 (fun _ h9 => h9) rfl (by decide +kernel) rfl rfl (Nat.le_of_ble_eq_true rfl) dX12_closes_53 (fun H locs hP hD hS => ?_)
          have hP := mP_f13 hP
          have hD := mD_f13 hD
          have h := h _ rfl
          generalize sg M13 13 x14 = M15 at hP hD h
          refine lv_aload_n hx hb dX12_closes_56 rfl (lv_at hl 0 rfl) ?_
          refine lv_iconst (v := 3) hx hb dX12_closes_57 (by decide) ?_
          have hFc := gs_free hD hS hA
          refine va_callv (va_runV (As := [.int (3 : Int32)]) (rest := []) ⟨hx, hb, hml, hown, hts⟩ (kX12_settles l dC dI cB cI cJ cZ h0 ad H.size (3 : Int32) M15 _ h) (cwV 1 hts gX12_closes_X12_settles rfl rfl rfl (by decide +kernel) ⟨Nat.le_of_ble_eq_true rfl, Nat.le_of_ble_eq_true rfl⟩) (mpV hK hP hD) rfl rfl hl.1 rfl (lv_room (Nat.le_of_ble_eq_true rfl)) dX12_closes_58 ⟨Nat.le_of_ble_eq_true rfl, Nat.le_of_ble_eq_true rfl⟩) hS (fun q _ z => hFc q z) hFc (fun M17 t H1 locs ht hvm hw hB hz1 hk1 hS => ?_)
          obtain ⟨hP, hD⟩ := gs_back ht hFc hB
          generalize H1 = H at hP hS ⊢
          have h := hw
          try dsimp only at h
          refine lv_goto (tgt := 5) hx hb dX12_closes_61 (by decide) ?_
          exact hB5 M17 H locs ls hP hD hS (lv_sub hl [0] rfl) h
  have bE : ∀ (M : gS) (H : Heap) (locs : List Loc) (ls : Array Slot), va_P (dC, dI) vwCl (mW cB cI cJ cZ h0 ad M) H → va_D A (mW cB cI cJ cZ h0 ad M) → va_S A s.heap H locs → lv_has ls 1 [(0, .ref h0)] → wX12_closes  M Q → W p l e (headSpec wsX12_closes rmX12_closes).room s m ([.ref h0] : List Value).toArray below meth c H locs 0 0 (MQ below (va_Qv (fun (u : gS) => Q u) (mB dC dI cB cI cJ cZ h0 ad A) A) ([.ref h0] : List Value).toArray s 0 0 A) (F0 m 0 ls []) := by
    intro M H locs ls hP hD hS hl h
    unfold wX12_closes at h
    refine lv_aload_n hx hb dX12_closes_0 rfl (lv_at hl 0 rfl) ?_
    refine lv_iconst (v := 3) hx hb dX12_closes_1 (by decide) ?_
    have hFc := gs_free hD hS hA
    refine va_callv (va_runV (As := [.int (3 : Int32)]) (rest := []) ⟨hx, hb, hml, hown, hts⟩ (kX12_settles l dC dI cB cI cJ cZ h0 ad H.size (3 : Int32) M _ h) (cwV 1 hts gX12_closes_X12_settles rfl rfl rfl (by decide +kernel) ⟨Nat.le_of_ble_eq_true rfl, Nat.le_of_ble_eq_true rfl⟩) (mpV hK hP hD) rfl rfl hl.1 rfl (lv_room (Nat.le_of_ble_eq_true rfl)) dX12_closes_2 ⟨Nat.le_of_ble_eq_true rfl, Nat.le_of_ble_eq_true rfl⟩) hS (fun q _ z => hFc q z) hFc (fun M2 t H1 locs ht hvm hw hB hz1 hk1 hS => ?_)
    obtain ⟨hP, hD⟩ := gs_back ht hFc hB
    generalize H1 = H at hP hS ⊢
    have h := hw
    try dsimp only at h
    obtain ⟨n9, h⟩ := h
    exact b5  n9 M2 H locs ls hP hD hS (lv_sub hl [0] rfl) h
  have hl := lv_entry ([.ref h0]) (n := 1) (Nat.le_of_ble_eq_true rfl)
  rw [lg_entry_eq]
  generalize (lg_sl ([.ref h0]) ++ List.replicate (1 - (lg_sl ([.ref h0])).length) Slot.unset).toArray = ls at hl ⊢
  have hl : lv_has ls 1 [(0, .ref h0)] := hl
  exact bE M s.heap [] ls hP hD hS hl h
def wX12_tested_76 (B12 : Int32 → gS → Prop) (Q : Bool → gS → Prop) (y1 : Int32) (z0 : Int32) (M : gS) : Prop :=
 (wX12_passWord  M (fun (M2 : gS) => (wX12_strength z0 M2 (fun (r3 : Int32) (M4 : gS) => (wX12_settles r3 M4 (fun (M6 : gS) => (vp_in (mg M6 21) 400 ∧ (∀ M7 : gS, M7 = sa M6 20 (Int32.toNatClampNeg (mg M6 21)) z0 → (∀ x8 : Int32, x8 = ((mg M7 21) + (1 : Int32)) → (∀ M9 : gS, M9 = sg M7 21 x8 → (B12 y1 M9)))))))))))
def wX12_tested_54 (B12 : Int32 → gS → Prop) (Q : Bool → gS → Prop) (z0 : Int32) (M : gS) : Prop :=
 ((z0 = 0 → (B12 z0 M))
 ∧ (¬ z0 = 0 → (wX12_isWord (6385252 : Int64) M (fun (b4 : Bool) (M3 : gS) => (((bI b4) = 0 → (wX12_tested_76 B12 Q z0 (13 : Int32) M3))
 ∧ (¬ (bI b4) = 0 → (wX12_tested_76 B12 Q z0 (12 : Int32) M3)))))))
def wX12_tested_49 (B12 : Int32 → gS → Prop) (Q : Bool → gS → Prop)  (M : gS) : Prop :=
 (wX12_tested_54 B12 Q (1 : Int32) M)
def wX12_tested_12  (Q : Bool → gS → Prop) : Nat → Int32 → gS → Prop
 | 0, _, _ => False
 | n + 1, y1, M => ((y1 = 0 → (wX12_isInside  M (fun (b4 : Bool) (M3 : gS) => (((bI b4) = 0 → (wX12_settles (1 : Int32) M3 (fun (M7 : gS) => (Q true M7))))
 ∧ (¬ (bI b4) = 0 → (wX12_see  M3 (fun (r8 : Int32) (M9 : gS) => (wX12_fails (0 : Int32) (mg M9 13) M9 (fun (b12 : Bool) (M11 : gS) => (Q b12 M11))))))))))
 ∧ (¬ y1 = 0 → (wX12_fact  M (fun (b15 : Bool) (M14 : gS) => (((bI b15) = 0 → (Q false M14))
 ∧ (¬ (bI b15) = 0 → (wX12_closes  M14 (fun (M18 : gS) => (wX12_isWord (6385252 : Int64) M18 (fun (b21 : Bool) (M20 : gS) => (((bI b21) = 0 → (wX12_isWord (28530 : Int64) M20 (fun (b25 : Bool) (M24 : gS) => (((bI b25) = 0 → (wX12_tested_54 (fun (y1 : Int32) (M : gS) => wX12_tested_12  Q n y1 M) Q (0 : Int32) M24))
 ∧ (¬ (bI b25) = 0 → (wX12_tested_49 (fun (y1 : Int32) (M : gS) => wX12_tested_12  Q n y1 M) Q M24))))))
 ∧ (¬ (bI b21) = 0 → (wX12_tested_49 (fun (y1 : Int32) (M : gS) => wX12_tested_12  Q n y1 M) Q M20)))))))))))))
def wX12_tested  (M : gS) (Q : Bool → gS → Prop) : Prop :=
 (∀ M1 : gS, M1 = sg M 21 (0 : Int32) → (∀ M2 : gS, M2 = sg M1 18 (0 : Int32) → (∃ k12 : Nat, wX12_tested_12  Q k12 (1 : Int32) M2)))
def rmX12_tested : Room := { frames := 8, cells := 0, slots := 0, locals := 176 }
set_option maxHeartbeats 4000000 in
set_option maxRecDepth 100000 in
theorem kX12_tested (l : Launch) (dC : Nat → ClassId) (dI : Nat → Nat → Nat) (cB cI cJ cZ : ClassId) (h0 : Nat) (ad : Nat → Nat) (sz : Nat)  (M : gS) (Q : Bool → gS → Prop) (h : wX12_tested  M Q) : Met l yX12_tested wsX12_tested rmX12_tested (va_Pc [.ref h0] (mI dC dI cB cI cJ cZ h0 ad M sz)) (va_Qi (fun (r : Int32) (u : gS) => ∃ b : Bool, r = bI b ∧ Q b u) (mB dC dI cB cI cJ cZ h0 ad (va_A (mW cB cI cJ cZ h0 ad M) sz)) (va_A (mW cB cI cJ cZ h0 ad M) sz)) 0 0 (va_A (mW cB cI cJ cZ h0 ad M) sz) := by
  refine Met.ofW (cc := cX12_tested) (maxL := 3) (ret := (some .boolean)) (by decide) rfl ?_
  intro p e s m args below meth c s₁ B hml hv
  obtain ⟨rfl, hsz, hP, hK, hD0⟩ := hv
  have hx := B.exec
  have hb := B.bytes
  have hr := B.returns
  have hts := atoms_spec (ws := wsX12_tested) B.pre
  have hown : s.vm.findClass RX12 = some m.cls := findClass_of_methodNamed B.named
  have hlocks := B.notSynchronized
  subst hsz
  have hD := hD0.self (sz := s.heap.size)
  generalize hAe : va_A (mW cB cI cJ cZ h0 ad M) s.heap.size = A at hD ⊢
  have hA : ∀ q : Nat, s.heap.size ≤ q → A q := fun q h => by rw [← hAe]; exact Or.inr h
  have hS : va_S A s.heap s.heap [] := va_S.rf
  have hin : ∀ w ∈ wsX120, w ∈ wsX12_tested := fun w h => List.mem_cons_of_mem _ (List.mem_append_right _ h)
  have f1 := hts (.fieldLink RX12 35 "LastWordsModel" "open" "[I") (by decide +kernel)
  have f2 := hts (.fieldLink RX12 146 "LastWordsModel" "opened" "I") (by decide +kernel)
  have f3 := hts (.constantLong RX12 197 (6385252)) (by decide +kernel)
  have f4 := hts (.fieldLink RX12 87 "LastWordsModel" "next" "I") (by decide +kernel)
  have f5 := hts (.constantLong RX12 199 (28530)) (by decide +kernel)
  have f6 := hts (.fieldLink RX12 143 "LastWordsModel" "deep" "I") (by decide +kernel)
  have b76 : ∀ (B12 : Int32 → gS → Prop) (hB12 : ∀ (y1 : Int32) (M : gS) (H : Heap) (locs : List Loc) (ls : Array Slot), va_P (dC, dI) vwCl (mW cB cI cJ cZ h0 ad M) H → va_D A (mW cB cI cJ cZ h0 ad M) → va_S A s.heap H locs → lv_has ls 3 [(0, .ref h0), (1, .int y1)] → B12 y1 M → W p l e (headSpec wsX12_tested rmX12_tested).room s m ([.ref h0] : List Value).toArray below meth c H locs 0 0 (MQ below (va_Qi (fun (r : Int32) (u : gS) => ∃ b : Bool, r = bI b ∧ Q b u) (mB dC dI cB cI cJ cZ h0 ad A) A) ([.ref h0] : List Value).toArray s 0 0 A) (F0 m 12 ls [])) (y1 : Int32) (z0 : Int32) (M : gS) (H : Heap) (locs : List Loc) (ls : Array Slot), va_P (dC, dI) vwCl (mW cB cI cJ cZ h0 ad M) H → va_D A (mW cB cI cJ cZ h0 ad M) → va_S A s.heap H locs → lv_has ls 3 [(0, .ref h0), (1, .int y1)] → wX12_tested_76 B12 Q y1 z0 M → W p l e (headSpec wsX12_tested rmX12_tested).room s m ([.ref h0] : List Value).toArray below meth c H locs 0 0 (MQ below (va_Qi (fun (r : Int32) (u : gS) => ∃ b : Bool, r = bI b ∧ Q b u) (mB dC dI cB cI cJ cZ h0 ad A) A) ([.ref h0] : List Value).toArray s 0 0 A) (F0 m 76 ls [.int z0]) := by
    intro B12 hB12 y1 z0 M H locs ls hP hD hS hl h
    unfold wX12_tested_76 at h
    refine lv_istore_n (lv' := [(2, .int z0), (0, .ref h0), (1, .int y1)]) hx hb dX12_tested_76 rfl hl (by decide) rfl (fun ls hl => ?_)
    refine lv_aload_n hx hb dX12_tested_77 rfl (lv_at hl 1 rfl) ?_
    have hFc := gs_free hD hS hA
    refine va_callv (va_runV (As := []) (rest := []) ⟨hx, hb, hml, hown, hts⟩ (kX12_passWord l dC dI cB cI cJ cZ h0 ad H.size  M _ h) (cwV 0 hts gX12_tested_X12_passWord rfl rfl rfl (by decide +kernel) ⟨Nat.le_of_ble_eq_true rfl, Nat.le_of_ble_eq_true rfl⟩) (mpV hK hP hD) rfl rfl hl.1 rfl (lv_room (Nat.le_of_ble_eq_true rfl)) dX12_tested_78 ⟨Nat.le_of_ble_eq_true rfl, Nat.le_of_ble_eq_true rfl⟩) hS (fun q _ z => hFc q z) hFc (fun M2 t H1 locs ht hvm hw hB hz1 hk1 hS => ?_)
    obtain ⟨hP, hD⟩ := gs_back ht hFc hB
    generalize H1 = H at hP hS ⊢
    have h := hw
    try dsimp only at h
    refine lv_aload_n hx hb dX12_tested_81 rfl (lv_at hl 1 rfl) ?_
    refine lv_iload_n hx hb dX12_tested_82 rfl (lv_at hl 0 rfl) ?_
    have hFc := gs_free hD hS hA
    refine va_calli (va_runS (As := [.int z0]) (rest := [.ref h0]) ⟨hx, hb, hml, hown, hts⟩ (kX12_strength l dC dI cB cI cJ cZ h0 ad H.size z0 M2 _ h) (cwS 1 hts gX12_tested_X12_strength rfl rfl rfl (by decide +kernel) ⟨Nat.le_of_ble_eq_true rfl, Nat.le_of_ble_eq_true rfl⟩) (mpS hK hP hD) rfl rfl hl.1 rfl (lv_room (Nat.le_of_ble_eq_true rfl)) dX12_tested_83 ⟨Nat.le_of_ble_eq_true rfl, Nat.le_of_ble_eq_true rfl⟩) hS (fun q _ z => hFc q z) hFc (fun r3 M4 t H1 locs ht hvm hw hB hz1 hk1 hS => ?_)
    obtain ⟨hP, hD⟩ := gs_back ht hFc hB
    generalize H1 = H at hP hS ⊢
    have h := hw
    try dsimp only at h
    have hFc := gs_free hD hS hA
    refine va_callv (va_runV (As := [.int r3]) (rest := []) ⟨hx, hb, hml, hown, hts⟩ (kX12_settles l dC dI cB cI cJ cZ h0 ad H.size r3 M4 _ h) (cwV 1 hts gX12_tested_X12_settles rfl rfl rfl (by decide +kernel) ⟨Nat.le_of_ble_eq_true rfl, Nat.le_of_ble_eq_true rfl⟩) (mpV hK hP hD) rfl rfl hl.1 rfl (lv_room (Nat.le_of_ble_eq_true rfl)) dX12_tested_86 ⟨Nat.le_of_ble_eq_true rfl, Nat.le_of_ble_eq_true rfl⟩) hS (fun q _ z => hFc q z) hFc (fun M6 t H1 locs ht hvm hw hB hz1 hk1 hS => ?_)
    obtain ⟨hP, hD⟩ := gs_back ht hFc hB
    generalize H1 = H at hP hS ⊢
    have h := hw
    try dsimp only at h
    refine lv_aload_n hx hb dX12_tested_89 rfl (lv_at hl 1 rfl) ?_
    refine va_get (D := (dC, dI)) (ci := 12) (v := .ref (ad 20)) (C := RX12) (T := TX12) (N := 37) hx hb hts hin hown hK hP 0 rfl rfl 20 (by decide) f1 (fun _ h9 => h9) rfl dX12_tested_90 ?_
    refine lv_aload_n hx hb dX12_tested_93 rfl (lv_at hl 1 rfl) ?_
    refine va_get (D := (dC, dI)) (ci := 12) (v := .int (mg M6 21)) (C := RX12) (T := TX12) (N := 37) hx hb hts hin hown hK hP 0 rfl rfl 21 (by decide) f2 (fun _ h9 => h9) rfl dX12_tested_94 ?_
    refine lv_iload_n hx hb dX12_tested_97 rfl (lv_at hl 0 rfl) ?_
    refine va_iast hx hb hK hP hD hS 9 1 (f := ma M6 20) rfl rfl h.1 dX12_tested_98 (fun H locs hP hD hS => ?_)
    have h := h.2
    have hP := mP_a20 hP
    have hD := mD_a20 hD
    have h := h _ rfl
    generalize sa M6 20 (Int32.toNatClampNeg (mg M6 21)) z0 = M7 at hP hD h
    refine lv_aload_n hx hb dX12_tested_99 rfl (lv_at hl 1 rfl) ?_
    refine lv_dup hx hb dX12_tested_100 rfl ?_
    refine va_get (D := (dC, dI)) (ci := 12) (v := .int (mg M7 21)) (C := RX12) (T := TX12) (N := 37) hx hb hts hin hown hK hP 0 rfl rfl 21 (by decide) f2 (fun _ h9 => h9) rfl dX12_tested_101 ?_
    refine lv_iconst (v := 1) hx hb dX12_tested_104 (by decide) ?_
    refine lv_iadd hx hb dX12_tested_105 ?_
    refine lv_topi (fun x8 ex8 => ?_)
    have h := h x8 ex8
    refine va_put (D := (dC, dI)) (ci := 12) (v := .int x8) (ty := .int) (C := RX12) (T := TX12) (N := 37) hx hb hts hin tyX12 tyX12_ok nmX12 hown hK hP hD hS 0 rfl rfl 21 (by decide) f2 (fun _ h9 => h9) rfl (by decide +kernel) rfl rfl (Nat.le_of_ble_eq_true rfl) dX12_tested_106 (fun H locs hP hD hS => ?_)
    have hP := mP_f21 hP
    have hD := mD_f21 hD
    have h := h _ rfl
    generalize sg M7 21 x8 = M9 at hP hD h
    refine lv_goto (tgt := 12) hx hb dX12_tested_109 (by decide) ?_
    exact hB12 y1 M9 H locs ls hP hD hS (lv_sub hl [1, 2] rfl) h
  have b54 : ∀ (B12 : Int32 → gS → Prop) (hB12 : ∀ (y1 : Int32) (M : gS) (H : Heap) (locs : List Loc) (ls : Array Slot), va_P (dC, dI) vwCl (mW cB cI cJ cZ h0 ad M) H → va_D A (mW cB cI cJ cZ h0 ad M) → va_S A s.heap H locs → lv_has ls 3 [(0, .ref h0), (1, .int y1)] → B12 y1 M → W p l e (headSpec wsX12_tested rmX12_tested).room s m ([.ref h0] : List Value).toArray below meth c H locs 0 0 (MQ below (va_Qi (fun (r : Int32) (u : gS) => ∃ b : Bool, r = bI b ∧ Q b u) (mB dC dI cB cI cJ cZ h0 ad A) A) ([.ref h0] : List Value).toArray s 0 0 A) (F0 m 12 ls [])) (z0 : Int32) (M : gS) (H : Heap) (locs : List Loc) (ls : Array Slot), va_P (dC, dI) vwCl (mW cB cI cJ cZ h0 ad M) H → va_D A (mW cB cI cJ cZ h0 ad M) → va_S A s.heap H locs → lv_has ls 3 [(0, .ref h0)] → wX12_tested_54 B12 Q z0 M → W p l e (headSpec wsX12_tested rmX12_tested).room s m ([.ref h0] : List Value).toArray below meth c H locs 0 0 (MQ below (va_Qi (fun (r : Int32) (u : gS) => ∃ b : Bool, r = bI b ∧ Q b u) (mB dC dI cB cI cJ cZ h0 ad A) A) ([.ref h0] : List Value).toArray s 0 0 A) (F0 m 54 ls [.int z0]) := by
    intro B12 hB12 z0 M H locs ls hP hD hS hl h
    unfold wX12_tested_54 at h
    refine lv_istore_n (lv' := [(1, .int z0), (0, .ref h0)]) hx hb dX12_tested_54 rfl hl (by decide) rfl (fun ls hl => ?_)
    refine lv_iload_n hx hb dX12_tested_55 rfl (lv_at hl 0 rfl) ?_
    refine lv_if_eq (tgt := 12) hx hb dX12_tested_56 (by decide) (fun c1 => ?_) (fun c1 => ?_)
    · have h := h.1 c1
      exact hB12 z0 M H locs ls hP hD hS (lv_sub hl [1, 0] rfl) h
    · have h := h.2 c1
      refine lv_aload_n hx hb dX12_tested_59 rfl (lv_at hl 1 rfl) ?_
      refine lv_ldc2 (v := (6385252)) hx hb hown f3 dX12_tested_60 ?_
      have hFc := gs_free hD hS hA
      refine va_calli (va_runV (As := [.long (6385252 : Int64)]) (rest := []) ⟨hx, hb, hml, hown, hts⟩ (kX12_isWord l dC dI cB cI cJ cZ h0 ad H.size (6385252 : Int64) M _ h) (cwV 1 hts gX12_tested_X12_isWord rfl rfl rfl (by decide +kernel) ⟨Nat.le_of_ble_eq_true rfl, Nat.le_of_ble_eq_true rfl⟩) (mpV hK hP hD) rfl rfl hl.1 rfl (lv_room (Nat.le_of_ble_eq_true rfl)) dX12_tested_63 ⟨Nat.le_of_ble_eq_true rfl, Nat.le_of_ble_eq_true rfl⟩) hS (fun q _ z => hFc q z) hFc (fun r2 M3 t H1 locs ht hvm hw hB hz1 hk1 hS => ?_)
      obtain ⟨hP, hD⟩ := gs_back ht hFc hB
      generalize H1 = H at hP hS ⊢
      obtain ⟨b4, rfl, h⟩ := hw
      try dsimp only at h
      refine lv_if_eq (tgt := 74) hx hb dX12_tested_66 (by decide) (fun c5 => ?_) (fun c5 => ?_)
      · have h := h.1 c5
        refine lv_bipush (v := (13)) hx hb dX12_tested_74 (by decide) ?_
        exact b76 _ hB12 z0 (13 : Int32) M3 H locs ls hP hD hS (lv_sub hl [1, 0] rfl) h
      · have h := h.2 c5
        refine lv_bipush (v := (12)) hx hb dX12_tested_69 (by decide) ?_
        refine lv_goto (tgt := 76) hx hb dX12_tested_71 (by decide) ?_
        exact b76 _ hB12 z0 (12 : Int32) M3 H locs ls hP hD hS (lv_sub hl [1, 0] rfl) h
  have b49 : ∀ (B12 : Int32 → gS → Prop) (hB12 : ∀ (y1 : Int32) (M : gS) (H : Heap) (locs : List Loc) (ls : Array Slot), va_P (dC, dI) vwCl (mW cB cI cJ cZ h0 ad M) H → va_D A (mW cB cI cJ cZ h0 ad M) → va_S A s.heap H locs → lv_has ls 3 [(0, .ref h0), (1, .int y1)] → B12 y1 M → W p l e (headSpec wsX12_tested rmX12_tested).room s m ([.ref h0] : List Value).toArray below meth c H locs 0 0 (MQ below (va_Qi (fun (r : Int32) (u : gS) => ∃ b : Bool, r = bI b ∧ Q b u) (mB dC dI cB cI cJ cZ h0 ad A) A) ([.ref h0] : List Value).toArray s 0 0 A) (F0 m 12 ls []))  (M : gS) (H : Heap) (locs : List Loc) (ls : Array Slot), va_P (dC, dI) vwCl (mW cB cI cJ cZ h0 ad M) H → va_D A (mW cB cI cJ cZ h0 ad M) → va_S A s.heap H locs → lv_has ls 3 [(0, .ref h0)] → wX12_tested_49 B12 Q  M → W p l e (headSpec wsX12_tested rmX12_tested).room s m ([.ref h0] : List Value).toArray below meth c H locs 0 0 (MQ below (va_Qi (fun (r : Int32) (u : gS) => ∃ b : Bool, r = bI b ∧ Q b u) (mB dC dI cB cI cJ cZ h0 ad A) A) ([.ref h0] : List Value).toArray s 0 0 A) (F0 m 49 ls []) := by
    intro B12 hB12  M H locs ls hP hD hS hl h
    unfold wX12_tested_49 at h
    refine lv_iconst (v := 1) hx hb dX12_tested_49 (by decide) ?_
    refine lv_goto (tgt := 54) hx hb dX12_tested_50 (by decide) ?_
    exact b54 _ hB12 (1 : Int32) M H locs ls hP hD hS (lv_sub hl [0] rfl) h
  have b12 : ∀ (n : Nat) (y1 : Int32) (M : gS) (H : Heap) (locs : List Loc) (ls : Array Slot), va_P (dC, dI) vwCl (mW cB cI cJ cZ h0 ad M) H → va_D A (mW cB cI cJ cZ h0 ad M) → va_S A s.heap H locs → lv_has ls 3 [(0, .ref h0), (1, .int y1)] → wX12_tested_12  Q n y1 M → W p l e (headSpec wsX12_tested rmX12_tested).room s m ([.ref h0] : List Value).toArray below meth c H locs 0 0 (MQ below (va_Qi (fun (r : Int32) (u : gS) => ∃ b : Bool, r = bI b ∧ Q b u) (mB dC dI cB cI cJ cZ h0 ad A) A) ([.ref h0] : List Value).toArray s 0 0 A) (F0 m 12 ls []) := by
    intro  n
    induction n with
    | zero => intro y1 M H locs ls hP hD hS hl h; exact absurd h (by simp [wX12_tested_12])
    | succ n hB120 =>
      intro y1 M H locs ls hP hD hS hl h
      have hB12 := hB120
      rw [wX12_tested_12] at h
      refine lv_iload_n hx hb dX12_tested_12 rfl (lv_at hl 1 rfl) ?_
      refine lv_if_eq (tgt := 112) hx hb dX12_tested_13 (by decide) (fun c1 => ?_) (fun c1 => ?_)
      · have h := h.1 c1
        refine lv_aload_n hx hb dX12_tested_112 rfl (lv_at hl 0 rfl) ?_
        have hFc := gs_free hD hS hA
        refine va_calli (va_runV (As := []) (rest := []) ⟨hx, hb, hml, hown, hts⟩ (kX12_isInside l dC dI cB cI cJ cZ h0 ad H.size  M _ h) (cwV 0 hts gX12_tested_X12_isInside rfl rfl rfl (by decide +kernel) ⟨Nat.le_of_ble_eq_true rfl, Nat.le_of_ble_eq_true rfl⟩) (mpV hK hP hD) rfl rfl hl.1 rfl (lv_room (Nat.le_of_ble_eq_true rfl)) dX12_tested_113 ⟨Nat.le_of_ble_eq_true rfl, Nat.le_of_ble_eq_true rfl⟩) hS (fun q _ z => hFc q z) hFc (fun r2 M3 t H1 locs ht hvm hw hB hz1 hk1 hS => ?_)
        obtain ⟨hP, hD⟩ := gs_back ht hFc hB
        generalize H1 = H at hP hS ⊢
        obtain ⟨b4, rfl, h⟩ := hw
        try dsimp only at h
        refine lv_if_eq (tgt := 134) hx hb dX12_tested_116 (by decide) (fun c5 => ?_) (fun c5 => ?_)
        · have h := h.1 c5
          refine lv_aload_n hx hb dX12_tested_134 rfl (lv_at hl 0 rfl) ?_
          refine lv_iconst (v := 1) hx hb dX12_tested_135 (by decide) ?_
          have hFc := gs_free hD hS hA
          refine va_callv (va_runV (As := [.int (1 : Int32)]) (rest := []) ⟨hx, hb, hml, hown, hts⟩ (kX12_settles l dC dI cB cI cJ cZ h0 ad H.size (1 : Int32) M3 _ h) (cwV 1 hts gX12_tested_X12_settles rfl rfl rfl (by decide +kernel) ⟨Nat.le_of_ble_eq_true rfl, Nat.le_of_ble_eq_true rfl⟩) (mpV hK hP hD) rfl rfl hl.1 rfl (lv_room (Nat.le_of_ble_eq_true rfl)) dX12_tested_136 ⟨Nat.le_of_ble_eq_true rfl, Nat.le_of_ble_eq_true rfl⟩) hS (fun q _ z => hFc q z) hFc (fun M7 t H1 locs ht hvm hw hB hz1 hk1 hS => ?_)
          obtain ⟨hP, hD⟩ := gs_back ht hFc hB
          generalize H1 = H at hP hS ⊢
          have h := hw
          try dsimp only at h
          refine lv_iconst (v := 1) hx hb dX12_tested_139 (by decide) ?_
          exact W.zret (v := (bI true)) hx hb hr (nar_bI true) (fun t ht hW => ⟨⟨_, M7, rfl, ⟨true, rfl, h⟩, by rw [ht]; exact hP, va_K.moved hW.alike hK, hD⟩, hS.F ht⟩) hS.2.2 dX12_tested_140
        · have h := h.2 c5
          refine lv_aload_n hx hb dX12_tested_119 rfl (lv_at hl 0 rfl) ?_
          have hFc := gs_free hD hS hA
          refine va_calli (va_runV (As := []) (rest := []) ⟨hx, hb, hml, hown, hts⟩ (kX12_see l dC dI cB cI cJ cZ h0 ad H.size  M3 _ h) (cwV 0 hts gX12_tested_X12_see rfl rfl rfl (by decide +kernel) ⟨Nat.le_of_ble_eq_true rfl, Nat.le_of_ble_eq_true rfl⟩) (mpV hK hP hD) rfl rfl hl.1 rfl (lv_room (Nat.le_of_ble_eq_true rfl)) dX12_tested_120 ⟨Nat.le_of_ble_eq_true rfl, Nat.le_of_ble_eq_true rfl⟩) hS (fun q _ z => hFc q z) hFc (fun r8 M9 t H1 locs ht hvm hw hB hz1 hk1 hS => ?_)
          obtain ⟨hP, hD⟩ := gs_back ht hFc hB
          generalize H1 = H at hP hS ⊢
          have h := hw
          try dsimp only at h
          refine lv_pop hx hb dX12_tested_123 rfl ?_
          refine lv_aload_n hx hb dX12_tested_124 rfl (lv_at hl 0 rfl) ?_
          refine lv_iconst (v := 0) hx hb dX12_tested_125 (by decide) ?_
          refine lv_aload_n hx hb dX12_tested_126 rfl (lv_at hl 0 rfl) ?_
          refine va_get (D := (dC, dI)) (ci := 12) (v := .int (mg M9 13)) (C := RX12) (T := TX12) (N := 37) hx hb hts hin hown hK hP 0 rfl rfl 13 (by decide) f4 (fun _ h9 => h9) rfl dX12_tested_127 ?_
          have hFc := gs_free hD hS hA
          refine va_calli (va_runV (As := [.int (0 : Int32), .int (mg M9 13)]) (rest := []) ⟨hx, hb, hml, hown, hts⟩ (kX12_fails l dC dI cB cI cJ cZ h0 ad H.size (0 : Int32) (mg M9 13) M9 _ h) (cwV 2 hts gX12_tested_X12_fails rfl rfl rfl (by decide +kernel) ⟨Nat.le_of_ble_eq_true rfl, Nat.le_of_ble_eq_true rfl⟩) (mpV hK hP hD) rfl rfl hl.1 rfl (lv_room (Nat.le_of_ble_eq_true rfl)) dX12_tested_130 ⟨Nat.le_of_ble_eq_true rfl, Nat.le_of_ble_eq_true rfl⟩) hS (fun q _ z => hFc q z) hFc (fun r10 M11 t H1 locs ht hvm hw hB hz1 hk1 hS => ?_)
          obtain ⟨hP, hD⟩ := gs_back ht hFc hB
          generalize H1 = H at hP hS ⊢
          obtain ⟨b12, rfl, h⟩ := hw
          try dsimp only at h
          exact W.zret (v := (bI b12)) hx hb hr (nar_bI b12) (fun t ht hW => ⟨⟨_, M11, rfl, ⟨b12, rfl, h⟩, by rw [ht]; exact hP, va_K.moved hW.alike hK, hD⟩, hS.F ht⟩) hS.2.2 dX12_tested_133
      · have h := h.2 c1
        refine lv_aload_n hx hb dX12_tested_16 rfl (lv_at hl 0 rfl) ?_
        have hFc := gs_free hD hS hA
        refine va_calli (va_runV (As := []) (rest := []) ⟨hx, hb, hml, hown, hts⟩ (kX12_fact l dC dI cB cI cJ cZ h0 ad H.size  M _ h) (cwV 0 hts gX12_tested_X12_fact rfl rfl rfl (by decide +kernel) ⟨Nat.le_of_ble_eq_true rfl, Nat.le_of_ble_eq_true rfl⟩) (mpV hK hP hD) rfl rfl hl.1 rfl (lv_room (Nat.le_of_ble_eq_true rfl)) dX12_tested_17 ⟨Nat.le_of_ble_eq_true rfl, Nat.le_of_ble_eq_true rfl⟩) hS (fun q _ z => hFc q z) hFc (fun r13 M14 t H1 locs ht hvm hw hB hz1 hk1 hS => ?_)
        obtain ⟨hP, hD⟩ := gs_back ht hFc hB
        generalize H1 = H at hP hS ⊢
        obtain ⟨b15, rfl, h⟩ := hw
        try dsimp only at h
        refine lv_if_ne (tgt := 25) hx hb dX12_tested_20 (by decide) (fun c16 => ?_) (fun c16 => ?_)
        · have h := h.2 c16
          refine lv_aload_n hx hb dX12_tested_25 rfl (lv_at hl 0 rfl) ?_
          have hFc := gs_free hD hS hA
          refine va_callv (va_runV (As := []) (rest := []) ⟨hx, hb, hml, hown, hts⟩ (kX12_closes l dC dI cB cI cJ cZ h0 ad H.size  M14 _ h) (cwV 0 hts gX12_tested_X12_closes rfl rfl rfl (by decide +kernel) ⟨Nat.le_of_ble_eq_true rfl, Nat.le_of_ble_eq_true rfl⟩) (mpV hK hP hD) rfl rfl hl.1 rfl (lv_room (Nat.le_of_ble_eq_true rfl)) dX12_tested_26 ⟨Nat.le_of_ble_eq_true rfl, Nat.le_of_ble_eq_true rfl⟩) hS (fun q _ z => hFc q z) hFc (fun M18 t H1 locs ht hvm hw hB hz1 hk1 hS => ?_)
          obtain ⟨hP, hD⟩ := gs_back ht hFc hB
          generalize H1 = H at hP hS ⊢
          have h := hw
          try dsimp only at h
          refine lv_aload_n hx hb dX12_tested_29 rfl (lv_at hl 0 rfl) ?_
          refine lv_ldc2 (v := (6385252)) hx hb hown f3 dX12_tested_30 ?_
          have hFc := gs_free hD hS hA
          refine va_calli (va_runV (As := [.long (6385252 : Int64)]) (rest := []) ⟨hx, hb, hml, hown, hts⟩ (kX12_isWord l dC dI cB cI cJ cZ h0 ad H.size (6385252 : Int64) M18 _ h) (cwV 1 hts gX12_tested_X12_isWord rfl rfl rfl (by decide +kernel) ⟨Nat.le_of_ble_eq_true rfl, Nat.le_of_ble_eq_true rfl⟩) (mpV hK hP hD) rfl rfl hl.1 rfl (lv_room (Nat.le_of_ble_eq_true rfl)) dX12_tested_33 ⟨Nat.le_of_ble_eq_true rfl, Nat.le_of_ble_eq_true rfl⟩) hS (fun q _ z => hFc q z) hFc (fun r19 M20 t H1 locs ht hvm hw hB hz1 hk1 hS => ?_)
          obtain ⟨hP, hD⟩ := gs_back ht hFc hB
          generalize H1 = H at hP hS ⊢
          obtain ⟨b21, rfl, h⟩ := hw
          try dsimp only at h
          refine lv_if_ne (tgt := 49) hx hb dX12_tested_36 (by decide) (fun c22 => ?_) (fun c22 => ?_)
          · have h := h.2 c22
            exact b49 _ hB12 M20 H locs ls hP hD hS (lv_sub hl [0] rfl) h
          · have h := h.1 c22
            refine lv_aload_n hx hb dX12_tested_39 rfl (lv_at hl 0 rfl) ?_
            refine lv_ldc2 (v := (28530)) hx hb hown f5 dX12_tested_40 ?_
            have hFc := gs_free hD hS hA
            refine va_calli (va_runV (As := [.long (28530 : Int64)]) (rest := []) ⟨hx, hb, hml, hown, hts⟩ (kX12_isWord l dC dI cB cI cJ cZ h0 ad H.size (28530 : Int64) M20 _ h) (cwV 1 hts gX12_tested_X12_isWord rfl rfl rfl (by decide +kernel) ⟨Nat.le_of_ble_eq_true rfl, Nat.le_of_ble_eq_true rfl⟩) (mpV hK hP hD) rfl rfl hl.1 rfl (lv_room (Nat.le_of_ble_eq_true rfl)) dX12_tested_43 ⟨Nat.le_of_ble_eq_true rfl, Nat.le_of_ble_eq_true rfl⟩) hS (fun q _ z => hFc q z) hFc (fun r23 M24 t H1 locs ht hvm hw hB hz1 hk1 hS => ?_)
            obtain ⟨hP, hD⟩ := gs_back ht hFc hB
            generalize H1 = H at hP hS ⊢
            obtain ⟨b25, rfl, h⟩ := hw
            try dsimp only at h
            refine lv_if_eq (tgt := 53) hx hb dX12_tested_46 (by decide) (fun c26 => ?_) (fun c26 => ?_)
            · have h := h.1 c26
              refine lv_iconst (v := 0) hx hb dX12_tested_53 (by decide) ?_
              exact b54 _ hB12 (0 : Int32) M24 H locs ls hP hD hS (lv_sub hl [0] rfl) h
            · have h := h.2 c26
              exact b49 _ hB12 M24 H locs ls hP hD hS (lv_sub hl [0] rfl) h
        · have h := h.1 c16
          refine lv_iconst (v := 0) hx hb dX12_tested_23 (by decide) ?_
          exact W.zret (v := (bI false)) hx hb hr (nar_bI false) (fun t ht hW => ⟨⟨_, M14, rfl, ⟨false, rfl, h⟩, by rw [ht]; exact hP, va_K.moved hW.alike hK, hD⟩, hS.F ht⟩) hS.2.2 dX12_tested_24
  have bE : ∀ (M : gS) (H : Heap) (locs : List Loc) (ls : Array Slot), va_P (dC, dI) vwCl (mW cB cI cJ cZ h0 ad M) H → va_D A (mW cB cI cJ cZ h0 ad M) → va_S A s.heap H locs → lv_has ls 3 [(0, .ref h0)] → wX12_tested  M Q → W p l e (headSpec wsX12_tested rmX12_tested).room s m ([.ref h0] : List Value).toArray below meth c H locs 0 0 (MQ below (va_Qi (fun (r : Int32) (u : gS) => ∃ b : Bool, r = bI b ∧ Q b u) (mB dC dI cB cI cJ cZ h0 ad A) A) ([.ref h0] : List Value).toArray s 0 0 A) (F0 m 0 ls []) := by
    intro M H locs ls hP hD hS hl h
    unfold wX12_tested at h
    refine lv_aload_n hx hb dX12_tested_0 rfl (lv_at hl 0 rfl) ?_
    refine lv_iconst (v := 0) hx hb dX12_tested_1 (by decide) ?_
    refine va_put (D := (dC, dI)) (ci := 12) (v := .int (0 : Int32)) (ty := .int) (C := RX12) (T := TX12) (N := 37) hx hb hts hin tyX12 tyX12_ok nmX12 hown hK hP hD hS 0 rfl rfl 21 (by decide) f2 (fun _ h9 => h9) rfl (by decide +kernel) rfl rfl (Nat.le_of_ble_eq_true rfl) dX12_tested_2 (fun H locs hP hD hS => ?_)
    have hP := mP_f21 hP
    have hD := mD_f21 hD
    have h := h _ rfl
    generalize sg M 21 (0 : Int32) = M1 at hP hD h
    refine lv_aload_n hx hb dX12_tested_5 rfl (lv_at hl 0 rfl) ?_
    refine lv_iconst (v := 0) hx hb dX12_tested_6 (by decide) ?_
    refine va_put (D := (dC, dI)) (ci := 12) (v := .int (0 : Int32)) (ty := .int) (C := RX12) (T := TX12) (N := 37) hx hb hts hin tyX12 tyX12_ok nmX12 hown hK hP hD hS 0 rfl rfl 18 (by decide) f6 (fun _ h9 => h9) rfl (by decide +kernel) rfl rfl (Nat.le_of_ble_eq_true rfl) dX12_tested_7 (fun H locs hP hD hS => ?_)
    have hP := mP_f18 hP
    have hD := mD_f18 hD
    have h := h _ rfl
    generalize sg M1 18 (0 : Int32) = M2 at hP hD h
    refine lv_iconst (v := 1) hx hb dX12_tested_10 (by decide) ?_
    refine lv_istore_n (lv' := [(1, .int (1 : Int32)), (0, .ref h0)]) hx hb dX12_tested_11 rfl hl (by decide) rfl (fun ls hl => ?_)
    obtain ⟨n9, h⟩ := h
    exact b12  n9 (1 : Int32) M2 H locs ls hP hD hS (lv_sub hl [1, 0] rfl) h
  have hl := lv_entry ([.ref h0]) (n := 3) (Nat.le_of_ble_eq_true rfl)
  rw [lg_entry_eq]
  generalize (lg_sl ([.ref h0]) ++ List.replicate (3 - (lg_sl ([.ref h0])).length) Slot.unset).toArray = ls at hl ⊢
  have hl : lv_has ls 3 [(0, .ref h0)] := hl
  exact bE M s.heap [] ls hP hD hS hl h
def wX12_isDoingHere_112  (Q : Bool → gS → Prop) (y2 : Int32) (M : gS) : Prop :=
 (vp_in (mg M 16) 7 ∧ (∀ x1 : Int32, x1 = (ma M 4 (Int32.toNatClampNeg (mg M 16))) → (vp_in (y2 + (3 : Int32)) 288 ∧ (∀ M2 : gS, M2 = sa M 5 (Int32.toNatClampNeg (y2 + (3 : Int32))) x1 → (vp_in (mg M2 16) 6 ∧ (∀ x3 : Int32, x3 = ((ma M2 6 (Int32.toNatClampNeg (mg M2 16))) + (1 : Int32)) → (vp_in (mg M2 16) 6 ∧ (∀ M4 : gS, M4 = sa M2 6 (Int32.toNatClampNeg (mg M2 16)) x3 → (Q true M4)))))))))
def wX12_isDoingHere_67  (Q : Bool → gS → Prop) (y2 : Int32) (M : gS) : Prop :=
 (vp_in (y2 + (2 : Int32)) 288 ∧ (∀ M1 : gS, M1 = sa M 5 (Int32.toNatClampNeg (y2 + (2 : Int32))) (-1 : Int32) → (wX12_takesWord (26982 : Int64) M1 (fun (b4 : Bool) (M3 : gS) => (((bI b4) = 0 → (wX12_isDoingHere_112  Q y2 M3))
 ∧ (¬ (bI b4) = 0 → (vp_in (mg M3 16) 7 ∧ (∀ x6 : Int32, x6 = (ma M3 4 (Int32.toNatClampNeg (mg M3 16))) → (vp_in (y2 + (2 : Int32)) 288 ∧ (∀ M7 : gS, M7 = sa M3 5 (Int32.toNatClampNeg (y2 + (2 : Int32))) x6 → (wX12_tested  M7 (fun (b10 : Bool) (M9 : gS) => (((bI b10) = 0 → (Q false M9))
 ∧ (¬ (bI b10) = 0 → (wX12_isDoingHere_112  Q y2 M9)))))))))))))))
def wX12_isDoingHere (p1 : Int32) (M : gS) (Q : Bool → gS → Prop) : Prop :=
 (wX12_passWord  M (fun (M2 : gS) => (vp_in (mg M2 16) 6 ∧ (∀ x3 : Int32, x3 = (((48 : Int32) * (mg M2 16)) + ((4 : Int32) * (ma M2 6 (Int32.toNatClampNeg (mg M2 16))))) → (vp_in x3 288 ∧ (∀ M4 : gS, M4 = sa M2 5 (Int32.toNatClampNeg x3) p1 → (vp_in (x3 + (1 : Int32)) 288 ∧ (∀ M5 : gS, M5 = sa M4 5 (Int32.toNatClampNeg (x3 + (1 : Int32))) (-1 : Int32) → ((p1 = 0 → (wX12_numberHere (0 : Int32) (3 : Int32) M5 (fun (b9 : Bool) (M8 : gS) => (((bI b9) = 0 → (Q false M8))
 ∧ (¬ (bI b9) = 0 → (∀ x11 : Int32, x11 = (mg M8 15) → (vp_in (x3 + (1 : Int32)) 288 ∧ (∀ M12 : gS, M12 = sa M8 5 (Int32.toNatClampNeg (x3 + (1 : Int32))) x11 → (wX12_isDoingHere_67  Q x3 M12)))))))))
 ∧ (¬ p1 = 0 → (wX12_isDoingHere_67  Q x3 M5)))))))))))
def rmX12_isDoingHere : Room := { frames := 9, cells := 0, slots := 0, locals := 198 }
set_option maxHeartbeats 4000000 in
set_option maxRecDepth 100000 in
theorem kX12_isDoingHere (l : Launch) (dC : Nat → ClassId) (dI : Nat → Nat → Nat) (cB cI cJ cZ : ClassId) (h0 : Nat) (ad : Nat → Nat) (sz : Nat) (p1 : Int32) (M : gS) (Q : Bool → gS → Prop) (h : wX12_isDoingHere p1 M Q) : Met l yX12_isDoingHere wsX12_isDoingHere rmX12_isDoingHere (va_Pc [.ref h0, .int p1] (mI dC dI cB cI cJ cZ h0 ad M sz)) (va_Qi (fun (r : Int32) (u : gS) => ∃ b : Bool, r = bI b ∧ Q b u) (mB dC dI cB cI cJ cZ h0 ad (va_A (mW cB cI cJ cZ h0 ad M) sz)) (va_A (mW cB cI cJ cZ h0 ad M) sz)) 0 0 (va_A (mW cB cI cJ cZ h0 ad M) sz) := by
  refine Met.ofW (cc := cX12_isDoingHere) (maxL := 3) (ret := (some .boolean)) (by decide) rfl ?_
  intro p e s m args below meth c s₁ B hml hv
  obtain ⟨rfl, hsz, hP, hK, hD0⟩ := hv
  have hx := B.exec
  have hb := B.bytes
  have hr := B.returns
  have hts := atoms_spec (ws := wsX12_isDoingHere) B.pre
  have hown : s.vm.findClass RX12 = some m.cls := findClass_of_methodNamed B.named
  have hlocks := B.notSynchronized
  subst hsz
  have hD := hD0.self (sz := s.heap.size)
  generalize hAe : va_A (mW cB cI cJ cZ h0 ad M) s.heap.size = A at hD ⊢
  have hA : ∀ q : Nat, s.heap.size ≤ q → A q := fun q h => by rw [← hAe]; exact Or.inr h
  have hS : va_S A s.heap s.heap [] := va_S.rf
  have hin : ∀ w ∈ wsX120, w ∈ wsX12_isDoingHere := fun w h => List.mem_cons_of_mem _ (List.mem_append_right _ h)
  have f1 := hts (.fieldLink RX12 20 "LastWordsModel" "clause" "[I") (by decide +kernel)
  have f2 := hts (.fieldLink RX12 17 "LastWordsModel" "length" "[I") (by decide +kernel)
  have f3 := hts (.fieldLink RX12 137 "LastWordsModel" "text" "I") (by decide +kernel)
  have f4 := hts (.fieldLink RX12 23 "LastWordsModel" "clauses" "[I") (by decide +kernel)
  have f5 := hts (.constantLong RX12 201 (26982)) (by decide +kernel)
  have f6 := hts (.fieldLink RX12 112 "LastWordsModel" "number" "I") (by decide +kernel)
  have b112 : ∀ (y2 : Int32) (M : gS) (H : Heap) (locs : List Loc) (ls : Array Slot), va_P (dC, dI) vwCl (mW cB cI cJ cZ h0 ad M) H → va_D A (mW cB cI cJ cZ h0 ad M) → va_S A s.heap H locs → lv_has ls 3 [(0, .ref h0), (2, .int y2)] → wX12_isDoingHere_112  Q y2 M → W p l e (headSpec wsX12_isDoingHere rmX12_isDoingHere).room s m ([.ref h0, .int p1] : List Value).toArray below meth c H locs 0 0 (MQ below (va_Qi (fun (r : Int32) (u : gS) => ∃ b : Bool, r = bI b ∧ Q b u) (mB dC dI cB cI cJ cZ h0 ad A) A) ([.ref h0, .int p1] : List Value).toArray s 0 0 A) (F0 m 112 ls []) := by
    intro  y2 M H locs ls hP hD hS hl h
    unfold wX12_isDoingHere_112 at h
    refine lv_aload_n hx hb dX12_isDoingHere_112 rfl (lv_at hl 0 rfl) ?_
    refine va_get (D := (dC, dI)) (ci := 12) (v := .ref (ad 5)) (C := RX12) (T := TX12) (N := 37) hx hb hts hin hown hK hP 0 rfl rfl 5 (by decide) f1 (fun _ h9 => h9) rfl dX12_isDoingHere_113 ?_
    refine lv_iload_n hx hb dX12_isDoingHere_116 rfl (lv_at hl 1 rfl) ?_
    refine lv_iconst (v := 3) hx hb dX12_isDoingHere_117 (by decide) ?_
    refine lv_iadd hx hb dX12_isDoingHere_118 ?_
    refine lv_aload_n hx hb dX12_isDoingHere_119 rfl (lv_at hl 0 rfl) ?_
    refine va_get (D := (dC, dI)) (ci := 12) (v := .ref (ad 4)) (C := RX12) (T := TX12) (N := 37) hx hb hts hin hown hK hP 0 rfl rfl 4 (by decide) f2 (fun _ h9 => h9) rfl dX12_isDoingHere_120 ?_
    refine lv_aload_n hx hb dX12_isDoingHere_123 rfl (lv_at hl 0 rfl) ?_
    refine va_get (D := (dC, dI)) (ci := 12) (v := .int (mg M 16)) (C := RX12) (T := TX12) (N := 37) hx hb hts hin hown hK hP 0 rfl rfl 16 (by decide) f3 (fun _ h9 => h9) rfl dX12_isDoingHere_124 ?_
    refine va_iald hx hb hK hP 3 1 (f := ma M 4) rfl rfl h.1 dX12_isDoingHere_127 ?_
    have h := h.2
    refine lv_topi (fun x1 ex1 => ?_)
    have h := h x1 ex1
    refine va_iast hx hb hK hP hD hS 4 1 (f := ma M 5) rfl rfl h.1 dX12_isDoingHere_128 (fun H locs hP hD hS => ?_)
    have h := h.2
    have hP := mP_a5 hP
    have hD := mD_a5 hD
    have h := h _ rfl
    generalize sa M 5 (Int32.toNatClampNeg (y2 + (3 : Int32))) x1 = M2 at hP hD h
    refine lv_aload_n hx hb dX12_isDoingHere_129 rfl (lv_at hl 0 rfl) ?_
    refine va_get (D := (dC, dI)) (ci := 12) (v := .ref (ad 6)) (C := RX12) (T := TX12) (N := 37) hx hb hts hin hown hK hP 0 rfl rfl 6 (by decide) f4 (fun _ h9 => h9) rfl dX12_isDoingHere_130 ?_
    refine lv_aload_n hx hb dX12_isDoingHere_133 rfl (lv_at hl 0 rfl) ?_
    refine va_get (D := (dC, dI)) (ci := 12) (v := .int (mg M2 16)) (C := RX12) (T := TX12) (N := 37) hx hb hts hin hown hK hP 0 rfl rfl 16 (by decide) f3 (fun _ h9 => h9) rfl dX12_isDoingHere_134 ?_
    refine lv_dup2_11 hx hb dX12_isDoingHere_137 rfl rfl ?_
    refine va_iald hx hb hK hP 5 1 (f := ma M2 6) rfl rfl h.1 dX12_isDoingHere_138 ?_
    have h := h.2
    refine lv_iconst (v := 1) hx hb dX12_isDoingHere_139 (by decide) ?_
    refine lv_iadd hx hb dX12_isDoingHere_140 ?_
    refine lv_topi (fun x3 ex3 => ?_)
    have h := h x3 ex3
    refine va_iast hx hb hK hP hD hS 5 1 (f := ma M2 6) rfl rfl h.1 dX12_isDoingHere_141 (fun H locs hP hD hS => ?_)
    have h := h.2
    have hP := mP_a6 hP
    have hD := mD_a6 hD
    have h := h _ rfl
    generalize sa M2 6 (Int32.toNatClampNeg (mg M2 16)) x3 = M4 at hP hD h
    refine lv_iconst (v := 1) hx hb dX12_isDoingHere_142 (by decide) ?_
    exact W.zret (v := (bI true)) hx hb hr (nar_bI true) (fun t ht hW => ⟨⟨_, M4, rfl, ⟨true, rfl, h⟩, by rw [ht]; exact hP, va_K.moved hW.alike hK, hD⟩, hS.F ht⟩) hS.2.2 dX12_isDoingHere_143
  have b67 : ∀ (y2 : Int32) (M : gS) (H : Heap) (locs : List Loc) (ls : Array Slot), va_P (dC, dI) vwCl (mW cB cI cJ cZ h0 ad M) H → va_D A (mW cB cI cJ cZ h0 ad M) → va_S A s.heap H locs → lv_has ls 3 [(0, .ref h0), (2, .int y2)] → wX12_isDoingHere_67  Q y2 M → W p l e (headSpec wsX12_isDoingHere rmX12_isDoingHere).room s m ([.ref h0, .int p1] : List Value).toArray below meth c H locs 0 0 (MQ below (va_Qi (fun (r : Int32) (u : gS) => ∃ b : Bool, r = bI b ∧ Q b u) (mB dC dI cB cI cJ cZ h0 ad A) A) ([.ref h0, .int p1] : List Value).toArray s 0 0 A) (F0 m 67 ls []) := by
    intro  y2 M H locs ls hP hD hS hl h
    unfold wX12_isDoingHere_67 at h
    refine lv_aload_n hx hb dX12_isDoingHere_67 rfl (lv_at hl 0 rfl) ?_
    refine va_get (D := (dC, dI)) (ci := 12) (v := .ref (ad 5)) (C := RX12) (T := TX12) (N := 37) hx hb hts hin hown hK hP 0 rfl rfl 5 (by decide) f1 (fun _ h9 => h9) rfl dX12_isDoingHere_68 ?_
    refine lv_iload_n hx hb dX12_isDoingHere_71 rfl (lv_at hl 1 rfl) ?_
    refine lv_iconst (v := 2) hx hb dX12_isDoingHere_72 (by decide) ?_
    refine lv_iadd hx hb dX12_isDoingHere_73 ?_
    refine lv_iconst (v := (-1)) hx hb dX12_isDoingHere_74 (by decide) ?_
    refine va_iast hx hb hK hP hD hS 4 1 (f := ma M 5) rfl rfl h.1 dX12_isDoingHere_75 (fun H locs hP hD hS => ?_)
    have h := h.2
    have hP := mP_a5 hP
    have hD := mD_a5 hD
    have h := h _ rfl
    generalize sa M 5 (Int32.toNatClampNeg (y2 + (2 : Int32))) (-1 : Int32) = M1 at hP hD h
    refine lv_aload_n hx hb dX12_isDoingHere_76 rfl (lv_at hl 0 rfl) ?_
    refine lv_ldc2 (v := (26982)) hx hb hown f5 dX12_isDoingHere_77 ?_
    have hFc := gs_free hD hS hA
    refine va_calli (va_runV (As := [.long (26982 : Int64)]) (rest := []) ⟨hx, hb, hml, hown, hts⟩ (kX12_takesWord l dC dI cB cI cJ cZ h0 ad H.size (26982 : Int64) M1 _ h) (cwV 1 hts gX12_isDoingHere_X12_takesWord rfl rfl rfl (by decide +kernel) ⟨Nat.le_of_ble_eq_true rfl, Nat.le_of_ble_eq_true rfl⟩) (mpV hK hP hD) rfl rfl hl.1 rfl (lv_room (Nat.le_of_ble_eq_true rfl)) dX12_isDoingHere_80 ⟨Nat.le_of_ble_eq_true rfl, Nat.le_of_ble_eq_true rfl⟩) hS (fun q _ z => hFc q z) hFc (fun r2 M3 t H1 locs ht hvm hw hB hz1 hk1 hS => ?_)
    obtain ⟨hP, hD⟩ := gs_back ht hFc hB
    generalize H1 = H at hP hS ⊢
    obtain ⟨b4, rfl, h⟩ := hw
    try dsimp only at h
    refine lv_if_eq (tgt := 112) hx hb dX12_isDoingHere_83 (by decide) (fun c5 => ?_) (fun c5 => ?_)
    · have h := h.1 c5
      exact b112  y2 M3 H locs ls hP hD hS (lv_sub hl [0, 1] rfl) h
    · have h := h.2 c5
      refine lv_aload_n hx hb dX12_isDoingHere_86 rfl (lv_at hl 0 rfl) ?_
      refine va_get (D := (dC, dI)) (ci := 12) (v := .ref (ad 5)) (C := RX12) (T := TX12) (N := 37) hx hb hts hin hown hK hP 0 rfl rfl 5 (by decide) f1 (fun _ h9 => h9) rfl dX12_isDoingHere_87 ?_
      refine lv_iload_n hx hb dX12_isDoingHere_90 rfl (lv_at hl 1 rfl) ?_
      refine lv_iconst (v := 2) hx hb dX12_isDoingHere_91 (by decide) ?_
      refine lv_iadd hx hb dX12_isDoingHere_92 ?_
      refine lv_aload_n hx hb dX12_isDoingHere_93 rfl (lv_at hl 0 rfl) ?_
      refine va_get (D := (dC, dI)) (ci := 12) (v := .ref (ad 4)) (C := RX12) (T := TX12) (N := 37) hx hb hts hin hown hK hP 0 rfl rfl 4 (by decide) f2 (fun _ h9 => h9) rfl dX12_isDoingHere_94 ?_
      refine lv_aload_n hx hb dX12_isDoingHere_97 rfl (lv_at hl 0 rfl) ?_
      refine va_get (D := (dC, dI)) (ci := 12) (v := .int (mg M3 16)) (C := RX12) (T := TX12) (N := 37) hx hb hts hin hown hK hP 0 rfl rfl 16 (by decide) f3 (fun _ h9 => h9) rfl dX12_isDoingHere_98 ?_
      refine va_iald hx hb hK hP 3 1 (f := ma M3 4) rfl rfl h.1 dX12_isDoingHere_101 ?_
      have h := h.2
      refine lv_topi (fun x6 ex6 => ?_)
      have h := h x6 ex6
      refine va_iast hx hb hK hP hD hS 4 1 (f := ma M3 5) rfl rfl h.1 dX12_isDoingHere_102 (fun H locs hP hD hS => ?_)
      have h := h.2
      have hP := mP_a5 hP
      have hD := mD_a5 hD
      have h := h _ rfl
      generalize sa M3 5 (Int32.toNatClampNeg (y2 + (2 : Int32))) x6 = M7 at hP hD h
      refine lv_aload_n hx hb dX12_isDoingHere_103 rfl (lv_at hl 0 rfl) ?_
      have hFc := gs_free hD hS hA
      refine va_calli (va_runV (As := []) (rest := []) ⟨hx, hb, hml, hown, hts⟩ (kX12_tested l dC dI cB cI cJ cZ h0 ad H.size  M7 _ h) (cwV 0 hts gX12_isDoingHere_X12_tested rfl rfl rfl (by decide +kernel) ⟨Nat.le_of_ble_eq_true rfl, Nat.le_of_ble_eq_true rfl⟩) (mpV hK hP hD) rfl rfl hl.1 rfl (lv_room (Nat.le_of_ble_eq_true rfl)) dX12_isDoingHere_104 ⟨Nat.le_of_ble_eq_true rfl, Nat.le_of_ble_eq_true rfl⟩) hS (fun q _ z => hFc q z) hFc (fun r8 M9 t H1 locs ht hvm hw hB hz1 hk1 hS => ?_)
      obtain ⟨hP, hD⟩ := gs_back ht hFc hB
      generalize H1 = H at hP hS ⊢
      obtain ⟨b10, rfl, h⟩ := hw
      try dsimp only at h
      refine lv_if_ne (tgt := 112) hx hb dX12_isDoingHere_107 (by decide) (fun c11 => ?_) (fun c11 => ?_)
      · have h := h.2 c11
        exact b112  y2 M9 H locs ls hP hD hS (lv_sub hl [0, 1] rfl) h
      · have h := h.1 c11
        refine lv_iconst (v := 0) hx hb dX12_isDoingHere_110 (by decide) ?_
        exact W.zret (v := (bI false)) hx hb hr (nar_bI false) (fun t ht hW => ⟨⟨_, M9, rfl, ⟨false, rfl, h⟩, by rw [ht]; exact hP, va_K.moved hW.alike hK, hD⟩, hS.F ht⟩) hS.2.2 dX12_isDoingHere_111
  have bE : ∀ (M : gS) (H : Heap) (locs : List Loc) (ls : Array Slot), va_P (dC, dI) vwCl (mW cB cI cJ cZ h0 ad M) H → va_D A (mW cB cI cJ cZ h0 ad M) → va_S A s.heap H locs → lv_has ls 3 [(0, .ref h0), (1, .int p1)] → wX12_isDoingHere p1 M Q → W p l e (headSpec wsX12_isDoingHere rmX12_isDoingHere).room s m ([.ref h0, .int p1] : List Value).toArray below meth c H locs 0 0 (MQ below (va_Qi (fun (r : Int32) (u : gS) => ∃ b : Bool, r = bI b ∧ Q b u) (mB dC dI cB cI cJ cZ h0 ad A) A) ([.ref h0, .int p1] : List Value).toArray s 0 0 A) (F0 m 0 ls []) := by
    intro M H locs ls hP hD hS hl h
    unfold wX12_isDoingHere at h
    refine lv_aload_n hx hb dX12_isDoingHere_0 rfl (lv_at hl 0 rfl) ?_
    have hFc := gs_free hD hS hA
    refine va_callv (va_runV (As := []) (rest := []) ⟨hx, hb, hml, hown, hts⟩ (kX12_passWord l dC dI cB cI cJ cZ h0 ad H.size  M _ h) (cwV 0 hts gX12_isDoingHere_X12_passWord rfl rfl rfl (by decide +kernel) ⟨Nat.le_of_ble_eq_true rfl, Nat.le_of_ble_eq_true rfl⟩) (mpV hK hP hD) rfl rfl hl.1 rfl (lv_room (Nat.le_of_ble_eq_true rfl)) dX12_isDoingHere_1 ⟨Nat.le_of_ble_eq_true rfl, Nat.le_of_ble_eq_true rfl⟩) hS (fun q _ z => hFc q z) hFc (fun M2 t H1 locs ht hvm hw hB hz1 hk1 hS => ?_)
    obtain ⟨hP, hD⟩ := gs_back ht hFc hB
    generalize H1 = H at hP hS ⊢
    have h := hw
    try dsimp only at h
    refine lv_bipush (v := (48)) hx hb dX12_isDoingHere_4 (by decide) ?_
    refine lv_aload_n hx hb dX12_isDoingHere_6 rfl (lv_at hl 0 rfl) ?_
    refine va_get (D := (dC, dI)) (ci := 12) (v := .int (mg M2 16)) (C := RX12) (T := TX12) (N := 37) hx hb hts hin hown hK hP 0 rfl rfl 16 (by decide) f3 (fun _ h9 => h9) rfl dX12_isDoingHere_7 ?_
    refine lv_imul hx hb dX12_isDoingHere_10 ?_
    refine lv_iconst (v := 4) hx hb dX12_isDoingHere_11 (by decide) ?_
    refine lv_aload_n hx hb dX12_isDoingHere_12 rfl (lv_at hl 0 rfl) ?_
    refine va_get (D := (dC, dI)) (ci := 12) (v := .ref (ad 6)) (C := RX12) (T := TX12) (N := 37) hx hb hts hin hown hK hP 0 rfl rfl 6 (by decide) f4 (fun _ h9 => h9) rfl dX12_isDoingHere_13 ?_
    refine lv_aload_n hx hb dX12_isDoingHere_16 rfl (lv_at hl 0 rfl) ?_
    refine va_get (D := (dC, dI)) (ci := 12) (v := .int (mg M2 16)) (C := RX12) (T := TX12) (N := 37) hx hb hts hin hown hK hP 0 rfl rfl 16 (by decide) f3 (fun _ h9 => h9) rfl dX12_isDoingHere_17 ?_
    refine va_iald hx hb hK hP 5 1 (f := ma M2 6) rfl rfl h.1 dX12_isDoingHere_20 ?_
    have h := h.2
    refine lv_imul hx hb dX12_isDoingHere_21 ?_
    refine lv_iadd hx hb dX12_isDoingHere_22 ?_
    refine lv_topi (fun x3 ex3 => ?_)
    have h := h x3 ex3
    refine lv_istore_n (lv' := [(2, .int x3), (0, .ref h0), (1, .int p1)]) hx hb dX12_isDoingHere_23 rfl hl (by decide) rfl (fun ls hl => ?_)
    refine lv_aload_n hx hb dX12_isDoingHere_24 rfl (lv_at hl 1 rfl) ?_
    refine va_get (D := (dC, dI)) (ci := 12) (v := .ref (ad 5)) (C := RX12) (T := TX12) (N := 37) hx hb hts hin hown hK hP 0 rfl rfl 5 (by decide) f1 (fun _ h9 => h9) rfl dX12_isDoingHere_25 ?_
    refine lv_iload_n hx hb dX12_isDoingHere_28 rfl (lv_at hl 0 rfl) ?_
    refine lv_iload_n hx hb dX12_isDoingHere_29 rfl (lv_at hl 2 rfl) ?_
    refine va_iast hx hb hK hP hD hS 4 1 (f := ma M2 5) rfl rfl h.1 dX12_isDoingHere_30 (fun H locs hP hD hS => ?_)
    have h := h.2
    have hP := mP_a5 hP
    have hD := mD_a5 hD
    have h := h _ rfl
    generalize sa M2 5 (Int32.toNatClampNeg x3) p1 = M4 at hP hD h
    refine lv_aload_n hx hb dX12_isDoingHere_31 rfl (lv_at hl 1 rfl) ?_
    refine va_get (D := (dC, dI)) (ci := 12) (v := .ref (ad 5)) (C := RX12) (T := TX12) (N := 37) hx hb hts hin hown hK hP 0 rfl rfl 5 (by decide) f1 (fun _ h9 => h9) rfl dX12_isDoingHere_32 ?_
    refine lv_iload_n hx hb dX12_isDoingHere_35 rfl (lv_at hl 0 rfl) ?_
    refine lv_iconst (v := 1) hx hb dX12_isDoingHere_36 (by decide) ?_
    refine lv_iadd hx hb dX12_isDoingHere_37 ?_
    refine lv_iconst (v := (-1)) hx hb dX12_isDoingHere_38 (by decide) ?_
    refine va_iast hx hb hK hP hD hS 4 1 (f := ma M4 5) rfl rfl h.1 dX12_isDoingHere_39 (fun H locs hP hD hS => ?_)
    have h := h.2
    have hP := mP_a5 hP
    have hD := mD_a5 hD
    have h := h _ rfl
    generalize sa M4 5 (Int32.toNatClampNeg (x3 + (1 : Int32))) (-1 : Int32) = M5 at hP hD h
    refine lv_iload_n hx hb dX12_isDoingHere_40 rfl (lv_at hl 2 rfl) ?_
    refine lv_if_ne (tgt := 67) hx hb dX12_isDoingHere_41 (by decide) (fun c6 => ?_) (fun c6 => ?_)
    · have h := h.2 c6
      exact b67  x3 M5 H locs ls hP hD hS (lv_sub hl [1, 0] rfl) h
    · have h := h.1 c6
      refine lv_aload_n hx hb dX12_isDoingHere_44 rfl (lv_at hl 1 rfl) ?_
      refine lv_iconst (v := 0) hx hb dX12_isDoingHere_45 (by decide) ?_
      refine lv_iconst (v := 3) hx hb dX12_isDoingHere_46 (by decide) ?_
      have hFc := gs_free hD hS hA
      refine va_calli (va_runV (As := [.int (0 : Int32), .int (3 : Int32)]) (rest := []) ⟨hx, hb, hml, hown, hts⟩ (kX12_numberHere l dC dI cB cI cJ cZ h0 ad H.size (0 : Int32) (3 : Int32) M5 _ h) (cwV 2 hts gX12_isDoingHere_X12_numberHere rfl rfl rfl (by decide +kernel) ⟨Nat.le_of_ble_eq_true rfl, Nat.le_of_ble_eq_true rfl⟩) (mpV hK hP hD) rfl rfl hl.1 rfl (lv_room (Nat.le_of_ble_eq_true rfl)) dX12_isDoingHere_47 ⟨Nat.le_of_ble_eq_true rfl, Nat.le_of_ble_eq_true rfl⟩) hS (fun q _ z => hFc q z) hFc (fun r7 M8 t H1 locs ht hvm hw hB hz1 hk1 hS => ?_)
      obtain ⟨hP, hD⟩ := gs_back ht hFc hB
      generalize H1 = H at hP hS ⊢
      obtain ⟨b9, rfl, h⟩ := hw
      try dsimp only at h
      refine lv_if_ne (tgt := 55) hx hb dX12_isDoingHere_50 (by decide) (fun c10 => ?_) (fun c10 => ?_)
      · have h := h.2 c10
        refine lv_aload_n hx hb dX12_isDoingHere_55 rfl (lv_at hl 1 rfl) ?_
        refine va_get (D := (dC, dI)) (ci := 12) (v := .ref (ad 5)) (C := RX12) (T := TX12) (N := 37) hx hb hts hin hown hK hP 0 rfl rfl 5 (by decide) f1 (fun _ h9 => h9) rfl dX12_isDoingHere_56 ?_
        refine lv_iload_n hx hb dX12_isDoingHere_59 rfl (lv_at hl 0 rfl) ?_
        refine lv_iconst (v := 1) hx hb dX12_isDoingHere_60 (by decide) ?_
        refine lv_iadd hx hb dX12_isDoingHere_61 ?_
        refine lv_aload_n hx hb dX12_isDoingHere_62 rfl (lv_at hl 1 rfl) ?_
        refine va_get (D := (dC, dI)) (ci := 12) (v := .int (mg M8 15)) (C := RX12) (T := TX12) (N := 37) hx hb hts hin hown hK hP 0 rfl rfl 15 (by decide) f6 (fun _ h9 => h9) rfl dX12_isDoingHere_63 ?_
        refine lv_topi (fun x11 ex11 => ?_)
        have h := h x11 ex11
        refine va_iast hx hb hK hP hD hS 4 1 (f := ma M8 5) rfl rfl h.1 dX12_isDoingHere_66 (fun H locs hP hD hS => ?_)
        have h := h.2
        have hP := mP_a5 hP
        have hD := mD_a5 hD
        have h := h _ rfl
        generalize sa M8 5 (Int32.toNatClampNeg (x3 + (1 : Int32))) x11 = M12 at hP hD h
        exact b67  x3 M12 H locs ls hP hD hS (lv_sub hl [1, 0] rfl) h
      · have h := h.1 c10
        refine lv_iconst (v := 0) hx hb dX12_isDoingHere_53 (by decide) ?_
        exact W.zret (v := (bI false)) hx hb hr (nar_bI false) (fun t ht hW => ⟨⟨_, M8, rfl, ⟨false, rfl, h⟩, by rw [ht]; exact hP, va_K.moved hW.alike hK, hD⟩, hS.F ht⟩) hS.2.2 dX12_isDoingHere_54
  have hl := lv_entry ([.ref h0, .int p1]) (n := 3) (Nat.le_of_ble_eq_true rfl)
  rw [lg_entry_eq]
  generalize (lg_sl ([.ref h0, .int p1]) ++ List.replicate (3 - (lg_sl ([.ref h0, .int p1])).length) Slot.unset).toArray = ls at hl ⊢
  have hl : lv_has ls 3 [(0, .ref h0), (1, .int p1)] := hl
  exact bE M s.heap [] ls hP hD hS hl h
def wX12_isTuneHere (p1 : Int32) (M : gS) (Q : Bool → gS → Prop) : Prop :=
 (((mg M 7) = (4 : Int32) → (wX12_fails (4 : Int32) p1 M (fun (b20 : Bool) (M19 : gS) => (Q b20 M19))))
 ∧ (¬ (mg M 7) = (4 : Int32) → (wX12_passWord  M (fun (M3 : gS) => (wX12_numberHere (1 : Int32) (9 : Int32) M3 (fun (b6 : Bool) (M5 : gS) => (((bI b6) = 0 → (Q false M5))
 ∧ (¬ (bI b6) = 0 → (∀ x8 : Int32, x8 = (mg M5 15) → (vp_in ((2 : Int32) * (mg M5 7)) 8 ∧ (∀ M9 : gS, M9 = sa M5 10 (Int32.toNatClampNeg ((2 : Int32) * (mg M5 7))) x8 → (wX12_numberHere (1 : Int32) (8 : Int32) M9 (fun (b12 : Bool) (M11 : gS) => (((bI b12) = 0 → (Q false M11))
 ∧ (¬ (bI b12) = 0 → (∀ x14 : Int32, x14 = (mg M11 15) → (vp_in (((2 : Int32) * (mg M11 7)) + (1 : Int32)) 8 ∧ (∀ M15 : gS, M15 = sa M11 10 (Int32.toNatClampNeg (((2 : Int32) * (mg M11 7)) + (1 : Int32))) x14 → (∀ x16 : Int32, x16 = ((mg M15 7) + (1 : Int32)) → (∀ M17 : gS, M17 = sg M15 7 x16 → (Q true M17)))))))))))))))))))))
def rmX12_isTuneHere : Room := { frames := 2, cells := 0, slots := 0, locals := 49 }
set_option maxHeartbeats 4000000 in
set_option maxRecDepth 100000 in
theorem kX12_isTuneHere (l : Launch) (dC : Nat → ClassId) (dI : Nat → Nat → Nat) (cB cI cJ cZ : ClassId) (h0 : Nat) (ad : Nat → Nat) (sz : Nat) (p1 : Int32) (M : gS) (Q : Bool → gS → Prop) (h : wX12_isTuneHere p1 M Q) : Met l yX12_isTuneHere wsX12_isTuneHere rmX12_isTuneHere (va_Pc [.ref h0, .int p1] (mI dC dI cB cI cJ cZ h0 ad M sz)) (va_Qi (fun (r : Int32) (u : gS) => ∃ b : Bool, r = bI b ∧ Q b u) (mB dC dI cB cI cJ cZ h0 ad (va_A (mW cB cI cJ cZ h0 ad M) sz)) (va_A (mW cB cI cJ cZ h0 ad M) sz)) 0 0 (va_A (mW cB cI cJ cZ h0 ad M) sz) := by
  refine Met.ofW (cc := cX12_isTuneHere) (maxL := 2) (ret := (some .boolean)) (by decide) rfl ?_
  intro p e s m args below meth c s₁ B hml hv
  obtain ⟨rfl, hsz, hP, hK, hD0⟩ := hv
  have hx := B.exec
  have hb := B.bytes
  have hr := B.returns
  have hts := atoms_spec (ws := wsX12_isTuneHere) B.pre
  have hown : s.vm.findClass RX12 = some m.cls := findClass_of_methodNamed B.named
  have hlocks := B.notSynchronized
  subst hsz
  have hD := hD0.self (sz := s.heap.size)
  generalize hAe : va_A (mW cB cI cJ cZ h0 ad M) s.heap.size = A at hD ⊢
  have hA : ∀ q : Nat, s.heap.size ≤ q → A q := fun q h => by rw [← hAe]; exact Or.inr h
  have hS : va_S A s.heap s.heap [] := va_S.rf
  have hin : ∀ w ∈ wsX120, w ∈ wsX12_isTuneHere := fun w h => List.mem_cons_of_mem _ (List.mem_append_right _ h)
  have f1 := hts (.fieldLink RX12 209 "LastWordsModel" "tunesRead" "I") (by decide +kernel)
  have f2 := hts (.fieldLink RX12 26 "LastWordsModel" "tuneRead" "[I") (by decide +kernel)
  have f3 := hts (.fieldLink RX12 112 "LastWordsModel" "number" "I") (by decide +kernel)
  have bE : ∀ (M : gS) (H : Heap) (locs : List Loc) (ls : Array Slot), va_P (dC, dI) vwCl (mW cB cI cJ cZ h0 ad M) H → va_D A (mW cB cI cJ cZ h0 ad M) → va_S A s.heap H locs → lv_has ls 2 [(0, .ref h0), (1, .int p1)] → wX12_isTuneHere p1 M Q → W p l e (headSpec wsX12_isTuneHere rmX12_isTuneHere).room s m ([.ref h0, .int p1] : List Value).toArray below meth c H locs 0 0 (MQ below (va_Qi (fun (r : Int32) (u : gS) => ∃ b : Bool, r = bI b ∧ Q b u) (mB dC dI cB cI cJ cZ h0 ad A) A) ([.ref h0, .int p1] : List Value).toArray s 0 0 A) (F0 m 0 ls []) := by
    intro M H locs ls hP hD hS hl h
    unfold wX12_isTuneHere at h
    refine lv_aload_n hx hb dX12_isTuneHere_0 rfl (lv_at hl 0 rfl) ?_
    refine va_get (D := (dC, dI)) (ci := 12) (v := .int (mg M 7)) (C := RX12) (T := TX12) (N := 37) hx hb hts hin hown hK hP 0 rfl rfl 7 (by decide) f1 (fun _ h9 => h9) rfl dX12_isTuneHere_1 ?_
    refine lv_iconst (v := 4) hx hb dX12_isTuneHere_4 (by decide) ?_
    refine lv_icmp_ne (tgt := 15) hx hb dX12_isTuneHere_5 (by decide) (fun c1 => ?_) (fun c1 => ?_)
    · have h := h.2 c1
      refine lv_aload_n hx hb dX12_isTuneHere_15 rfl (lv_at hl 0 rfl) ?_
      have hFc := gs_free hD hS hA
      refine va_callv (va_runV (As := []) (rest := []) ⟨hx, hb, hml, hown, hts⟩ (kX12_passWord l dC dI cB cI cJ cZ h0 ad H.size  M _ h) (cwV 0 hts gX12_isTuneHere_X12_passWord rfl rfl rfl (by decide +kernel) ⟨Nat.le_of_ble_eq_true rfl, Nat.le_of_ble_eq_true rfl⟩) (mpV hK hP hD) rfl rfl hl.1 rfl (lv_room (Nat.le_of_ble_eq_true rfl)) dX12_isTuneHere_16 ⟨Nat.le_of_ble_eq_true rfl, Nat.le_of_ble_eq_true rfl⟩) hS (fun q _ z => hFc q z) hFc (fun M3 t H1 locs ht hvm hw hB hz1 hk1 hS => ?_)
      obtain ⟨hP, hD⟩ := gs_back ht hFc hB
      generalize H1 = H at hP hS ⊢
      have h := hw
      try dsimp only at h
      refine lv_aload_n hx hb dX12_isTuneHere_19 rfl (lv_at hl 0 rfl) ?_
      refine lv_iconst (v := 1) hx hb dX12_isTuneHere_20 (by decide) ?_
      refine lv_bipush (v := (9)) hx hb dX12_isTuneHere_21 (by decide) ?_
      have hFc := gs_free hD hS hA
      refine va_calli (va_runV (As := [.int (1 : Int32), .int (9 : Int32)]) (rest := []) ⟨hx, hb, hml, hown, hts⟩ (kX12_numberHere l dC dI cB cI cJ cZ h0 ad H.size (1 : Int32) (9 : Int32) M3 _ h) (cwV 2 hts gX12_isTuneHere_X12_numberHere rfl rfl rfl (by decide +kernel) ⟨Nat.le_of_ble_eq_true rfl, Nat.le_of_ble_eq_true rfl⟩) (mpV hK hP hD) rfl rfl hl.1 rfl (lv_room (Nat.le_of_ble_eq_true rfl)) dX12_isTuneHere_23 ⟨Nat.le_of_ble_eq_true rfl, Nat.le_of_ble_eq_true rfl⟩) hS (fun q _ z => hFc q z) hFc (fun r4 M5 t H1 locs ht hvm hw hB hz1 hk1 hS => ?_)
      obtain ⟨hP, hD⟩ := gs_back ht hFc hB
      generalize H1 = H at hP hS ⊢
      obtain ⟨b6, rfl, h⟩ := hw
      try dsimp only at h
      refine lv_if_ne (tgt := 31) hx hb dX12_isTuneHere_26 (by decide) (fun c7 => ?_) (fun c7 => ?_)
      · have h := h.2 c7
        refine lv_aload_n hx hb dX12_isTuneHere_31 rfl (lv_at hl 0 rfl) ?_
        refine va_get (D := (dC, dI)) (ci := 12) (v := .ref (ad 10)) (C := RX12) (T := TX12) (N := 37) hx hb hts hin hown hK hP 0 rfl rfl 10 (by decide) f2 (fun _ h9 => h9) rfl dX12_isTuneHere_32 ?_
        refine lv_iconst (v := 2) hx hb dX12_isTuneHere_35 (by decide) ?_
        refine lv_aload_n hx hb dX12_isTuneHere_36 rfl (lv_at hl 0 rfl) ?_
        refine va_get (D := (dC, dI)) (ci := 12) (v := .int (mg M5 7)) (C := RX12) (T := TX12) (N := 37) hx hb hts hin hown hK hP 0 rfl rfl 7 (by decide) f1 (fun _ h9 => h9) rfl dX12_isTuneHere_37 ?_
        refine lv_imul hx hb dX12_isTuneHere_40 ?_
        refine lv_aload_n hx hb dX12_isTuneHere_41 rfl (lv_at hl 0 rfl) ?_
        refine va_get (D := (dC, dI)) (ci := 12) (v := .int (mg M5 15)) (C := RX12) (T := TX12) (N := 37) hx hb hts hin hown hK hP 0 rfl rfl 15 (by decide) f3 (fun _ h9 => h9) rfl dX12_isTuneHere_42 ?_
        refine lv_topi (fun x8 ex8 => ?_)
        have h := h x8 ex8
        refine va_iast hx hb hK hP hD hS 6 1 (f := ma M5 10) rfl rfl h.1 dX12_isTuneHere_45 (fun H locs hP hD hS => ?_)
        have h := h.2
        have hP := mP_a10 hP
        have hD := mD_a10 hD
        have h := h _ rfl
        generalize sa M5 10 (Int32.toNatClampNeg ((2 : Int32) * (mg M5 7))) x8 = M9 at hP hD h
        refine lv_aload_n hx hb dX12_isTuneHere_46 rfl (lv_at hl 0 rfl) ?_
        refine lv_iconst (v := 1) hx hb dX12_isTuneHere_47 (by decide) ?_
        refine lv_bipush (v := (8)) hx hb dX12_isTuneHere_48 (by decide) ?_
        have hFc := gs_free hD hS hA
        refine va_calli (va_runV (As := [.int (1 : Int32), .int (8 : Int32)]) (rest := []) ⟨hx, hb, hml, hown, hts⟩ (kX12_numberHere l dC dI cB cI cJ cZ h0 ad H.size (1 : Int32) (8 : Int32) M9 _ h) (cwV 2 hts gX12_isTuneHere_X12_numberHere rfl rfl rfl (by decide +kernel) ⟨Nat.le_of_ble_eq_true rfl, Nat.le_of_ble_eq_true rfl⟩) (mpV hK hP hD) rfl rfl hl.1 rfl (lv_room (Nat.le_of_ble_eq_true rfl)) dX12_isTuneHere_50 ⟨Nat.le_of_ble_eq_true rfl, Nat.le_of_ble_eq_true rfl⟩) hS (fun q _ z => hFc q z) hFc (fun r10 M11 t H1 locs ht hvm hw hB hz1 hk1 hS => ?_)
        obtain ⟨hP, hD⟩ := gs_back ht hFc hB
        generalize H1 = H at hP hS ⊢
        obtain ⟨b12, rfl, h⟩ := hw
        try dsimp only at h
        refine lv_if_ne (tgt := 58) hx hb dX12_isTuneHere_53 (by decide) (fun c13 => ?_) (fun c13 => ?_)
        · have h := h.2 c13
          refine lv_aload_n hx hb dX12_isTuneHere_58 rfl (lv_at hl 0 rfl) ?_
          refine va_get (D := (dC, dI)) (ci := 12) (v := .ref (ad 10)) (C := RX12) (T := TX12) (N := 37) hx hb hts hin hown hK hP 0 rfl rfl 10 (by decide) f2 (fun _ h9 => h9) rfl dX12_isTuneHere_59 ?_
          refine lv_iconst (v := 2) hx hb dX12_isTuneHere_62 (by decide) ?_
          refine lv_aload_n hx hb dX12_isTuneHere_63 rfl (lv_at hl 0 rfl) ?_
          refine va_get (D := (dC, dI)) (ci := 12) (v := .int (mg M11 7)) (C := RX12) (T := TX12) (N := 37) hx hb hts hin hown hK hP 0 rfl rfl 7 (by decide) f1 (fun _ h9 => h9) rfl dX12_isTuneHere_64 ?_
          refine lv_imul hx hb dX12_isTuneHere_67 ?_
          refine lv_iconst (v := 1) hx hb dX12_isTuneHere_68 (by decide) ?_
          refine lv_iadd hx hb dX12_isTuneHere_69 ?_
          refine lv_aload_n hx hb dX12_isTuneHere_70 rfl (lv_at hl 0 rfl) ?_
          refine va_get (D := (dC, dI)) (ci := 12) (v := .int (mg M11 15)) (C := RX12) (T := TX12) (N := 37) hx hb hts hin hown hK hP 0 rfl rfl 15 (by decide) f3 (fun _ h9 => h9) rfl dX12_isTuneHere_71 ?_
          refine lv_topi (fun x14 ex14 => ?_)
          have h := h x14 ex14
          refine va_iast hx hb hK hP hD hS 6 1 (f := ma M11 10) rfl rfl h.1 dX12_isTuneHere_74 (fun H locs hP hD hS => ?_)
          have h := h.2
          have hP := mP_a10 hP
          have hD := mD_a10 hD
          have h := h _ rfl
          generalize sa M11 10 (Int32.toNatClampNeg (((2 : Int32) * (mg M11 7)) + (1 : Int32))) x14 = M15 at hP hD h
          refine lv_aload_n hx hb dX12_isTuneHere_75 rfl (lv_at hl 0 rfl) ?_
          refine lv_dup hx hb dX12_isTuneHere_76 rfl ?_
          refine va_get (D := (dC, dI)) (ci := 12) (v := .int (mg M15 7)) (C := RX12) (T := TX12) (N := 37) hx hb hts hin hown hK hP 0 rfl rfl 7 (by decide) f1 (fun _ h9 => h9) rfl dX12_isTuneHere_77 ?_
          refine lv_iconst (v := 1) hx hb dX12_isTuneHere_80 (by decide) ?_
          refine lv_iadd hx hb dX12_isTuneHere_81 ?_
          refine lv_topi (fun x16 ex16 => ?_)
          have h := h x16 ex16
          refine va_put (D := (dC, dI)) (ci := 12) (v := .int x16) (ty := .int) (C := RX12) (T := TX12) (N := 37) hx hb hts hin tyX12 tyX12_ok nmX12 hown hK hP hD hS 0 rfl rfl 7 (by decide) f1 (fun _ h9 => h9) rfl (by decide +kernel) rfl rfl (Nat.le_of_ble_eq_true rfl) dX12_isTuneHere_82 (fun H locs hP hD hS => ?_)
          have hP := mP_f7 hP
          have hD := mD_f7 hD
          have h := h _ rfl
          generalize sg M15 7 x16 = M17 at hP hD h
          refine lv_iconst (v := 1) hx hb dX12_isTuneHere_85 (by decide) ?_
          exact W.zret (v := (bI true)) hx hb hr (nar_bI true) (fun t ht hW => ⟨⟨_, M17, rfl, ⟨true, rfl, h⟩, by rw [ht]; exact hP, va_K.moved hW.alike hK, hD⟩, hS.F ht⟩) hS.2.2 dX12_isTuneHere_86
        · have h := h.1 c13
          refine lv_iconst (v := 0) hx hb dX12_isTuneHere_56 (by decide) ?_
          exact W.zret (v := (bI false)) hx hb hr (nar_bI false) (fun t ht hW => ⟨⟨_, M11, rfl, ⟨false, rfl, h⟩, by rw [ht]; exact hP, va_K.moved hW.alike hK, hD⟩, hS.F ht⟩) hS.2.2 dX12_isTuneHere_57
      · have h := h.1 c7
        refine lv_iconst (v := 0) hx hb dX12_isTuneHere_29 (by decide) ?_
        exact W.zret (v := (bI false)) hx hb hr (nar_bI false) (fun t ht hW => ⟨⟨_, M5, rfl, ⟨false, rfl, h⟩, by rw [ht]; exact hP, va_K.moved hW.alike hK, hD⟩, hS.F ht⟩) hS.2.2 dX12_isTuneHere_30
    · have h := h.1 c1
      refine lv_aload_n hx hb dX12_isTuneHere_8 rfl (lv_at hl 0 rfl) ?_
      refine lv_iconst (v := 4) hx hb dX12_isTuneHere_9 (by decide) ?_
      refine lv_iload_n hx hb dX12_isTuneHere_10 rfl (lv_at hl 1 rfl) ?_
      have hFc := gs_free hD hS hA
      refine va_calli (va_runV (As := [.int (4 : Int32), .int p1]) (rest := []) ⟨hx, hb, hml, hown, hts⟩ (kX12_fails l dC dI cB cI cJ cZ h0 ad H.size (4 : Int32) p1 M _ h) (cwV 2 hts gX12_isTuneHere_X12_fails rfl rfl rfl (by decide +kernel) ⟨Nat.le_of_ble_eq_true rfl, Nat.le_of_ble_eq_true rfl⟩) (mpV hK hP hD) rfl rfl hl.1 rfl (lv_room (Nat.le_of_ble_eq_true rfl)) dX12_isTuneHere_11 ⟨Nat.le_of_ble_eq_true rfl, Nat.le_of_ble_eq_true rfl⟩) hS (fun q _ z => hFc q z) hFc (fun r18 M19 t H1 locs ht hvm hw hB hz1 hk1 hS => ?_)
      obtain ⟨hP, hD⟩ := gs_back ht hFc hB
      generalize H1 = H at hP hS ⊢
      obtain ⟨b20, rfl, h⟩ := hw
      try dsimp only at h
      exact W.zret (v := (bI b20)) hx hb hr (nar_bI b20) (fun t ht hW => ⟨⟨_, M19, rfl, ⟨b20, rfl, h⟩, by rw [ht]; exact hP, va_K.moved hW.alike hK, hD⟩, hS.F ht⟩) hS.2.2 dX12_isTuneHere_14
  have hl := lv_entry ([.ref h0, .int p1]) (n := 2) (Nat.le_of_ble_eq_true rfl)
  rw [lg_entry_eq]
  generalize (lg_sl ([.ref h0, .int p1]) ++ List.replicate (2 - (lg_sl ([.ref h0, .int p1])).length) Slot.unset).toArray = ls at hl ⊢
  have hl : lv_has ls 2 [(0, .ref h0), (1, .int p1)] := hl
  exact bE M s.heap [] ls hP hD hS hl h
def wX12_isWordTold (p1 : Int32) (M : gS) (Q : Bool → gS → Prop) : Prop :=
 (((mg M 8) = (4 : Int32) → (wX12_fails (4 : Int32) p1 M (fun (b14 : Bool) (M13 : gS) => (Q b14 M13))))
 ∧ (¬ (mg M 8) = (4 : Int32) → (wX12_passWord  M (fun (M3 : gS) => (wX12_numberHere (1 : Int32) (9 : Int32) M3 (fun (b6 : Bool) (M5 : gS) => (((bI b6) = 0 → (Q false M5))
 ∧ (¬ (bI b6) = 0 → (∀ x8 : Int32, x8 = (mg M5 15) → (vp_in (mg M5 8) 4 ∧ (∀ M9 : gS, M9 = sa M5 11 (Int32.toNatClampNeg (mg M5 8)) x8 → (∀ x10 : Int32, x10 = ((mg M9 8) + (1 : Int32)) → (∀ M11 : gS, M11 = sg M9 8 x10 → (Q true M11))))))))))))))
def rmX12_isWordTold : Room := { frames := 2, cells := 0, slots := 0, locals := 49 }
set_option maxHeartbeats 4000000 in
set_option maxRecDepth 100000 in
theorem kX12_isWordTold (l : Launch) (dC : Nat → ClassId) (dI : Nat → Nat → Nat) (cB cI cJ cZ : ClassId) (h0 : Nat) (ad : Nat → Nat) (sz : Nat) (p1 : Int32) (M : gS) (Q : Bool → gS → Prop) (h : wX12_isWordTold p1 M Q) : Met l yX12_isWordTold wsX12_isWordTold rmX12_isWordTold (va_Pc [.ref h0, .int p1] (mI dC dI cB cI cJ cZ h0 ad M sz)) (va_Qi (fun (r : Int32) (u : gS) => ∃ b : Bool, r = bI b ∧ Q b u) (mB dC dI cB cI cJ cZ h0 ad (va_A (mW cB cI cJ cZ h0 ad M) sz)) (va_A (mW cB cI cJ cZ h0 ad M) sz)) 0 0 (va_A (mW cB cI cJ cZ h0 ad M) sz) := by
  refine Met.ofW (cc := cX12_isWordTold) (maxL := 2) (ret := (some .boolean)) (by decide) rfl ?_
  intro p e s m args below meth c s₁ B hml hv
  obtain ⟨rfl, hsz, hP, hK, hD0⟩ := hv
  have hx := B.exec
  have hb := B.bytes
  have hr := B.returns
  have hts := atoms_spec (ws := wsX12_isWordTold) B.pre
  have hown : s.vm.findClass RX12 = some m.cls := findClass_of_methodNamed B.named
  have hlocks := B.notSynchronized
  subst hsz
  have hD := hD0.self (sz := s.heap.size)
  generalize hAe : va_A (mW cB cI cJ cZ h0 ad M) s.heap.size = A at hD ⊢
  have hA : ∀ q : Nat, s.heap.size ≤ q → A q := fun q h => by rw [← hAe]; exact Or.inr h
  have hS : va_S A s.heap s.heap [] := va_S.rf
  have hin : ∀ w ∈ wsX120, w ∈ wsX12_isWordTold := fun w h => List.mem_cons_of_mem _ (List.mem_append_right _ h)
  have f1 := hts (.fieldLink RX12 212 "LastWordsModel" "wordsRead" "I") (by decide +kernel)
  have f2 := hts (.fieldLink RX12 29 "LastWordsModel" "wordRead" "[I") (by decide +kernel)
  have f3 := hts (.fieldLink RX12 112 "LastWordsModel" "number" "I") (by decide +kernel)
  have bE : ∀ (M : gS) (H : Heap) (locs : List Loc) (ls : Array Slot), va_P (dC, dI) vwCl (mW cB cI cJ cZ h0 ad M) H → va_D A (mW cB cI cJ cZ h0 ad M) → va_S A s.heap H locs → lv_has ls 2 [(0, .ref h0), (1, .int p1)] → wX12_isWordTold p1 M Q → W p l e (headSpec wsX12_isWordTold rmX12_isWordTold).room s m ([.ref h0, .int p1] : List Value).toArray below meth c H locs 0 0 (MQ below (va_Qi (fun (r : Int32) (u : gS) => ∃ b : Bool, r = bI b ∧ Q b u) (mB dC dI cB cI cJ cZ h0 ad A) A) ([.ref h0, .int p1] : List Value).toArray s 0 0 A) (F0 m 0 ls []) := by
    intro M H locs ls hP hD hS hl h
    unfold wX12_isWordTold at h
    refine lv_aload_n hx hb dX12_isWordTold_0 rfl (lv_at hl 0 rfl) ?_
    refine va_get (D := (dC, dI)) (ci := 12) (v := .int (mg M 8)) (C := RX12) (T := TX12) (N := 37) hx hb hts hin hown hK hP 0 rfl rfl 8 (by decide) f1 (fun _ h9 => h9) rfl dX12_isWordTold_1 ?_
    refine lv_iconst (v := 4) hx hb dX12_isWordTold_4 (by decide) ?_
    refine lv_icmp_ne (tgt := 15) hx hb dX12_isWordTold_5 (by decide) (fun c1 => ?_) (fun c1 => ?_)
    · have h := h.2 c1
      refine lv_aload_n hx hb dX12_isWordTold_15 rfl (lv_at hl 0 rfl) ?_
      have hFc := gs_free hD hS hA
      refine va_callv (va_runV (As := []) (rest := []) ⟨hx, hb, hml, hown, hts⟩ (kX12_passWord l dC dI cB cI cJ cZ h0 ad H.size  M _ h) (cwV 0 hts gX12_isWordTold_X12_passWord rfl rfl rfl (by decide +kernel) ⟨Nat.le_of_ble_eq_true rfl, Nat.le_of_ble_eq_true rfl⟩) (mpV hK hP hD) rfl rfl hl.1 rfl (lv_room (Nat.le_of_ble_eq_true rfl)) dX12_isWordTold_16 ⟨Nat.le_of_ble_eq_true rfl, Nat.le_of_ble_eq_true rfl⟩) hS (fun q _ z => hFc q z) hFc (fun M3 t H1 locs ht hvm hw hB hz1 hk1 hS => ?_)
      obtain ⟨hP, hD⟩ := gs_back ht hFc hB
      generalize H1 = H at hP hS ⊢
      have h := hw
      try dsimp only at h
      refine lv_aload_n hx hb dX12_isWordTold_19 rfl (lv_at hl 0 rfl) ?_
      refine lv_iconst (v := 1) hx hb dX12_isWordTold_20 (by decide) ?_
      refine lv_bipush (v := (9)) hx hb dX12_isWordTold_21 (by decide) ?_
      have hFc := gs_free hD hS hA
      refine va_calli (va_runV (As := [.int (1 : Int32), .int (9 : Int32)]) (rest := []) ⟨hx, hb, hml, hown, hts⟩ (kX12_numberHere l dC dI cB cI cJ cZ h0 ad H.size (1 : Int32) (9 : Int32) M3 _ h) (cwV 2 hts gX12_isWordTold_X12_numberHere rfl rfl rfl (by decide +kernel) ⟨Nat.le_of_ble_eq_true rfl, Nat.le_of_ble_eq_true rfl⟩) (mpV hK hP hD) rfl rfl hl.1 rfl (lv_room (Nat.le_of_ble_eq_true rfl)) dX12_isWordTold_23 ⟨Nat.le_of_ble_eq_true rfl, Nat.le_of_ble_eq_true rfl⟩) hS (fun q _ z => hFc q z) hFc (fun r4 M5 t H1 locs ht hvm hw hB hz1 hk1 hS => ?_)
      obtain ⟨hP, hD⟩ := gs_back ht hFc hB
      generalize H1 = H at hP hS ⊢
      obtain ⟨b6, rfl, h⟩ := hw
      try dsimp only at h
      refine lv_if_ne (tgt := 31) hx hb dX12_isWordTold_26 (by decide) (fun c7 => ?_) (fun c7 => ?_)
      · have h := h.2 c7
        refine lv_aload_n hx hb dX12_isWordTold_31 rfl (lv_at hl 0 rfl) ?_
        refine va_get (D := (dC, dI)) (ci := 12) (v := .ref (ad 11)) (C := RX12) (T := TX12) (N := 37) hx hb hts hin hown hK hP 0 rfl rfl 11 (by decide) f2 (fun _ h9 => h9) rfl dX12_isWordTold_32 ?_
        refine lv_aload_n hx hb dX12_isWordTold_35 rfl (lv_at hl 0 rfl) ?_
        refine va_get (D := (dC, dI)) (ci := 12) (v := .int (mg M5 8)) (C := RX12) (T := TX12) (N := 37) hx hb hts hin hown hK hP 0 rfl rfl 8 (by decide) f1 (fun _ h9 => h9) rfl dX12_isWordTold_36 ?_
        refine lv_aload_n hx hb dX12_isWordTold_39 rfl (lv_at hl 0 rfl) ?_
        refine va_get (D := (dC, dI)) (ci := 12) (v := .int (mg M5 15)) (C := RX12) (T := TX12) (N := 37) hx hb hts hin hown hK hP 0 rfl rfl 15 (by decide) f3 (fun _ h9 => h9) rfl dX12_isWordTold_40 ?_
        refine lv_topi (fun x8 ex8 => ?_)
        have h := h x8 ex8
        refine va_iast hx hb hK hP hD hS 7 1 (f := ma M5 11) rfl rfl h.1 dX12_isWordTold_43 (fun H locs hP hD hS => ?_)
        have h := h.2
        have hP := mP_a11 hP
        have hD := mD_a11 hD
        have h := h _ rfl
        generalize sa M5 11 (Int32.toNatClampNeg (mg M5 8)) x8 = M9 at hP hD h
        refine lv_aload_n hx hb dX12_isWordTold_44 rfl (lv_at hl 0 rfl) ?_
        refine lv_dup hx hb dX12_isWordTold_45 rfl ?_
        refine va_get (D := (dC, dI)) (ci := 12) (v := .int (mg M9 8)) (C := RX12) (T := TX12) (N := 37) hx hb hts hin hown hK hP 0 rfl rfl 8 (by decide) f1 (fun _ h9 => h9) rfl dX12_isWordTold_46 ?_
        refine lv_iconst (v := 1) hx hb dX12_isWordTold_49 (by decide) ?_
        refine lv_iadd hx hb dX12_isWordTold_50 ?_
        refine lv_topi (fun x10 ex10 => ?_)
        have h := h x10 ex10
        refine va_put (D := (dC, dI)) (ci := 12) (v := .int x10) (ty := .int) (C := RX12) (T := TX12) (N := 37) hx hb hts hin tyX12 tyX12_ok nmX12 hown hK hP hD hS 0 rfl rfl 8 (by decide) f1 (fun _ h9 => h9) rfl (by decide +kernel) rfl rfl (Nat.le_of_ble_eq_true rfl) dX12_isWordTold_51 (fun H locs hP hD hS => ?_)
        have hP := mP_f8 hP
        have hD := mD_f8 hD
        have h := h _ rfl
        generalize sg M9 8 x10 = M11 at hP hD h
        refine lv_iconst (v := 1) hx hb dX12_isWordTold_54 (by decide) ?_
        exact W.zret (v := (bI true)) hx hb hr (nar_bI true) (fun t ht hW => ⟨⟨_, M11, rfl, ⟨true, rfl, h⟩, by rw [ht]; exact hP, va_K.moved hW.alike hK, hD⟩, hS.F ht⟩) hS.2.2 dX12_isWordTold_55
      · have h := h.1 c7
        refine lv_iconst (v := 0) hx hb dX12_isWordTold_29 (by decide) ?_
        exact W.zret (v := (bI false)) hx hb hr (nar_bI false) (fun t ht hW => ⟨⟨_, M5, rfl, ⟨false, rfl, h⟩, by rw [ht]; exact hP, va_K.moved hW.alike hK, hD⟩, hS.F ht⟩) hS.2.2 dX12_isWordTold_30
    · have h := h.1 c1
      refine lv_aload_n hx hb dX12_isWordTold_8 rfl (lv_at hl 0 rfl) ?_
      refine lv_iconst (v := 4) hx hb dX12_isWordTold_9 (by decide) ?_
      refine lv_iload_n hx hb dX12_isWordTold_10 rfl (lv_at hl 1 rfl) ?_
      have hFc := gs_free hD hS hA
      refine va_calli (va_runV (As := [.int (4 : Int32), .int p1]) (rest := []) ⟨hx, hb, hml, hown, hts⟩ (kX12_fails l dC dI cB cI cJ cZ h0 ad H.size (4 : Int32) p1 M _ h) (cwV 2 hts gX12_isWordTold_X12_fails rfl rfl rfl (by decide +kernel) ⟨Nat.le_of_ble_eq_true rfl, Nat.le_of_ble_eq_true rfl⟩) (mpV hK hP hD) rfl rfl hl.1 rfl (lv_room (Nat.le_of_ble_eq_true rfl)) dX12_isWordTold_11 ⟨Nat.le_of_ble_eq_true rfl, Nat.le_of_ble_eq_true rfl⟩) hS (fun q _ z => hFc q z) hFc (fun r12 M13 t H1 locs ht hvm hw hB hz1 hk1 hS => ?_)
      obtain ⟨hP, hD⟩ := gs_back ht hFc hB
      generalize H1 = H at hP hS ⊢
      obtain ⟨b14, rfl, h⟩ := hw
      try dsimp only at h
      exact W.zret (v := (bI b14)) hx hb hr (nar_bI b14) (fun t ht hW => ⟨⟨_, M13, rfl, ⟨b14, rfl, h⟩, by rw [ht]; exact hP, va_K.moved hW.alike hK, hD⟩, hS.F ht⟩) hS.2.2 dX12_isWordTold_14
  have hl := lv_entry ([.ref h0, .int p1]) (n := 2) (Nat.le_of_ble_eq_true rfl)
  rw [lg_entry_eq]
  generalize (lg_sl ([.ref h0, .int p1]) ++ List.replicate (2 - (lg_sl ([.ref h0, .int p1])).length) Slot.unset).toArray = ls at hl ⊢
  have hl : lv_has ls 2 [(0, .ref h0), (1, .int p1)] := hl
  exact bE M s.heap [] ls hP hD hS hl h
def wX12_isPurseHere  (M : gS) (Q : Bool → gS → Prop) : Prop :=
 (wX12_passWord  M (fun (M2 : gS) => (wX12_numberHere (0 : Int32) (1 : Int32) M2 (fun (b5 : Bool) (M4 : gS) => (((bI b5) = 0 → (Q false M4))
 ∧ (¬ (bI b5) = 0 → (∀ x7 : Int32, x7 = (mg M4 15) → (wX12_numberHere (0 : Int32) (7 : Int32) M4 (fun (b10 : Bool) (M9 : gS) => (((bI b10) = 0 → (Q false M9))
 ∧ (¬ (bI b10) = 0 → (∀ x12 : Int32, x12 = (mg M9 15) → (vp_in x7 2 ∧ (∀ M13 : gS, M13 = sa M9 12 (Int32.toNatClampNeg x7) x12 → (Q true M13)))))))))))))))
def rmX12_isPurseHere : Room := { frames := 2, cells := 0, slots := 0, locals := 49 }
set_option maxHeartbeats 4000000 in
set_option maxRecDepth 100000 in
theorem kX12_isPurseHere (l : Launch) (dC : Nat → ClassId) (dI : Nat → Nat → Nat) (cB cI cJ cZ : ClassId) (h0 : Nat) (ad : Nat → Nat) (sz : Nat)  (M : gS) (Q : Bool → gS → Prop) (h : wX12_isPurseHere  M Q) : Met l yX12_isPurseHere wsX12_isPurseHere rmX12_isPurseHere (va_Pc [.ref h0] (mI dC dI cB cI cJ cZ h0 ad M sz)) (va_Qi (fun (r : Int32) (u : gS) => ∃ b : Bool, r = bI b ∧ Q b u) (mB dC dI cB cI cJ cZ h0 ad (va_A (mW cB cI cJ cZ h0 ad M) sz)) (va_A (mW cB cI cJ cZ h0 ad M) sz)) 0 0 (va_A (mW cB cI cJ cZ h0 ad M) sz) := by
  refine Met.ofW (cc := cX12_isPurseHere) (maxL := 2) (ret := (some .boolean)) (by decide) rfl ?_
  intro p e s m args below meth c s₁ B hml hv
  obtain ⟨rfl, hsz, hP, hK, hD0⟩ := hv
  have hx := B.exec
  have hb := B.bytes
  have hr := B.returns
  have hts := atoms_spec (ws := wsX12_isPurseHere) B.pre
  have hown : s.vm.findClass RX12 = some m.cls := findClass_of_methodNamed B.named
  have hlocks := B.notSynchronized
  subst hsz
  have hD := hD0.self (sz := s.heap.size)
  generalize hAe : va_A (mW cB cI cJ cZ h0 ad M) s.heap.size = A at hD ⊢
  have hA : ∀ q : Nat, s.heap.size ≤ q → A q := fun q h => by rw [← hAe]; exact Or.inr h
  have hS : va_S A s.heap s.heap [] := va_S.rf
  have hin : ∀ w ∈ wsX120, w ∈ wsX12_isPurseHere := fun w h => List.mem_cons_of_mem _ (List.mem_append_right _ h)
  have f1 := hts (.fieldLink RX12 112 "LastWordsModel" "number" "I") (by decide +kernel)
  have f2 := hts (.fieldLink RX12 32 "LastWordsModel" "purseRead" "[I") (by decide +kernel)
  have bE : ∀ (M : gS) (H : Heap) (locs : List Loc) (ls : Array Slot), va_P (dC, dI) vwCl (mW cB cI cJ cZ h0 ad M) H → va_D A (mW cB cI cJ cZ h0 ad M) → va_S A s.heap H locs → lv_has ls 2 [(0, .ref h0)] → wX12_isPurseHere  M Q → W p l e (headSpec wsX12_isPurseHere rmX12_isPurseHere).room s m ([.ref h0] : List Value).toArray below meth c H locs 0 0 (MQ below (va_Qi (fun (r : Int32) (u : gS) => ∃ b : Bool, r = bI b ∧ Q b u) (mB dC dI cB cI cJ cZ h0 ad A) A) ([.ref h0] : List Value).toArray s 0 0 A) (F0 m 0 ls []) := by
    intro M H locs ls hP hD hS hl h
    unfold wX12_isPurseHere at h
    refine lv_aload_n hx hb dX12_isPurseHere_0 rfl (lv_at hl 0 rfl) ?_
    have hFc := gs_free hD hS hA
    refine va_callv (va_runV (As := []) (rest := []) ⟨hx, hb, hml, hown, hts⟩ (kX12_passWord l dC dI cB cI cJ cZ h0 ad H.size  M _ h) (cwV 0 hts gX12_isPurseHere_X12_passWord rfl rfl rfl (by decide +kernel) ⟨Nat.le_of_ble_eq_true rfl, Nat.le_of_ble_eq_true rfl⟩) (mpV hK hP hD) rfl rfl hl.1 rfl (lv_room (Nat.le_of_ble_eq_true rfl)) dX12_isPurseHere_1 ⟨Nat.le_of_ble_eq_true rfl, Nat.le_of_ble_eq_true rfl⟩) hS (fun q _ z => hFc q z) hFc (fun M2 t H1 locs ht hvm hw hB hz1 hk1 hS => ?_)
    obtain ⟨hP, hD⟩ := gs_back ht hFc hB
    generalize H1 = H at hP hS ⊢
    have h := hw
    try dsimp only at h
    refine lv_aload_n hx hb dX12_isPurseHere_4 rfl (lv_at hl 0 rfl) ?_
    refine lv_iconst (v := 0) hx hb dX12_isPurseHere_5 (by decide) ?_
    refine lv_iconst (v := 1) hx hb dX12_isPurseHere_6 (by decide) ?_
    have hFc := gs_free hD hS hA
    refine va_calli (va_runV (As := [.int (0 : Int32), .int (1 : Int32)]) (rest := []) ⟨hx, hb, hml, hown, hts⟩ (kX12_numberHere l dC dI cB cI cJ cZ h0 ad H.size (0 : Int32) (1 : Int32) M2 _ h) (cwV 2 hts gX12_isPurseHere_X12_numberHere rfl rfl rfl (by decide +kernel) ⟨Nat.le_of_ble_eq_true rfl, Nat.le_of_ble_eq_true rfl⟩) (mpV hK hP hD) rfl rfl hl.1 rfl (lv_room (Nat.le_of_ble_eq_true rfl)) dX12_isPurseHere_7 ⟨Nat.le_of_ble_eq_true rfl, Nat.le_of_ble_eq_true rfl⟩) hS (fun q _ z => hFc q z) hFc (fun r3 M4 t H1 locs ht hvm hw hB hz1 hk1 hS => ?_)
    obtain ⟨hP, hD⟩ := gs_back ht hFc hB
    generalize H1 = H at hP hS ⊢
    obtain ⟨b5, rfl, h⟩ := hw
    try dsimp only at h
    refine lv_if_ne (tgt := 15) hx hb dX12_isPurseHere_10 (by decide) (fun c6 => ?_) (fun c6 => ?_)
    · have h := h.2 c6
      refine lv_aload_n hx hb dX12_isPurseHere_15 rfl (lv_at hl 0 rfl) ?_
      refine va_get (D := (dC, dI)) (ci := 12) (v := .int (mg M4 15)) (C := RX12) (T := TX12) (N := 37) hx hb hts hin hown hK hP 0 rfl rfl 15 (by decide) f1 (fun _ h9 => h9) rfl dX12_isPurseHere_16 ?_
      refine lv_topi (fun x7 ex7 => ?_)
      have h := h x7 ex7
      refine lv_istore_n (lv' := [(1, .int x7), (0, .ref h0)]) hx hb dX12_isPurseHere_19 rfl hl (by decide) rfl (fun ls hl => ?_)
      refine lv_aload_n hx hb dX12_isPurseHere_20 rfl (lv_at hl 1 rfl) ?_
      refine lv_iconst (v := 0) hx hb dX12_isPurseHere_21 (by decide) ?_
      refine lv_bipush (v := (7)) hx hb dX12_isPurseHere_22 (by decide) ?_
      have hFc := gs_free hD hS hA
      refine va_calli (va_runV (As := [.int (0 : Int32), .int (7 : Int32)]) (rest := []) ⟨hx, hb, hml, hown, hts⟩ (kX12_numberHere l dC dI cB cI cJ cZ h0 ad H.size (0 : Int32) (7 : Int32) M4 _ h) (cwV 2 hts gX12_isPurseHere_X12_numberHere rfl rfl rfl (by decide +kernel) ⟨Nat.le_of_ble_eq_true rfl, Nat.le_of_ble_eq_true rfl⟩) (mpV hK hP hD) rfl rfl hl.1 rfl (lv_room (Nat.le_of_ble_eq_true rfl)) dX12_isPurseHere_24 ⟨Nat.le_of_ble_eq_true rfl, Nat.le_of_ble_eq_true rfl⟩) hS (fun q _ z => hFc q z) hFc (fun r8 M9 t H1 locs ht hvm hw hB hz1 hk1 hS => ?_)
      obtain ⟨hP, hD⟩ := gs_back ht hFc hB
      generalize H1 = H at hP hS ⊢
      obtain ⟨b10, rfl, h⟩ := hw
      try dsimp only at h
      refine lv_if_ne (tgt := 32) hx hb dX12_isPurseHere_27 (by decide) (fun c11 => ?_) (fun c11 => ?_)
      · have h := h.2 c11
        refine lv_aload_n hx hb dX12_isPurseHere_32 rfl (lv_at hl 1 rfl) ?_
        refine va_get (D := (dC, dI)) (ci := 12) (v := .ref (ad 12)) (C := RX12) (T := TX12) (N := 37) hx hb hts hin hown hK hP 0 rfl rfl 12 (by decide) f2 (fun _ h9 => h9) rfl dX12_isPurseHere_33 ?_
        refine lv_iload_n hx hb dX12_isPurseHere_36 rfl (lv_at hl 0 rfl) ?_
        refine lv_aload_n hx hb dX12_isPurseHere_37 rfl (lv_at hl 1 rfl) ?_
        refine va_get (D := (dC, dI)) (ci := 12) (v := .int (mg M9 15)) (C := RX12) (T := TX12) (N := 37) hx hb hts hin hown hK hP 0 rfl rfl 15 (by decide) f1 (fun _ h9 => h9) rfl dX12_isPurseHere_38 ?_
        refine lv_topi (fun x12 ex12 => ?_)
        have h := h x12 ex12
        refine va_iast hx hb hK hP hD hS 8 1 (f := ma M9 12) rfl rfl h.1 dX12_isPurseHere_41 (fun H locs hP hD hS => ?_)
        have h := h.2
        have hP := mP_a12 hP
        have hD := mD_a12 hD
        have h := h _ rfl
        generalize sa M9 12 (Int32.toNatClampNeg x7) x12 = M13 at hP hD h
        refine lv_iconst (v := 1) hx hb dX12_isPurseHere_42 (by decide) ?_
        exact W.zret (v := (bI true)) hx hb hr (nar_bI true) (fun t ht hW => ⟨⟨_, M13, rfl, ⟨true, rfl, h⟩, by rw [ht]; exact hP, va_K.moved hW.alike hK, hD⟩, hS.F ht⟩) hS.2.2 dX12_isPurseHere_43
      · have h := h.1 c11
        refine lv_iconst (v := 0) hx hb dX12_isPurseHere_30 (by decide) ?_
        exact W.zret (v := (bI false)) hx hb hr (nar_bI false) (fun t ht hW => ⟨⟨_, M9, rfl, ⟨false, rfl, h⟩, by rw [ht]; exact hP, va_K.moved hW.alike hK, hD⟩, hS.F ht⟩) hS.2.2 dX12_isPurseHere_31
    · have h := h.1 c6
      refine lv_iconst (v := 0) hx hb dX12_isPurseHere_13 (by decide) ?_
      exact W.zret (v := (bI false)) hx hb hr (nar_bI false) (fun t ht hW => ⟨⟨_, M4, rfl, ⟨false, rfl, h⟩, by rw [ht]; exact hP, va_K.moved hW.alike hK, hD⟩, hS.F ht⟩) hS.2.2 dX12_isPurseHere_14
  have hl := lv_entry ([.ref h0]) (n := 2) (Nat.le_of_ble_eq_true rfl)
  rw [lg_entry_eq]
  generalize (lg_sl ([.ref h0]) ++ List.replicate (2 - (lg_sl ([.ref h0])).length) Slot.unset).toArray = ls at hl ⊢
  have hl : lv_has ls 2 [(0, .ref h0)] := hl
  exact bE M s.heap [] ls hP hD hS hl h
def wX12_isAgainHere (p1 : Int32) (M : gS) (Q : Bool → gS → Prop) : Prop :=
 (((mg M 9) < 0 → (wX12_passWord  M (fun (M3 : gS) => (wX12_numberHere (0 : Int32) (9 : Int32) M3 (fun (b6 : Bool) (M5 : gS) => (((bI b6) = 0 → (Q false M5))
 ∧ (¬ (bI b6) = 0 → (∀ x8 : Int32, x8 = (mg M5 15) → (∀ M9 : gS, M9 = sg M5 9 x8 → (Q true M9))))))))))
 ∧ (¬ (mg M 9) < 0 → (wX12_fails (4 : Int32) p1 M (fun (b12 : Bool) (M11 : gS) => (Q b12 M11)))))
def rmX12_isAgainHere : Room := { frames := 2, cells := 0, slots := 0, locals := 49 }
set_option maxHeartbeats 4000000 in
set_option maxRecDepth 100000 in
theorem kX12_isAgainHere (l : Launch) (dC : Nat → ClassId) (dI : Nat → Nat → Nat) (cB cI cJ cZ : ClassId) (h0 : Nat) (ad : Nat → Nat) (sz : Nat) (p1 : Int32) (M : gS) (Q : Bool → gS → Prop) (h : wX12_isAgainHere p1 M Q) : Met l yX12_isAgainHere wsX12_isAgainHere rmX12_isAgainHere (va_Pc [.ref h0, .int p1] (mI dC dI cB cI cJ cZ h0 ad M sz)) (va_Qi (fun (r : Int32) (u : gS) => ∃ b : Bool, r = bI b ∧ Q b u) (mB dC dI cB cI cJ cZ h0 ad (va_A (mW cB cI cJ cZ h0 ad M) sz)) (va_A (mW cB cI cJ cZ h0 ad M) sz)) 0 0 (va_A (mW cB cI cJ cZ h0 ad M) sz) := by
  refine Met.ofW (cc := cX12_isAgainHere) (maxL := 2) (ret := (some .boolean)) (by decide) rfl ?_
  intro p e s m args below meth c s₁ B hml hv
  obtain ⟨rfl, hsz, hP, hK, hD0⟩ := hv
  have hx := B.exec
  have hb := B.bytes
  have hr := B.returns
  have hts := atoms_spec (ws := wsX12_isAgainHere) B.pre
  have hown : s.vm.findClass RX12 = some m.cls := findClass_of_methodNamed B.named
  have hlocks := B.notSynchronized
  subst hsz
  have hD := hD0.self (sz := s.heap.size)
  generalize hAe : va_A (mW cB cI cJ cZ h0 ad M) s.heap.size = A at hD ⊢
  have hA : ∀ q : Nat, s.heap.size ≤ q → A q := fun q h => by rw [← hAe]; exact Or.inr h
  have hS : va_S A s.heap s.heap [] := va_S.rf
  have hin : ∀ w ∈ wsX120, w ∈ wsX12_isAgainHere := fun w h => List.mem_cons_of_mem _ (List.mem_append_right _ h)
  have f1 := hts (.fieldLink RX12 215 "LastWordsModel" "againRead" "I") (by decide +kernel)
  have f2 := hts (.fieldLink RX12 112 "LastWordsModel" "number" "I") (by decide +kernel)
  have bE : ∀ (M : gS) (H : Heap) (locs : List Loc) (ls : Array Slot), va_P (dC, dI) vwCl (mW cB cI cJ cZ h0 ad M) H → va_D A (mW cB cI cJ cZ h0 ad M) → va_S A s.heap H locs → lv_has ls 2 [(0, .ref h0), (1, .int p1)] → wX12_isAgainHere p1 M Q → W p l e (headSpec wsX12_isAgainHere rmX12_isAgainHere).room s m ([.ref h0, .int p1] : List Value).toArray below meth c H locs 0 0 (MQ below (va_Qi (fun (r : Int32) (u : gS) => ∃ b : Bool, r = bI b ∧ Q b u) (mB dC dI cB cI cJ cZ h0 ad A) A) ([.ref h0, .int p1] : List Value).toArray s 0 0 A) (F0 m 0 ls []) := by
    intro M H locs ls hP hD hS hl h
    unfold wX12_isAgainHere at h
    refine lv_aload_n hx hb dX12_isAgainHere_0 rfl (lv_at hl 0 rfl) ?_
    refine va_get (D := (dC, dI)) (ci := 12) (v := .int (mg M 9)) (C := RX12) (T := TX12) (N := 37) hx hb hts hin hown hK hP 0 rfl rfl 9 (by decide) f1 (fun _ h9 => h9) rfl dX12_isAgainHere_1 ?_
    refine lv_if_lt (tgt := 14) hx hb dX12_isAgainHere_4 (by decide) (fun c1 => ?_) (fun c1 => ?_)
    · have h := h.1 c1
      refine lv_aload_n hx hb dX12_isAgainHere_14 rfl (lv_at hl 0 rfl) ?_
      have hFc := gs_free hD hS hA
      refine va_callv (va_runV (As := []) (rest := []) ⟨hx, hb, hml, hown, hts⟩ (kX12_passWord l dC dI cB cI cJ cZ h0 ad H.size  M _ h) (cwV 0 hts gX12_isAgainHere_X12_passWord rfl rfl rfl (by decide +kernel) ⟨Nat.le_of_ble_eq_true rfl, Nat.le_of_ble_eq_true rfl⟩) (mpV hK hP hD) rfl rfl hl.1 rfl (lv_room (Nat.le_of_ble_eq_true rfl)) dX12_isAgainHere_15 ⟨Nat.le_of_ble_eq_true rfl, Nat.le_of_ble_eq_true rfl⟩) hS (fun q _ z => hFc q z) hFc (fun M3 t H1 locs ht hvm hw hB hz1 hk1 hS => ?_)
      obtain ⟨hP, hD⟩ := gs_back ht hFc hB
      generalize H1 = H at hP hS ⊢
      have h := hw
      try dsimp only at h
      refine lv_aload_n hx hb dX12_isAgainHere_18 rfl (lv_at hl 0 rfl) ?_
      refine lv_iconst (v := 0) hx hb dX12_isAgainHere_19 (by decide) ?_
      refine lv_bipush (v := (9)) hx hb dX12_isAgainHere_20 (by decide) ?_
      have hFc := gs_free hD hS hA
      refine va_calli (va_runV (As := [.int (0 : Int32), .int (9 : Int32)]) (rest := []) ⟨hx, hb, hml, hown, hts⟩ (kX12_numberHere l dC dI cB cI cJ cZ h0 ad H.size (0 : Int32) (9 : Int32) M3 _ h) (cwV 2 hts gX12_isAgainHere_X12_numberHere rfl rfl rfl (by decide +kernel) ⟨Nat.le_of_ble_eq_true rfl, Nat.le_of_ble_eq_true rfl⟩) (mpV hK hP hD) rfl rfl hl.1 rfl (lv_room (Nat.le_of_ble_eq_true rfl)) dX12_isAgainHere_22 ⟨Nat.le_of_ble_eq_true rfl, Nat.le_of_ble_eq_true rfl⟩) hS (fun q _ z => hFc q z) hFc (fun r4 M5 t H1 locs ht hvm hw hB hz1 hk1 hS => ?_)
      obtain ⟨hP, hD⟩ := gs_back ht hFc hB
      generalize H1 = H at hP hS ⊢
      obtain ⟨b6, rfl, h⟩ := hw
      try dsimp only at h
      refine lv_if_ne (tgt := 30) hx hb dX12_isAgainHere_25 (by decide) (fun c7 => ?_) (fun c7 => ?_)
      · have h := h.2 c7
        refine lv_aload_n hx hb dX12_isAgainHere_30 rfl (lv_at hl 0 rfl) ?_
        refine lv_aload_n hx hb dX12_isAgainHere_31 rfl (lv_at hl 0 rfl) ?_
        refine va_get (D := (dC, dI)) (ci := 12) (v := .int (mg M5 15)) (C := RX12) (T := TX12) (N := 37) hx hb hts hin hown hK hP 0 rfl rfl 15 (by decide) f2 (fun _ h9 => h9) rfl dX12_isAgainHere_32 ?_
        refine lv_topi (fun x8 ex8 => ?_)
        have h := h x8 ex8
        refine va_put (D := (dC, dI)) (ci := 12) (v := .int x8) (ty := .int) (C := RX12) (T := TX12) (N := 37) hx hb hts hin tyX12 tyX12_ok nmX12 hown hK hP hD hS 0 rfl rfl 9 (by decide) f1 (fun _ h9 => h9) rfl (by decide +kernel) rfl rfl (Nat.le_of_ble_eq_true rfl) dX12_isAgainHere_35 (fun H locs hP hD hS => ?_)
        have hP := mP_f9 hP
        have hD := mD_f9 hD
        have h := h _ rfl
        generalize sg M5 9 x8 = M9 at hP hD h
        refine lv_iconst (v := 1) hx hb dX12_isAgainHere_38 (by decide) ?_
        exact W.zret (v := (bI true)) hx hb hr (nar_bI true) (fun t ht hW => ⟨⟨_, M9, rfl, ⟨true, rfl, h⟩, by rw [ht]; exact hP, va_K.moved hW.alike hK, hD⟩, hS.F ht⟩) hS.2.2 dX12_isAgainHere_39
      · have h := h.1 c7
        refine lv_iconst (v := 0) hx hb dX12_isAgainHere_28 (by decide) ?_
        exact W.zret (v := (bI false)) hx hb hr (nar_bI false) (fun t ht hW => ⟨⟨_, M5, rfl, ⟨false, rfl, h⟩, by rw [ht]; exact hP, va_K.moved hW.alike hK, hD⟩, hS.F ht⟩) hS.2.2 dX12_isAgainHere_29
    · have h := h.2 c1
      refine lv_aload_n hx hb dX12_isAgainHere_7 rfl (lv_at hl 0 rfl) ?_
      refine lv_iconst (v := 4) hx hb dX12_isAgainHere_8 (by decide) ?_
      refine lv_iload_n hx hb dX12_isAgainHere_9 rfl (lv_at hl 1 rfl) ?_
      have hFc := gs_free hD hS hA
      refine va_calli (va_runV (As := [.int (4 : Int32), .int p1]) (rest := []) ⟨hx, hb, hml, hown, hts⟩ (kX12_fails l dC dI cB cI cJ cZ h0 ad H.size (4 : Int32) p1 M _ h) (cwV 2 hts gX12_isAgainHere_X12_fails rfl rfl rfl (by decide +kernel) ⟨Nat.le_of_ble_eq_true rfl, Nat.le_of_ble_eq_true rfl⟩) (mpV hK hP hD) rfl rfl hl.1 rfl (lv_room (Nat.le_of_ble_eq_true rfl)) dX12_isAgainHere_10 ⟨Nat.le_of_ble_eq_true rfl, Nat.le_of_ble_eq_true rfl⟩) hS (fun q _ z => hFc q z) hFc (fun r10 M11 t H1 locs ht hvm hw hB hz1 hk1 hS => ?_)
      obtain ⟨hP, hD⟩ := gs_back ht hFc hB
      generalize H1 = H at hP hS ⊢
      obtain ⟨b12, rfl, h⟩ := hw
      try dsimp only at h
      exact W.zret (v := (bI b12)) hx hb hr (nar_bI b12) (fun t ht hW => ⟨⟨_, M11, rfl, ⟨b12, rfl, h⟩, by rw [ht]; exact hP, va_K.moved hW.alike hK, hD⟩, hS.F ht⟩) hS.2.2 dX12_isAgainHere_13
  have hl := lv_entry ([.ref h0, .int p1]) (n := 2) (Nat.le_of_ble_eq_true rfl)
  rw [lg_entry_eq]
  generalize (lg_sl ([.ref h0, .int p1]) ++ List.replicate (2 - (lg_sl ([.ref h0, .int p1])).length) Slot.unset).toArray = ls at hl ⊢
  have hl : lv_has ls 2 [(0, .ref h0), (1, .int p1)] := hl
  exact bE M s.heap [] ls hP hD hS hl h
def wX12_doingSort  (M : gS) (Q : Int32 → gS → Prop) : Prop :=
 (wX12_isWord (7561593 : Int64) M (fun (b3 : Bool) (M2 : gS) => (((bI b3) = 0 → (wX12_isWord (499968536439 : Int64) M2 (fun (b7 : Bool) (M6 : gS) => (((bI b7) = 0 → (wX12_isWord (495874305132 : Int64) M6 (fun (b11 : Bool) (M10 : gS) => (((bI b11) = 0 → (Q (-1 : Int32) M10))
 ∧ (¬ (bI b11) = 0 → (Q (2 : Int32) M10))))))
 ∧ (¬ (bI b7) = 0 → (Q (1 : Int32) M6))))))
 ∧ (¬ (bI b3) = 0 → (Q (0 : Int32) M2)))))
def rmX12_doingSort : Room := { frames := 2, cells := 0, slots := 0, locals := 46 }
set_option maxHeartbeats 4000000 in
set_option maxRecDepth 100000 in
theorem kX12_doingSort (l : Launch) (dC : Nat → ClassId) (dI : Nat → Nat → Nat) (cB cI cJ cZ : ClassId) (h0 : Nat) (ad : Nat → Nat) (sz : Nat)  (M : gS) (Q : Int32 → gS → Prop) (h : wX12_doingSort  M Q) : Met l yX12_doingSort wsX12_doingSort rmX12_doingSort (va_Pc [.ref h0] (mI dC dI cB cI cJ cZ h0 ad M sz)) (va_Qi (fun (r : Int32) (u : gS) => Q r u) (mB dC dI cB cI cJ cZ h0 ad (va_A (mW cB cI cJ cZ h0 ad M) sz)) (va_A (mW cB cI cJ cZ h0 ad M) sz)) 0 0 (va_A (mW cB cI cJ cZ h0 ad M) sz) := by
  refine Met.ofW (cc := cX12_doingSort) (maxL := 1) (ret := (some .int)) (by decide) rfl ?_
  intro p e s m args below meth c s₁ B hml hv
  obtain ⟨rfl, hsz, hP, hK, hD0⟩ := hv
  have hx := B.exec
  have hb := B.bytes
  have hr := B.returns
  have hts := atoms_spec (ws := wsX12_doingSort) B.pre
  have hown : s.vm.findClass RX12 = some m.cls := findClass_of_methodNamed B.named
  have hlocks := B.notSynchronized
  subst hsz
  have hD := hD0.self (sz := s.heap.size)
  generalize hAe : va_A (mW cB cI cJ cZ h0 ad M) s.heap.size = A at hD ⊢
  have hA : ∀ q : Nat, s.heap.size ≤ q → A q := fun q h => by rw [← hAe]; exact Or.inr h
  have hS : va_S A s.heap s.heap [] := va_S.rf
  have f1 := hts (.constantLong RX12 218 (7561593)) (by decide +kernel)
  have f2 := hts (.constantLong RX12 220 (499968536439)) (by decide +kernel)
  have f3 := hts (.constantLong RX12 222 (495874305132)) (by decide +kernel)
  have bE : ∀ (M : gS) (H : Heap) (locs : List Loc) (ls : Array Slot), va_P (dC, dI) vwCl (mW cB cI cJ cZ h0 ad M) H → va_D A (mW cB cI cJ cZ h0 ad M) → va_S A s.heap H locs → lv_has ls 1 [(0, .ref h0)] → wX12_doingSort  M Q → W p l e (headSpec wsX12_doingSort rmX12_doingSort).room s m ([.ref h0] : List Value).toArray below meth c H locs 0 0 (MQ below (va_Qi (fun (r : Int32) (u : gS) => Q r u) (mB dC dI cB cI cJ cZ h0 ad A) A) ([.ref h0] : List Value).toArray s 0 0 A) (F0 m 0 ls []) := by
    intro M H locs ls hP hD hS hl h
    unfold wX12_doingSort at h
    refine lv_aload_n hx hb dX12_doingSort_0 rfl (lv_at hl 0 rfl) ?_
    refine lv_ldc2 (v := (7561593)) hx hb hown f1 dX12_doingSort_1 ?_
    have hFc := gs_free hD hS hA
    refine va_calli (va_runV (As := [.long (7561593 : Int64)]) (rest := []) ⟨hx, hb, hml, hown, hts⟩ (kX12_isWord l dC dI cB cI cJ cZ h0 ad H.size (7561593 : Int64) M _ h) (cwV 1 hts gX12_doingSort_X12_isWord rfl rfl rfl (by decide +kernel) ⟨Nat.le_of_ble_eq_true rfl, Nat.le_of_ble_eq_true rfl⟩) (mpV hK hP hD) rfl rfl hl.1 rfl (lv_room (Nat.le_of_ble_eq_true rfl)) dX12_doingSort_4 ⟨Nat.le_of_ble_eq_true rfl, Nat.le_of_ble_eq_true rfl⟩) hS (fun q _ z => hFc q z) hFc (fun r1 M2 t H1 locs ht hvm hw hB hz1 hk1 hS => ?_)
    obtain ⟨hP, hD⟩ := gs_back ht hFc hB
    generalize H1 = H at hP hS ⊢
    obtain ⟨b3, rfl, h⟩ := hw
    try dsimp only at h
    refine lv_if_eq (tgt := 14) hx hb dX12_doingSort_7 (by decide) (fun c4 => ?_) (fun c4 => ?_)
    · have h := h.1 c4
      refine lv_aload_n hx hb dX12_doingSort_14 rfl (lv_at hl 0 rfl) ?_
      refine lv_ldc2 (v := (499968536439)) hx hb hown f2 dX12_doingSort_15 ?_
      have hFc := gs_free hD hS hA
      refine va_calli (va_runV (As := [.long (499968536439 : Int64)]) (rest := []) ⟨hx, hb, hml, hown, hts⟩ (kX12_isWord l dC dI cB cI cJ cZ h0 ad H.size (499968536439 : Int64) M2 _ h) (cwV 1 hts gX12_doingSort_X12_isWord rfl rfl rfl (by decide +kernel) ⟨Nat.le_of_ble_eq_true rfl, Nat.le_of_ble_eq_true rfl⟩) (mpV hK hP hD) rfl rfl hl.1 rfl (lv_room (Nat.le_of_ble_eq_true rfl)) dX12_doingSort_18 ⟨Nat.le_of_ble_eq_true rfl, Nat.le_of_ble_eq_true rfl⟩) hS (fun q _ z => hFc q z) hFc (fun r5 M6 t H1 locs ht hvm hw hB hz1 hk1 hS => ?_)
      obtain ⟨hP, hD⟩ := gs_back ht hFc hB
      generalize H1 = H at hP hS ⊢
      obtain ⟨b7, rfl, h⟩ := hw
      try dsimp only at h
      refine lv_if_eq (tgt := 28) hx hb dX12_doingSort_21 (by decide) (fun c8 => ?_) (fun c8 => ?_)
      · have h := h.1 c8
        refine lv_aload_n hx hb dX12_doingSort_28 rfl (lv_at hl 0 rfl) ?_
        refine lv_ldc2 (v := (495874305132)) hx hb hown f3 dX12_doingSort_29 ?_
        have hFc := gs_free hD hS hA
        refine va_calli (va_runV (As := [.long (495874305132 : Int64)]) (rest := []) ⟨hx, hb, hml, hown, hts⟩ (kX12_isWord l dC dI cB cI cJ cZ h0 ad H.size (495874305132 : Int64) M6 _ h) (cwV 1 hts gX12_doingSort_X12_isWord rfl rfl rfl (by decide +kernel) ⟨Nat.le_of_ble_eq_true rfl, Nat.le_of_ble_eq_true rfl⟩) (mpV hK hP hD) rfl rfl hl.1 rfl (lv_room (Nat.le_of_ble_eq_true rfl)) dX12_doingSort_32 ⟨Nat.le_of_ble_eq_true rfl, Nat.le_of_ble_eq_true rfl⟩) hS (fun q _ z => hFc q z) hFc (fun r9 M10 t H1 locs ht hvm hw hB hz1 hk1 hS => ?_)
        obtain ⟨hP, hD⟩ := gs_back ht hFc hB
        generalize H1 = H at hP hS ⊢
        obtain ⟨b11, rfl, h⟩ := hw
        try dsimp only at h
        refine lv_if_eq (tgt := 42) hx hb dX12_doingSort_35 (by decide) (fun c12 => ?_) (fun c12 => ?_)
        · have h := h.1 c12
          refine lv_iconst (v := (-1)) hx hb dX12_doingSort_42 (by decide) ?_
          exact W.iret (v := (-1 : Int32)) hx hb hr (fun t ht hW => ⟨⟨_, M10, rfl, h, by rw [ht]; exact hP, va_K.moved hW.alike hK, hD⟩, hS.F ht⟩) hS.2.2 dX12_doingSort_43
        · have h := h.2 c12
          refine lv_iconst (v := 2) hx hb dX12_doingSort_38 (by decide) ?_
          refine lv_goto (tgt := 43) hx hb dX12_doingSort_39 (by decide) ?_
          exact W.iret (v := (2 : Int32)) hx hb hr (fun t ht hW => ⟨⟨_, M10, rfl, h, by rw [ht]; exact hP, va_K.moved hW.alike hK, hD⟩, hS.F ht⟩) hS.2.2 dX12_doingSort_43
      · have h := h.2 c8
        refine lv_iconst (v := 1) hx hb dX12_doingSort_24 (by decide) ?_
        refine lv_goto (tgt := 43) hx hb dX12_doingSort_25 (by decide) ?_
        exact W.iret (v := (1 : Int32)) hx hb hr (fun t ht hW => ⟨⟨_, M6, rfl, h, by rw [ht]; exact hP, va_K.moved hW.alike hK, hD⟩, hS.F ht⟩) hS.2.2 dX12_doingSort_43
    · have h := h.2 c4
      refine lv_iconst (v := 0) hx hb dX12_doingSort_10 (by decide) ?_
      refine lv_goto (tgt := 43) hx hb dX12_doingSort_11 (by decide) ?_
      exact W.iret (v := (0 : Int32)) hx hb hr (fun t ht hW => ⟨⟨_, M2, rfl, h, by rw [ht]; exact hP, va_K.moved hW.alike hK, hD⟩, hS.F ht⟩) hS.2.2 dX12_doingSort_43
  have hl := lv_entry ([.ref h0]) (n := 1) (Nat.le_of_ble_eq_true rfl)
  rw [lg_entry_eq]
  generalize (lg_sl ([.ref h0]) ++ List.replicate (1 - (lg_sl ([.ref h0])).length) Slot.unset).toArray = ls at hl ⊢
  have hl : lv_has ls 1 [(0, .ref h0)] := hl
  exact bE M s.heap [] ls hP hD hS hl h
def wX12_clauseHere_116  (Q : Bool → gS → Prop) (y1 : Int32) (y2 : Int32) (z1 : Int32) (z0 : Int32) (M : gS) : Prop :=
 ((z1 = z0 → (wX12_fails (4 : Int32) y1 M (fun (b36 : Bool) (M35 : gS) => (Q b36 M35))))
 ∧ (¬ z1 = z0 → (∀ x2 : Int32, x2 = ((mg M 19) + (1 : Int32)) → (∀ M3 : gS, M3 = sg M 19 x2 → ((y2 = 0 → (wX12_doingSort  M3 (fun (r29 : Int32) (M30 : gS) => (wX12_isDoingHere r29 M30 (fun (b33 : Bool) (M32 : gS) => (Q b33 M32))))))
 ∧ (¬ y2 = 0 → (wX12_isWord (1953853029 : Int64) M3 (fun (b7 : Bool) (M6 : gS) => (((bI b7) = 0 → (wX12_isWord (2003792484 : Int64) M6 (fun (b11 : Bool) (M10 : gS) => (((bI b11) = 0 → (wX12_isWord (483006772069 : Int64) M10 (fun (b15 : Bool) (M14 : gS) => (((bI b15) = 0 → (wX12_isAgainHere y1 M14 (fun (b19 : Bool) (M18 : gS) => (Q b19 M18))))
 ∧ (¬ (bI b15) = 0 → (wX12_isPurseHere  M14 (fun (b22 : Bool) (M21 : gS) => (Q b22 M21))))))))
 ∧ (¬ (bI b11) = 0 → (wX12_isWordTold y1 M10 (fun (b25 : Bool) (M24 : gS) => (Q b25 M24))))))))
 ∧ (¬ (bI b7) = 0 → (wX12_isTuneHere y1 M6 (fun (b28 : Bool) (M27 : gS) => (Q b28 M27)))))))))))))
def wX12_clauseHere_89  (Q : Bool → gS → Prop) (y1 : Int32) (y2 : Int32) (z0 : Int32) (M : gS) : Prop :=
 ((z0 = 0 → (wX12_fails (0 : Int32) y1 M (fun (b5 : Bool) (M4 : gS) => (Q b5 M4))))
 ∧ (¬ z0 = 0 → ((y2 = 0 → (wX12_clauseHere_116  Q y1 y2 (mg M 19) (12 : Int32) M))
 ∧ (¬ y2 = 0 → (wX12_clauseHere_116  Q y1 y2 (mg M 19) (16 : Int32) M)))))
def wX12_clauseHere_69  (Q : Bool → gS → Prop) (y1 : Int32) (y2 : Int32) (M : gS) : Prop :=
 (wX12_clauseHere_89  Q y1 y2 (1 : Int32) M)
def wX12_clauseHere_24  (Q : Bool → gS → Prop) (y1 : Int32) (z0 : Int32) (M : gS) : Prop :=
 ((z0 = 0 → (wX12_doingSort  M (fun (r2 : Int32) (M3 : gS) => ((r2 < 0 → (wX12_clauseHere_89  Q y1 z0 (0 : Int32) M3))
 ∧ (¬ r2 < 0 → (wX12_clauseHere_89  Q y1 z0 (1 : Int32) M3))))))
 ∧ (¬ z0 = 0 → (wX12_isWord (1953853029 : Int64) M (fun (b7 : Bool) (M6 : gS) => (((bI b7) = 0 → (wX12_isWord (2003792484 : Int64) M6 (fun (b11 : Bool) (M10 : gS) => (((bI b11) = 0 → (wX12_isWord (483006772069 : Int64) M10 (fun (b15 : Bool) (M14 : gS) => (((bI b15) = 0 → (wX12_isWord (418346264942 : Int64) M14 (fun (b19 : Bool) (M18 : gS) => (((bI b19) = 0 → (wX12_clauseHere_89  Q y1 z0 (0 : Int32) M18))
 ∧ (¬ (bI b19) = 0 → (wX12_clauseHere_69  Q y1 z0 M18))))))
 ∧ (¬ (bI b15) = 0 → (wX12_clauseHere_69  Q y1 z0 M14))))))
 ∧ (¬ (bI b11) = 0 → (wX12_clauseHere_69  Q y1 z0 M10))))))
 ∧ (¬ (bI b7) = 0 → (wX12_clauseHere_69  Q y1 z0 M6)))))))
def wX12_clauseHere  (M : gS) (Q : Bool → gS → Prop) : Prop :=
 (wX12_see  M (fun (r1 : Int32) (M2 : gS) => (∀ x3 : Int32, x3 = (mg M2 13) → (((mg M2 16) = (6 : Int32) → (wX12_clauseHere_24  Q x3 (1 : Int32) M2))
 ∧ (¬ (mg M2 16) = (6 : Int32) → (wX12_clauseHere_24  Q x3 (0 : Int32) M2))))))
def rmX12_clauseHere : Room := { frames := 10, cells := 0, slots := 0, locals := 220 }
set_option maxHeartbeats 4000000 in
set_option maxRecDepth 100000 in
theorem kX12_clauseHere (l : Launch) (dC : Nat → ClassId) (dI : Nat → Nat → Nat) (cB cI cJ cZ : ClassId) (h0 : Nat) (ad : Nat → Nat) (sz : Nat)  (M : gS) (Q : Bool → gS → Prop) (h : wX12_clauseHere  M Q) : Met l yX12_clauseHere wsX12_clauseHere rmX12_clauseHere (va_Pc [.ref h0] (mI dC dI cB cI cJ cZ h0 ad M sz)) (va_Qi (fun (r : Int32) (u : gS) => ∃ b : Bool, r = bI b ∧ Q b u) (mB dC dI cB cI cJ cZ h0 ad (va_A (mW cB cI cJ cZ h0 ad M) sz)) (va_A (mW cB cI cJ cZ h0 ad M) sz)) 0 0 (va_A (mW cB cI cJ cZ h0 ad M) sz) := by
  refine Met.ofW (cc := cX12_clauseHere) (maxL := 4) (ret := (some .boolean)) (by decide) rfl ?_
  intro p e s m args below meth c s₁ B hml hv
  obtain ⟨rfl, hsz, hP, hK, hD0⟩ := hv
  have hx := B.exec
  have hb := B.bytes
  have hr := B.returns
  have hts := atoms_spec (ws := wsX12_clauseHere) B.pre
  have hown : s.vm.findClass RX12 = some m.cls := findClass_of_methodNamed B.named
  have hlocks := B.notSynchronized
  subst hsz
  have hD := hD0.self (sz := s.heap.size)
  generalize hAe : va_A (mW cB cI cJ cZ h0 ad M) s.heap.size = A at hD ⊢
  have hA : ∀ q : Nat, s.heap.size ≤ q → A q := fun q h => by rw [← hAe]; exact Or.inr h
  have hS : va_S A s.heap s.heap [] := va_S.rf
  have hin : ∀ w ∈ wsX120, w ∈ wsX12_clauseHere := fun w h => List.mem_cons_of_mem _ (List.mem_append_right _ h)
  have f1 := hts (.fieldLink RX12 235 "LastWordsModel" "lines" "I") (by decide +kernel)
  have f2 := hts (.constantLong RX12 224 (1953853029)) (by decide +kernel)
  have f3 := hts (.constantLong RX12 226 (2003792484)) (by decide +kernel)
  have f4 := hts (.constantLong RX12 228 (483006772069)) (by decide +kernel)
  have f5 := hts (.constantLong RX12 230 (418346264942)) (by decide +kernel)
  have f6 := hts (.fieldLink RX12 87 "LastWordsModel" "next" "I") (by decide +kernel)
  have f7 := hts (.fieldLink RX12 137 "LastWordsModel" "text" "I") (by decide +kernel)
  have b116 : ∀ (y1 : Int32) (y2 : Int32) (z1 : Int32) (z0 : Int32) (M : gS) (H : Heap) (locs : List Loc) (ls : Array Slot), va_P (dC, dI) vwCl (mW cB cI cJ cZ h0 ad M) H → va_D A (mW cB cI cJ cZ h0 ad M) → va_S A s.heap H locs → lv_has ls 4 [(0, .ref h0), (1, .int y1), (2, .int y2)] → wX12_clauseHere_116  Q y1 y2 z1 z0 M → W p l e (headSpec wsX12_clauseHere rmX12_clauseHere).room s m ([.ref h0] : List Value).toArray below meth c H locs 0 0 (MQ below (va_Qi (fun (r : Int32) (u : gS) => ∃ b : Bool, r = bI b ∧ Q b u) (mB dC dI cB cI cJ cZ h0 ad A) A) ([.ref h0] : List Value).toArray s 0 0 A) (F0 m 116 ls [.int z0, .int z1]) := by
    intro  y1 y2 z1 z0 M H locs ls hP hD hS hl h
    unfold wX12_clauseHere_116 at h
    refine lv_icmp_ne (tgt := 126) hx hb dX12_clauseHere_116 (by decide) (fun c1 => ?_) (fun c1 => ?_)
    · have h := h.2 c1
      refine lv_aload_n hx hb dX12_clauseHere_126 rfl (lv_at hl 0 rfl) ?_
      refine lv_dup hx hb dX12_clauseHere_127 rfl ?_
      refine va_get (D := (dC, dI)) (ci := 12) (v := .int (mg M 19)) (C := RX12) (T := TX12) (N := 37) hx hb hts hin hown hK hP 0 rfl rfl 19 (by decide) f1 (fun _ h9 => h9) rfl dX12_clauseHere_128 ?_
      refine lv_iconst (v := 1) hx hb dX12_clauseHere_131 (by decide) ?_
      refine lv_iadd hx hb dX12_clauseHere_132 ?_
      refine lv_topi (fun x2 ex2 => ?_)
      have h := h x2 ex2
      refine va_put (D := (dC, dI)) (ci := 12) (v := .int x2) (ty := .int) (C := RX12) (T := TX12) (N := 37) hx hb hts hin tyX12 tyX12_ok nmX12 hown hK hP hD hS 0 rfl rfl 19 (by decide) f1 (fun _ h9 => h9) rfl (by decide +kernel) rfl rfl (Nat.le_of_ble_eq_true rfl) dX12_clauseHere_133 (fun H locs hP hD hS => ?_)
      have hP := mP_f19 hP
      have hD := mD_f19 hD
      have h := h _ rfl
      generalize sg M 19 x2 = M3 at hP hD h
      refine lv_iload_n hx hb dX12_clauseHere_136 rfl (lv_at hl 2 rfl) ?_
      refine lv_if_ne (tgt := 149) hx hb dX12_clauseHere_137 (by decide) (fun c4 => ?_) (fun c4 => ?_)
      · have h := h.2 c4
        refine lv_aload_n hx hb dX12_clauseHere_149 rfl (lv_at hl 0 rfl) ?_
        refine lv_ldc2 (v := (1953853029)) hx hb hown f2 dX12_clauseHere_150 ?_
        have hFc := gs_free hD hS hA
        refine va_calli (va_runV (As := [.long (1953853029 : Int64)]) (rest := []) ⟨hx, hb, hml, hown, hts⟩ (kX12_isWord l dC dI cB cI cJ cZ h0 ad H.size (1953853029 : Int64) M3 _ h) (cwV 1 hts gX12_clauseHere_X12_isWord rfl rfl rfl (by decide +kernel) ⟨Nat.le_of_ble_eq_true rfl, Nat.le_of_ble_eq_true rfl⟩) (mpV hK hP hD) rfl rfl hl.1 rfl (lv_room (Nat.le_of_ble_eq_true rfl)) dX12_clauseHere_153 ⟨Nat.le_of_ble_eq_true rfl, Nat.le_of_ble_eq_true rfl⟩) hS (fun q _ z => hFc q z) hFc (fun r5 M6 t H1 locs ht hvm hw hB hz1 hk1 hS => ?_)
        obtain ⟨hP, hD⟩ := gs_back ht hFc hB
        generalize H1 = H at hP hS ⊢
        obtain ⟨b7, rfl, h⟩ := hw
        try dsimp only at h
        refine lv_if_eq (tgt := 165) hx hb dX12_clauseHere_156 (by decide) (fun c8 => ?_) (fun c8 => ?_)
        · have h := h.1 c8
          refine lv_aload_n hx hb dX12_clauseHere_165 rfl (lv_at hl 0 rfl) ?_
          refine lv_ldc2 (v := (2003792484)) hx hb hown f3 dX12_clauseHere_166 ?_
          have hFc := gs_free hD hS hA
          refine va_calli (va_runV (As := [.long (2003792484 : Int64)]) (rest := []) ⟨hx, hb, hml, hown, hts⟩ (kX12_isWord l dC dI cB cI cJ cZ h0 ad H.size (2003792484 : Int64) M6 _ h) (cwV 1 hts gX12_clauseHere_X12_isWord rfl rfl rfl (by decide +kernel) ⟨Nat.le_of_ble_eq_true rfl, Nat.le_of_ble_eq_true rfl⟩) (mpV hK hP hD) rfl rfl hl.1 rfl (lv_room (Nat.le_of_ble_eq_true rfl)) dX12_clauseHere_169 ⟨Nat.le_of_ble_eq_true rfl, Nat.le_of_ble_eq_true rfl⟩) hS (fun q _ z => hFc q z) hFc (fun r9 M10 t H1 locs ht hvm hw hB hz1 hk1 hS => ?_)
          obtain ⟨hP, hD⟩ := gs_back ht hFc hB
          generalize H1 = H at hP hS ⊢
          obtain ⟨b11, rfl, h⟩ := hw
          try dsimp only at h
          refine lv_if_eq (tgt := 183) hx hb dX12_clauseHere_172 (by decide) (fun c12 => ?_) (fun c12 => ?_)
          · have h := h.1 c12
            refine lv_aload_n hx hb dX12_clauseHere_183 rfl (lv_at hl 0 rfl) ?_
            refine lv_ldc2 (v := (483006772069)) hx hb hown f4 dX12_clauseHere_184 ?_
            have hFc := gs_free hD hS hA
            refine va_calli (va_runV (As := [.long (483006772069 : Int64)]) (rest := []) ⟨hx, hb, hml, hown, hts⟩ (kX12_isWord l dC dI cB cI cJ cZ h0 ad H.size (483006772069 : Int64) M10 _ h) (cwV 1 hts gX12_clauseHere_X12_isWord rfl rfl rfl (by decide +kernel) ⟨Nat.le_of_ble_eq_true rfl, Nat.le_of_ble_eq_true rfl⟩) (mpV hK hP hD) rfl rfl hl.1 rfl (lv_room (Nat.le_of_ble_eq_true rfl)) dX12_clauseHere_187 ⟨Nat.le_of_ble_eq_true rfl, Nat.le_of_ble_eq_true rfl⟩) hS (fun q _ z => hFc q z) hFc (fun r13 M14 t H1 locs ht hvm hw hB hz1 hk1 hS => ?_)
            obtain ⟨hP, hD⟩ := gs_back ht hFc hB
            generalize H1 = H at hP hS ⊢
            obtain ⟨b15, rfl, h⟩ := hw
            try dsimp only at h
            refine lv_if_eq (tgt := 200) hx hb dX12_clauseHere_190 (by decide) (fun c16 => ?_) (fun c16 => ?_)
            · have h := h.1 c16
              refine lv_aload_n hx hb dX12_clauseHere_200 rfl (lv_at hl 0 rfl) ?_
              refine lv_iload_n hx hb dX12_clauseHere_201 rfl (lv_at hl 1 rfl) ?_
              have hFc := gs_free hD hS hA
              refine va_calli (va_runV (As := [.int y1]) (rest := []) ⟨hx, hb, hml, hown, hts⟩ (kX12_isAgainHere l dC dI cB cI cJ cZ h0 ad H.size y1 M14 _ h) (cwV 1 hts gX12_clauseHere_X12_isAgainHere rfl rfl rfl (by decide +kernel) ⟨Nat.le_of_ble_eq_true rfl, Nat.le_of_ble_eq_true rfl⟩) (mpV hK hP hD) rfl rfl hl.1 rfl (lv_room (Nat.le_of_ble_eq_true rfl)) dX12_clauseHere_202 ⟨Nat.le_of_ble_eq_true rfl, Nat.le_of_ble_eq_true rfl⟩) hS (fun q _ z => hFc q z) hFc (fun r17 M18 t H1 locs ht hvm hw hB hz1 hk1 hS => ?_)
              obtain ⟨hP, hD⟩ := gs_back ht hFc hB
              generalize H1 = H at hP hS ⊢
              obtain ⟨b19, rfl, h⟩ := hw
              try dsimp only at h
              exact W.zret (v := (bI b19)) hx hb hr (nar_bI b19) (fun t ht hW => ⟨⟨_, M18, rfl, ⟨b19, rfl, h⟩, by rw [ht]; exact hP, va_K.moved hW.alike hK, hD⟩, hS.F ht⟩) hS.2.2 dX12_clauseHere_205
            · have h := h.2 c16
              refine lv_aload_n hx hb dX12_clauseHere_193 rfl (lv_at hl 0 rfl) ?_
              have hFc := gs_free hD hS hA
              refine va_calli (va_runV (As := []) (rest := []) ⟨hx, hb, hml, hown, hts⟩ (kX12_isPurseHere l dC dI cB cI cJ cZ h0 ad H.size  M14 _ h) (cwV 0 hts gX12_clauseHere_X12_isPurseHere rfl rfl rfl (by decide +kernel) ⟨Nat.le_of_ble_eq_true rfl, Nat.le_of_ble_eq_true rfl⟩) (mpV hK hP hD) rfl rfl hl.1 rfl (lv_room (Nat.le_of_ble_eq_true rfl)) dX12_clauseHere_194 ⟨Nat.le_of_ble_eq_true rfl, Nat.le_of_ble_eq_true rfl⟩) hS (fun q _ z => hFc q z) hFc (fun r20 M21 t H1 locs ht hvm hw hB hz1 hk1 hS => ?_)
              obtain ⟨hP, hD⟩ := gs_back ht hFc hB
              generalize H1 = H at hP hS ⊢
              obtain ⟨b22, rfl, h⟩ := hw
              try dsimp only at h
              refine lv_goto (tgt := 205) hx hb dX12_clauseHere_197 (by decide) ?_
              exact W.zret (v := (bI b22)) hx hb hr (nar_bI b22) (fun t ht hW => ⟨⟨_, M21, rfl, ⟨b22, rfl, h⟩, by rw [ht]; exact hP, va_K.moved hW.alike hK, hD⟩, hS.F ht⟩) hS.2.2 dX12_clauseHere_205
          · have h := h.2 c12
            refine lv_aload_n hx hb dX12_clauseHere_175 rfl (lv_at hl 0 rfl) ?_
            refine lv_iload_n hx hb dX12_clauseHere_176 rfl (lv_at hl 1 rfl) ?_
            have hFc := gs_free hD hS hA
            refine va_calli (va_runV (As := [.int y1]) (rest := []) ⟨hx, hb, hml, hown, hts⟩ (kX12_isWordTold l dC dI cB cI cJ cZ h0 ad H.size y1 M10 _ h) (cwV 1 hts gX12_clauseHere_X12_isWordTold rfl rfl rfl (by decide +kernel) ⟨Nat.le_of_ble_eq_true rfl, Nat.le_of_ble_eq_true rfl⟩) (mpV hK hP hD) rfl rfl hl.1 rfl (lv_room (Nat.le_of_ble_eq_true rfl)) dX12_clauseHere_177 ⟨Nat.le_of_ble_eq_true rfl, Nat.le_of_ble_eq_true rfl⟩) hS (fun q _ z => hFc q z) hFc (fun r23 M24 t H1 locs ht hvm hw hB hz1 hk1 hS => ?_)
            obtain ⟨hP, hD⟩ := gs_back ht hFc hB
            generalize H1 = H at hP hS ⊢
            obtain ⟨b25, rfl, h⟩ := hw
            try dsimp only at h
            refine lv_goto (tgt := 205) hx hb dX12_clauseHere_180 (by decide) ?_
            exact W.zret (v := (bI b25)) hx hb hr (nar_bI b25) (fun t ht hW => ⟨⟨_, M24, rfl, ⟨b25, rfl, h⟩, by rw [ht]; exact hP, va_K.moved hW.alike hK, hD⟩, hS.F ht⟩) hS.2.2 dX12_clauseHere_205
        · have h := h.2 c8
          refine lv_aload_n hx hb dX12_clauseHere_159 rfl (lv_at hl 0 rfl) ?_
          refine lv_iload_n hx hb dX12_clauseHere_160 rfl (lv_at hl 1 rfl) ?_
          have hFc := gs_free hD hS hA
          refine va_calli (va_runV (As := [.int y1]) (rest := []) ⟨hx, hb, hml, hown, hts⟩ (kX12_isTuneHere l dC dI cB cI cJ cZ h0 ad H.size y1 M6 _ h) (cwV 1 hts gX12_clauseHere_X12_isTuneHere rfl rfl rfl (by decide +kernel) ⟨Nat.le_of_ble_eq_true rfl, Nat.le_of_ble_eq_true rfl⟩) (mpV hK hP hD) rfl rfl hl.1 rfl (lv_room (Nat.le_of_ble_eq_true rfl)) dX12_clauseHere_161 ⟨Nat.le_of_ble_eq_true rfl, Nat.le_of_ble_eq_true rfl⟩) hS (fun q _ z => hFc q z) hFc (fun r26 M27 t H1 locs ht hvm hw hB hz1 hk1 hS => ?_)
          obtain ⟨hP, hD⟩ := gs_back ht hFc hB
          generalize H1 = H at hP hS ⊢
          obtain ⟨b28, rfl, h⟩ := hw
          try dsimp only at h
          exact W.zret (v := (bI b28)) hx hb hr (nar_bI b28) (fun t ht hW => ⟨⟨_, M27, rfl, ⟨b28, rfl, h⟩, by rw [ht]; exact hP, va_K.moved hW.alike hK, hD⟩, hS.F ht⟩) hS.2.2 dX12_clauseHere_164
      · have h := h.1 c4
        refine lv_aload_n hx hb dX12_clauseHere_140 rfl (lv_at hl 0 rfl) ?_
        refine lv_aload_n hx hb dX12_clauseHere_141 rfl (lv_at hl 0 rfl) ?_
        have hFc := gs_free hD hS hA
        refine va_calli (va_runV (As := []) (rest := [.ref h0]) ⟨hx, hb, hml, hown, hts⟩ (kX12_doingSort l dC dI cB cI cJ cZ h0 ad H.size  M3 _ h) (cwV 0 hts gX12_clauseHere_X12_doingSort rfl rfl rfl (by decide +kernel) ⟨Nat.le_of_ble_eq_true rfl, Nat.le_of_ble_eq_true rfl⟩) (mpV hK hP hD) rfl rfl hl.1 rfl (lv_room (Nat.le_of_ble_eq_true rfl)) dX12_clauseHere_142 ⟨Nat.le_of_ble_eq_true rfl, Nat.le_of_ble_eq_true rfl⟩) hS (fun q _ z => hFc q z) hFc (fun r29 M30 t H1 locs ht hvm hw hB hz1 hk1 hS => ?_)
        obtain ⟨hP, hD⟩ := gs_back ht hFc hB
        generalize H1 = H at hP hS ⊢
        have h := hw
        try dsimp only at h
        have hFc := gs_free hD hS hA
        refine va_calli (va_runV (As := [.int r29]) (rest := []) ⟨hx, hb, hml, hown, hts⟩ (kX12_isDoingHere l dC dI cB cI cJ cZ h0 ad H.size r29 M30 _ h) (cwV 1 hts gX12_clauseHere_X12_isDoingHere rfl rfl rfl (by decide +kernel) ⟨Nat.le_of_ble_eq_true rfl, Nat.le_of_ble_eq_true rfl⟩) (mpV hK hP hD) rfl rfl hl.1 rfl (lv_room (Nat.le_of_ble_eq_true rfl)) dX12_clauseHere_145 ⟨Nat.le_of_ble_eq_true rfl, Nat.le_of_ble_eq_true rfl⟩) hS (fun q _ z => hFc q z) hFc (fun r31 M32 t H1 locs ht hvm hw hB hz1 hk1 hS => ?_)
        obtain ⟨hP, hD⟩ := gs_back ht hFc hB
        generalize H1 = H at hP hS ⊢
        obtain ⟨b33, rfl, h⟩ := hw
        try dsimp only at h
        exact W.zret (v := (bI b33)) hx hb hr (nar_bI b33) (fun t ht hW => ⟨⟨_, M32, rfl, ⟨b33, rfl, h⟩, by rw [ht]; exact hP, va_K.moved hW.alike hK, hD⟩, hS.F ht⟩) hS.2.2 dX12_clauseHere_148
    · have h := h.1 c1
      refine lv_aload_n hx hb dX12_clauseHere_119 rfl (lv_at hl 0 rfl) ?_
      refine lv_iconst (v := 4) hx hb dX12_clauseHere_120 (by decide) ?_
      refine lv_iload_n hx hb dX12_clauseHere_121 rfl (lv_at hl 1 rfl) ?_
      have hFc := gs_free hD hS hA
      refine va_calli (va_runV (As := [.int (4 : Int32), .int y1]) (rest := []) ⟨hx, hb, hml, hown, hts⟩ (kX12_fails l dC dI cB cI cJ cZ h0 ad H.size (4 : Int32) y1 M _ h) (cwV 2 hts gX12_clauseHere_X12_fails rfl rfl rfl (by decide +kernel) ⟨Nat.le_of_ble_eq_true rfl, Nat.le_of_ble_eq_true rfl⟩) (mpV hK hP hD) rfl rfl hl.1 rfl (lv_room (Nat.le_of_ble_eq_true rfl)) dX12_clauseHere_122 ⟨Nat.le_of_ble_eq_true rfl, Nat.le_of_ble_eq_true rfl⟩) hS (fun q _ z => hFc q z) hFc (fun r34 M35 t H1 locs ht hvm hw hB hz1 hk1 hS => ?_)
      obtain ⟨hP, hD⟩ := gs_back ht hFc hB
      generalize H1 = H at hP hS ⊢
      obtain ⟨b36, rfl, h⟩ := hw
      try dsimp only at h
      exact W.zret (v := (bI b36)) hx hb hr (nar_bI b36) (fun t ht hW => ⟨⟨_, M35, rfl, ⟨b36, rfl, h⟩, by rw [ht]; exact hP, va_K.moved hW.alike hK, hD⟩, hS.F ht⟩) hS.2.2 dX12_clauseHere_125
  have b89 : ∀ (y1 : Int32) (y2 : Int32) (z0 : Int32) (M : gS) (H : Heap) (locs : List Loc) (ls : Array Slot), va_P (dC, dI) vwCl (mW cB cI cJ cZ h0 ad M) H → va_D A (mW cB cI cJ cZ h0 ad M) → va_S A s.heap H locs → lv_has ls 4 [(0, .ref h0), (1, .int y1), (2, .int y2)] → wX12_clauseHere_89  Q y1 y2 z0 M → W p l e (headSpec wsX12_clauseHere rmX12_clauseHere).room s m ([.ref h0] : List Value).toArray below meth c H locs 0 0 (MQ below (va_Qi (fun (r : Int32) (u : gS) => ∃ b : Bool, r = bI b ∧ Q b u) (mB dC dI cB cI cJ cZ h0 ad A) A) ([.ref h0] : List Value).toArray s 0 0 A) (F0 m 89 ls [.int z0]) := by
    intro  y1 y2 z0 M H locs ls hP hD hS hl h
    unfold wX12_clauseHere_89 at h
    refine lv_istore_n (lv' := [(3, .int z0), (0, .ref h0), (1, .int y1), (2, .int y2)]) hx hb dX12_clauseHere_89 rfl hl (by decide) rfl (fun ls hl => ?_)
    refine lv_iload_n hx hb dX12_clauseHere_90 rfl (lv_at hl 0 rfl) ?_
    refine lv_if_ne (tgt := 101) hx hb dX12_clauseHere_91 (by decide) (fun c1 => ?_) (fun c1 => ?_)
    · have h := h.2 c1
      refine lv_aload_n hx hb dX12_clauseHere_101 rfl (lv_at hl 1 rfl) ?_
      refine va_get (D := (dC, dI)) (ci := 12) (v := .int (mg M 19)) (C := RX12) (T := TX12) (N := 37) hx hb hts hin hown hK hP 0 rfl rfl 19 (by decide) f1 (fun _ h9 => h9) rfl dX12_clauseHere_102 ?_
      refine lv_iload_n hx hb dX12_clauseHere_105 rfl (lv_at hl 3 rfl) ?_
      refine lv_if_eq (tgt := 114) hx hb dX12_clauseHere_106 (by decide) (fun c2 => ?_) (fun c2 => ?_)
      · have h := h.1 c2
        refine lv_bipush (v := (12)) hx hb dX12_clauseHere_114 (by decide) ?_
        exact b116  y1 y2 (mg M 19) (12 : Int32) M H locs ls hP hD hS (lv_sub hl [1, 2, 3] rfl) h
      · have h := h.2 c2
        refine lv_bipush (v := (16)) hx hb dX12_clauseHere_109 (by decide) ?_
        refine lv_goto (tgt := 116) hx hb dX12_clauseHere_111 (by decide) ?_
        exact b116  y1 y2 (mg M 19) (16 : Int32) M H locs ls hP hD hS (lv_sub hl [1, 2, 3] rfl) h
    · have h := h.1 c1
      refine lv_aload_n hx hb dX12_clauseHere_94 rfl (lv_at hl 1 rfl) ?_
      refine lv_iconst (v := 0) hx hb dX12_clauseHere_95 (by decide) ?_
      refine lv_iload_n hx hb dX12_clauseHere_96 rfl (lv_at hl 2 rfl) ?_
      have hFc := gs_free hD hS hA
      refine va_calli (va_runV (As := [.int (0 : Int32), .int y1]) (rest := []) ⟨hx, hb, hml, hown, hts⟩ (kX12_fails l dC dI cB cI cJ cZ h0 ad H.size (0 : Int32) y1 M _ h) (cwV 2 hts gX12_clauseHere_X12_fails rfl rfl rfl (by decide +kernel) ⟨Nat.le_of_ble_eq_true rfl, Nat.le_of_ble_eq_true rfl⟩) (mpV hK hP hD) rfl rfl hl.1 rfl (lv_room (Nat.le_of_ble_eq_true rfl)) dX12_clauseHere_97 ⟨Nat.le_of_ble_eq_true rfl, Nat.le_of_ble_eq_true rfl⟩) hS (fun q _ z => hFc q z) hFc (fun r3 M4 t H1 locs ht hvm hw hB hz1 hk1 hS => ?_)
      obtain ⟨hP, hD⟩ := gs_back ht hFc hB
      generalize H1 = H at hP hS ⊢
      obtain ⟨b5, rfl, h⟩ := hw
      try dsimp only at h
      exact W.zret (v := (bI b5)) hx hb hr (nar_bI b5) (fun t ht hW => ⟨⟨_, M4, rfl, ⟨b5, rfl, h⟩, by rw [ht]; exact hP, va_K.moved hW.alike hK, hD⟩, hS.F ht⟩) hS.2.2 dX12_clauseHere_100
  have b69 : ∀ (y1 : Int32) (y2 : Int32) (M : gS) (H : Heap) (locs : List Loc) (ls : Array Slot), va_P (dC, dI) vwCl (mW cB cI cJ cZ h0 ad M) H → va_D A (mW cB cI cJ cZ h0 ad M) → va_S A s.heap H locs → lv_has ls 4 [(0, .ref h0), (1, .int y1), (2, .int y2)] → wX12_clauseHere_69  Q y1 y2 M → W p l e (headSpec wsX12_clauseHere rmX12_clauseHere).room s m ([.ref h0] : List Value).toArray below meth c H locs 0 0 (MQ below (va_Qi (fun (r : Int32) (u : gS) => ∃ b : Bool, r = bI b ∧ Q b u) (mB dC dI cB cI cJ cZ h0 ad A) A) ([.ref h0] : List Value).toArray s 0 0 A) (F0 m 69 ls []) := by
    intro  y1 y2 M H locs ls hP hD hS hl h
    unfold wX12_clauseHere_69 at h
    refine lv_iconst (v := 1) hx hb dX12_clauseHere_69 (by decide) ?_
    refine lv_goto (tgt := 89) hx hb dX12_clauseHere_70 (by decide) ?_
    exact b89  y1 y2 (1 : Int32) M H locs ls hP hD hS (lv_sub hl [0, 1, 2] rfl) h
  have b24 : ∀ (y1 : Int32) (z0 : Int32) (M : gS) (H : Heap) (locs : List Loc) (ls : Array Slot), va_P (dC, dI) vwCl (mW cB cI cJ cZ h0 ad M) H → va_D A (mW cB cI cJ cZ h0 ad M) → va_S A s.heap H locs → lv_has ls 4 [(0, .ref h0), (1, .int y1)] → wX12_clauseHere_24  Q y1 z0 M → W p l e (headSpec wsX12_clauseHere rmX12_clauseHere).room s m ([.ref h0] : List Value).toArray below meth c H locs 0 0 (MQ below (va_Qi (fun (r : Int32) (u : gS) => ∃ b : Bool, r = bI b ∧ Q b u) (mB dC dI cB cI cJ cZ h0 ad A) A) ([.ref h0] : List Value).toArray s 0 0 A) (F0 m 24 ls [.int z0]) := by
    intro  y1 z0 M H locs ls hP hD hS hl h
    unfold wX12_clauseHere_24 at h
    refine lv_istore_n (lv' := [(2, .int z0), (0, .ref h0), (1, .int y1)]) hx hb dX12_clauseHere_24 rfl hl (by decide) rfl (fun ls hl => ?_)
    refine lv_iload_n hx hb dX12_clauseHere_25 rfl (lv_at hl 0 rfl) ?_
    refine lv_if_eq (tgt := 77) hx hb dX12_clauseHere_26 (by decide) (fun c1 => ?_) (fun c1 => ?_)
    · have h := h.1 c1
      refine lv_aload_n hx hb dX12_clauseHere_77 rfl (lv_at hl 1 rfl) ?_
      have hFc := gs_free hD hS hA
      refine va_calli (va_runV (As := []) (rest := []) ⟨hx, hb, hml, hown, hts⟩ (kX12_doingSort l dC dI cB cI cJ cZ h0 ad H.size  M _ h) (cwV 0 hts gX12_clauseHere_X12_doingSort rfl rfl rfl (by decide +kernel) ⟨Nat.le_of_ble_eq_true rfl, Nat.le_of_ble_eq_true rfl⟩) (mpV hK hP hD) rfl rfl hl.1 rfl (lv_room (Nat.le_of_ble_eq_true rfl)) dX12_clauseHere_78 ⟨Nat.le_of_ble_eq_true rfl, Nat.le_of_ble_eq_true rfl⟩) hS (fun q _ z => hFc q z) hFc (fun r2 M3 t H1 locs ht hvm hw hB hz1 hk1 hS => ?_)
      obtain ⟨hP, hD⟩ := gs_back ht hFc hB
      generalize H1 = H at hP hS ⊢
      have h := hw
      try dsimp only at h
      refine lv_if_lt (tgt := 88) hx hb dX12_clauseHere_81 (by decide) (fun c4 => ?_) (fun c4 => ?_)
      · have h := h.1 c4
        refine lv_iconst (v := 0) hx hb dX12_clauseHere_88 (by decide) ?_
        exact b89  y1 z0 (0 : Int32) M3 H locs ls hP hD hS (lv_sub hl [1, 2, 0] rfl) h
      · have h := h.2 c4
        refine lv_iconst (v := 1) hx hb dX12_clauseHere_84 (by decide) ?_
        refine lv_goto (tgt := 89) hx hb dX12_clauseHere_85 (by decide) ?_
        exact b89  y1 z0 (1 : Int32) M3 H locs ls hP hD hS (lv_sub hl [1, 2, 0] rfl) h
    · have h := h.2 c1
      refine lv_aload_n hx hb dX12_clauseHere_29 rfl (lv_at hl 1 rfl) ?_
      refine lv_ldc2 (v := (1953853029)) hx hb hown f2 dX12_clauseHere_30 ?_
      have hFc := gs_free hD hS hA
      refine va_calli (va_runV (As := [.long (1953853029 : Int64)]) (rest := []) ⟨hx, hb, hml, hown, hts⟩ (kX12_isWord l dC dI cB cI cJ cZ h0 ad H.size (1953853029 : Int64) M _ h) (cwV 1 hts gX12_clauseHere_X12_isWord rfl rfl rfl (by decide +kernel) ⟨Nat.le_of_ble_eq_true rfl, Nat.le_of_ble_eq_true rfl⟩) (mpV hK hP hD) rfl rfl hl.1 rfl (lv_room (Nat.le_of_ble_eq_true rfl)) dX12_clauseHere_33 ⟨Nat.le_of_ble_eq_true rfl, Nat.le_of_ble_eq_true rfl⟩) hS (fun q _ z => hFc q z) hFc (fun r5 M6 t H1 locs ht hvm hw hB hz1 hk1 hS => ?_)
      obtain ⟨hP, hD⟩ := gs_back ht hFc hB
      generalize H1 = H at hP hS ⊢
      obtain ⟨b7, rfl, h⟩ := hw
      try dsimp only at h
      refine lv_if_ne (tgt := 69) hx hb dX12_clauseHere_36 (by decide) (fun c8 => ?_) (fun c8 => ?_)
      · have h := h.2 c8
        exact b69  y1 z0 M6 H locs ls hP hD hS (lv_sub hl [1, 2, 0] rfl) h
      · have h := h.1 c8
        refine lv_aload_n hx hb dX12_clauseHere_39 rfl (lv_at hl 1 rfl) ?_
        refine lv_ldc2 (v := (2003792484)) hx hb hown f3 dX12_clauseHere_40 ?_
        have hFc := gs_free hD hS hA
        refine va_calli (va_runV (As := [.long (2003792484 : Int64)]) (rest := []) ⟨hx, hb, hml, hown, hts⟩ (kX12_isWord l dC dI cB cI cJ cZ h0 ad H.size (2003792484 : Int64) M6 _ h) (cwV 1 hts gX12_clauseHere_X12_isWord rfl rfl rfl (by decide +kernel) ⟨Nat.le_of_ble_eq_true rfl, Nat.le_of_ble_eq_true rfl⟩) (mpV hK hP hD) rfl rfl hl.1 rfl (lv_room (Nat.le_of_ble_eq_true rfl)) dX12_clauseHere_43 ⟨Nat.le_of_ble_eq_true rfl, Nat.le_of_ble_eq_true rfl⟩) hS (fun q _ z => hFc q z) hFc (fun r9 M10 t H1 locs ht hvm hw hB hz1 hk1 hS => ?_)
        obtain ⟨hP, hD⟩ := gs_back ht hFc hB
        generalize H1 = H at hP hS ⊢
        obtain ⟨b11, rfl, h⟩ := hw
        try dsimp only at h
        refine lv_if_ne (tgt := 69) hx hb dX12_clauseHere_46 (by decide) (fun c12 => ?_) (fun c12 => ?_)
        · have h := h.2 c12
          exact b69  y1 z0 M10 H locs ls hP hD hS (lv_sub hl [1, 2, 0] rfl) h
        · have h := h.1 c12
          refine lv_aload_n hx hb dX12_clauseHere_49 rfl (lv_at hl 1 rfl) ?_
          refine lv_ldc2 (v := (483006772069)) hx hb hown f4 dX12_clauseHere_50 ?_
          have hFc := gs_free hD hS hA
          refine va_calli (va_runV (As := [.long (483006772069 : Int64)]) (rest := []) ⟨hx, hb, hml, hown, hts⟩ (kX12_isWord l dC dI cB cI cJ cZ h0 ad H.size (483006772069 : Int64) M10 _ h) (cwV 1 hts gX12_clauseHere_X12_isWord rfl rfl rfl (by decide +kernel) ⟨Nat.le_of_ble_eq_true rfl, Nat.le_of_ble_eq_true rfl⟩) (mpV hK hP hD) rfl rfl hl.1 rfl (lv_room (Nat.le_of_ble_eq_true rfl)) dX12_clauseHere_53 ⟨Nat.le_of_ble_eq_true rfl, Nat.le_of_ble_eq_true rfl⟩) hS (fun q _ z => hFc q z) hFc (fun r13 M14 t H1 locs ht hvm hw hB hz1 hk1 hS => ?_)
          obtain ⟨hP, hD⟩ := gs_back ht hFc hB
          generalize H1 = H at hP hS ⊢
          obtain ⟨b15, rfl, h⟩ := hw
          try dsimp only at h
          refine lv_if_ne (tgt := 69) hx hb dX12_clauseHere_56 (by decide) (fun c16 => ?_) (fun c16 => ?_)
          · have h := h.2 c16
            exact b69  y1 z0 M14 H locs ls hP hD hS (lv_sub hl [1, 2, 0] rfl) h
          · have h := h.1 c16
            refine lv_aload_n hx hb dX12_clauseHere_59 rfl (lv_at hl 1 rfl) ?_
            refine lv_ldc2 (v := (418346264942)) hx hb hown f5 dX12_clauseHere_60 ?_
            have hFc := gs_free hD hS hA
            refine va_calli (va_runV (As := [.long (418346264942 : Int64)]) (rest := []) ⟨hx, hb, hml, hown, hts⟩ (kX12_isWord l dC dI cB cI cJ cZ h0 ad H.size (418346264942 : Int64) M14 _ h) (cwV 1 hts gX12_clauseHere_X12_isWord rfl rfl rfl (by decide +kernel) ⟨Nat.le_of_ble_eq_true rfl, Nat.le_of_ble_eq_true rfl⟩) (mpV hK hP hD) rfl rfl hl.1 rfl (lv_room (Nat.le_of_ble_eq_true rfl)) dX12_clauseHere_63 ⟨Nat.le_of_ble_eq_true rfl, Nat.le_of_ble_eq_true rfl⟩) hS (fun q _ z => hFc q z) hFc (fun r17 M18 t H1 locs ht hvm hw hB hz1 hk1 hS => ?_)
            obtain ⟨hP, hD⟩ := gs_back ht hFc hB
            generalize H1 = H at hP hS ⊢
            obtain ⟨b19, rfl, h⟩ := hw
            try dsimp only at h
            refine lv_if_eq (tgt := 73) hx hb dX12_clauseHere_66 (by decide) (fun c20 => ?_) (fun c20 => ?_)
            · have h := h.1 c20
              refine lv_iconst (v := 0) hx hb dX12_clauseHere_73 (by decide) ?_
              refine lv_goto (tgt := 89) hx hb dX12_clauseHere_74 (by decide) ?_
              exact b89  y1 z0 (0 : Int32) M18 H locs ls hP hD hS (lv_sub hl [1, 2, 0] rfl) h
            · have h := h.2 c20
              exact b69  y1 z0 M18 H locs ls hP hD hS (lv_sub hl [1, 2, 0] rfl) h
  have bE : ∀ (M : gS) (H : Heap) (locs : List Loc) (ls : Array Slot), va_P (dC, dI) vwCl (mW cB cI cJ cZ h0 ad M) H → va_D A (mW cB cI cJ cZ h0 ad M) → va_S A s.heap H locs → lv_has ls 4 [(0, .ref h0)] → wX12_clauseHere  M Q → W p l e (headSpec wsX12_clauseHere rmX12_clauseHere).room s m ([.ref h0] : List Value).toArray below meth c H locs 0 0 (MQ below (va_Qi (fun (r : Int32) (u : gS) => ∃ b : Bool, r = bI b ∧ Q b u) (mB dC dI cB cI cJ cZ h0 ad A) A) ([.ref h0] : List Value).toArray s 0 0 A) (F0 m 0 ls []) := by
    intro M H locs ls hP hD hS hl h
    unfold wX12_clauseHere at h
    refine lv_aload_n hx hb dX12_clauseHere_0 rfl (lv_at hl 0 rfl) ?_
    have hFc := gs_free hD hS hA
    refine va_calli (va_runV (As := []) (rest := []) ⟨hx, hb, hml, hown, hts⟩ (kX12_see l dC dI cB cI cJ cZ h0 ad H.size  M _ h) (cwV 0 hts gX12_clauseHere_X12_see rfl rfl rfl (by decide +kernel) ⟨Nat.le_of_ble_eq_true rfl, Nat.le_of_ble_eq_true rfl⟩) (mpV hK hP hD) rfl rfl hl.1 rfl (lv_room (Nat.le_of_ble_eq_true rfl)) dX12_clauseHere_1 ⟨Nat.le_of_ble_eq_true rfl, Nat.le_of_ble_eq_true rfl⟩) hS (fun q _ z => hFc q z) hFc (fun r1 M2 t H1 locs ht hvm hw hB hz1 hk1 hS => ?_)
    obtain ⟨hP, hD⟩ := gs_back ht hFc hB
    generalize H1 = H at hP hS ⊢
    have h := hw
    try dsimp only at h
    refine lv_pop hx hb dX12_clauseHere_4 rfl ?_
    refine lv_aload_n hx hb dX12_clauseHere_5 rfl (lv_at hl 0 rfl) ?_
    refine va_get (D := (dC, dI)) (ci := 12) (v := .int (mg M2 13)) (C := RX12) (T := TX12) (N := 37) hx hb hts hin hown hK hP 0 rfl rfl 13 (by decide) f6 (fun _ h9 => h9) rfl dX12_clauseHere_6 ?_
    refine lv_topi (fun x3 ex3 => ?_)
    have h := h x3 ex3
    refine lv_istore_n (lv' := [(1, .int x3), (0, .ref h0)]) hx hb dX12_clauseHere_9 rfl hl (by decide) rfl (fun ls hl => ?_)
    refine lv_aload_n hx hb dX12_clauseHere_10 rfl (lv_at hl 1 rfl) ?_
    refine va_get (D := (dC, dI)) (ci := 12) (v := .int (mg M2 16)) (C := RX12) (T := TX12) (N := 37) hx hb hts hin hown hK hP 0 rfl rfl 16 (by decide) f7 (fun _ h9 => h9) rfl dX12_clauseHere_11 ?_
    refine lv_bipush (v := (6)) hx hb dX12_clauseHere_14 (by decide) ?_
    refine lv_icmp_ne (tgt := 23) hx hb dX12_clauseHere_16 (by decide) (fun c4 => ?_) (fun c4 => ?_)
    · have h := h.2 c4
      refine lv_iconst (v := 0) hx hb dX12_clauseHere_23 (by decide) ?_
      exact b24  x3 (0 : Int32) M2 H locs ls hP hD hS (lv_sub hl [1, 0] rfl) h
    · have h := h.1 c4
      refine lv_iconst (v := 1) hx hb dX12_clauseHere_19 (by decide) ?_
      refine lv_goto (tgt := 24) hx hb dX12_clauseHere_20 (by decide) ?_
      exact b24  x3 (1 : Int32) M2 H locs ls hP hD hS (lv_sub hl [1, 0] rfl) h
  have hl := lv_entry ([.ref h0]) (n := 4) (Nat.le_of_ble_eq_true rfl)
  rw [lg_entry_eq]
  generalize (lg_sl ([.ref h0]) ++ List.replicate (4 - (lg_sl ([.ref h0])).length) Slot.unset).toArray = ls at hl ⊢
  have hl : lv_has ls 4 [(0, .ref h0)] := hl
  exact bE M s.heap [] ls hP hD hS hl h
def wX12_readsAll_125  (Q : Bool → gS → Prop)  (M : gS) : Prop :=
 (∀ M1 : gS, M1 = sg M 1 (0 : Int32) → (((mg M1 14) = 0 → (Q true M1))
 ∧ (¬ (mg M1 14) = 0 → (Q false M1))))
def wX12_readsAll_115  (Q : Bool → gS → Prop)  (M : gS) : Prop :=
 (wX12_fails (0 : Int32) (mg M 13) M (fun (b3 : Bool) (M2 : gS) => (wX12_readsAll_125  Q M2)))
def wX12_readsAll_88  (Q : Bool → gS → Prop) (y1 : Int32) (M : gS) : Prop :=
 ((y1 = 0 → (wX12_readsAll_125  Q M))
 ∧ (¬ y1 = 0 → (((mg M 16) = (6 : Int32) → (((mg M 7) = 0 → (wX12_readsAll_115  Q M))
 ∧ (¬ (mg M 7) = 0 → (((mg M 8) = 0 → (wX12_readsAll_115  Q M))
 ∧ (¬ (mg M 8) = 0 → (wX12_readsAll_125  Q M))))))
 ∧ (¬ (mg M 16) = (6 : Int32) → (wX12_readsAll_125  Q M)))))
def wX12_readsAll_66  (Q : Bool → gS → Prop) (y1 : Int32) (M : gS) : Prop :=
 ((y1 = 0 → (wX12_readsAll_88  Q y1 M))
 ∧ (¬ y1 = 0 → (wX12_see  M (fun (r2 : Int32) (M3 : gS) => ((r2 = (-1 : Int32) → (wX12_readsAll_88  Q y1 M3))
 ∧ (¬ r2 = (-1 : Int32) → (wX12_fails (0 : Int32) (mg M3 13) M3 (fun (b7 : Bool) (M6 : gS) => (wX12_readsAll_88  Q (bI b7) M6)))))))))
def wX12_readsAll_35  (Q : Bool → gS → Prop) : Nat → Int32 → gS → Prop
 | 0, _, _ => False
 | n + 1, y1, M => ((y1 = 0 → (wX12_readsAll_66  Q y1 M))
 ∧ (¬ y1 = 0 → (wX12_see  M (fun (r2 : Int32) (M3 : gS) => ((r2 = (59 : Int32) → (∀ x5 : Int32, x5 = ((mg M3 13) + (1 : Int32)) → (∀ M6 : gS, M6 = sg M3 13 x5 → (wX12_clauseHere  M6 (fun (b9 : Bool) (M8 : gS) => (wX12_readsAll_35  Q n (bI b9) M8))))))
 ∧ (¬ r2 = (59 : Int32) → (wX12_readsAll_66  Q y1 M3)))))))
def wX12_readsAll  (M : gS) (Q : Bool → gS → Prop) : Prop :=
 (vp_in (mg M 16) 7 ∧ (∀ M1 : gS, M1 = sa M 4 (Int32.toNatClampNeg (mg M 16)) (0 : Int32) → (∀ M2 : gS, M2 = sg M1 19 (0 : Int32) → (∀ M3 : gS, M3 = sg M2 13 (0 : Int32) → (∀ M4 : gS, M4 = sg M3 14 (0 : Int32) → (∀ M5 : gS, M5 = sg M4 17 (0 : Int32) → (wX12_clauseHere  M5 (fun (b8 : Bool) (M7 : gS) => (∃ k35 : Nat, wX12_readsAll_35  Q k35 (bI b8) M7)))))))))
def rmX12_readsAll : Room := { frames := 11, cells := 0, slots := 0, locals := 243 }
set_option maxHeartbeats 4000000 in
set_option maxRecDepth 100000 in
theorem kX12_readsAll (l : Launch) (dC : Nat → ClassId) (dI : Nat → Nat → Nat) (cB cI cJ cZ : ClassId) (h0 : Nat) (ad : Nat → Nat) (sz : Nat)  (M : gS) (Q : Bool → gS → Prop) (h : wX12_readsAll  M Q) : Met l yX12_readsAll wsX12_readsAll rmX12_readsAll (va_Pc [.ref h0] (mI dC dI cB cI cJ cZ h0 ad M sz)) (va_Qi (fun (r : Int32) (u : gS) => ∃ b : Bool, r = bI b ∧ Q b u) (mB dC dI cB cI cJ cZ h0 ad (va_A (mW cB cI cJ cZ h0 ad M) sz)) (va_A (mW cB cI cJ cZ h0 ad M) sz)) 0 0 (va_A (mW cB cI cJ cZ h0 ad M) sz) := by
  refine Met.ofW (cc := cX12_readsAll) (maxL := 2) (ret := (some .boolean)) (by decide) rfl ?_
  intro p e s m args below meth c s₁ B hml hv
  obtain ⟨rfl, hsz, hP, hK, hD0⟩ := hv
  have hx := B.exec
  have hb := B.bytes
  have hr := B.returns
  have hts := atoms_spec (ws := wsX12_readsAll) B.pre
  have hown : s.vm.findClass RX12 = some m.cls := findClass_of_methodNamed B.named
  have hlocks := B.notSynchronized
  subst hsz
  have hD := hD0.self (sz := s.heap.size)
  generalize hAe : va_A (mW cB cI cJ cZ h0 ad M) s.heap.size = A at hD ⊢
  have hA : ∀ q : Nat, s.heap.size ≤ q → A q := fun q h => by rw [← hAe]; exact Or.inr h
  have hS : va_S A s.heap s.heap [] := va_S.rf
  have hin : ∀ w ∈ wsX120, w ∈ wsX12_readsAll := fun w h => List.mem_cons_of_mem _ (List.mem_append_right _ h)
  have f1 := hts (.fieldLink RX12 76 "LastWordsModel" "taped" "I") (by decide +kernel)
  have f2 := hts (.fieldLink RX12 84 "LastWordsModel" "wrong" "I") (by decide +kernel)
  have f3 := hts (.fieldLink RX12 87 "LastWordsModel" "next" "I") (by decide +kernel)
  have f4 := hts (.fieldLink RX12 137 "LastWordsModel" "text" "I") (by decide +kernel)
  have f5 := hts (.fieldLink RX12 209 "LastWordsModel" "tunesRead" "I") (by decide +kernel)
  have f6 := hts (.fieldLink RX12 212 "LastWordsModel" "wordsRead" "I") (by decide +kernel)
  have f7 := hts (.fieldLink RX12 17 "LastWordsModel" "length" "[I") (by decide +kernel)
  have f8 := hts (.fieldLink RX12 235 "LastWordsModel" "lines" "I") (by decide +kernel)
  have f9 := hts (.fieldLink RX12 140 "LastWordsModel" "made" "I") (by decide +kernel)
  have b125 : ∀  (M : gS) (H : Heap) (locs : List Loc) (ls : Array Slot), va_P (dC, dI) vwCl (mW cB cI cJ cZ h0 ad M) H → va_D A (mW cB cI cJ cZ h0 ad M) → va_S A s.heap H locs → lv_has ls 2 [(0, .ref h0)] → wX12_readsAll_125  Q  M → W p l e (headSpec wsX12_readsAll rmX12_readsAll).room s m ([.ref h0] : List Value).toArray below meth c H locs 0 0 (MQ below (va_Qi (fun (r : Int32) (u : gS) => ∃ b : Bool, r = bI b ∧ Q b u) (mB dC dI cB cI cJ cZ h0 ad A) A) ([.ref h0] : List Value).toArray s 0 0 A) (F0 m 125 ls []) := by
    intro   M H locs ls hP hD hS hl h
    unfold wX12_readsAll_125 at h
    refine lv_aload_n hx hb dX12_readsAll_125 rfl (lv_at hl 0 rfl) ?_
    refine lv_iconst (v := 0) hx hb dX12_readsAll_126 (by decide) ?_
    refine va_put (D := (dC, dI)) (ci := 12) (v := .int (0 : Int32)) (ty := .int) (C := RX12) (T := TX12) (N := 37) hx hb hts hin tyX12 tyX12_ok nmX12 hown hK hP hD hS 0 rfl rfl 1 (by decide) f1 (fun _ h9 => h9) rfl (by decide +kernel) rfl rfl (Nat.le_of_ble_eq_true rfl) dX12_readsAll_127 (fun H locs hP hD hS => ?_)
    have hP := mP_f1 hP
    have hD := mD_f1 hD
    have h := h _ rfl
    generalize sg M 1 (0 : Int32) = M1 at hP hD h
    refine lv_aload_n hx hb dX12_readsAll_130 rfl (lv_at hl 0 rfl) ?_
    refine va_get (D := (dC, dI)) (ci := 12) (v := .int (mg M1 14)) (C := RX12) (T := TX12) (N := 37) hx hb hts hin hown hK hP 0 rfl rfl 14 (by decide) f2 (fun _ h9 => h9) rfl dX12_readsAll_131 ?_
    refine lv_if_ne (tgt := 141) hx hb dX12_readsAll_134 (by decide) (fun c2 => ?_) (fun c2 => ?_)
    · have h := h.2 c2
      refine lv_iconst (v := 0) hx hb dX12_readsAll_141 (by decide) ?_
      exact W.zret (v := (bI false)) hx hb hr (nar_bI false) (fun t ht hW => ⟨⟨_, M1, rfl, ⟨false, rfl, h⟩, by rw [ht]; exact hP, va_K.moved hW.alike hK, hD⟩, hS.F ht⟩) hS.2.2 dX12_readsAll_142
    · have h := h.1 c2
      refine lv_iconst (v := 1) hx hb dX12_readsAll_137 (by decide) ?_
      refine lv_goto (tgt := 142) hx hb dX12_readsAll_138 (by decide) ?_
      exact W.zret (v := (bI true)) hx hb hr (nar_bI true) (fun t ht hW => ⟨⟨_, M1, rfl, ⟨true, rfl, h⟩, by rw [ht]; exact hP, va_K.moved hW.alike hK, hD⟩, hS.F ht⟩) hS.2.2 dX12_readsAll_142
  have b115 : ∀  (M : gS) (H : Heap) (locs : List Loc) (ls : Array Slot), va_P (dC, dI) vwCl (mW cB cI cJ cZ h0 ad M) H → va_D A (mW cB cI cJ cZ h0 ad M) → va_S A s.heap H locs → lv_has ls 2 [(0, .ref h0)] → wX12_readsAll_115  Q  M → W p l e (headSpec wsX12_readsAll rmX12_readsAll).room s m ([.ref h0] : List Value).toArray below meth c H locs 0 0 (MQ below (va_Qi (fun (r : Int32) (u : gS) => ∃ b : Bool, r = bI b ∧ Q b u) (mB dC dI cB cI cJ cZ h0 ad A) A) ([.ref h0] : List Value).toArray s 0 0 A) (F0 m 115 ls []) := by
    intro   M H locs ls hP hD hS hl h
    unfold wX12_readsAll_115 at h
    refine lv_aload_n hx hb dX12_readsAll_115 rfl (lv_at hl 0 rfl) ?_
    refine lv_iconst (v := 0) hx hb dX12_readsAll_116 (by decide) ?_
    refine lv_aload_n hx hb dX12_readsAll_117 rfl (lv_at hl 0 rfl) ?_
    refine va_get (D := (dC, dI)) (ci := 12) (v := .int (mg M 13)) (C := RX12) (T := TX12) (N := 37) hx hb hts hin hown hK hP 0 rfl rfl 13 (by decide) f3 (fun _ h9 => h9) rfl dX12_readsAll_118 ?_
    have hFc := gs_free hD hS hA
    refine va_calli (va_runV (As := [.int (0 : Int32), .int (mg M 13)]) (rest := []) ⟨hx, hb, hml, hown, hts⟩ (kX12_fails l dC dI cB cI cJ cZ h0 ad H.size (0 : Int32) (mg M 13) M _ h) (cwV 2 hts gX12_readsAll_X12_fails rfl rfl rfl (by decide +kernel) ⟨Nat.le_of_ble_eq_true rfl, Nat.le_of_ble_eq_true rfl⟩) (mpV hK hP hD) rfl rfl hl.1 rfl (lv_room (Nat.le_of_ble_eq_true rfl)) dX12_readsAll_121 ⟨Nat.le_of_ble_eq_true rfl, Nat.le_of_ble_eq_true rfl⟩) hS (fun q _ z => hFc q z) hFc (fun r1 M2 t H1 locs ht hvm hw hB hz1 hk1 hS => ?_)
    obtain ⟨hP, hD⟩ := gs_back ht hFc hB
    generalize H1 = H at hP hS ⊢
    obtain ⟨b3, rfl, h⟩ := hw
    try dsimp only at h
    refine lv_pop hx hb dX12_readsAll_124 rfl ?_
    exact b125  M2 H locs ls hP hD hS (lv_sub hl [0] rfl) h
  have b88 : ∀ (y1 : Int32) (M : gS) (H : Heap) (locs : List Loc) (ls : Array Slot), va_P (dC, dI) vwCl (mW cB cI cJ cZ h0 ad M) H → va_D A (mW cB cI cJ cZ h0 ad M) → va_S A s.heap H locs → lv_has ls 2 [(0, .ref h0), (1, .int y1)] → wX12_readsAll_88  Q y1 M → W p l e (headSpec wsX12_readsAll rmX12_readsAll).room s m ([.ref h0] : List Value).toArray below meth c H locs 0 0 (MQ below (va_Qi (fun (r : Int32) (u : gS) => ∃ b : Bool, r = bI b ∧ Q b u) (mB dC dI cB cI cJ cZ h0 ad A) A) ([.ref h0] : List Value).toArray s 0 0 A) (F0 m 88 ls []) := by
    intro  y1 M H locs ls hP hD hS hl h
    unfold wX12_readsAll_88 at h
    refine lv_iload_n hx hb dX12_readsAll_88 rfl (lv_at hl 1 rfl) ?_
    refine lv_if_eq (tgt := 125) hx hb dX12_readsAll_89 (by decide) (fun c1 => ?_) (fun c1 => ?_)
    · have h := h.1 c1
      exact b125  M H locs ls hP hD hS (lv_sub hl [0] rfl) h
    · have h := h.2 c1
      refine lv_aload_n hx hb dX12_readsAll_92 rfl (lv_at hl 0 rfl) ?_
      refine va_get (D := (dC, dI)) (ci := 12) (v := .int (mg M 16)) (C := RX12) (T := TX12) (N := 37) hx hb hts hin hown hK hP 0 rfl rfl 16 (by decide) f4 (fun _ h9 => h9) rfl dX12_readsAll_93 ?_
      refine lv_bipush (v := (6)) hx hb dX12_readsAll_96 (by decide) ?_
      refine lv_icmp_ne (tgt := 125) hx hb dX12_readsAll_98 (by decide) (fun c2 => ?_) (fun c2 => ?_)
      · have h := h.2 c2
        exact b125  M H locs ls hP hD hS (lv_sub hl [0] rfl) h
      · have h := h.1 c2
        refine lv_aload_n hx hb dX12_readsAll_101 rfl (lv_at hl 0 rfl) ?_
        refine va_get (D := (dC, dI)) (ci := 12) (v := .int (mg M 7)) (C := RX12) (T := TX12) (N := 37) hx hb hts hin hown hK hP 0 rfl rfl 7 (by decide) f5 (fun _ h9 => h9) rfl dX12_readsAll_102 ?_
        refine lv_if_eq (tgt := 115) hx hb dX12_readsAll_105 (by decide) (fun c3 => ?_) (fun c3 => ?_)
        · have h := h.1 c3
          exact b115  M H locs ls hP hD hS (lv_sub hl [0] rfl) h
        · have h := h.2 c3
          refine lv_aload_n hx hb dX12_readsAll_108 rfl (lv_at hl 0 rfl) ?_
          refine va_get (D := (dC, dI)) (ci := 12) (v := .int (mg M 8)) (C := RX12) (T := TX12) (N := 37) hx hb hts hin hown hK hP 0 rfl rfl 8 (by decide) f6 (fun _ h9 => h9) rfl dX12_readsAll_109 ?_
          refine lv_if_ne (tgt := 125) hx hb dX12_readsAll_112 (by decide) (fun c4 => ?_) (fun c4 => ?_)
          · have h := h.2 c4
            exact b125  M H locs ls hP hD hS (lv_sub hl [0] rfl) h
          · have h := h.1 c4
            exact b115  M H locs ls hP hD hS (lv_sub hl [0] rfl) h
  have b66 : ∀ (y1 : Int32) (M : gS) (H : Heap) (locs : List Loc) (ls : Array Slot), va_P (dC, dI) vwCl (mW cB cI cJ cZ h0 ad M) H → va_D A (mW cB cI cJ cZ h0 ad M) → va_S A s.heap H locs → lv_has ls 2 [(0, .ref h0), (1, .int y1)] → wX12_readsAll_66  Q y1 M → W p l e (headSpec wsX12_readsAll rmX12_readsAll).room s m ([.ref h0] : List Value).toArray below meth c H locs 0 0 (MQ below (va_Qi (fun (r : Int32) (u : gS) => ∃ b : Bool, r = bI b ∧ Q b u) (mB dC dI cB cI cJ cZ h0 ad A) A) ([.ref h0] : List Value).toArray s 0 0 A) (F0 m 66 ls []) := by
    intro  y1 M H locs ls hP hD hS hl h
    unfold wX12_readsAll_66 at h
    refine lv_iload_n hx hb dX12_readsAll_66 rfl (lv_at hl 1 rfl) ?_
    refine lv_if_eq (tgt := 88) hx hb dX12_readsAll_67 (by decide) (fun c1 => ?_) (fun c1 => ?_)
    · have h := h.1 c1
      exact b88  y1 M H locs ls hP hD hS (lv_sub hl [0, 1] rfl) h
    · have h := h.2 c1
      refine lv_aload_n hx hb dX12_readsAll_70 rfl (lv_at hl 0 rfl) ?_
      have hFc := gs_free hD hS hA
      refine va_calli (va_runV (As := []) (rest := []) ⟨hx, hb, hml, hown, hts⟩ (kX12_see l dC dI cB cI cJ cZ h0 ad H.size  M _ h) (cwV 0 hts gX12_readsAll_X12_see rfl rfl rfl (by decide +kernel) ⟨Nat.le_of_ble_eq_true rfl, Nat.le_of_ble_eq_true rfl⟩) (mpV hK hP hD) rfl rfl hl.1 rfl (lv_room (Nat.le_of_ble_eq_true rfl)) dX12_readsAll_71 ⟨Nat.le_of_ble_eq_true rfl, Nat.le_of_ble_eq_true rfl⟩) hS (fun q _ z => hFc q z) hFc (fun r2 M3 t H1 locs ht hvm hw hB hz1 hk1 hS => ?_)
      obtain ⟨hP, hD⟩ := gs_back ht hFc hB
      generalize H1 = H at hP hS ⊢
      have h := hw
      try dsimp only at h
      refine lv_iconst (v := (-1)) hx hb dX12_readsAll_74 (by decide) ?_
      refine lv_icmp_eq (tgt := 88) hx hb dX12_readsAll_75 (by decide) (fun c4 => ?_) (fun c4 => ?_)
      · have h := h.1 c4
        exact b88  y1 M3 H locs ls hP hD hS (lv_sub hl [0, 1] rfl) h
      · have h := h.2 c4
        refine lv_aload_n hx hb dX12_readsAll_78 rfl (lv_at hl 0 rfl) ?_
        refine lv_iconst (v := 0) hx hb dX12_readsAll_79 (by decide) ?_
        refine lv_aload_n hx hb dX12_readsAll_80 rfl (lv_at hl 0 rfl) ?_
        refine va_get (D := (dC, dI)) (ci := 12) (v := .int (mg M3 13)) (C := RX12) (T := TX12) (N := 37) hx hb hts hin hown hK hP 0 rfl rfl 13 (by decide) f3 (fun _ h9 => h9) rfl dX12_readsAll_81 ?_
        have hFc := gs_free hD hS hA
        refine va_calli (va_runV (As := [.int (0 : Int32), .int (mg M3 13)]) (rest := []) ⟨hx, hb, hml, hown, hts⟩ (kX12_fails l dC dI cB cI cJ cZ h0 ad H.size (0 : Int32) (mg M3 13) M3 _ h) (cwV 2 hts gX12_readsAll_X12_fails rfl rfl rfl (by decide +kernel) ⟨Nat.le_of_ble_eq_true rfl, Nat.le_of_ble_eq_true rfl⟩) (mpV hK hP hD) rfl rfl hl.1 rfl (lv_room (Nat.le_of_ble_eq_true rfl)) dX12_readsAll_84 ⟨Nat.le_of_ble_eq_true rfl, Nat.le_of_ble_eq_true rfl⟩) hS (fun q _ z => hFc q z) hFc (fun r5 M6 t H1 locs ht hvm hw hB hz1 hk1 hS => ?_)
        obtain ⟨hP, hD⟩ := gs_back ht hFc hB
        generalize H1 = H at hP hS ⊢
        obtain ⟨b7, rfl, h⟩ := hw
        try dsimp only at h
        refine lv_istore_n (lv' := [(1, .int (bI b7)), (0, .ref h0)]) hx hb dX12_readsAll_87 rfl hl (by decide) rfl (fun ls hl => ?_)
        exact b88  (bI b7) M6 H locs ls hP hD hS (lv_sub hl [1, 0] rfl) h
  have b35 : ∀ (n : Nat) (y1 : Int32) (M : gS) (H : Heap) (locs : List Loc) (ls : Array Slot), va_P (dC, dI) vwCl (mW cB cI cJ cZ h0 ad M) H → va_D A (mW cB cI cJ cZ h0 ad M) → va_S A s.heap H locs → lv_has ls 2 [(0, .ref h0), (1, .int y1)] → wX12_readsAll_35  Q n y1 M → W p l e (headSpec wsX12_readsAll rmX12_readsAll).room s m ([.ref h0] : List Value).toArray below meth c H locs 0 0 (MQ below (va_Qi (fun (r : Int32) (u : gS) => ∃ b : Bool, r = bI b ∧ Q b u) (mB dC dI cB cI cJ cZ h0 ad A) A) ([.ref h0] : List Value).toArray s 0 0 A) (F0 m 35 ls []) := by
    intro  n
    induction n with
    | zero => intro y1 M H locs ls hP hD hS hl h; exact absurd h (by simp [wX12_readsAll_35])
    | succ n hB350 =>
      intro y1 M H locs ls hP hD hS hl h
      have hB35 := hB350
      rw [wX12_readsAll_35] at h
      refine lv_iload_n hx hb dX12_readsAll_35 rfl (lv_at hl 1 rfl) ?_
      refine lv_if_eq (tgt := 66) hx hb dX12_readsAll_36 (by decide) (fun c1 => ?_) (fun c1 => ?_)
      · have h := h.1 c1
        exact b66  y1 M H locs ls hP hD hS (lv_sub hl [0, 1] rfl) h
      · have h := h.2 c1
        refine lv_aload_n hx hb dX12_readsAll_39 rfl (lv_at hl 0 rfl) ?_
        have hFc := gs_free hD hS hA
        refine va_calli (va_runV (As := []) (rest := []) ⟨hx, hb, hml, hown, hts⟩ (kX12_see l dC dI cB cI cJ cZ h0 ad H.size  M _ h) (cwV 0 hts gX12_readsAll_X12_see rfl rfl rfl (by decide +kernel) ⟨Nat.le_of_ble_eq_true rfl, Nat.le_of_ble_eq_true rfl⟩) (mpV hK hP hD) rfl rfl hl.1 rfl (lv_room (Nat.le_of_ble_eq_true rfl)) dX12_readsAll_40 ⟨Nat.le_of_ble_eq_true rfl, Nat.le_of_ble_eq_true rfl⟩) hS (fun q _ z => hFc q z) hFc (fun r2 M3 t H1 locs ht hvm hw hB hz1 hk1 hS => ?_)
        obtain ⟨hP, hD⟩ := gs_back ht hFc hB
        generalize H1 = H at hP hS ⊢
        have h := hw
        try dsimp only at h
        refine lv_bipush (v := (59)) hx hb dX12_readsAll_43 (by decide) ?_
        refine lv_icmp_ne (tgt := 66) hx hb dX12_readsAll_45 (by decide) (fun c4 => ?_) (fun c4 => ?_)
        · have h := h.2 c4
          exact b66  y1 M3 H locs ls hP hD hS (lv_sub hl [0, 1] rfl) h
        · have h := h.1 c4
          refine lv_aload_n hx hb dX12_readsAll_48 rfl (lv_at hl 0 rfl) ?_
          refine lv_dup hx hb dX12_readsAll_49 rfl ?_
          refine va_get (D := (dC, dI)) (ci := 12) (v := .int (mg M3 13)) (C := RX12) (T := TX12) (N := 37) hx hb hts hin hown hK hP 0 rfl rfl 13 (by decide) f3 (fun _ h9 => h9) rfl dX12_readsAll_50 ?_
          refine lv_iconst (v := 1) hx hb dX12_readsAll_53 (by decide) ?_
          refine lv_iadd hx hb dX12_readsAll_54 ?_
          refine lv_topi (fun x5 ex5 => ?_)
          have h := h x5 ex5
          refine va_put (D := (dC, dI)) (ci := 12) (v := .int x5) (ty := .int) (C := RX12) (T := TX12) (N := 37) hx hb hts hin tyX12 tyX12_ok nmX12 hown hK hP hD hS 0 rfl rfl 13 (by decide) f3 (fun _ h9 => h9) rfl (by decide +kernel) rfl rfl (Nat.le_of_ble_eq_true rfl) dX12_readsAll_55 (fun H locs hP hD hS => ?_)
          have hP := mP_f13 hP
          have hD := mD_f13 hD
          have h := h _ rfl
          generalize sg M3 13 x5 = M6 at hP hD h
          refine lv_aload_n hx hb dX12_readsAll_58 rfl (lv_at hl 0 rfl) ?_
          have hFc := gs_free hD hS hA
          refine va_calli (va_runV (As := []) (rest := []) ⟨hx, hb, hml, hown, hts⟩ (kX12_clauseHere l dC dI cB cI cJ cZ h0 ad H.size  M6 _ h) (cwV 0 hts gX12_readsAll_X12_clauseHere rfl rfl rfl (by decide +kernel) ⟨Nat.le_of_ble_eq_true rfl, Nat.le_of_ble_eq_true rfl⟩) (mpV hK hP hD) rfl rfl hl.1 rfl (lv_room (Nat.le_of_ble_eq_true rfl)) dX12_readsAll_59 ⟨Nat.le_of_ble_eq_true rfl, Nat.le_of_ble_eq_true rfl⟩) hS (fun q _ z => hFc q z) hFc (fun r7 M8 t H1 locs ht hvm hw hB hz1 hk1 hS => ?_)
          obtain ⟨hP, hD⟩ := gs_back ht hFc hB
          generalize H1 = H at hP hS ⊢
          obtain ⟨b9, rfl, h⟩ := hw
          try dsimp only at h
          refine lv_istore_n (lv' := [(1, .int (bI b9)), (0, .ref h0)]) hx hb dX12_readsAll_62 rfl hl (by decide) rfl (fun ls hl => ?_)
          refine lv_goto (tgt := 35) hx hb dX12_readsAll_63 (by decide) ?_
          exact hB35 (bI b9) M8 H locs ls hP hD hS (lv_sub hl [1, 0] rfl) h
  have bE : ∀ (M : gS) (H : Heap) (locs : List Loc) (ls : Array Slot), va_P (dC, dI) vwCl (mW cB cI cJ cZ h0 ad M) H → va_D A (mW cB cI cJ cZ h0 ad M) → va_S A s.heap H locs → lv_has ls 2 [(0, .ref h0)] → wX12_readsAll  M Q → W p l e (headSpec wsX12_readsAll rmX12_readsAll).room s m ([.ref h0] : List Value).toArray below meth c H locs 0 0 (MQ below (va_Qi (fun (r : Int32) (u : gS) => ∃ b : Bool, r = bI b ∧ Q b u) (mB dC dI cB cI cJ cZ h0 ad A) A) ([.ref h0] : List Value).toArray s 0 0 A) (F0 m 0 ls []) := by
    intro M H locs ls hP hD hS hl h
    unfold wX12_readsAll at h
    refine lv_aload_n hx hb dX12_readsAll_0 rfl (lv_at hl 0 rfl) ?_
    refine va_get (D := (dC, dI)) (ci := 12) (v := .ref (ad 4)) (C := RX12) (T := TX12) (N := 37) hx hb hts hin hown hK hP 0 rfl rfl 4 (by decide) f7 (fun _ h9 => h9) rfl dX12_readsAll_1 ?_
    refine lv_aload_n hx hb dX12_readsAll_4 rfl (lv_at hl 0 rfl) ?_
    refine va_get (D := (dC, dI)) (ci := 12) (v := .int (mg M 16)) (C := RX12) (T := TX12) (N := 37) hx hb hts hin hown hK hP 0 rfl rfl 16 (by decide) f4 (fun _ h9 => h9) rfl dX12_readsAll_5 ?_
    refine lv_iconst (v := 0) hx hb dX12_readsAll_8 (by decide) ?_
    refine va_iast hx hb hK hP hD hS 3 1 (f := ma M 4) rfl rfl h.1 dX12_readsAll_9 (fun H locs hP hD hS => ?_)
    have h := h.2
    have hP := mP_a4 hP
    have hD := mD_a4 hD
    have h := h _ rfl
    generalize sa M 4 (Int32.toNatClampNeg (mg M 16)) (0 : Int32) = M1 at hP hD h
    refine lv_aload_n hx hb dX12_readsAll_10 rfl (lv_at hl 0 rfl) ?_
    refine lv_iconst (v := 0) hx hb dX12_readsAll_11 (by decide) ?_
    refine va_put (D := (dC, dI)) (ci := 12) (v := .int (0 : Int32)) (ty := .int) (C := RX12) (T := TX12) (N := 37) hx hb hts hin tyX12 tyX12_ok nmX12 hown hK hP hD hS 0 rfl rfl 19 (by decide) f8 (fun _ h9 => h9) rfl (by decide +kernel) rfl rfl (Nat.le_of_ble_eq_true rfl) dX12_readsAll_12 (fun H locs hP hD hS => ?_)
    have hP := mP_f19 hP
    have hD := mD_f19 hD
    have h := h _ rfl
    generalize sg M1 19 (0 : Int32) = M2 at hP hD h
    refine lv_aload_n hx hb dX12_readsAll_15 rfl (lv_at hl 0 rfl) ?_
    refine lv_iconst (v := 0) hx hb dX12_readsAll_16 (by decide) ?_
    refine va_put (D := (dC, dI)) (ci := 12) (v := .int (0 : Int32)) (ty := .int) (C := RX12) (T := TX12) (N := 37) hx hb hts hin tyX12 tyX12_ok nmX12 hown hK hP hD hS 0 rfl rfl 13 (by decide) f3 (fun _ h9 => h9) rfl (by decide +kernel) rfl rfl (Nat.le_of_ble_eq_true rfl) dX12_readsAll_17 (fun H locs hP hD hS => ?_)
    have hP := mP_f13 hP
    have hD := mD_f13 hD
    have h := h _ rfl
    generalize sg M2 13 (0 : Int32) = M3 at hP hD h
    refine lv_aload_n hx hb dX12_readsAll_20 rfl (lv_at hl 0 rfl) ?_
    refine lv_iconst (v := 0) hx hb dX12_readsAll_21 (by decide) ?_
    refine va_put (D := (dC, dI)) (ci := 12) (v := .int (0 : Int32)) (ty := .int) (C := RX12) (T := TX12) (N := 37) hx hb hts hin tyX12 tyX12_ok nmX12 hown hK hP hD hS 0 rfl rfl 14 (by decide) f2 (fun _ h9 => h9) rfl (by decide +kernel) rfl rfl (Nat.le_of_ble_eq_true rfl) dX12_readsAll_22 (fun H locs hP hD hS => ?_)
    have hP := mP_f14 hP
    have hD := mD_f14 hD
    have h := h _ rfl
    generalize sg M3 14 (0 : Int32) = M4 at hP hD h
    refine lv_aload_n hx hb dX12_readsAll_25 rfl (lv_at hl 0 rfl) ?_
    refine lv_iconst (v := 0) hx hb dX12_readsAll_26 (by decide) ?_
    refine va_put (D := (dC, dI)) (ci := 12) (v := .int (0 : Int32)) (ty := .int) (C := RX12) (T := TX12) (N := 37) hx hb hts hin tyX12 tyX12_ok nmX12 hown hK hP hD hS 0 rfl rfl 17 (by decide) f9 (fun _ h9 => h9) rfl (by decide +kernel) rfl rfl (Nat.le_of_ble_eq_true rfl) dX12_readsAll_27 (fun H locs hP hD hS => ?_)
    have hP := mP_f17 hP
    have hD := mD_f17 hD
    have h := h _ rfl
    generalize sg M4 17 (0 : Int32) = M5 at hP hD h
    refine lv_aload_n hx hb dX12_readsAll_30 rfl (lv_at hl 0 rfl) ?_
    have hFc := gs_free hD hS hA
    refine va_calli (va_runV (As := []) (rest := []) ⟨hx, hb, hml, hown, hts⟩ (kX12_clauseHere l dC dI cB cI cJ cZ h0 ad H.size  M5 _ h) (cwV 0 hts gX12_readsAll_X12_clauseHere rfl rfl rfl (by decide +kernel) ⟨Nat.le_of_ble_eq_true rfl, Nat.le_of_ble_eq_true rfl⟩) (mpV hK hP hD) rfl rfl hl.1 rfl (lv_room (Nat.le_of_ble_eq_true rfl)) dX12_readsAll_31 ⟨Nat.le_of_ble_eq_true rfl, Nat.le_of_ble_eq_true rfl⟩) hS (fun q _ z => hFc q z) hFc (fun r6 M7 t H1 locs ht hvm hw hB hz1 hk1 hS => ?_)
    obtain ⟨hP, hD⟩ := gs_back ht hFc hB
    generalize H1 = H at hP hS ⊢
    obtain ⟨b8, rfl, h⟩ := hw
    try dsimp only at h
    refine lv_istore_n (lv' := [(1, .int (bI b8)), (0, .ref h0)]) hx hb dX12_readsAll_34 rfl hl (by decide) rfl (fun ls hl => ?_)
    obtain ⟨n9, h⟩ := h
    exact b35  n9 (bI b8) M7 H locs ls hP hD hS (lv_sub hl [1, 0] rfl) h
  have hl := lv_entry ([.ref h0]) (n := 2) (Nat.le_of_ble_eq_true rfl)
  rw [lg_entry_eq]
  generalize (lg_sl ([.ref h0]) ++ List.replicate (2 - (lg_sl ([.ref h0])).length) Slot.unset).toArray = ls at hl ⊢
  have hl : lv_has ls 2 [(0, .ref h0)] := hl
  exact bE M s.heap [] ls hP hD hS hl h
