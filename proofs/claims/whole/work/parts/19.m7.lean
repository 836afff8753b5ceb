def wX12_says_47  (Q : gS → Prop) (y1 : Int32) (y2 : Int32) (z3 : Int32) (z2 : Int32) (z1 : Int32) (z0 : Int32) (M : gS) : Prop :=
 (∀ x1 : Int32, x1 = (z2 - (z1 + z0)) → (vp_in z3 44 ∧ (∀ M2 : gS, M2 = sa M 25 (Int32.toNatClampNeg z3) x1 → (vp_in ((14 : Int32) + y2) 44 ∧ (∀ M3 : gS, M3 = sa M2 25 (Int32.toNatClampNeg ((14 : Int32) + y2)) y1 → (vp_in ((16 : Int32) + y2) 44 ∧ (∀ x4 : Int32, x4 = ((ma M3 25 (Int32.toNatClampNeg ((16 : Int32) + y2))) + (1 : Int32)) → (vp_in ((16 : Int32) + y2) 44 ∧ (∀ M5 : gS, M5 = sa M3 25 (Int32.toNatClampNeg ((16 : Int32) + y2)) x4 → (∀ x6 : Int32, x6 = (y2 + (1 : Int32)) → (∀ M7 : gS, M7 = sa M5 25 8 x6 → (∀ x8 : Int32, x8 = ((1 : Int32) - y2) → (∀ M9 : gS, M9 = sa M7 25 6 x8 → (∀ x10 : Int32, x10 = ((ma M9 25 7) + (1 : Int32)) → (∀ M11 : gS, M11 = sa M9 25 7 x10 → (wX12_looks  M11 (fun (M13 : gS) => (Q M13))))))))))))))))))
def wX12_says (p1 : Int32) (M : gS) (Q : gS → Prop) : Prop :=
 (∀ x1 : Int32, x1 = (ma M 25 6) → (vp_in ((28 : Int32) + p1) 44 ∧ (vp_in ((14 : Int32) + x1) 44 ∧ (((ma M 25 (Int32.toNatClampNeg ((14 : Int32) + x1))) = p1 → (wX12_says_47  Q p1 x1 (5 : Int32) (ma M 25 5) (ma M 25 (Int32.toNatClampNeg ((28 : Int32) + p1))) (ma M 25 2) M))
 ∧ (¬ (ma M 25 (Int32.toNatClampNeg ((14 : Int32) + x1))) = p1 → (wX12_says_47  Q p1 x1 (5 : Int32) (ma M 25 5) (ma M 25 (Int32.toNatClampNeg ((28 : Int32) + p1))) (0 : Int32) M))))))
def rmX12_says : Room := { frames := 3, cells := 0, slots := 0, locals := 62 }
set_option maxHeartbeats 4000000 in
set_option maxRecDepth 100000 in
theorem kX12_says (l : Launch) (dC : Nat → ClassId) (dI : Nat → Nat → Nat) (cB cI cJ cZ : ClassId) (h0 : Nat) (ad : Nat → Nat) (sz : Nat) (p1 : Int32) (M : gS) (Q : gS → Prop) (h : wX12_says p1 M Q) : Met l yX12_says wsX12_says rmX12_says (va_Pc [.ref h0, .int p1] (mI dC dI cB cI cJ cZ h0 ad M sz)) (va_Qv (fun (u : gS) => Q u) (mB dC dI cB cI cJ cZ h0 ad (va_A (mW cB cI cJ cZ h0 ad M) sz)) (va_A (mW cB cI cJ cZ h0 ad M) sz)) 0 0 (va_A (mW cB cI cJ cZ h0 ad M) sz) := by
  refine Met.ofW (cc := cX12_says) (maxL := 3) (ret := none) (by decide) rfl ?_
  intro p e s m args below meth c s₁ B hml hv
  obtain ⟨rfl, hsz, hP, hK, hD0⟩ := hv
  have hx := B.exec
  have hb := B.bytes
  have hr := B.returns
  have hts := atoms_spec (ws := wsX12_says) B.pre
  have hown : s.vm.findClass RX12 = some m.cls := findClass_of_methodNamed B.named
  have hlocks := B.notSynchronized
  subst hsz
  have hD := hD0.self (sz := s.heap.size)
  generalize hAe : va_A (mW cB cI cJ cZ h0 ad M) s.heap.size = A at hD ⊢
  have hA : ∀ q : Nat, s.heap.size ≤ q → A q := fun q h => by rw [← hAe]; exact Or.inr h
  have hS : va_S A s.heap s.heap [] := va_S.rf
  have hin : ∀ w ∈ wsX120, w ∈ wsX12_says := fun w h => List.mem_cons_of_mem _ (List.mem_append_right _ h)
  have f1 := hts (.fieldLink RX12 45 "LastWordsModel" "said" "[I") (by decide +kernel)
  have b47 : ∀ (y1 : Int32) (y2 : Int32) (z3 : Int32) (z2 : Int32) (z1 : Int32) (z0 : Int32) (M : gS) (H : Heap) (locs : List Loc) (ls : Array Slot), va_P (dC, dI) vwCl (mW cB cI cJ cZ h0 ad M) H → va_D A (mW cB cI cJ cZ h0 ad M) → va_S A s.heap H locs → lv_has ls 3 [(0, .ref h0), (1, .int y1), (2, .int y2)] → wX12_says_47  Q y1 y2 z3 z2 z1 z0 M → W p l e (headSpec wsX12_says rmX12_says).room s m ([.ref h0, .int p1] : List Value).toArray below meth c H locs 0 0 (MQ below (va_Qv (fun (u : gS) => Q u) (mB dC dI cB cI cJ cZ h0 ad A) A) ([.ref h0, .int p1] : List Value).toArray s 0 0 A) (F0 m 47 ls [.int z0, .int z1, .int z2, .int z3, .ref (ad 25)]) := by
    intro  y1 y2 z3 z2 z1 z0 M H locs ls hP hD hS hl h
    unfold wX12_says_47 at h
    refine lv_iadd hx hb dX12_says_47 ?_
    refine lv_isub hx hb dX12_says_48 ?_
    refine lv_topi (fun x1 ex1 => ?_)
    have h := h x1 ex1
    refine va_iast hx hb hK hP hD hS 12 1 (f := ma M 25) rfl rfl h.1 dX12_says_49 (fun H locs hP hD hS => ?_)
    have h := h.2
    have hP := mP_a25 hP
    have hD := mD_a25 hD
    have h := h _ rfl
    generalize sa M 25 (Int32.toNatClampNeg z3) x1 = M2 at hP hD h
    refine lv_aload_n hx hb dX12_says_50 rfl (lv_at hl 0 rfl) ?_
    refine va_get (D := (dC, dI)) (ci := 12) (v := .ref (ad 25)) (C := RX12) (T := TX12) (N := 37) hx hb hts hin hown hK hP 0 rfl rfl 25 (by decide) f1 (fun _ h9 => h9) rfl dX12_says_51 ?_
    refine lv_bipush (v := (14)) hx hb dX12_says_54 (by decide) ?_
    refine lv_iload_n hx hb dX12_says_56 rfl (lv_at hl 2 rfl) ?_
    refine lv_iadd hx hb dX12_says_57 ?_
    refine lv_iload_n hx hb dX12_says_58 rfl (lv_at hl 1 rfl) ?_
    refine va_iast hx hb hK hP hD hS 12 1 (f := ma M2 25) rfl rfl h.1 dX12_says_59 (fun H locs hP hD hS => ?_)
    have h := h.2
    have hP := mP_a25 hP
    have hD := mD_a25 hD
    have h := h _ rfl
    generalize sa M2 25 (Int32.toNatClampNeg ((14 : Int32) + y2)) y1 = M3 at hP hD h
    refine lv_aload_n hx hb dX12_says_60 rfl (lv_at hl 0 rfl) ?_
    refine va_get (D := (dC, dI)) (ci := 12) (v := .ref (ad 25)) (C := RX12) (T := TX12) (N := 37) hx hb hts hin hown hK hP 0 rfl rfl 25 (by decide) f1 (fun _ h9 => h9) rfl dX12_says_61 ?_
    refine lv_bipush (v := (16)) hx hb dX12_says_64 (by decide) ?_
    refine lv_iload_n hx hb dX12_says_66 rfl (lv_at hl 2 rfl) ?_
    refine lv_iadd hx hb dX12_says_67 ?_
    refine lv_dup2_11 hx hb dX12_says_68 rfl rfl ?_
    refine va_iald hx hb hK hP 12 1 (f := ma M3 25) rfl rfl h.1 dX12_says_69 ?_
    have h := h.2
    refine lv_iconst (v := 1) hx hb dX12_says_70 (by decide) ?_
    refine lv_iadd hx hb dX12_says_71 ?_
    refine lv_topi (fun x4 ex4 => ?_)
    have h := h x4 ex4
    refine va_iast hx hb hK hP hD hS 12 1 (f := ma M3 25) rfl rfl h.1 dX12_says_72 (fun H locs hP hD hS => ?_)
    have h := h.2
    have hP := mP_a25 hP
    have hD := mD_a25 hD
    have h := h _ rfl
    generalize sa M3 25 (Int32.toNatClampNeg ((16 : Int32) + y2)) x4 = M5 at hP hD h
    refine lv_aload_n hx hb dX12_says_73 rfl (lv_at hl 0 rfl) ?_
    refine va_get (D := (dC, dI)) (ci := 12) (v := .ref (ad 25)) (C := RX12) (T := TX12) (N := 37) hx hb hts hin hown hK hP 0 rfl rfl 25 (by decide) f1 (fun _ h9 => h9) rfl dX12_says_74 ?_
    refine lv_bipush (v := (8)) hx hb dX12_says_77 (by decide) ?_
    refine lv_iload_n hx hb dX12_says_79 rfl (lv_at hl 2 rfl) ?_
    refine lv_iconst (v := 1) hx hb dX12_says_80 (by decide) ?_
    refine lv_iadd hx hb dX12_says_81 ?_
    refine lv_topi (fun x6 ex6 => ?_)
    have h := h x6 ex6
    refine wc_iast (j := 8) hx hb hK hP hD hS 12 1 (f := ma M5 25) rfl rfl (by decide) (by decide) (by decide) dX12_says_82 (fun H locs hP hD hS => ?_)
    have hP := mP_a25 hP
    have hD := mD_a25 hD
    have h := h _ rfl
    generalize sa M5 25 8 x6 = M7 at hP hD h
    refine lv_aload_n hx hb dX12_says_83 rfl (lv_at hl 0 rfl) ?_
    refine va_get (D := (dC, dI)) (ci := 12) (v := .ref (ad 25)) (C := RX12) (T := TX12) (N := 37) hx hb hts hin hown hK hP 0 rfl rfl 25 (by decide) f1 (fun _ h9 => h9) rfl dX12_says_84 ?_
    refine lv_bipush (v := (6)) hx hb dX12_says_87 (by decide) ?_
    refine lv_iconst (v := 1) hx hb dX12_says_89 (by decide) ?_
    refine lv_iload_n hx hb dX12_says_90 rfl (lv_at hl 2 rfl) ?_
    refine lv_isub hx hb dX12_says_91 ?_
    refine lv_topi (fun x8 ex8 => ?_)
    have h := h x8 ex8
    refine wc_iast (j := 6) hx hb hK hP hD hS 12 1 (f := ma M7 25) rfl rfl (by decide) (by decide) (by decide) dX12_says_92 (fun H locs hP hD hS => ?_)
    have hP := mP_a25 hP
    have hD := mD_a25 hD
    have h := h _ rfl
    generalize sa M7 25 6 x8 = M9 at hP hD h
    refine lv_aload_n hx hb dX12_says_93 rfl (lv_at hl 0 rfl) ?_
    refine va_get (D := (dC, dI)) (ci := 12) (v := .ref (ad 25)) (C := RX12) (T := TX12) (N := 37) hx hb hts hin hown hK hP 0 rfl rfl 25 (by decide) f1 (fun _ h9 => h9) rfl dX12_says_94 ?_
    refine lv_bipush (v := (7)) hx hb dX12_says_97 (by decide) ?_
    refine lv_dup2_11 hx hb dX12_says_99 rfl rfl ?_
    refine wc_iald (j := 7) hx hb hK hP 12 1 (f := ma M9 25) rfl rfl (by decide) (by decide) (by decide) dX12_says_100 ?_
    refine lv_iconst (v := 1) hx hb dX12_says_101 (by decide) ?_
    refine lv_iadd hx hb dX12_says_102 ?_
    refine lv_topi (fun x10 ex10 => ?_)
    have h := h x10 ex10
    refine wc_iast (j := 7) hx hb hK hP hD hS 12 1 (f := ma M9 25) rfl rfl (by decide) (by decide) (by decide) dX12_says_103 (fun H locs hP hD hS => ?_)
    have hP := mP_a25 hP
    have hD := mD_a25 hD
    have h := h _ rfl
    generalize sa M9 25 7 x10 = M11 at hP hD h
    refine lv_aload_n hx hb dX12_says_104 rfl (lv_at hl 0 rfl) ?_
    have hFc := gs_free hD hS hA
    refine va_callv (va_runV (As := []) (rest := []) ⟨hx, hb, hml, hown, hts⟩ (kX12_looks l dC dI cB cI cJ cZ h0 ad H.size  M11 _ h) (cwV 0 hts gX12_says_X12_looks rfl rfl rfl (by decide +kernel) ⟨Nat.le_of_ble_eq_true rfl, Nat.le_of_ble_eq_true rfl⟩) (mpV hK hP hD) rfl rfl hl.1 rfl (lv_room (Nat.le_of_ble_eq_true rfl)) dX12_says_105 ⟨Nat.le_of_ble_eq_true rfl, Nat.le_of_ble_eq_true rfl⟩) hS (fun q _ z => hFc q z) hFc (fun M13 t H1 locs ht hvm hw hB hz1 hk1 hS => ?_)
    obtain ⟨hP, hD⟩ := gs_back ht hFc hB
    generalize H1 = H at hP hS ⊢
    have h := hw
    try dsimp only at h
    exact W.vret hx hb hr (fun t ht hW => ⟨⟨M13, rfl, h, by rw [ht]; exact hP, va_K.moved hW.alike hK, hD⟩, hS.F ht⟩) hS.2.2 dX12_says_108
  have bE : ∀ (M : gS) (H : Heap) (locs : List Loc) (ls : Array Slot), va_P (dC, dI) vwCl (mW cB cI cJ cZ h0 ad M) H → va_D A (mW cB cI cJ cZ h0 ad M) → va_S A s.heap H locs → lv_has ls 3 [(0, .ref h0), (1, .int p1)] → wX12_says p1 M Q → W p l e (headSpec wsX12_says rmX12_says).room s m ([.ref h0, .int p1] : List Value).toArray below meth c H locs 0 0 (MQ below (va_Qv (fun (u : gS) => Q u) (mB dC dI cB cI cJ cZ h0 ad A) A) ([.ref h0, .int p1] : List Value).toArray s 0 0 A) (F0 m 0 ls []) := by
    intro M H locs ls hP hD hS hl h
    unfold wX12_says at h
    refine lv_aload_n hx hb dX12_says_0 rfl (lv_at hl 0 rfl) ?_
    refine va_get (D := (dC, dI)) (ci := 12) (v := .ref (ad 25)) (C := RX12) (T := TX12) (N := 37) hx hb hts hin hown hK hP 0 rfl rfl 25 (by decide) f1 (fun _ h9 => h9) rfl dX12_says_1 ?_
    refine lv_bipush (v := (6)) hx hb dX12_says_4 (by decide) ?_
    refine wc_iald (j := 6) hx hb hK hP 12 1 (f := ma M 25) rfl rfl (by decide) (by decide) (by decide) dX12_says_6 ?_
    refine lv_topi (fun x1 ex1 => ?_)
    have h := h x1 ex1
    refine lv_istore_n (lv' := [(2, .int x1), (0, .ref h0), (1, .int p1)]) hx hb dX12_says_7 rfl hl (by decide) rfl (fun ls hl => ?_)
    refine lv_aload_n hx hb dX12_says_8 rfl (lv_at hl 1 rfl) ?_
    refine va_get (D := (dC, dI)) (ci := 12) (v := .ref (ad 25)) (C := RX12) (T := TX12) (N := 37) hx hb hts hin hown hK hP 0 rfl rfl 25 (by decide) f1 (fun _ h9 => h9) rfl dX12_says_9 ?_
    refine lv_iconst (v := 5) hx hb dX12_says_12 (by decide) ?_
    refine lv_dup2_11 hx hb dX12_says_13 rfl rfl ?_
    refine wc_iald (j := 5) hx hb hK hP 12 1 (f := ma M 25) rfl rfl (by decide) (by decide) (by decide) dX12_says_14 ?_
    refine lv_aload_n hx hb dX12_says_15 rfl (lv_at hl 1 rfl) ?_
    refine va_get (D := (dC, dI)) (ci := 12) (v := .ref (ad 25)) (C := RX12) (T := TX12) (N := 37) hx hb hts hin hown hK hP 0 rfl rfl 25 (by decide) f1 (fun _ h9 => h9) rfl dX12_says_16 ?_
    refine lv_bipush (v := (28)) hx hb dX12_says_19 (by decide) ?_
    refine lv_iload_n hx hb dX12_says_21 rfl (lv_at hl 2 rfl) ?_
    refine lv_iadd hx hb dX12_says_22 ?_
    refine va_iald hx hb hK hP 12 1 (f := ma M 25) rfl rfl h.1 dX12_says_23 ?_
    have h := h.2
    refine lv_aload_n hx hb dX12_says_24 rfl (lv_at hl 1 rfl) ?_
    refine va_get (D := (dC, dI)) (ci := 12) (v := .ref (ad 25)) (C := RX12) (T := TX12) (N := 37) hx hb hts hin hown hK hP 0 rfl rfl 25 (by decide) f1 (fun _ h9 => h9) rfl dX12_says_25 ?_
    refine lv_bipush (v := (14)) hx hb dX12_says_28 (by decide) ?_
    refine lv_iload_n hx hb dX12_says_30 rfl (lv_at hl 0 rfl) ?_
    refine lv_iadd hx hb dX12_says_31 ?_
    refine va_iald hx hb hK hP 12 1 (f := ma M 25) rfl rfl h.1 dX12_says_32 ?_
    have h := h.2
    refine lv_iload_n hx hb dX12_says_33 rfl (lv_at hl 2 rfl) ?_
    refine lv_icmp_ne (tgt := 46) hx hb dX12_says_34 (by decide) (fun c2 => ?_) (fun c2 => ?_)
    · have h := h.2 c2
      refine lv_iconst (v := 0) hx hb dX12_says_46 (by decide) ?_
      exact b47  p1 x1 (5 : Int32) (ma M 25 5) (ma M 25 (Int32.toNatClampNeg ((28 : Int32) + p1))) (0 : Int32) M H locs ls hP hD hS (lv_sub hl [1, 2, 0] rfl) h
    · have h := h.1 c2
      refine lv_aload_n hx hb dX12_says_37 rfl (lv_at hl 1 rfl) ?_
      refine va_get (D := (dC, dI)) (ci := 12) (v := .ref (ad 25)) (C := RX12) (T := TX12) (N := 37) hx hb hts hin hown hK hP 0 rfl rfl 25 (by decide) f1 (fun _ h9 => h9) rfl dX12_says_38 ?_
      refine lv_iconst (v := 2) hx hb dX12_says_41 (by decide) ?_
      refine wc_iald (j := 2) hx hb hK hP 12 1 (f := ma M 25) rfl rfl (by decide) (by decide) (by decide) dX12_says_42 ?_
      refine lv_goto (tgt := 47) hx hb dX12_says_43 (by decide) ?_
      exact b47  p1 x1 (5 : Int32) (ma M 25 5) (ma M 25 (Int32.toNatClampNeg ((28 : Int32) + p1))) (ma M 25 2) M H locs ls hP hD hS (lv_sub hl [1, 2, 0] rfl) h
  have hl := lv_entry ([.ref h0, .int p1]) (n := 3) (Nat.le_of_ble_eq_true rfl)
  rw [lg_entry_eq]
  generalize (lg_sl ([.ref h0, .int p1]) ++ List.replicate (3 - (lg_sl ([.ref h0, .int p1])).length) Slot.unset).toArray = ls at hl ⊢
  have hl : lv_has ls 3 [(0, .ref h0), (1, .int p1)] := hl
  exact bE M s.heap [] ls hP hD hS hl h
def wX12_throwsOne  (M : gS) (Q : gS → Prop) : Prop :=
 (vp_in ((12 : Int32) + (ma M 25 6)) 44 ∧ (∀ x1 : Int32, x1 = ((ma M 25 (Int32.toNatClampNeg ((12 : Int32) + (ma M 25 6)))) - (1 : Int32)) → (vp_in ((12 : Int32) + (ma M 25 6)) 44 ∧ (∀ M2 : gS, M2 = sa M 25 (Int32.toNatClampNeg ((12 : Int32) + (ma M 25 6))) x1 → (∀ x3 : Int32, x3 = ((ma M2 25 9) + (1 : Int32)) → (∀ M4 : gS, M4 = sa M2 25 9 x3 → (∀ x5 : Int32, x5 = ((ma M4 25 5) + (ma M4 25 4)) → (∀ M6 : gS, M6 = sa M4 25 5 x5 → (∀ x7 : Int32, x7 = ((ma M6 25 7) + (1 : Int32)) → (∀ M8 : gS, M8 = sa M6 25 7 x7 → (wX12_looks  M8 (fun (M10 : gS) => (Q M10)))))))))))))
def rmX12_throwsOne : Room := { frames := 3, cells := 0, slots := 0, locals := 62 }
set_option maxHeartbeats 4000000 in
set_option maxRecDepth 100000 in
theorem kX12_throwsOne (l : Launch) (dC : Nat → ClassId) (dI : Nat → Nat → Nat) (cB cI cJ cZ : ClassId) (h0 : Nat) (ad : Nat → Nat) (sz : Nat)  (M : gS) (Q : gS → Prop) (h : wX12_throwsOne  M Q) : Met l yX12_throwsOne wsX12_throwsOne rmX12_throwsOne (va_Pc [.ref h0] (mI dC dI cB cI cJ cZ h0 ad M sz)) (va_Qv (fun (u : gS) => Q u) (mB dC dI cB cI cJ cZ h0 ad (va_A (mW cB cI cJ cZ h0 ad M) sz)) (va_A (mW cB cI cJ cZ h0 ad M) sz)) 0 0 (va_A (mW cB cI cJ cZ h0 ad M) sz) := by
  refine Met.ofW (cc := cX12_throwsOne) (maxL := 1) (ret := none) (by decide) rfl ?_
  intro p e s m args below meth c s₁ B hml hv
  obtain ⟨rfl, hsz, hP, hK, hD0⟩ := hv
  have hx := B.exec
  have hb := B.bytes
  have hr := B.returns
  have hts := atoms_spec (ws := wsX12_throwsOne) B.pre
  have hown : s.vm.findClass RX12 = some m.cls := findClass_of_methodNamed B.named
  have hlocks := B.notSynchronized
  subst hsz
  have hD := hD0.self (sz := s.heap.size)
  generalize hAe : va_A (mW cB cI cJ cZ h0 ad M) s.heap.size = A at hD ⊢
  have hA : ∀ q : Nat, s.heap.size ≤ q → A q := fun q h => by rw [← hAe]; exact Or.inr h
  have hS : va_S A s.heap s.heap [] := va_S.rf
  have hin : ∀ w ∈ wsX120, w ∈ wsX12_throwsOne := fun w h => List.mem_cons_of_mem _ (List.mem_append_right _ h)
  have f1 := hts (.fieldLink RX12 45 "LastWordsModel" "said" "[I") (by decide +kernel)
  have bE : ∀ (M : gS) (H : Heap) (locs : List Loc) (ls : Array Slot), va_P (dC, dI) vwCl (mW cB cI cJ cZ h0 ad M) H → va_D A (mW cB cI cJ cZ h0 ad M) → va_S A s.heap H locs → lv_has ls 1 [(0, .ref h0)] → wX12_throwsOne  M Q → W p l e (headSpec wsX12_throwsOne rmX12_throwsOne).room s m ([.ref h0] : List Value).toArray below meth c H locs 0 0 (MQ below (va_Qv (fun (u : gS) => Q u) (mB dC dI cB cI cJ cZ h0 ad A) A) ([.ref h0] : List Value).toArray s 0 0 A) (F0 m 0 ls []) := by
    intro M H locs ls hP hD hS hl h
    unfold wX12_throwsOne at h
    refine lv_aload_n hx hb dX12_throwsOne_0 rfl (lv_at hl 0 rfl) ?_
    refine va_get (D := (dC, dI)) (ci := 12) (v := .ref (ad 25)) (C := RX12) (T := TX12) (N := 37) hx hb hts hin hown hK hP 0 rfl rfl 25 (by decide) f1 (fun _ h9 => h9) rfl dX12_throwsOne_1 ?_
    refine lv_bipush (v := (12)) hx hb dX12_throwsOne_4 (by decide) ?_
    refine lv_aload_n hx hb dX12_throwsOne_6 rfl (lv_at hl 0 rfl) ?_
    refine va_get (D := (dC, dI)) (ci := 12) (v := .ref (ad 25)) (C := RX12) (T := TX12) (N := 37) hx hb hts hin hown hK hP 0 rfl rfl 25 (by decide) f1 (fun _ h9 => h9) rfl dX12_throwsOne_7 ?_
    refine lv_bipush (v := (6)) hx hb dX12_throwsOne_10 (by decide) ?_
    refine wc_iald (j := 6) hx hb hK hP 12 1 (f := ma M 25) rfl rfl (by decide) (by decide) (by decide) dX12_throwsOne_12 ?_
    refine lv_iadd hx hb dX12_throwsOne_13 ?_
    refine lv_dup2_11 hx hb dX12_throwsOne_14 rfl rfl ?_
    refine va_iald hx hb hK hP 12 1 (f := ma M 25) rfl rfl h.1 dX12_throwsOne_15 ?_
    have h := h.2
    refine lv_iconst (v := 1) hx hb dX12_throwsOne_16 (by decide) ?_
    refine lv_isub hx hb dX12_throwsOne_17 ?_
    refine lv_topi (fun x1 ex1 => ?_)
    have h := h x1 ex1
    refine va_iast hx hb hK hP hD hS 12 1 (f := ma M 25) rfl rfl h.1 dX12_throwsOne_18 (fun H locs hP hD hS => ?_)
    have h := h.2
    have hP := mP_a25 hP
    have hD := mD_a25 hD
    have h := h _ rfl
    generalize sa M 25 (Int32.toNatClampNeg ((12 : Int32) + (ma M 25 6))) x1 = M2 at hP hD h
    refine lv_aload_n hx hb dX12_throwsOne_19 rfl (lv_at hl 0 rfl) ?_
    refine va_get (D := (dC, dI)) (ci := 12) (v := .ref (ad 25)) (C := RX12) (T := TX12) (N := 37) hx hb hts hin hown hK hP 0 rfl rfl 25 (by decide) f1 (fun _ h9 => h9) rfl dX12_throwsOne_20 ?_
    refine lv_bipush (v := (9)) hx hb dX12_throwsOne_23 (by decide) ?_
    refine lv_dup2_11 hx hb dX12_throwsOne_25 rfl rfl ?_
    refine wc_iald (j := 9) hx hb hK hP 12 1 (f := ma M2 25) rfl rfl (by decide) (by decide) (by decide) dX12_throwsOne_26 ?_
    refine lv_iconst (v := 1) hx hb dX12_throwsOne_27 (by decide) ?_
    refine lv_iadd hx hb dX12_throwsOne_28 ?_
    refine lv_topi (fun x3 ex3 => ?_)
    have h := h x3 ex3
    refine wc_iast (j := 9) hx hb hK hP hD hS 12 1 (f := ma M2 25) rfl rfl (by decide) (by decide) (by decide) dX12_throwsOne_29 (fun H locs hP hD hS => ?_)
    have hP := mP_a25 hP
    have hD := mD_a25 hD
    have h := h _ rfl
    generalize sa M2 25 9 x3 = M4 at hP hD h
    refine lv_aload_n hx hb dX12_throwsOne_30 rfl (lv_at hl 0 rfl) ?_
    refine va_get (D := (dC, dI)) (ci := 12) (v := .ref (ad 25)) (C := RX12) (T := TX12) (N := 37) hx hb hts hin hown hK hP 0 rfl rfl 25 (by decide) f1 (fun _ h9 => h9) rfl dX12_throwsOne_31 ?_
    refine lv_iconst (v := 5) hx hb dX12_throwsOne_34 (by decide) ?_
    refine lv_dup2_11 hx hb dX12_throwsOne_35 rfl rfl ?_
    refine wc_iald (j := 5) hx hb hK hP 12 1 (f := ma M4 25) rfl rfl (by decide) (by decide) (by decide) dX12_throwsOne_36 ?_
    refine lv_aload_n hx hb dX12_throwsOne_37 rfl (lv_at hl 0 rfl) ?_
    refine va_get (D := (dC, dI)) (ci := 12) (v := .ref (ad 25)) (C := RX12) (T := TX12) (N := 37) hx hb hts hin hown hK hP 0 rfl rfl 25 (by decide) f1 (fun _ h9 => h9) rfl dX12_throwsOne_38 ?_
    refine lv_iconst (v := 4) hx hb dX12_throwsOne_41 (by decide) ?_
    refine wc_iald (j := 4) hx hb hK hP 12 1 (f := ma M4 25) rfl rfl (by decide) (by decide) (by decide) dX12_throwsOne_42 ?_
    refine lv_iadd hx hb dX12_throwsOne_43 ?_
    refine lv_topi (fun x5 ex5 => ?_)
    have h := h x5 ex5
    refine wc_iast (j := 5) hx hb hK hP hD hS 12 1 (f := ma M4 25) rfl rfl (by decide) (by decide) (by decide) dX12_throwsOne_44 (fun H locs hP hD hS => ?_)
    have hP := mP_a25 hP
    have hD := mD_a25 hD
    have h := h _ rfl
    generalize sa M4 25 5 x5 = M6 at hP hD h
    refine lv_aload_n hx hb dX12_throwsOne_45 rfl (lv_at hl 0 rfl) ?_
    refine va_get (D := (dC, dI)) (ci := 12) (v := .ref (ad 25)) (C := RX12) (T := TX12) (N := 37) hx hb hts hin hown hK hP 0 rfl rfl 25 (by decide) f1 (fun _ h9 => h9) rfl dX12_throwsOne_46 ?_
    refine lv_bipush (v := (7)) hx hb dX12_throwsOne_49 (by decide) ?_
    refine lv_dup2_11 hx hb dX12_throwsOne_51 rfl rfl ?_
    refine wc_iald (j := 7) hx hb hK hP 12 1 (f := ma M6 25) rfl rfl (by decide) (by decide) (by decide) dX12_throwsOne_52 ?_
    refine lv_iconst (v := 1) hx hb dX12_throwsOne_53 (by decide) ?_
    refine lv_iadd hx hb dX12_throwsOne_54 ?_
    refine lv_topi (fun x7 ex7 => ?_)
    have h := h x7 ex7
    refine wc_iast (j := 7) hx hb hK hP hD hS 12 1 (f := ma M6 25) rfl rfl (by decide) (by decide) (by decide) dX12_throwsOne_55 (fun H locs hP hD hS => ?_)
    have hP := mP_a25 hP
    have hD := mD_a25 hD
    have h := h _ rfl
    generalize sa M6 25 7 x7 = M8 at hP hD h
    refine lv_aload_n hx hb dX12_throwsOne_56 rfl (lv_at hl 0 rfl) ?_
    have hFc := gs_free hD hS hA
    refine va_callv (va_runV (As := []) (rest := []) ⟨hx, hb, hml, hown, hts⟩ (kX12_looks l dC dI cB cI cJ cZ h0 ad H.size  M8 _ h) (cwV 0 hts gX12_throwsOne_X12_looks rfl rfl rfl (by decide +kernel) ⟨Nat.le_of_ble_eq_true rfl, Nat.le_of_ble_eq_true rfl⟩) (mpV hK hP hD) rfl rfl hl.1 rfl (lv_room (Nat.le_of_ble_eq_true rfl)) dX12_throwsOne_57 ⟨Nat.le_of_ble_eq_true rfl, Nat.le_of_ble_eq_true rfl⟩) hS (fun q _ z => hFc q z) hFc (fun M10 t H1 locs ht hvm hw hB hz1 hk1 hS => ?_)
    obtain ⟨hP, hD⟩ := gs_back ht hFc hB
    generalize H1 = H at hP hS ⊢
    have h := hw
    try dsimp only at h
    exact W.vret hx hb hr (fun t ht hW => ⟨⟨M10, rfl, h, by rw [ht]; exact hP, va_K.moved hW.alike hK, hD⟩, hS.F ht⟩) hS.2.2 dX12_throwsOne_60
  have hl := lv_entry ([.ref h0]) (n := 1) (Nat.le_of_ble_eq_true rfl)
  rw [lg_entry_eq]
  generalize (lg_sl ([.ref h0]) ++ List.replicate (1 - (lg_sl ([.ref h0])).length) Slot.unset).toArray = ls at hl ⊢
  have hl : lv_has ls 1 [(0, .ref h0)] := hl
  exact bE M s.heap [] ls hP hD hS hl h
def wX12_begins_47  (Q : gS → Prop) : Nat → Int32 → gS → Prop
 | 0, _, _ => False
 | n + 1, y3, M => (((2 : Int32) ≤ y3 → (Q M))
 ∧ (¬ (2 : Int32) ≤ y3 → (vp_in ((14 : Int32) + y3) 44 ∧ (∀ M2 : gS, M2 = sa M 25 (Int32.toNatClampNeg ((14 : Int32) + y3)) (9 : Int32) → (vp_in ((16 : Int32) + y3) 44 ∧ (∀ M3 : gS, M3 = sa M2 25 (Int32.toNatClampNeg ((16 : Int32) + y3)) (0 : Int32) → (∀ x4 : Int32, x4 = y3 + (1 : Int32) → (wX12_begins_47  Q n x4 M3))))))))
def wX12_begins (p1 : Int32) (p2 : Int32) (M : gS) (Q : gS → Prop) : Prop :=
 (∀ M1 : gS, M1 = sa M 25 3 (1 : Int32) → (∀ M2 : gS, M2 = sa M1 25 4 p1 → (∀ M3 : gS, M3 = sa M2 25 5 p1 → (∀ M4 : gS, M4 = sa M3 25 6 p2 → (∀ M5 : gS, M5 = sa M4 25 7 (0 : Int32) → (∀ M6 : gS, M6 = sa M5 25 8 (0 : Int32) → (∃ k47 : Nat, wX12_begins_47  Q k47 (0 : Int32) M6)))))))
def rmX12_begins : Room := { frames := 0, cells := 0, slots := 0, locals := 0 }
set_option maxHeartbeats 4000000 in
set_option maxRecDepth 100000 in
theorem kX12_begins (l : Launch) (dC : Nat → ClassId) (dI : Nat → Nat → Nat) (cB cI cJ cZ : ClassId) (h0 : Nat) (ad : Nat → Nat) (sz : Nat) (p1 : Int32) (p2 : Int32) (M : gS) (Q : gS → Prop) (h : wX12_begins p1 p2 M Q) : Met l yX12_begins wsX12_begins rmX12_begins (va_Pc [.ref h0, .int p1, .int p2] (mI dC dI cB cI cJ cZ h0 ad M sz)) (va_Qv (fun (u : gS) => Q u) (mB dC dI cB cI cJ cZ h0 ad (va_A (mW cB cI cJ cZ h0 ad M) sz)) (va_A (mW cB cI cJ cZ h0 ad M) sz)) 0 0 (va_A (mW cB cI cJ cZ h0 ad M) sz) := by
  refine Met.ofW (cc := cX12_begins) (maxL := 4) (ret := none) (by decide) rfl ?_
  intro p e s m args below meth c s₁ B hml hv
  obtain ⟨rfl, hsz, hP, hK, hD0⟩ := hv
  have hx := B.exec
  have hb := B.bytes
  have hr := B.returns
  have hts := atoms_spec (ws := wsX12_begins) B.pre
  have hown : s.vm.findClass RX12 = some m.cls := findClass_of_methodNamed B.named
  have hlocks := B.notSynchronized
  subst hsz
  have hD := hD0.self (sz := s.heap.size)
  generalize hAe : va_A (mW cB cI cJ cZ h0 ad M) s.heap.size = A at hD ⊢
  have hA : ∀ q : Nat, s.heap.size ≤ q → A q := fun q h => by rw [← hAe]; exact Or.inr h
  have hS : va_S A s.heap s.heap [] := va_S.rf
  have hin : ∀ w ∈ wsX120, w ∈ wsX12_begins := fun w h => List.mem_cons_of_mem _ (List.mem_append_right _ h)
  have f1 := hts (.fieldLink RX12 45 "LastWordsModel" "said" "[I") (by decide +kernel)
  have b47 : ∀ (n : Nat) (y3 : Int32) (M : gS) (H : Heap) (locs : List Loc) (ls : Array Slot), va_P (dC, dI) vwCl (mW cB cI cJ cZ h0 ad M) H → va_D A (mW cB cI cJ cZ h0 ad M) → va_S A s.heap H locs → lv_has ls 4 [(0, .ref h0), (3, .int y3)] → wX12_begins_47  Q n y3 M → W p l e (headSpec wsX12_begins rmX12_begins).room s m ([.ref h0, .int p1, .int p2] : List Value).toArray below meth c H locs 0 0 (MQ below (va_Qv (fun (u : gS) => Q u) (mB dC dI cB cI cJ cZ h0 ad A) A) ([.ref h0, .int p1, .int p2] : List Value).toArray s 0 0 A) (F0 m 47 ls []) := by
    intro  n
    induction n with
    | zero => intro y3 M H locs ls hP hD hS hl h; exact absurd h (by simp [wX12_begins_47])
    | succ n hB470 =>
      intro y3 M H locs ls hP hD hS hl h
      have hB47 := hB470
      rw [wX12_begins_47] at h
      refine lv_iload_n hx hb dX12_begins_47 rfl (lv_at hl 1 rfl) ?_
      refine lv_iconst (v := 2) hx hb dX12_begins_48 (by decide) ?_
      refine lv_icmp_ge (tgt := 79) hx hb dX12_begins_49 (by decide) (fun c1 => ?_) (fun c1 => ?_)
      · have h := h.1 c1
        exact W.vret hx hb hr (fun t ht hW => ⟨⟨M, rfl, h, by rw [ht]; exact hP, va_K.moved hW.alike hK, hD⟩, hS.F ht⟩) hS.2.2 dX12_begins_79
      · have h := h.2 c1
        refine lv_aload_n hx hb dX12_begins_52 rfl (lv_at hl 0 rfl) ?_
        refine va_get (D := (dC, dI)) (ci := 12) (v := .ref (ad 25)) (C := RX12) (T := TX12) (N := 37) hx hb hts hin hown hK hP 0 rfl rfl 25 (by decide) f1 (fun _ h9 => h9) rfl dX12_begins_53 ?_
        refine lv_bipush (v := (14)) hx hb dX12_begins_56 (by decide) ?_
        refine lv_iload_n hx hb dX12_begins_58 rfl (lv_at hl 1 rfl) ?_
        refine lv_iadd hx hb dX12_begins_59 ?_
        refine lv_bipush (v := (9)) hx hb dX12_begins_60 (by decide) ?_
        refine va_iast hx hb hK hP hD hS 12 1 (f := ma M 25) rfl rfl h.1 dX12_begins_62 (fun H locs hP hD hS => ?_)
        have h := h.2
        have hP := mP_a25 hP
        have hD := mD_a25 hD
        have h := h _ rfl
        generalize sa M 25 (Int32.toNatClampNeg ((14 : Int32) + y3)) (9 : Int32) = M2 at hP hD h
        refine lv_aload_n hx hb dX12_begins_63 rfl (lv_at hl 0 rfl) ?_
        refine va_get (D := (dC, dI)) (ci := 12) (v := .ref (ad 25)) (C := RX12) (T := TX12) (N := 37) hx hb hts hin hown hK hP 0 rfl rfl 25 (by decide) f1 (fun _ h9 => h9) rfl dX12_begins_64 ?_
        refine lv_bipush (v := (16)) hx hb dX12_begins_67 (by decide) ?_
        refine lv_iload_n hx hb dX12_begins_69 rfl (lv_at hl 1 rfl) ?_
        refine lv_iadd hx hb dX12_begins_70 ?_
        refine lv_iconst (v := 0) hx hb dX12_begins_71 (by decide) ?_
        refine va_iast hx hb hK hP hD hS 12 1 (f := ma M2 25) rfl rfl h.1 dX12_begins_72 (fun H locs hP hD hS => ?_)
        have h := h.2
        have hP := mP_a25 hP
        have hD := mD_a25 hD
        have h := h _ rfl
        generalize sa M2 25 (Int32.toNatClampNeg ((16 : Int32) + y3)) (0 : Int32) = M3 at hP hD h
        obtain ⟨x4, ex4⟩ : ∃ y : Int32, y = y3 + (1 : Int32) := ⟨_, rfl⟩
        have h := h x4 ex4
        refine lv_iinc (v := x4) (lv' := [(3, .int x4), (0, .ref h0)]) hx hb dX12_begins_73 hl (k := 1) rfl (by rw [ex4]; rfl) (by decide) rfl (fun ls hl => ?_)
        refine lv_goto (tgt := 47) hx hb dX12_begins_76 (by decide) ?_
        exact hB47 x4 M3 H locs ls hP hD hS (lv_sub hl [1, 0] rfl) h
  have bE : ∀ (M : gS) (H : Heap) (locs : List Loc) (ls : Array Slot), va_P (dC, dI) vwCl (mW cB cI cJ cZ h0 ad M) H → va_D A (mW cB cI cJ cZ h0 ad M) → va_S A s.heap H locs → lv_has ls 4 [(0, .ref h0), (1, .int p1), (2, .int p2)] → wX12_begins p1 p2 M Q → W p l e (headSpec wsX12_begins rmX12_begins).room s m ([.ref h0, .int p1, .int p2] : List Value).toArray below meth c H locs 0 0 (MQ below (va_Qv (fun (u : gS) => Q u) (mB dC dI cB cI cJ cZ h0 ad A) A) ([.ref h0, .int p1, .int p2] : List Value).toArray s 0 0 A) (F0 m 0 ls []) := by
    intro M H locs ls hP hD hS hl h
    unfold wX12_begins at h
    refine lv_aload_n hx hb dX12_begins_0 rfl (lv_at hl 0 rfl) ?_
    refine va_get (D := (dC, dI)) (ci := 12) (v := .ref (ad 25)) (C := RX12) (T := TX12) (N := 37) hx hb hts hin hown hK hP 0 rfl rfl 25 (by decide) f1 (fun _ h9 => h9) rfl dX12_begins_1 ?_
    refine lv_iconst (v := 3) hx hb dX12_begins_4 (by decide) ?_
    refine lv_iconst (v := 1) hx hb dX12_begins_5 (by decide) ?_
    refine wc_iast (j := 3) hx hb hK hP hD hS 12 1 (f := ma M 25) rfl rfl (by decide) (by decide) (by decide) dX12_begins_6 (fun H locs hP hD hS => ?_)
    have hP := mP_a25 hP
    have hD := mD_a25 hD
    have h := h _ rfl
    generalize sa M 25 3 (1 : Int32) = M1 at hP hD h
    refine lv_aload_n hx hb dX12_begins_7 rfl (lv_at hl 0 rfl) ?_
    refine va_get (D := (dC, dI)) (ci := 12) (v := .ref (ad 25)) (C := RX12) (T := TX12) (N := 37) hx hb hts hin hown hK hP 0 rfl rfl 25 (by decide) f1 (fun _ h9 => h9) rfl dX12_begins_8 ?_
    refine lv_iconst (v := 4) hx hb dX12_begins_11 (by decide) ?_
    refine lv_iload_n hx hb dX12_begins_12 rfl (lv_at hl 1 rfl) ?_
    refine wc_iast (j := 4) hx hb hK hP hD hS 12 1 (f := ma M1 25) rfl rfl (by decide) (by decide) (by decide) dX12_begins_13 (fun H locs hP hD hS => ?_)
    have hP := mP_a25 hP
    have hD := mD_a25 hD
    have h := h _ rfl
    generalize sa M1 25 4 p1 = M2 at hP hD h
    refine lv_aload_n hx hb dX12_begins_14 rfl (lv_at hl 0 rfl) ?_
    refine va_get (D := (dC, dI)) (ci := 12) (v := .ref (ad 25)) (C := RX12) (T := TX12) (N := 37) hx hb hts hin hown hK hP 0 rfl rfl 25 (by decide) f1 (fun _ h9 => h9) rfl dX12_begins_15 ?_
    refine lv_iconst (v := 5) hx hb dX12_begins_18 (by decide) ?_
    refine lv_iload_n hx hb dX12_begins_19 rfl (lv_at hl 1 rfl) ?_
    refine wc_iast (j := 5) hx hb hK hP hD hS 12 1 (f := ma M2 25) rfl rfl (by decide) (by decide) (by decide) dX12_begins_20 (fun H locs hP hD hS => ?_)
    have hP := mP_a25 hP
    have hD := mD_a25 hD
    have h := h _ rfl
    generalize sa M2 25 5 p1 = M3 at hP hD h
    refine lv_aload_n hx hb dX12_begins_21 rfl (lv_at hl 0 rfl) ?_
    refine va_get (D := (dC, dI)) (ci := 12) (v := .ref (ad 25)) (C := RX12) (T := TX12) (N := 37) hx hb hts hin hown hK hP 0 rfl rfl 25 (by decide) f1 (fun _ h9 => h9) rfl dX12_begins_22 ?_
    refine lv_bipush (v := (6)) hx hb dX12_begins_25 (by decide) ?_
    refine lv_iload_n hx hb dX12_begins_27 rfl (lv_at hl 2 rfl) ?_
    refine wc_iast (j := 6) hx hb hK hP hD hS 12 1 (f := ma M3 25) rfl rfl (by decide) (by decide) (by decide) dX12_begins_28 (fun H locs hP hD hS => ?_)
    have hP := mP_a25 hP
    have hD := mD_a25 hD
    have h := h _ rfl
    generalize sa M3 25 6 p2 = M4 at hP hD h
    refine lv_aload_n hx hb dX12_begins_29 rfl (lv_at hl 0 rfl) ?_
    refine va_get (D := (dC, dI)) (ci := 12) (v := .ref (ad 25)) (C := RX12) (T := TX12) (N := 37) hx hb hts hin hown hK hP 0 rfl rfl 25 (by decide) f1 (fun _ h9 => h9) rfl dX12_begins_30 ?_
    refine lv_bipush (v := (7)) hx hb dX12_begins_33 (by decide) ?_
    refine lv_iconst (v := 0) hx hb dX12_begins_35 (by decide) ?_
    refine wc_iast (j := 7) hx hb hK hP hD hS 12 1 (f := ma M4 25) rfl rfl (by decide) (by decide) (by decide) dX12_begins_36 (fun H locs hP hD hS => ?_)
    have hP := mP_a25 hP
    have hD := mD_a25 hD
    have h := h _ rfl
    generalize sa M4 25 7 (0 : Int32) = M5 at hP hD h
    refine lv_aload_n hx hb dX12_begins_37 rfl (lv_at hl 0 rfl) ?_
    refine va_get (D := (dC, dI)) (ci := 12) (v := .ref (ad 25)) (C := RX12) (T := TX12) (N := 37) hx hb hts hin hown hK hP 0 rfl rfl 25 (by decide) f1 (fun _ h9 => h9) rfl dX12_begins_38 ?_
    refine lv_bipush (v := (8)) hx hb dX12_begins_41 (by decide) ?_
    refine lv_iconst (v := 0) hx hb dX12_begins_43 (by decide) ?_
    refine wc_iast (j := 8) hx hb hK hP hD hS 12 1 (f := ma M5 25) rfl rfl (by decide) (by decide) (by decide) dX12_begins_44 (fun H locs hP hD hS => ?_)
    have hP := mP_a25 hP
    have hD := mD_a25 hD
    have h := h _ rfl
    generalize sa M5 25 8 (0 : Int32) = M6 at hP hD h
    refine lv_iconst (v := 0) hx hb dX12_begins_45 (by decide) ?_
    refine lv_istore_n (lv' := [(3, .int (0 : Int32)), (0, .ref h0), (1, .int p1), (2, .int p2)]) hx hb dX12_begins_46 rfl hl (by decide) rfl (fun ls hl => ?_)
    obtain ⟨n9, h⟩ := h
    exact b47  n9 (0 : Int32) M6 H locs ls hP hD hS (lv_sub hl [1, 0] rfl) h
  have hl := lv_entry ([.ref h0, .int p1, .int p2]) (n := 4) (Nat.le_of_ble_eq_true rfl)
  rw [lg_entry_eq]
  generalize (lg_sl ([.ref h0, .int p1, .int p2]) ++ List.replicate (4 - (lg_sl ([.ref h0, .int p1, .int p2])).length) Slot.unset).toArray = ls at hl ⊢
  have hl : lv_has ls 4 [(0, .ref h0), (1, .int p1), (2, .int p2)] := hl
  exact bE M s.heap [] ls hP hD hS hl h
def wX12_begin (p1 : Int32) (p2 : Int32) (M : gS) (Q : Int32 → gS → Prop) : Prop :=
 (wX12_in (Int32.toInt64 p1) (0 : Int64) (Int32.toInt64 ((ma M 25 0) - (1 : Int32))) M (fun (b3 : Bool) (M2 : gS) => (((bI b3) = 0 → (Q (-1 : Int32) M2))
 ∧ (¬ (bI b3) = 0 → (wX12_isSide p2 M2 (fun (b7 : Bool) (M6 : gS) => (((bI b7) = 0 → (Q (-1 : Int32) M6))
 ∧ (¬ (bI b7) = 0 → (wX12_verseOf p1 M6 (fun (r9 : Int32) (M10 : gS) => (wX12_begins r9 p2 M10 (fun (M12 : gS) => (wX12_looks  M12 (fun (M14 : gS) => (Q (ma M14 25 5) M14)))))))))))))))
def rmX12_begin : Room := { frames := 3, cells := 0, slots := 0, locals := 62 }
set_option maxHeartbeats 4000000 in
set_option maxRecDepth 100000 in
theorem kX12_begin (l : Launch) (dC : Nat → ClassId) (dI : Nat → Nat → Nat) (cB cI cJ cZ : ClassId) (h0 : Nat) (ad : Nat → Nat) (sz : Nat) (p1 : Int32) (p2 : Int32) (M : gS) (Q : Int32 → gS → Prop) (h : wX12_begin p1 p2 M Q) : Met l yX12_begin wsX12_begin rmX12_begin (va_Pc [.ref h0, .int p1, .int p2] (mI dC dI cB cI cJ cZ h0 ad M sz)) (va_Qi (fun (r : Int32) (u : gS) => Q r u) (mB dC dI cB cI cJ cZ h0 ad (va_A (mW cB cI cJ cZ h0 ad M) sz)) (va_A (mW cB cI cJ cZ h0 ad M) sz)) 0 0 (va_A (mW cB cI cJ cZ h0 ad M) sz) := by
  refine Met.ofW (cc := cX12_begin) (maxL := 3) (ret := (some .int)) (by decide) rfl ?_
  intro p e s m args below meth c s₁ B hml hv
  obtain ⟨rfl, hsz, hP, hK, hD0⟩ := hv
  have hx := B.exec
  have hb := B.bytes
  have hr := B.returns
  have hts := atoms_spec (ws := wsX12_begin) B.pre
  have hown : s.vm.findClass RX12 = some m.cls := findClass_of_methodNamed B.named
  have hlocks := B.notSynchronized
  subst hsz
  have hD := hD0.self (sz := s.heap.size)
  generalize hAe : va_A (mW cB cI cJ cZ h0 ad M) s.heap.size = A at hD ⊢
  have hA : ∀ q : Nat, s.heap.size ≤ q → A q := fun q h => by rw [← hAe]; exact Or.inr h
  have hS : va_S A s.heap s.heap [] := va_S.rf
  have hin : ∀ w ∈ wsX120, w ∈ wsX12_begin := fun w h => List.mem_cons_of_mem _ (List.mem_append_right _ h)
  have f1 := hts (.fieldLink RX12 45 "LastWordsModel" "said" "[I") (by decide +kernel)
  have bE : ∀ (M : gS) (H : Heap) (locs : List Loc) (ls : Array Slot), va_P (dC, dI) vwCl (mW cB cI cJ cZ h0 ad M) H → va_D A (mW cB cI cJ cZ h0 ad M) → va_S A s.heap H locs → lv_has ls 3 [(0, .ref h0), (1, .int p1), (2, .int p2)] → wX12_begin p1 p2 M Q → W p l e (headSpec wsX12_begin rmX12_begin).room s m ([.ref h0, .int p1, .int p2] : List Value).toArray below meth c H locs 0 0 (MQ below (va_Qi (fun (r : Int32) (u : gS) => Q r u) (mB dC dI cB cI cJ cZ h0 ad A) A) ([.ref h0, .int p1, .int p2] : List Value).toArray s 0 0 A) (F0 m 0 ls []) := by
    intro M H locs ls hP hD hS hl h
    unfold wX12_begin at h
    refine lv_iload_n hx hb dX12_begin_0 rfl (lv_at hl 1 rfl) ?_
    refine lv_i2l hx hb dX12_begin_1 rfl ?_
    refine lv_lconst (v := 0) hx hb dX12_begin_2 (by decide) ?_
    refine lv_aload_n hx hb dX12_begin_3 rfl (lv_at hl 0 rfl) ?_
    refine va_get (D := (dC, dI)) (ci := 12) (v := .ref (ad 25)) (C := RX12) (T := TX12) (N := 37) hx hb hts hin hown hK hP 0 rfl rfl 25 (by decide) f1 (fun _ h9 => h9) rfl dX12_begin_4 ?_
    refine lv_iconst (v := 0) hx hb dX12_begin_7 (by decide) ?_
    refine wc_iald (j := 0) hx hb hK hP 12 1 (f := ma M 25) rfl rfl (by decide) (by decide) (by decide) dX12_begin_8 ?_
    refine lv_iconst (v := 1) hx hb dX12_begin_9 (by decide) ?_
    refine lv_isub hx hb dX12_begin_10 ?_
    refine lv_i2l hx hb dX12_begin_11 rfl ?_
    have hFc := gs_free hD hS hA
    refine va_calli (va_runS (As := [.long (Int32.toInt64 p1), .long (0 : Int64), .long (Int32.toInt64 ((ma M 25 0) - (1 : Int32)))]) (rest := []) ⟨hx, hb, hml, hown, hts⟩ (kX12_in l dC dI cB cI cJ cZ h0 ad H.size (Int32.toInt64 p1) (0 : Int64) (Int32.toInt64 ((ma M 25 0) - (1 : Int32))) M _ h) (cwS 3 hts gX12_begin_X12_in rfl rfl rfl (by decide +kernel) ⟨Nat.le_of_ble_eq_true rfl, Nat.le_of_ble_eq_true rfl⟩) (mpS hK hP hD) rfl rfl hl.1 rfl (lv_room (Nat.le_of_ble_eq_true rfl)) dX12_begin_12 ⟨Nat.le_of_ble_eq_true rfl, Nat.le_of_ble_eq_true rfl⟩) hS (fun q _ z => hFc q z) hFc (fun r1 M2 t H1 locs ht hvm hw hB hz1 hk1 hS => ?_)
    obtain ⟨hP, hD⟩ := gs_back ht hFc hB
    generalize H1 = H at hP hS ⊢
    obtain ⟨b3, rfl, h⟩ := hw
    try dsimp only at h
    refine lv_if_eq (tgt := 25) hx hb dX12_begin_15 (by decide) (fun c4 => ?_) (fun c4 => ?_)
    · have h := h.1 c4
      refine lv_iconst (v := (-1)) hx hb dX12_begin_25 (by decide) ?_
      exact W.iret (v := (-1 : Int32)) hx hb hr (fun t ht hW => ⟨⟨_, M2, rfl, h, by rw [ht]; exact hP, va_K.moved hW.alike hK, hD⟩, hS.F ht⟩) hS.2.2 dX12_begin_26
    · have h := h.2 c4
      refine lv_iload_n hx hb dX12_begin_18 rfl (lv_at hl 2 rfl) ?_
      have hFc := gs_free hD hS hA
      refine va_calli (va_runS (As := [.int p2]) (rest := []) ⟨hx, hb, hml, hown, hts⟩ (kX12_isSide l dC dI cB cI cJ cZ h0 ad H.size p2 M2 _ h) (cwS 1 hts gX12_begin_X12_isSide rfl rfl rfl (by decide +kernel) ⟨Nat.le_of_ble_eq_true rfl, Nat.le_of_ble_eq_true rfl⟩) (mpS hK hP hD) rfl rfl hl.1 rfl (lv_room (Nat.le_of_ble_eq_true rfl)) dX12_begin_19 ⟨Nat.le_of_ble_eq_true rfl, Nat.le_of_ble_eq_true rfl⟩) hS (fun q _ z => hFc q z) hFc (fun r5 M6 t H1 locs ht hvm hw hB hz1 hk1 hS => ?_)
      obtain ⟨hP, hD⟩ := gs_back ht hFc hB
      generalize H1 = H at hP hS ⊢
      obtain ⟨b7, rfl, h⟩ := hw
      try dsimp only at h
      refine lv_if_ne (tgt := 27) hx hb dX12_begin_22 (by decide) (fun c8 => ?_) (fun c8 => ?_)
      · have h := h.2 c8
        refine lv_aload_n hx hb dX12_begin_27 rfl (lv_at hl 0 rfl) ?_
        refine lv_aload_n hx hb dX12_begin_28 rfl (lv_at hl 0 rfl) ?_
        refine lv_iload_n hx hb dX12_begin_29 rfl (lv_at hl 1 rfl) ?_
        have hFc := gs_free hD hS hA
        refine va_calli (va_runV (As := [.int p1]) (rest := [.ref h0]) ⟨hx, hb, hml, hown, hts⟩ (kX12_verseOf l dC dI cB cI cJ cZ h0 ad H.size p1 M6 _ h) (cwV 1 hts gX12_begin_X12_verseOf rfl rfl rfl (by decide +kernel) ⟨Nat.le_of_ble_eq_true rfl, Nat.le_of_ble_eq_true rfl⟩) (mpV hK hP hD) rfl rfl hl.1 rfl (lv_room (Nat.le_of_ble_eq_true rfl)) dX12_begin_30 ⟨Nat.le_of_ble_eq_true rfl, Nat.le_of_ble_eq_true rfl⟩) hS (fun q _ z => hFc q z) hFc (fun r9 M10 t H1 locs ht hvm hw hB hz1 hk1 hS => ?_)
        obtain ⟨hP, hD⟩ := gs_back ht hFc hB
        generalize H1 = H at hP hS ⊢
        have h := hw
        try dsimp only at h
        refine lv_iload_n hx hb dX12_begin_33 rfl (lv_at hl 2 rfl) ?_
        have hFc := gs_free hD hS hA
        refine va_callv (va_runV (As := [.int r9, .int p2]) (rest := []) ⟨hx, hb, hml, hown, hts⟩ (kX12_begins l dC dI cB cI cJ cZ h0 ad H.size r9 p2 M10 _ h) (cwV 2 hts gX12_begin_X12_begins rfl rfl rfl (by decide +kernel) ⟨Nat.le_of_ble_eq_true rfl, Nat.le_of_ble_eq_true rfl⟩) (mpV hK hP hD) rfl rfl hl.1 rfl (lv_room (Nat.le_of_ble_eq_true rfl)) dX12_begin_34 ⟨Nat.le_of_ble_eq_true rfl, Nat.le_of_ble_eq_true rfl⟩) hS (fun q _ z => hFc q z) hFc (fun M12 t H1 locs ht hvm hw hB hz1 hk1 hS => ?_)
        obtain ⟨hP, hD⟩ := gs_back ht hFc hB
        generalize H1 = H at hP hS ⊢
        have h := hw
        try dsimp only at h
        refine lv_aload_n hx hb dX12_begin_37 rfl (lv_at hl 0 rfl) ?_
        have hFc := gs_free hD hS hA
        refine va_callv (va_runV (As := []) (rest := []) ⟨hx, hb, hml, hown, hts⟩ (kX12_looks l dC dI cB cI cJ cZ h0 ad H.size  M12 _ h) (cwV 0 hts gX12_begin_X12_looks rfl rfl rfl (by decide +kernel) ⟨Nat.le_of_ble_eq_true rfl, Nat.le_of_ble_eq_true rfl⟩) (mpV hK hP hD) rfl rfl hl.1 rfl (lv_room (Nat.le_of_ble_eq_true rfl)) dX12_begin_38 ⟨Nat.le_of_ble_eq_true rfl, Nat.le_of_ble_eq_true rfl⟩) hS (fun q _ z => hFc q z) hFc (fun M14 t H1 locs ht hvm hw hB hz1 hk1 hS => ?_)
        obtain ⟨hP, hD⟩ := gs_back ht hFc hB
        generalize H1 = H at hP hS ⊢
        have h := hw
        try dsimp only at h
        refine lv_aload_n hx hb dX12_begin_41 rfl (lv_at hl 0 rfl) ?_
        refine va_get (D := (dC, dI)) (ci := 12) (v := .ref (ad 25)) (C := RX12) (T := TX12) (N := 37) hx hb hts hin hown hK hP 0 rfl rfl 25 (by decide) f1 (fun _ h9 => h9) rfl dX12_begin_42 ?_
        refine lv_iconst (v := 5) hx hb dX12_begin_45 (by decide) ?_
        refine wc_iald (j := 5) hx hb hK hP 12 1 (f := ma M14 25) rfl rfl (by decide) (by decide) (by decide) dX12_begin_46 ?_
        exact W.iret (v := (ma M14 25 5)) hx hb hr (fun t ht hW => ⟨⟨_, M14, rfl, h, by rw [ht]; exact hP, va_K.moved hW.alike hK, hD⟩, hS.F ht⟩) hS.2.2 dX12_begin_47
      · have h := h.1 c8
        refine lv_iconst (v := (-1)) hx hb dX12_begin_25 (by decide) ?_
        exact W.iret (v := (-1 : Int32)) hx hb hr (fun t ht hW => ⟨⟨_, M6, rfl, h, by rw [ht]; exact hP, va_K.moved hW.alike hK, hD⟩, hS.F ht⟩) hS.2.2 dX12_begin_26
  have hl := lv_entry ([.ref h0, .int p1, .int p2]) (n := 3) (Nat.le_of_ble_eq_true rfl)
  rw [lg_entry_eq]
  generalize (lg_sl ([.ref h0, .int p1, .int p2]) ++ List.replicate (3 - (lg_sl ([.ref h0, .int p1, .int p2])).length) Slot.unset).toArray = ls at hl ⊢
  have hl : lv_has ls 3 [(0, .ref h0), (1, .int p1), (2, .int p2)] := hl
  exact bE M s.heap [] ls hP hD hS hl h
def wX12_speak (p1 : Int32) (M : gS) (Q : Int32 → gS → Prop) : Prop :=
 (wX12_in (Int32.toInt64 p1) (0 : Int64) (Int32.toInt64 ((ma M 25 1) - (1 : Int32))) M (fun (b3 : Bool) (M2 : gS) => (((bI b3) = 0 → (Q (-1 : Int32) M2))
 ∧ (¬ (bI b3) = 0 → (wX12_goesOn  M2 (fun (b7 : Bool) (M6 : gS) => (((bI b7) = 0 → (Q (-2 : Int32) M6))
 ∧ (¬ (bI b7) = 0 → (wX12_canSay p1 M6 (fun (b11 : Bool) (M10 : gS) => (((bI b11) = 0 → (Q (-2 : Int32) M10))
 ∧ (¬ (bI b11) = 0 → (wX12_says p1 M10 (fun (M14 : gS) => (Q (ma M14 25 5) M14)))))))))))))))
def rmX12_speak : Room := { frames := 4, cells := 0, slots := 0, locals := 84 }
set_option maxHeartbeats 4000000 in
set_option maxRecDepth 100000 in
theorem kX12_speak (l : Launch) (dC : Nat → ClassId) (dI : Nat → Nat → Nat) (cB cI cJ cZ : ClassId) (h0 : Nat) (ad : Nat → Nat) (sz : Nat) (p1 : Int32) (M : gS) (Q : Int32 → gS → Prop) (h : wX12_speak p1 M Q) : Met l yX12_speak wsX12_speak rmX12_speak (va_Pc [.ref h0, .int p1] (mI dC dI cB cI cJ cZ h0 ad M sz)) (va_Qi (fun (r : Int32) (u : gS) => Q r u) (mB dC dI cB cI cJ cZ h0 ad (va_A (mW cB cI cJ cZ h0 ad M) sz)) (va_A (mW cB cI cJ cZ h0 ad M) sz)) 0 0 (va_A (mW cB cI cJ cZ h0 ad M) sz) := by
  refine Met.ofW (cc := cX12_speak) (maxL := 2) (ret := (some .int)) (by decide) rfl ?_
  intro p e s m args below meth c s₁ B hml hv
  obtain ⟨rfl, hsz, hP, hK, hD0⟩ := hv
  have hx := B.exec
  have hb := B.bytes
  have hr := B.returns
  have hts := atoms_spec (ws := wsX12_speak) B.pre
  have hown : s.vm.findClass RX12 = some m.cls := findClass_of_methodNamed B.named
  have hlocks := B.notSynchronized
  subst hsz
  have hD := hD0.self (sz := s.heap.size)
  generalize hAe : va_A (mW cB cI cJ cZ h0 ad M) s.heap.size = A at hD ⊢
  have hA : ∀ q : Nat, s.heap.size ≤ q → A q := fun q h => by rw [← hAe]; exact Or.inr h
  have hS : va_S A s.heap s.heap [] := va_S.rf
  have hin : ∀ w ∈ wsX120, w ∈ wsX12_speak := fun w h => List.mem_cons_of_mem _ (List.mem_append_right _ h)
  have f1 := hts (.fieldLink RX12 45 "LastWordsModel" "said" "[I") (by decide +kernel)
  have bE : ∀ (M : gS) (H : Heap) (locs : List Loc) (ls : Array Slot), va_P (dC, dI) vwCl (mW cB cI cJ cZ h0 ad M) H → va_D A (mW cB cI cJ cZ h0 ad M) → va_S A s.heap H locs → lv_has ls 2 [(0, .ref h0), (1, .int p1)] → wX12_speak p1 M Q → W p l e (headSpec wsX12_speak rmX12_speak).room s m ([.ref h0, .int p1] : List Value).toArray below meth c H locs 0 0 (MQ below (va_Qi (fun (r : Int32) (u : gS) => Q r u) (mB dC dI cB cI cJ cZ h0 ad A) A) ([.ref h0, .int p1] : List Value).toArray s 0 0 A) (F0 m 0 ls []) := by
    intro M H locs ls hP hD hS hl h
    unfold wX12_speak at h
    refine lv_iload_n hx hb dX12_speak_0 rfl (lv_at hl 1 rfl) ?_
    refine lv_i2l hx hb dX12_speak_1 rfl ?_
    refine lv_lconst (v := 0) hx hb dX12_speak_2 (by decide) ?_
    refine lv_aload_n hx hb dX12_speak_3 rfl (lv_at hl 0 rfl) ?_
    refine va_get (D := (dC, dI)) (ci := 12) (v := .ref (ad 25)) (C := RX12) (T := TX12) (N := 37) hx hb hts hin hown hK hP 0 rfl rfl 25 (by decide) f1 (fun _ h9 => h9) rfl dX12_speak_4 ?_
    refine lv_iconst (v := 1) hx hb dX12_speak_7 (by decide) ?_
    refine wc_iald (j := 1) hx hb hK hP 12 1 (f := ma M 25) rfl rfl (by decide) (by decide) (by decide) dX12_speak_8 ?_
    refine lv_iconst (v := 1) hx hb dX12_speak_9 (by decide) ?_
    refine lv_isub hx hb dX12_speak_10 ?_
    refine lv_i2l hx hb dX12_speak_11 rfl ?_
    have hFc := gs_free hD hS hA
    refine va_calli (va_runS (As := [.long (Int32.toInt64 p1), .long (0 : Int64), .long (Int32.toInt64 ((ma M 25 1) - (1 : Int32)))]) (rest := []) ⟨hx, hb, hml, hown, hts⟩ (kX12_in l dC dI cB cI cJ cZ h0 ad H.size (Int32.toInt64 p1) (0 : Int64) (Int32.toInt64 ((ma M 25 1) - (1 : Int32))) M _ h) (cwS 3 hts gX12_speak_X12_in rfl rfl rfl (by decide +kernel) ⟨Nat.le_of_ble_eq_true rfl, Nat.le_of_ble_eq_true rfl⟩) (mpS hK hP hD) rfl rfl hl.1 rfl (lv_room (Nat.le_of_ble_eq_true rfl)) dX12_speak_12 ⟨Nat.le_of_ble_eq_true rfl, Nat.le_of_ble_eq_true rfl⟩) hS (fun q _ z => hFc q z) hFc (fun r1 M2 t H1 locs ht hvm hw hB hz1 hk1 hS => ?_)
    obtain ⟨hP, hD⟩ := gs_back ht hFc hB
    generalize H1 = H at hP hS ⊢
    obtain ⟨b3, rfl, h⟩ := hw
    try dsimp only at h
    refine lv_if_ne (tgt := 20) hx hb dX12_speak_15 (by decide) (fun c4 => ?_) (fun c4 => ?_)
    · have h := h.2 c4
      refine lv_aload_n hx hb dX12_speak_20 rfl (lv_at hl 0 rfl) ?_
      have hFc := gs_free hD hS hA
      refine va_calli (va_runV (As := []) (rest := []) ⟨hx, hb, hml, hown, hts⟩ (kX12_goesOn l dC dI cB cI cJ cZ h0 ad H.size  M2 _ h) (cwV 0 hts gX12_speak_X12_goesOn rfl rfl rfl (by decide +kernel) ⟨Nat.le_of_ble_eq_true rfl, Nat.le_of_ble_eq_true rfl⟩) (mpV hK hP hD) rfl rfl hl.1 rfl (lv_room (Nat.le_of_ble_eq_true rfl)) dX12_speak_21 ⟨Nat.le_of_ble_eq_true rfl, Nat.le_of_ble_eq_true rfl⟩) hS (fun q _ z => hFc q z) hFc (fun r5 M6 t H1 locs ht hvm hw hB hz1 hk1 hS => ?_)
      obtain ⟨hP, hD⟩ := gs_back ht hFc hB
      generalize H1 = H at hP hS ⊢
      obtain ⟨b7, rfl, h⟩ := hw
      try dsimp only at h
      refine lv_if_eq (tgt := 35) hx hb dX12_speak_24 (by decide) (fun c8 => ?_) (fun c8 => ?_)
      · have h := h.1 c8
        refine lv_bipush (v := (-2)) hx hb dX12_speak_35 (by decide) ?_
        exact W.iret (v := (-2 : Int32)) hx hb hr (fun t ht hW => ⟨⟨_, M6, rfl, h, by rw [ht]; exact hP, va_K.moved hW.alike hK, hD⟩, hS.F ht⟩) hS.2.2 dX12_speak_37
      · have h := h.2 c8
        refine lv_aload_n hx hb dX12_speak_27 rfl (lv_at hl 0 rfl) ?_
        refine lv_iload_n hx hb dX12_speak_28 rfl (lv_at hl 1 rfl) ?_
        have hFc := gs_free hD hS hA
        refine va_calli (va_runV (As := [.int p1]) (rest := []) ⟨hx, hb, hml, hown, hts⟩ (kX12_canSay l dC dI cB cI cJ cZ h0 ad H.size p1 M6 _ h) (cwV 1 hts gX12_speak_X12_canSay rfl rfl rfl (by decide +kernel) ⟨Nat.le_of_ble_eq_true rfl, Nat.le_of_ble_eq_true rfl⟩) (mpV hK hP hD) rfl rfl hl.1 rfl (lv_room (Nat.le_of_ble_eq_true rfl)) dX12_speak_29 ⟨Nat.le_of_ble_eq_true rfl, Nat.le_of_ble_eq_true rfl⟩) hS (fun q _ z => hFc q z) hFc (fun r9 M10 t H1 locs ht hvm hw hB hz1 hk1 hS => ?_)
        obtain ⟨hP, hD⟩ := gs_back ht hFc hB
        generalize H1 = H at hP hS ⊢
        obtain ⟨b11, rfl, h⟩ := hw
        try dsimp only at h
        refine lv_if_ne (tgt := 38) hx hb dX12_speak_32 (by decide) (fun c12 => ?_) (fun c12 => ?_)
        · have h := h.2 c12
          refine lv_aload_n hx hb dX12_speak_38 rfl (lv_at hl 0 rfl) ?_
          refine lv_iload_n hx hb dX12_speak_39 rfl (lv_at hl 1 rfl) ?_
          have hFc := gs_free hD hS hA
          refine va_callv (va_runV (As := [.int p1]) (rest := []) ⟨hx, hb, hml, hown, hts⟩ (kX12_says l dC dI cB cI cJ cZ h0 ad H.size p1 M10 _ h) (cwV 1 hts gX12_speak_X12_says rfl rfl rfl (by decide +kernel) ⟨Nat.le_of_ble_eq_true rfl, Nat.le_of_ble_eq_true rfl⟩) (mpV hK hP hD) rfl rfl hl.1 rfl (lv_room (Nat.le_of_ble_eq_true rfl)) dX12_speak_40 ⟨Nat.le_of_ble_eq_true rfl, Nat.le_of_ble_eq_true rfl⟩) hS (fun q _ z => hFc q z) hFc (fun M14 t H1 locs ht hvm hw hB hz1 hk1 hS => ?_)
          obtain ⟨hP, hD⟩ := gs_back ht hFc hB
          generalize H1 = H at hP hS ⊢
          have h := hw
          try dsimp only at h
          refine lv_aload_n hx hb dX12_speak_43 rfl (lv_at hl 0 rfl) ?_
          refine va_get (D := (dC, dI)) (ci := 12) (v := .ref (ad 25)) (C := RX12) (T := TX12) (N := 37) hx hb hts hin hown hK hP 0 rfl rfl 25 (by decide) f1 (fun _ h9 => h9) rfl dX12_speak_44 ?_
          refine lv_iconst (v := 5) hx hb dX12_speak_47 (by decide) ?_
          refine wc_iald (j := 5) hx hb hK hP 12 1 (f := ma M14 25) rfl rfl (by decide) (by decide) (by decide) dX12_speak_48 ?_
          exact W.iret (v := (ma M14 25 5)) hx hb hr (fun t ht hW => ⟨⟨_, M14, rfl, h, by rw [ht]; exact hP, va_K.moved hW.alike hK, hD⟩, hS.F ht⟩) hS.2.2 dX12_speak_49
        · have h := h.1 c12
          refine lv_bipush (v := (-2)) hx hb dX12_speak_35 (by decide) ?_
          exact W.iret (v := (-2 : Int32)) hx hb hr (fun t ht hW => ⟨⟨_, M10, rfl, h, by rw [ht]; exact hP, va_K.moved hW.alike hK, hD⟩, hS.F ht⟩) hS.2.2 dX12_speak_37
    · have h := h.1 c4
      refine lv_iconst (v := (-1)) hx hb dX12_speak_18 (by decide) ?_
      exact W.iret (v := (-1 : Int32)) hx hb hr (fun t ht hW => ⟨⟨_, M2, rfl, h, by rw [ht]; exact hP, va_K.moved hW.alike hK, hD⟩, hS.F ht⟩) hS.2.2 dX12_speak_19
  have hl := lv_entry ([.ref h0, .int p1]) (n := 2) (Nat.le_of_ble_eq_true rfl)
  rw [lg_entry_eq]
  generalize (lg_sl ([.ref h0, .int p1]) ++ List.replicate (2 - (lg_sl ([.ref h0, .int p1])).length) Slot.unset).toArray = ls at hl ⊢
  have hl : lv_has ls 2 [(0, .ref h0), (1, .int p1)] := hl
  exact bE M s.heap [] ls hP hD hS hl h
def wX12_toss  (M : gS) (Q : Int32 → gS → Prop) : Prop :=
 (wX12_goesOn  M (fun (b3 : Bool) (M2 : gS) => (((bI b3) = 0 → (Q (-2 : Int32) M2))
 ∧ (¬ (bI b3) = 0 → (wX12_canThrow  M2 (fun (b7 : Bool) (M6 : gS) => (((bI b7) = 0 → (Q (-2 : Int32) M6))
 ∧ (¬ (bI b7) = 0 → (wX12_throwsOne  M6 (fun (M10 : gS) => (Q (ma M10 25 5) M10)))))))))))
def rmX12_toss : Room := { frames := 4, cells := 0, slots := 0, locals := 82 }
set_option maxHeartbeats 4000000 in
set_option maxRecDepth 100000 in
theorem kX12_toss (l : Launch) (dC : Nat → ClassId) (dI : Nat → Nat → Nat) (cB cI cJ cZ : ClassId) (h0 : Nat) (ad : Nat → Nat) (sz : Nat)  (M : gS) (Q : Int32 → gS → Prop) (h : wX12_toss  M Q) : Met l yX12_toss wsX12_toss rmX12_toss (va_Pc [.ref h0] (mI dC dI cB cI cJ cZ h0 ad M sz)) (va_Qi (fun (r : Int32) (u : gS) => Q r u) (mB dC dI cB cI cJ cZ h0 ad (va_A (mW cB cI cJ cZ h0 ad M) sz)) (va_A (mW cB cI cJ cZ h0 ad M) sz)) 0 0 (va_A (mW cB cI cJ cZ h0 ad M) sz) := by
  refine Met.ofW (cc := cX12_toss) (maxL := 1) (ret := (some .int)) (by decide) rfl ?_
  intro p e s m args below meth c s₁ B hml hv
  obtain ⟨rfl, hsz, hP, hK, hD0⟩ := hv
  have hx := B.exec
  have hb := B.bytes
  have hr := B.returns
  have hts := atoms_spec (ws := wsX12_toss) B.pre
  have hown : s.vm.findClass RX12 = some m.cls := findClass_of_methodNamed B.named
  have hlocks := B.notSynchronized
  subst hsz
  have hD := hD0.self (sz := s.heap.size)
  generalize hAe : va_A (mW cB cI cJ cZ h0 ad M) s.heap.size = A at hD ⊢
  have hA : ∀ q : Nat, s.heap.size ≤ q → A q := fun q h => by rw [← hAe]; exact Or.inr h
  have hS : va_S A s.heap s.heap [] := va_S.rf
  have hin : ∀ w ∈ wsX120, w ∈ wsX12_toss := fun w h => List.mem_cons_of_mem _ (List.mem_append_right _ h)
  have f1 := hts (.fieldLink RX12 45 "LastWordsModel" "said" "[I") (by decide +kernel)
  have bE : ∀ (M : gS) (H : Heap) (locs : List Loc) (ls : Array Slot), va_P (dC, dI) vwCl (mW cB cI cJ cZ h0 ad M) H → va_D A (mW cB cI cJ cZ h0 ad M) → va_S A s.heap H locs → lv_has ls 1 [(0, .ref h0)] → wX12_toss  M Q → W p l e (headSpec wsX12_toss rmX12_toss).room s m ([.ref h0] : List Value).toArray below meth c H locs 0 0 (MQ below (va_Qi (fun (r : Int32) (u : gS) => Q r u) (mB dC dI cB cI cJ cZ h0 ad A) A) ([.ref h0] : List Value).toArray s 0 0 A) (F0 m 0 ls []) := by
    intro M H locs ls hP hD hS hl h
    unfold wX12_toss at h
    refine lv_aload_n hx hb dX12_toss_0 rfl (lv_at hl 0 rfl) ?_
    have hFc := gs_free hD hS hA
    refine va_calli (va_runV (As := []) (rest := []) ⟨hx, hb, hml, hown, hts⟩ (kX12_goesOn l dC dI cB cI cJ cZ h0 ad H.size  M _ h) (cwV 0 hts gX12_toss_X12_goesOn rfl rfl rfl (by decide +kernel) ⟨Nat.le_of_ble_eq_true rfl, Nat.le_of_ble_eq_true rfl⟩) (mpV hK hP hD) rfl rfl hl.1 rfl (lv_room (Nat.le_of_ble_eq_true rfl)) dX12_toss_1 ⟨Nat.le_of_ble_eq_true rfl, Nat.le_of_ble_eq_true rfl⟩) hS (fun q _ z => hFc q z) hFc (fun r1 M2 t H1 locs ht hvm hw hB hz1 hk1 hS => ?_)
    obtain ⟨hP, hD⟩ := gs_back ht hFc hB
    generalize H1 = H at hP hS ⊢
    obtain ⟨b3, rfl, h⟩ := hw
    try dsimp only at h
    refine lv_if_eq (tgt := 14) hx hb dX12_toss_4 (by decide) (fun c4 => ?_) (fun c4 => ?_)
    · have h := h.1 c4
      refine lv_bipush (v := (-2)) hx hb dX12_toss_14 (by decide) ?_
      exact W.iret (v := (-2 : Int32)) hx hb hr (fun t ht hW => ⟨⟨_, M2, rfl, h, by rw [ht]; exact hP, va_K.moved hW.alike hK, hD⟩, hS.F ht⟩) hS.2.2 dX12_toss_16
    · have h := h.2 c4
      refine lv_aload_n hx hb dX12_toss_7 rfl (lv_at hl 0 rfl) ?_
      have hFc := gs_free hD hS hA
      refine va_calli (va_runV (As := []) (rest := []) ⟨hx, hb, hml, hown, hts⟩ (kX12_canThrow l dC dI cB cI cJ cZ h0 ad H.size  M2 _ h) (cwV 0 hts gX12_toss_X12_canThrow rfl rfl rfl (by decide +kernel) ⟨Nat.le_of_ble_eq_true rfl, Nat.le_of_ble_eq_true rfl⟩) (mpV hK hP hD) rfl rfl hl.1 rfl (lv_room (Nat.le_of_ble_eq_true rfl)) dX12_toss_8 ⟨Nat.le_of_ble_eq_true rfl, Nat.le_of_ble_eq_true rfl⟩) hS (fun q _ z => hFc q z) hFc (fun r5 M6 t H1 locs ht hvm hw hB hz1 hk1 hS => ?_)
      obtain ⟨hP, hD⟩ := gs_back ht hFc hB
      generalize H1 = H at hP hS ⊢
      obtain ⟨b7, rfl, h⟩ := hw
      try dsimp only at h
      refine lv_if_ne (tgt := 17) hx hb dX12_toss_11 (by decide) (fun c8 => ?_) (fun c8 => ?_)
      · have h := h.2 c8
        refine lv_aload_n hx hb dX12_toss_17 rfl (lv_at hl 0 rfl) ?_
        have hFc := gs_free hD hS hA
        refine va_callv (va_runV (As := []) (rest := []) ⟨hx, hb, hml, hown, hts⟩ (kX12_throwsOne l dC dI cB cI cJ cZ h0 ad H.size  M6 _ h) (cwV 0 hts gX12_toss_X12_throwsOne rfl rfl rfl (by decide +kernel) ⟨Nat.le_of_ble_eq_true rfl, Nat.le_of_ble_eq_true rfl⟩) (mpV hK hP hD) rfl rfl hl.1 rfl (lv_room (Nat.le_of_ble_eq_true rfl)) dX12_toss_18 ⟨Nat.le_of_ble_eq_true rfl, Nat.le_of_ble_eq_true rfl⟩) hS (fun q _ z => hFc q z) hFc (fun M10 t H1 locs ht hvm hw hB hz1 hk1 hS => ?_)
        obtain ⟨hP, hD⟩ := gs_back ht hFc hB
        generalize H1 = H at hP hS ⊢
        have h := hw
        try dsimp only at h
        refine lv_aload_n hx hb dX12_toss_21 rfl (lv_at hl 0 rfl) ?_
        refine va_get (D := (dC, dI)) (ci := 12) (v := .ref (ad 25)) (C := RX12) (T := TX12) (N := 37) hx hb hts hin hown hK hP 0 rfl rfl 25 (by decide) f1 (fun _ h9 => h9) rfl dX12_toss_22 ?_
        refine lv_iconst (v := 5) hx hb dX12_toss_25 (by decide) ?_
        refine wc_iald (j := 5) hx hb hK hP 12 1 (f := ma M10 25) rfl rfl (by decide) (by decide) (by decide) dX12_toss_26 ?_
        exact W.iret (v := (ma M10 25 5)) hx hb hr (fun t ht hW => ⟨⟨_, M10, rfl, h, by rw [ht]; exact hP, va_K.moved hW.alike hK, hD⟩, hS.F ht⟩) hS.2.2 dX12_toss_27
      · have h := h.1 c8
        refine lv_bipush (v := (-2)) hx hb dX12_toss_14 (by decide) ?_
        exact W.iret (v := (-2 : Int32)) hx hb hr (fun t ht hW => ⟨⟨_, M6, rfl, h, by rw [ht]; exact hP, va_K.moved hW.alike hK, hD⟩, hS.F ht⟩) hS.2.2 dX12_toss_16
  have hl := lv_entry ([.ref h0]) (n := 1) (Nat.le_of_ble_eq_true rfl)
  rw [lg_entry_eq]
  generalize (lg_sl ([.ref h0]) ++ List.replicate (1 - (lg_sl ([.ref h0])).length) Slot.unset).toArray = ls at hl ⊢
  have hl : lv_has ls 1 [(0, .ref h0)] := hl
  exact bE M s.heap [] ls hP hD hS hl h
def wX12_still  (M : gS) (Q : Int32 → gS → Prop) : Prop :=
 (wX12_goesOn  M (fun (b3 : Bool) (M2 : gS) => (((bI b3) = 0 → (Q (-2 : Int32) M2))
 ∧ (¬ (bI b3) = 0 → (∀ x5 : Int32, x5 = ((ma M2 25 7) + (1 : Int32)) → (∀ M6 : gS, M6 = sa M2 25 7 x5 → (wX12_ends  M6 (fun (r7 : Int32) (M8 : gS) => (Q r7 M8)))))))))
def rmX12_still : Room := { frames := 2, cells := 0, slots := 0, locals := 40 }
set_option maxHeartbeats 4000000 in
set_option maxRecDepth 100000 in
theorem kX12_still (l : Launch) (dC : Nat → ClassId) (dI : Nat → Nat → Nat) (cB cI cJ cZ : ClassId) (h0 : Nat) (ad : Nat → Nat) (sz : Nat)  (M : gS) (Q : Int32 → gS → Prop) (h : wX12_still  M Q) : Met l yX12_still wsX12_still rmX12_still (va_Pc [.ref h0] (mI dC dI cB cI cJ cZ h0 ad M sz)) (va_Qi (fun (r : Int32) (u : gS) => Q r u) (mB dC dI cB cI cJ cZ h0 ad (va_A (mW cB cI cJ cZ h0 ad M) sz)) (va_A (mW cB cI cJ cZ h0 ad M) sz)) 0 0 (va_A (mW cB cI cJ cZ h0 ad M) sz) := by
  refine Met.ofW (cc := cX12_still) (maxL := 1) (ret := (some .int)) (by decide) rfl ?_
  intro p e s m args below meth c s₁ B hml hv
  obtain ⟨rfl, hsz, hP, hK, hD0⟩ := hv
  have hx := B.exec
  have hb := B.bytes
  have hr := B.returns
  have hts := atoms_spec (ws := wsX12_still) B.pre
  have hown : s.vm.findClass RX12 = some m.cls := findClass_of_methodNamed B.named
  have hlocks := B.notSynchronized
  subst hsz
  have hD := hD0.self (sz := s.heap.size)
  generalize hAe : va_A (mW cB cI cJ cZ h0 ad M) s.heap.size = A at hD ⊢
  have hA : ∀ q : Nat, s.heap.size ≤ q → A q := fun q h => by rw [← hAe]; exact Or.inr h
  have hS : va_S A s.heap s.heap [] := va_S.rf
  have hin : ∀ w ∈ wsX120, w ∈ wsX12_still := fun w h => List.mem_cons_of_mem _ (List.mem_append_right _ h)
  have f1 := hts (.fieldLink RX12 45 "LastWordsModel" "said" "[I") (by decide +kernel)
  have bE : ∀ (M : gS) (H : Heap) (locs : List Loc) (ls : Array Slot), va_P (dC, dI) vwCl (mW cB cI cJ cZ h0 ad M) H → va_D A (mW cB cI cJ cZ h0 ad M) → va_S A s.heap H locs → lv_has ls 1 [(0, .ref h0)] → wX12_still  M Q → W p l e (headSpec wsX12_still rmX12_still).room s m ([.ref h0] : List Value).toArray below meth c H locs 0 0 (MQ below (va_Qi (fun (r : Int32) (u : gS) => Q r u) (mB dC dI cB cI cJ cZ h0 ad A) A) ([.ref h0] : List Value).toArray s 0 0 A) (F0 m 0 ls []) := by
    intro M H locs ls hP hD hS hl h
    unfold wX12_still at h
    refine lv_aload_n hx hb dX12_still_0 rfl (lv_at hl 0 rfl) ?_
    have hFc := gs_free hD hS hA
    refine va_calli (va_runV (As := []) (rest := []) ⟨hx, hb, hml, hown, hts⟩ (kX12_goesOn l dC dI cB cI cJ cZ h0 ad H.size  M _ h) (cwV 0 hts gX12_still_X12_goesOn rfl rfl rfl (by decide +kernel) ⟨Nat.le_of_ble_eq_true rfl, Nat.le_of_ble_eq_true rfl⟩) (mpV hK hP hD) rfl rfl hl.1 rfl (lv_room (Nat.le_of_ble_eq_true rfl)) dX12_still_1 ⟨Nat.le_of_ble_eq_true rfl, Nat.le_of_ble_eq_true rfl⟩) hS (fun q _ z => hFc q z) hFc (fun r1 M2 t H1 locs ht hvm hw hB hz1 hk1 hS => ?_)
    obtain ⟨hP, hD⟩ := gs_back ht hFc hB
    generalize H1 = H at hP hS ⊢
    obtain ⟨b3, rfl, h⟩ := hw
    try dsimp only at h
    refine lv_if_ne (tgt := 10) hx hb dX12_still_4 (by decide) (fun c4 => ?_) (fun c4 => ?_)
    · have h := h.2 c4
      refine lv_aload_n hx hb dX12_still_10 rfl (lv_at hl 0 rfl) ?_
      refine va_get (D := (dC, dI)) (ci := 12) (v := .ref (ad 25)) (C := RX12) (T := TX12) (N := 37) hx hb hts hin hown hK hP 0 rfl rfl 25 (by decide) f1 (fun _ h9 => h9) rfl dX12_still_11 ?_
      refine lv_bipush (v := (7)) hx hb dX12_still_14 (by decide) ?_
      refine lv_dup2_11 hx hb dX12_still_16 rfl rfl ?_
      refine wc_iald (j := 7) hx hb hK hP 12 1 (f := ma M2 25) rfl rfl (by decide) (by decide) (by decide) dX12_still_17 ?_
      refine lv_iconst (v := 1) hx hb dX12_still_18 (by decide) ?_
      refine lv_iadd hx hb dX12_still_19 ?_
      refine lv_topi (fun x5 ex5 => ?_)
      have h := h x5 ex5
      refine wc_iast (j := 7) hx hb hK hP hD hS 12 1 (f := ma M2 25) rfl rfl (by decide) (by decide) (by decide) dX12_still_20 (fun H locs hP hD hS => ?_)
      have hP := mP_a25 hP
      have hD := mD_a25 hD
      have h := h _ rfl
      generalize sa M2 25 7 x5 = M6 at hP hD h
      refine lv_aload_n hx hb dX12_still_21 rfl (lv_at hl 0 rfl) ?_
      have hFc := gs_free hD hS hA
      refine va_calli (va_runV (As := []) (rest := []) ⟨hx, hb, hml, hown, hts⟩ (kX12_ends l dC dI cB cI cJ cZ h0 ad H.size  M6 _ h) (cwV 0 hts gX12_still_X12_ends rfl rfl rfl (by decide +kernel) ⟨Nat.le_of_ble_eq_true rfl, Nat.le_of_ble_eq_true rfl⟩) (mpV hK hP hD) rfl rfl hl.1 rfl (lv_room (Nat.le_of_ble_eq_true rfl)) dX12_still_22 ⟨Nat.le_of_ble_eq_true rfl, Nat.le_of_ble_eq_true rfl⟩) hS (fun q _ z => hFc q z) hFc (fun r7 M8 t H1 locs ht hvm hw hB hz1 hk1 hS => ?_)
      obtain ⟨hP, hD⟩ := gs_back ht hFc hB
      generalize H1 = H at hP hS ⊢
      have h := hw
      try dsimp only at h
      exact W.iret (v := r7) hx hb hr (fun t ht hW => ⟨⟨_, M8, rfl, h, by rw [ht]; exact hP, va_K.moved hW.alike hK, hD⟩, hS.F ht⟩) hS.2.2 dX12_still_25
    · have h := h.1 c4
      refine lv_bipush (v := (-2)) hx hb dX12_still_7 (by decide) ?_
      exact W.iret (v := (-2 : Int32)) hx hb hr (fun t ht hW => ⟨⟨_, M2, rfl, h, by rw [ht]; exact hP, va_K.moved hW.alike hK, hD⟩, hS.F ht⟩) hS.2.2 dX12_still_9
  have hl := lv_entry ([.ref h0]) (n := 1) (Nat.le_of_ble_eq_true rfl)
  rw [lg_entry_eq]
  generalize (lg_sl ([.ref h0]) ++ List.replicate (1 - (lg_sl ([.ref h0])).length) Slot.unset).toArray = ls at hl ⊢
  have hl : lv_has ls 1 [(0, .ref h0)] := hl
  exact bE M s.heap [] ls hP hD hS hl h
def wX12_side (p1 : Int32) (p2 : Int32) (M : gS) (Q : Int32 → gS → Prop) : Prop :=
 (wX12_isCorner  M (fun (b3 : Bool) (M2 : gS) => (((bI b3) = 0 → (Q (-1 : Int32) M2))
 ∧ (¬ (bI b3) = 0 → (wX12_isSide p1 M2 (fun (b7 : Bool) (M6 : gS) => (((bI b7) = 0 → (Q (-1 : Int32) M6))
 ∧ (¬ (bI b7) = 0 → (wX12_in (Int32.toInt64 p2) (0 : Int64) (3 : Int64) M6 (fun (b11 : Bool) (M10 : gS) => (((bI b11) = 0 → (Q (-1 : Int32) M10))
 ∧ (¬ (bI b11) = 0 → ((p2 = (1 : Int32) → (vp_in ((14 : Int32) + p1) 44 ∧ (((ma M10 25 (Int32.toNatClampNeg ((14 : Int32) + p1))) = (9 : Int32) → (Q (-1 : Int32) M10))
 ∧ (¬ (ma M10 25 (Int32.toNatClampNeg ((14 : Int32) + p1))) = (9 : Int32) → (vp_in ((14 : Int32) + p1) 44 ∧ (Q (ma M10 25 (Int32.toNatClampNeg ((14 : Int32) + p1))) M10))))))
 ∧ (¬ p2 = (1 : Int32) → ((p2 = 0 → (vp_in ((12 : Int32) + p1) 44 ∧ (Q (ma M10 25 (Int32.toNatClampNeg ((12 : Int32) + p1))) M10)))
 ∧ (¬ p2 = 0 → ((p2 = (2 : Int32) → (vp_in ((16 : Int32) + p1) 44 ∧ (Q (ma M10 25 (Int32.toNatClampNeg ((16 : Int32) + p1))) M10)))
 ∧ (¬ p2 = (2 : Int32) → (vp_in ((18 : Int32) + p1) 44 ∧ (Q (ma M10 25 (Int32.toNatClampNeg ((18 : Int32) + p1))) M10))))))))))))))))))))
def rmX12_side : Room := { frames := 1, cells := 0, slots := 0, locals := 25 }
set_option maxHeartbeats 4000000 in
set_option maxRecDepth 100000 in
theorem kX12_side (l : Launch) (dC : Nat → ClassId) (dI : Nat → Nat → Nat) (cB cI cJ cZ : ClassId) (h0 : Nat) (ad : Nat → Nat) (sz : Nat) (p1 : Int32) (p2 : Int32) (M : gS) (Q : Int32 → gS → Prop) (h : wX12_side p1 p2 M Q) : Met l yX12_side wsX12_side rmX12_side (va_Pc [.ref h0, .int p1, .int p2] (mI dC dI cB cI cJ cZ h0 ad M sz)) (va_Qi (fun (r : Int32) (u : gS) => Q r u) (mB dC dI cB cI cJ cZ h0 ad (va_A (mW cB cI cJ cZ h0 ad M) sz)) (va_A (mW cB cI cJ cZ h0 ad M) sz)) 0 0 (va_A (mW cB cI cJ cZ h0 ad M) sz) := by
  refine Met.ofW (cc := cX12_side) (maxL := 3) (ret := (some .int)) (by decide) rfl ?_
  intro p e s m args below meth c s₁ B hml hv
  obtain ⟨rfl, hsz, hP, hK, hD0⟩ := hv
  have hx := B.exec
  have hb := B.bytes
  have hr := B.returns
  have hts := atoms_spec (ws := wsX12_side) B.pre
  have hown : s.vm.findClass RX12 = some m.cls := findClass_of_methodNamed B.named
  have hlocks := B.notSynchronized
  subst hsz
  have hD := hD0.self (sz := s.heap.size)
  generalize hAe : va_A (mW cB cI cJ cZ h0 ad M) s.heap.size = A at hD ⊢
  have hA : ∀ q : Nat, s.heap.size ≤ q → A q := fun q h => by rw [← hAe]; exact Or.inr h
  have hS : va_S A s.heap s.heap [] := va_S.rf
  have hin : ∀ w ∈ wsX120, w ∈ wsX12_side := fun w h => List.mem_cons_of_mem _ (List.mem_append_right _ h)
  have f1 := hts (.constantLong RX12 319 (3)) (by decide +kernel)
  have f2 := hts (.fieldLink RX12 45 "LastWordsModel" "said" "[I") (by decide +kernel)
  have bE : ∀ (M : gS) (H : Heap) (locs : List Loc) (ls : Array Slot), va_P (dC, dI) vwCl (mW cB cI cJ cZ h0 ad M) H → va_D A (mW cB cI cJ cZ h0 ad M) → va_S A s.heap H locs → lv_has ls 3 [(0, .ref h0), (1, .int p1), (2, .int p2)] → wX12_side p1 p2 M Q → W p l e (headSpec wsX12_side rmX12_side).room s m ([.ref h0, .int p1, .int p2] : List Value).toArray below meth c H locs 0 0 (MQ below (va_Qi (fun (r : Int32) (u : gS) => Q r u) (mB dC dI cB cI cJ cZ h0 ad A) A) ([.ref h0, .int p1, .int p2] : List Value).toArray s 0 0 A) (F0 m 0 ls []) := by
    intro M H locs ls hP hD hS hl h
    unfold wX12_side at h
    refine lv_aload_n hx hb dX12_side_0 rfl (lv_at hl 0 rfl) ?_
    have hFc := gs_free hD hS hA
    refine va_calli (va_runV (As := []) (rest := []) ⟨hx, hb, hml, hown, hts⟩ (kX12_isCorner l dC dI cB cI cJ cZ h0 ad H.size  M _ h) (cwV 0 hts gX12_side_X12_isCorner rfl rfl rfl (by decide +kernel) ⟨Nat.le_of_ble_eq_true rfl, Nat.le_of_ble_eq_true rfl⟩) (mpV hK hP hD) rfl rfl hl.1 rfl (lv_room (Nat.le_of_ble_eq_true rfl)) dX12_side_1 ⟨Nat.le_of_ble_eq_true rfl, Nat.le_of_ble_eq_true rfl⟩) hS (fun q _ z => hFc q z) hFc (fun r1 M2 t H1 locs ht hvm hw hB hz1 hk1 hS => ?_)
    obtain ⟨hP, hD⟩ := gs_back ht hFc hB
    generalize H1 = H at hP hS ⊢
    obtain ⟨b3, rfl, h⟩ := hw
    try dsimp only at h
    refine lv_if_eq (tgt := 26) hx hb dX12_side_4 (by decide) (fun c4 => ?_) (fun c4 => ?_)
    · have h := h.1 c4
      refine lv_iconst (v := (-1)) hx hb dX12_side_26 (by decide) ?_
      exact W.iret (v := (-1 : Int32)) hx hb hr (fun t ht hW => ⟨⟨_, M2, rfl, h, by rw [ht]; exact hP, va_K.moved hW.alike hK, hD⟩, hS.F ht⟩) hS.2.2 dX12_side_27
    · have h := h.2 c4
      refine lv_iload_n hx hb dX12_side_7 rfl (lv_at hl 1 rfl) ?_
      have hFc := gs_free hD hS hA
      refine va_calli (va_runS (As := [.int p1]) (rest := []) ⟨hx, hb, hml, hown, hts⟩ (kX12_isSide l dC dI cB cI cJ cZ h0 ad H.size p1 M2 _ h) (cwS 1 hts gX12_side_X12_isSide rfl rfl rfl (by decide +kernel) ⟨Nat.le_of_ble_eq_true rfl, Nat.le_of_ble_eq_true rfl⟩) (mpS hK hP hD) rfl rfl hl.1 rfl (lv_room (Nat.le_of_ble_eq_true rfl)) dX12_side_8 ⟨Nat.le_of_ble_eq_true rfl, Nat.le_of_ble_eq_true rfl⟩) hS (fun q _ z => hFc q z) hFc (fun r5 M6 t H1 locs ht hvm hw hB hz1 hk1 hS => ?_)
      obtain ⟨hP, hD⟩ := gs_back ht hFc hB
      generalize H1 = H at hP hS ⊢
      obtain ⟨b7, rfl, h⟩ := hw
      try dsimp only at h
      refine lv_if_eq (tgt := 26) hx hb dX12_side_11 (by decide) (fun c8 => ?_) (fun c8 => ?_)
      · have h := h.1 c8
        refine lv_iconst (v := (-1)) hx hb dX12_side_26 (by decide) ?_
        exact W.iret (v := (-1 : Int32)) hx hb hr (fun t ht hW => ⟨⟨_, M6, rfl, h, by rw [ht]; exact hP, va_K.moved hW.alike hK, hD⟩, hS.F ht⟩) hS.2.2 dX12_side_27
      · have h := h.2 c8
        refine lv_iload_n hx hb dX12_side_14 rfl (lv_at hl 2 rfl) ?_
        refine lv_i2l hx hb dX12_side_15 rfl ?_
        refine lv_lconst (v := 0) hx hb dX12_side_16 (by decide) ?_
        refine lv_ldc2 (v := (3)) hx hb hown f1 dX12_side_17 ?_
        have hFc := gs_free hD hS hA
        refine va_calli (va_runS (As := [.long (Int32.toInt64 p2), .long (0 : Int64), .long (3 : Int64)]) (rest := []) ⟨hx, hb, hml, hown, hts⟩ (kX12_in l dC dI cB cI cJ cZ h0 ad H.size (Int32.toInt64 p2) (0 : Int64) (3 : Int64) M6 _ h) (cwS 3 hts gX12_side_X12_in rfl rfl rfl (by decide +kernel) ⟨Nat.le_of_ble_eq_true rfl, Nat.le_of_ble_eq_true rfl⟩) (mpS hK hP hD) rfl rfl hl.1 rfl (lv_room (Nat.le_of_ble_eq_true rfl)) dX12_side_20 ⟨Nat.le_of_ble_eq_true rfl, Nat.le_of_ble_eq_true rfl⟩) hS (fun q _ z => hFc q z) hFc (fun r9 M10 t H1 locs ht hvm hw hB hz1 hk1 hS => ?_)
        obtain ⟨hP, hD⟩ := gs_back ht hFc hB
        generalize H1 = H at hP hS ⊢
        obtain ⟨b11, rfl, h⟩ := hw
        try dsimp only at h
        refine lv_if_ne (tgt := 28) hx hb dX12_side_23 (by decide) (fun c12 => ?_) (fun c12 => ?_)
        · have h := h.2 c12
          refine lv_iload_n hx hb dX12_side_28 rfl (lv_at hl 2 rfl) ?_
          refine lv_iconst (v := 1) hx hb dX12_side_29 (by decide) ?_
          refine lv_icmp_ne (tgt := 61) hx hb dX12_side_30 (by decide) (fun c13 => ?_) (fun c13 => ?_)
          · have h := h.2 c13
            refine lv_aload_n hx hb dX12_side_61 rfl (lv_at hl 0 rfl) ?_
            refine va_get (D := (dC, dI)) (ci := 12) (v := .ref (ad 25)) (C := RX12) (T := TX12) (N := 37) hx hb hts hin hown hK hP 0 rfl rfl 25 (by decide) f2 (fun _ h9 => h9) rfl dX12_side_62 ?_
            refine lv_iload_n hx hb dX12_side_65 rfl (lv_at hl 2 rfl) ?_
            refine lv_if_ne (tgt := 74) hx hb dX12_side_66 (by decide) (fun c14 => ?_) (fun c14 => ?_)
            · have h := h.2 c14
              refine lv_iload_n hx hb dX12_side_74 rfl (lv_at hl 2 rfl) ?_
              refine lv_iconst (v := 2) hx hb dX12_side_75 (by decide) ?_
              refine lv_icmp_ne (tgt := 84) hx hb dX12_side_76 (by decide) (fun c15 => ?_) (fun c15 => ?_)
              · have h := h.2 c15
                refine lv_bipush (v := (18)) hx hb dX12_side_84 (by decide) ?_
                refine lv_iload_n hx hb dX12_side_86 rfl (lv_at hl 1 rfl) ?_
                refine lv_iadd hx hb dX12_side_87 ?_
                refine va_iald hx hb hK hP 12 1 (f := ma M10 25) rfl rfl h.1 dX12_side_88 ?_
                have h := h.2
                exact W.iret (v := (ma M10 25 (Int32.toNatClampNeg ((18 : Int32) + p1)))) hx hb hr (fun t ht hW => ⟨⟨_, M10, rfl, h, by rw [ht]; exact hP, va_K.moved hW.alike hK, hD⟩, hS.F ht⟩) hS.2.2 dX12_side_89
              · have h := h.1 c15
                refine lv_bipush (v := (16)) hx hb dX12_side_79 (by decide) ?_
                refine lv_goto (tgt := 86) hx hb dX12_side_81 (by decide) ?_
                refine lv_iload_n hx hb dX12_side_86 rfl (lv_at hl 1 rfl) ?_
                refine lv_iadd hx hb dX12_side_87 ?_
                refine va_iald hx hb hK hP 12 1 (f := ma M10 25) rfl rfl h.1 dX12_side_88 ?_
                have h := h.2
                exact W.iret (v := (ma M10 25 (Int32.toNatClampNeg ((16 : Int32) + p1)))) hx hb hr (fun t ht hW => ⟨⟨_, M10, rfl, h, by rw [ht]; exact hP, va_K.moved hW.alike hK, hD⟩, hS.F ht⟩) hS.2.2 dX12_side_89
            · have h := h.1 c14
              refine lv_bipush (v := (12)) hx hb dX12_side_69 (by decide) ?_
              refine lv_goto (tgt := 86) hx hb dX12_side_71 (by decide) ?_
              refine lv_iload_n hx hb dX12_side_86 rfl (lv_at hl 1 rfl) ?_
              refine lv_iadd hx hb dX12_side_87 ?_
              refine va_iald hx hb hK hP 12 1 (f := ma M10 25) rfl rfl h.1 dX12_side_88 ?_
              have h := h.2
              exact W.iret (v := (ma M10 25 (Int32.toNatClampNeg ((12 : Int32) + p1)))) hx hb hr (fun t ht hW => ⟨⟨_, M10, rfl, h, by rw [ht]; exact hP, va_K.moved hW.alike hK, hD⟩, hS.F ht⟩) hS.2.2 dX12_side_89
          · have h := h.1 c13
            refine lv_aload_n hx hb dX12_side_33 rfl (lv_at hl 0 rfl) ?_
            refine va_get (D := (dC, dI)) (ci := 12) (v := .ref (ad 25)) (C := RX12) (T := TX12) (N := 37) hx hb hts hin hown hK hP 0 rfl rfl 25 (by decide) f2 (fun _ h9 => h9) rfl dX12_side_34 ?_
            refine lv_bipush (v := (14)) hx hb dX12_side_37 (by decide) ?_
            refine lv_iload_n hx hb dX12_side_39 rfl (lv_at hl 1 rfl) ?_
            refine lv_iadd hx hb dX12_side_40 ?_
            refine va_iald hx hb hK hP 12 1 (f := ma M10 25) rfl rfl h.1 dX12_side_41 ?_
            have h := h.2
            refine lv_bipush (v := (9)) hx hb dX12_side_42 (by decide) ?_
            refine lv_icmp_ne (tgt := 51) hx hb dX12_side_44 (by decide) (fun c16 => ?_) (fun c16 => ?_)
            · have h := h.2 c16
              refine lv_aload_n hx hb dX12_side_51 rfl (lv_at hl 0 rfl) ?_
              refine va_get (D := (dC, dI)) (ci := 12) (v := .ref (ad 25)) (C := RX12) (T := TX12) (N := 37) hx hb hts hin hown hK hP 0 rfl rfl 25 (by decide) f2 (fun _ h9 => h9) rfl dX12_side_52 ?_
              refine lv_bipush (v := (14)) hx hb dX12_side_55 (by decide) ?_
              refine lv_iload_n hx hb dX12_side_57 rfl (lv_at hl 1 rfl) ?_
              refine lv_iadd hx hb dX12_side_58 ?_
              refine va_iald hx hb hK hP 12 1 (f := ma M10 25) rfl rfl h.1 dX12_side_59 ?_
              have h := h.2
              exact W.iret (v := (ma M10 25 (Int32.toNatClampNeg ((14 : Int32) + p1)))) hx hb hr (fun t ht hW => ⟨⟨_, M10, rfl, h, by rw [ht]; exact hP, va_K.moved hW.alike hK, hD⟩, hS.F ht⟩) hS.2.2 dX12_side_60
            · have h := h.1 c16
              refine lv_iconst (v := (-1)) hx hb dX12_side_47 (by decide) ?_
              refine lv_goto (tgt := 60) hx hb dX12_side_48 (by decide) ?_
              exact W.iret (v := (-1 : Int32)) hx hb hr (fun t ht hW => ⟨⟨_, M10, rfl, h, by rw [ht]; exact hP, va_K.moved hW.alike hK, hD⟩, hS.F ht⟩) hS.2.2 dX12_side_60
        · have h := h.1 c12
          refine lv_iconst (v := (-1)) hx hb dX12_side_26 (by decide) ?_
          exact W.iret (v := (-1 : Int32)) hx hb hr (fun t ht hW => ⟨⟨_, M10, rfl, h, by rw [ht]; exact hP, va_K.moved hW.alike hK, hD⟩, hS.F ht⟩) hS.2.2 dX12_side_27
  have hl := lv_entry ([.ref h0, .int p1, .int p2]) (n := 3) (Nat.le_of_ble_eq_true rfl)
  rw [lg_entry_eq]
  generalize (lg_sl ([.ref h0, .int p1, .int p2]) ++ List.replicate (3 - (lg_sl ([.ref h0, .int p1, .int p2])).length) Slot.unset).toArray = ls at hl ⊢
  have hl : lv_has ls 3 [(0, .ref h0), (1, .int p1), (2, .int p2)] := hl
  exact bE M s.heap [] ls hP hD hS hl h
def wX12_fill (p1 : Int32) (p2 : Int32) (M : gS) (Q : Int32 → gS → Prop) : Prop :=
 (wX12_isCorner  M (fun (b3 : Bool) (M2 : gS) => (((bI b3) = 0 → (Q (-1 : Int32) M2))
 ∧ (¬ (bI b3) = 0 → (wX12_isSide p1 M2 (fun (b7 : Bool) (M6 : gS) => (((bI b7) = 0 → (Q (-1 : Int32) M6))
 ∧ (¬ (bI b7) = 0 → (wX12_in (Int32.toInt64 p2) (0 : Int64) (7 : Int64) M6 (fun (b11 : Bool) (M10 : gS) => (((bI b11) = 0 → (Q (-1 : Int32) M10))
 ∧ (¬ (bI b11) = 0 → (vp_in ((12 : Int32) + p1) 44 ∧ (∀ x13 : Int32, x13 = (ma M10 25 (Int32.toNatClampNeg ((12 : Int32) + p1))) → (vp_in ((12 : Int32) + p1) 44 ∧ (∀ M14 : gS, M14 = sa M10 25 (Int32.toNatClampNeg ((12 : Int32) + p1)) p2 → (wX12_goesOn  M14 (fun (b17 : Bool) (M16 : gS) => (((bI b17) = 0 → (Q x13 M16))
 ∧ (¬ (bI b17) = 0 → (wX12_looks  M16 (fun (M20 : gS) => (Q x13 M20)))))))))))))))))))))))
def rmX12_fill : Room := { frames := 3, cells := 0, slots := 0, locals := 62 }
set_option maxHeartbeats 4000000 in
set_option maxRecDepth 100000 in
theorem kX12_fill (l : Launch) (dC : Nat → ClassId) (dI : Nat → Nat → Nat) (cB cI cJ cZ : ClassId) (h0 : Nat) (ad : Nat → Nat) (sz : Nat) (p1 : Int32) (p2 : Int32) (M : gS) (Q : Int32 → gS → Prop) (h : wX12_fill p1 p2 M Q) : Met l yX12_fill wsX12_fill rmX12_fill (va_Pc [.ref h0, .int p1, .int p2] (mI dC dI cB cI cJ cZ h0 ad M sz)) (va_Qi (fun (r : Int32) (u : gS) => Q r u) (mB dC dI cB cI cJ cZ h0 ad (va_A (mW cB cI cJ cZ h0 ad M) sz)) (va_A (mW cB cI cJ cZ h0 ad M) sz)) 0 0 (va_A (mW cB cI cJ cZ h0 ad M) sz) := by
  refine Met.ofW (cc := cX12_fill) (maxL := 4) (ret := (some .int)) (by decide) rfl ?_
  intro p e s m args below meth c s₁ B hml hv
  obtain ⟨rfl, hsz, hP, hK, hD0⟩ := hv
  have hx := B.exec
  have hb := B.bytes
  have hr := B.returns
  have hts := atoms_spec (ws := wsX12_fill) B.pre
  have hown : s.vm.findClass RX12 = some m.cls := findClass_of_methodNamed B.named
  have hlocks := B.notSynchronized
  subst hsz
  have hD := hD0.self (sz := s.heap.size)
  generalize hAe : va_A (mW cB cI cJ cZ h0 ad M) s.heap.size = A at hD ⊢
  have hA : ∀ q : Nat, s.heap.size ≤ q → A q := fun q h => by rw [← hAe]; exact Or.inr h
  have hS : va_S A s.heap s.heap [] := va_S.rf
  have hin : ∀ w ∈ wsX120, w ∈ wsX12_fill := fun w h => List.mem_cons_of_mem _ (List.mem_append_right _ h)
  have f1 := hts (.constantLong RX12 321 (7)) (by decide +kernel)
  have f2 := hts (.fieldLink RX12 45 "LastWordsModel" "said" "[I") (by decide +kernel)
  have bE : ∀ (M : gS) (H : Heap) (locs : List Loc) (ls : Array Slot), va_P (dC, dI) vwCl (mW cB cI cJ cZ h0 ad M) H → va_D A (mW cB cI cJ cZ h0 ad M) → va_S A s.heap H locs → lv_has ls 4 [(0, .ref h0), (1, .int p1), (2, .int p2)] → wX12_fill p1 p2 M Q → W p l e (headSpec wsX12_fill rmX12_fill).room s m ([.ref h0, .int p1, .int p2] : List Value).toArray below meth c H locs 0 0 (MQ below (va_Qi (fun (r : Int32) (u : gS) => Q r u) (mB dC dI cB cI cJ cZ h0 ad A) A) ([.ref h0, .int p1, .int p2] : List Value).toArray s 0 0 A) (F0 m 0 ls []) := by
    intro M H locs ls hP hD hS hl h
    unfold wX12_fill at h
    refine lv_aload_n hx hb dX12_fill_0 rfl (lv_at hl 0 rfl) ?_
    have hFc := gs_free hD hS hA
    refine va_calli (va_runV (As := []) (rest := []) ⟨hx, hb, hml, hown, hts⟩ (kX12_isCorner l dC dI cB cI cJ cZ h0 ad H.size  M _ h) (cwV 0 hts gX12_fill_X12_isCorner rfl rfl rfl (by decide +kernel) ⟨Nat.le_of_ble_eq_true rfl, Nat.le_of_ble_eq_true rfl⟩) (mpV hK hP hD) rfl rfl hl.1 rfl (lv_room (Nat.le_of_ble_eq_true rfl)) dX12_fill_1 ⟨Nat.le_of_ble_eq_true rfl, Nat.le_of_ble_eq_true rfl⟩) hS (fun q _ z => hFc q z) hFc (fun r1 M2 t H1 locs ht hvm hw hB hz1 hk1 hS => ?_)
    obtain ⟨hP, hD⟩ := gs_back ht hFc hB
    generalize H1 = H at hP hS ⊢
    obtain ⟨b3, rfl, h⟩ := hw
    try dsimp only at h
    refine lv_if_eq (tgt := 26) hx hb dX12_fill_4 (by decide) (fun c4 => ?_) (fun c4 => ?_)
    · have h := h.1 c4
      refine lv_iconst (v := (-1)) hx hb dX12_fill_26 (by decide) ?_
      exact W.iret (v := (-1 : Int32)) hx hb hr (fun t ht hW => ⟨⟨_, M2, rfl, h, by rw [ht]; exact hP, va_K.moved hW.alike hK, hD⟩, hS.F ht⟩) hS.2.2 dX12_fill_27
    · have h := h.2 c4
      refine lv_iload_n hx hb dX12_fill_7 rfl (lv_at hl 1 rfl) ?_
      have hFc := gs_free hD hS hA
      refine va_calli (va_runS (As := [.int p1]) (rest := []) ⟨hx, hb, hml, hown, hts⟩ (kX12_isSide l dC dI cB cI cJ cZ h0 ad H.size p1 M2 _ h) (cwS 1 hts gX12_fill_X12_isSide rfl rfl rfl (by decide +kernel) ⟨Nat.le_of_ble_eq_true rfl, Nat.le_of_ble_eq_true rfl⟩) (mpS hK hP hD) rfl rfl hl.1 rfl (lv_room (Nat.le_of_ble_eq_true rfl)) dX12_fill_8 ⟨Nat.le_of_ble_eq_true rfl, Nat.le_of_ble_eq_true rfl⟩) hS (fun q _ z => hFc q z) hFc (fun r5 M6 t H1 locs ht hvm hw hB hz1 hk1 hS => ?_)
      obtain ⟨hP, hD⟩ := gs_back ht hFc hB
      generalize H1 = H at hP hS ⊢
      obtain ⟨b7, rfl, h⟩ := hw
      try dsimp only at h
      refine lv_if_eq (tgt := 26) hx hb dX12_fill_11 (by decide) (fun c8 => ?_) (fun c8 => ?_)
      · have h := h.1 c8
        refine lv_iconst (v := (-1)) hx hb dX12_fill_26 (by decide) ?_
        exact W.iret (v := (-1 : Int32)) hx hb hr (fun t ht hW => ⟨⟨_, M6, rfl, h, by rw [ht]; exact hP, va_K.moved hW.alike hK, hD⟩, hS.F ht⟩) hS.2.2 dX12_fill_27
      · have h := h.2 c8
        refine lv_iload_n hx hb dX12_fill_14 rfl (lv_at hl 2 rfl) ?_
        refine lv_i2l hx hb dX12_fill_15 rfl ?_
        refine lv_lconst (v := 0) hx hb dX12_fill_16 (by decide) ?_
        refine lv_ldc2 (v := (7)) hx hb hown f1 dX12_fill_17 ?_
        have hFc := gs_free hD hS hA
        refine va_calli (va_runS (As := [.long (Int32.toInt64 p2), .long (0 : Int64), .long (7 : Int64)]) (rest := []) ⟨hx, hb, hml, hown, hts⟩ (kX12_in l dC dI cB cI cJ cZ h0 ad H.size (Int32.toInt64 p2) (0 : Int64) (7 : Int64) M6 _ h) (cwS 3 hts gX12_fill_X12_in rfl rfl rfl (by decide +kernel) ⟨Nat.le_of_ble_eq_true rfl, Nat.le_of_ble_eq_true rfl⟩) (mpS hK hP hD) rfl rfl hl.1 rfl (lv_room (Nat.le_of_ble_eq_true rfl)) dX12_fill_20 ⟨Nat.le_of_ble_eq_true rfl, Nat.le_of_ble_eq_true rfl⟩) hS (fun q _ z => hFc q z) hFc (fun r9 M10 t H1 locs ht hvm hw hB hz1 hk1 hS => ?_)
        obtain ⟨hP, hD⟩ := gs_back ht hFc hB
        generalize H1 = H at hP hS ⊢
        obtain ⟨b11, rfl, h⟩ := hw
        try dsimp only at h
        refine lv_if_ne (tgt := 28) hx hb dX12_fill_23 (by decide) (fun c12 => ?_) (fun c12 => ?_)
        · have h := h.2 c12
          refine lv_aload_n hx hb dX12_fill_28 rfl (lv_at hl 0 rfl) ?_
          refine va_get (D := (dC, dI)) (ci := 12) (v := .ref (ad 25)) (C := RX12) (T := TX12) (N := 37) hx hb hts hin hown hK hP 0 rfl rfl 25 (by decide) f2 (fun _ h9 => h9) rfl dX12_fill_29 ?_
          refine lv_bipush (v := (12)) hx hb dX12_fill_32 (by decide) ?_
          refine lv_iload_n hx hb dX12_fill_34 rfl (lv_at hl 1 rfl) ?_
          refine lv_iadd hx hb dX12_fill_35 ?_
          refine va_iald hx hb hK hP 12 1 (f := ma M10 25) rfl rfl h.1 dX12_fill_36 ?_
          have h := h.2
          refine lv_topi (fun x13 ex13 => ?_)
          have h := h x13 ex13
          refine lv_istore_n (lv' := [(3, .int x13), (0, .ref h0), (1, .int p1), (2, .int p2)]) hx hb dX12_fill_37 rfl hl (by decide) rfl (fun ls hl => ?_)
          refine lv_aload_n hx hb dX12_fill_38 rfl (lv_at hl 1 rfl) ?_
          refine va_get (D := (dC, dI)) (ci := 12) (v := .ref (ad 25)) (C := RX12) (T := TX12) (N := 37) hx hb hts hin hown hK hP 0 rfl rfl 25 (by decide) f2 (fun _ h9 => h9) rfl dX12_fill_39 ?_
          refine lv_bipush (v := (12)) hx hb dX12_fill_42 (by decide) ?_
          refine lv_iload_n hx hb dX12_fill_44 rfl (lv_at hl 2 rfl) ?_
          refine lv_iadd hx hb dX12_fill_45 ?_
          refine lv_iload_n hx hb dX12_fill_46 rfl (lv_at hl 3 rfl) ?_
          refine va_iast hx hb hK hP hD hS 12 1 (f := ma M10 25) rfl rfl h.1 dX12_fill_47 (fun H locs hP hD hS => ?_)
          have h := h.2
          have hP := mP_a25 hP
          have hD := mD_a25 hD
          have h := h _ rfl
          generalize sa M10 25 (Int32.toNatClampNeg ((12 : Int32) + p1)) p2 = M14 at hP hD h
          refine lv_aload_n hx hb dX12_fill_48 rfl (lv_at hl 1 rfl) ?_
          have hFc := gs_free hD hS hA
          refine va_calli (va_runV (As := []) (rest := []) ⟨hx, hb, hml, hown, hts⟩ (kX12_goesOn l dC dI cB cI cJ cZ h0 ad H.size  M14 _ h) (cwV 0 hts gX12_fill_X12_goesOn rfl rfl rfl (by decide +kernel) ⟨Nat.le_of_ble_eq_true rfl, Nat.le_of_ble_eq_true rfl⟩) (mpV hK hP hD) rfl rfl hl.1 rfl (lv_room (Nat.le_of_ble_eq_true rfl)) dX12_fill_49 ⟨Nat.le_of_ble_eq_true rfl, Nat.le_of_ble_eq_true rfl⟩) hS (fun q _ z => hFc q z) hFc (fun r15 M16 t H1 locs ht hvm hw hB hz1 hk1 hS => ?_)
          obtain ⟨hP, hD⟩ := gs_back ht hFc hB
          generalize H1 = H at hP hS ⊢
          obtain ⟨b17, rfl, h⟩ := hw
          try dsimp only at h
          refine lv_if_eq (tgt := 59) hx hb dX12_fill_52 (by decide) (fun c18 => ?_) (fun c18 => ?_)
          · have h := h.1 c18
            refine lv_iload_n hx hb dX12_fill_59 rfl (lv_at hl 0 rfl) ?_
            exact W.iret (v := x13) hx hb hr (fun t ht hW => ⟨⟨_, M16, rfl, h, by rw [ht]; exact hP, va_K.moved hW.alike hK, hD⟩, hS.F ht⟩) hS.2.2 dX12_fill_60
          · have h := h.2 c18
            refine lv_aload_n hx hb dX12_fill_55 rfl (lv_at hl 1 rfl) ?_
            have hFc := gs_free hD hS hA
            refine va_callv (va_runV (As := []) (rest := []) ⟨hx, hb, hml, hown, hts⟩ (kX12_looks l dC dI cB cI cJ cZ h0 ad H.size  M16 _ h) (cwV 0 hts gX12_fill_X12_looks rfl rfl rfl (by decide +kernel) ⟨Nat.le_of_ble_eq_true rfl, Nat.le_of_ble_eq_true rfl⟩) (mpV hK hP hD) rfl rfl hl.1 rfl (lv_room (Nat.le_of_ble_eq_true rfl)) dX12_fill_56 ⟨Nat.le_of_ble_eq_true rfl, Nat.le_of_ble_eq_true rfl⟩) hS (fun q _ z => hFc q z) hFc (fun M20 t H1 locs ht hvm hw hB hz1 hk1 hS => ?_)
            obtain ⟨hP, hD⟩ := gs_back ht hFc hB
            generalize H1 = H at hP hS ⊢
            have h := hw
            try dsimp only at h
            refine lv_iload_n hx hb dX12_fill_59 rfl (lv_at hl 0 rfl) ?_
            exact W.iret (v := x13) hx hb hr (fun t ht hW => ⟨⟨_, M20, rfl, h, by rw [ht]; exact hP, va_K.moved hW.alike hK, hD⟩, hS.F ht⟩) hS.2.2 dX12_fill_60
        · have h := h.1 c12
          refine lv_iconst (v := (-1)) hx hb dX12_fill_26 (by decide) ?_
          exact W.iret (v := (-1 : Int32)) hx hb hr (fun t ht hW => ⟨⟨_, M10, rfl, h, by rw [ht]; exact hP, va_K.moved hW.alike hK, hD⟩, hS.F ht⟩) hS.2.2 dX12_fill_27
  have hl := lv_entry ([.ref h0, .int p1, .int p2]) (n := 4) (Nat.le_of_ble_eq_true rfl)
  rw [lg_entry_eq]
  generalize (lg_sl ([.ref h0, .int p1, .int p2]) ++ List.replicate (4 - (lg_sl ([.ref h0, .int p1, .int p2])).length) Slot.unset).toArray = ls at hl ⊢
  have hl : lv_has ls 4 [(0, .ref h0), (1, .int p1), (2, .int p2)] := hl
  exact bE M s.heap [] ls hP hD hS hl h
