def wX12_words  (M : gS) (Q : gS → Prop) : Prop :=
 (∀ x1 : Int32, x1 = (ma M 25 6) → (∀ x2 : Int64, x2 = (Int32.toInt64 x1) → (∀ M3 : gS, M3 = sl M 24 0 x2 → (∀ x4 : Int64, x4 = (Int32.toInt64 (ma M3 25 5)) → (∀ M5 : gS, M5 = sl M3 24 1 x4 → (∀ x6 : Int64, x6 = (Int32.toInt64 (ma M5 25 4)) → (∀ M7 : gS, M7 = sl M5 24 2 x6 → (vp_in ((12 : Int32) + x1) 44 ∧ (∀ x8 : Int64, x8 = (Int32.toInt64 (ma M7 25 (Int32.toNatClampNeg ((12 : Int32) + x1)))) → (∀ M9 : gS, M9 = sl M7 24 3 x8 → (vp_in ((13 : Int32) - x1) 44 ∧ (∀ x10 : Int64, x10 = (Int32.toInt64 (ma M9 25 (Int32.toNatClampNeg ((13 : Int32) - x1)))) → (∀ M11 : gS, M11 = sl M9 24 4 x10 → (vp_in ((14 : Int32) + x1) 44 ∧ (∀ x12 : Int64, x12 = (Int32.toInt64 (ma M11 25 (Int32.toNatClampNeg ((14 : Int32) + x1)))) → (∀ M13 : gS, M13 = sl M11 24 5 x12 → (vp_in ((15 : Int32) - x1) 44 ∧ (∀ x14 : Int64, x14 = (Int32.toInt64 (ma M13 25 (Int32.toNatClampNeg ((15 : Int32) - x1)))) → (∀ M15 : gS, M15 = sl M13 24 6 x14 → (vp_in ((16 : Int32) + x1) 44 ∧ (∀ x16 : Int64, x16 = (Int32.toInt64 (ma M15 25 (Int32.toNatClampNeg ((16 : Int32) + x1)))) → (∀ M17 : gS, M17 = sl M15 24 7 x16 → (∀ x18 : Int64, x18 = (Int32.toInt64 (ma M17 25 7)) → (∀ M19 : gS, M19 = sl M17 24 8 x18 → (Q M19)))))))))))))))))))))))))
def rmX12_words : Room := { frames := 0, cells := 0, slots := 0, locals := 0 }
set_option maxHeartbeats 4000000 in
set_option maxRecDepth 100000 in
theorem kX12_words (l : Launch) (dC : Nat → ClassId) (dI : Nat → Nat → Nat) (cB cI cJ cZ : ClassId) (h0 : Nat) (ad : Nat → Nat) (sz : Nat)  (M : gS) (Q : gS → Prop) (h : wX12_words  M Q) : Met l yX12_words wsX12_words rmX12_words (va_Pc [.ref h0] (mI dC dI cB cI cJ cZ h0 ad M sz)) (va_Qv (fun (u : gS) => Q u) (mB dC dI cB cI cJ cZ h0 ad (va_A (mW cB cI cJ cZ h0 ad M) sz)) (va_A (mW cB cI cJ cZ h0 ad M) sz)) 0 0 (va_A (mW cB cI cJ cZ h0 ad M) sz) := by
  refine Met.ofW (cc := cX12_words) (maxL := 2) (ret := none) (by decide) rfl ?_
  intro p e s m args below meth c s₁ B hml hv
  obtain ⟨rfl, hsz, hP, hK, hD0⟩ := hv
  have hx := B.exec
  have hb := B.bytes
  have hr := B.returns
  have hts := atoms_spec (ws := wsX12_words) B.pre
  have hown : s.vm.findClass RX12 = some m.cls := findClass_of_methodNamed B.named
  have hlocks := B.notSynchronized
  subst hsz
  have hD := hD0.self (sz := s.heap.size)
  generalize hAe : va_A (mW cB cI cJ cZ h0 ad M) s.heap.size = A at hD ⊢
  have hA : ∀ q : Nat, s.heap.size ≤ q → A q := fun q h => by rw [← hAe]; exact Or.inr h
  have hS : va_S A s.heap s.heap [] := va_S.rf
  have hin : ∀ w ∈ wsX120, w ∈ wsX12_words := fun w h => List.mem_cons_of_mem _ (List.mem_append_right _ h)
  have f1 := hts (.fieldLink RX12 45 "LastWordsModel" "said" "[I") (by decide +kernel)
  have f2 := hts (.fieldLink RX12 42 "LastWordsModel" "word" "[J") (by decide +kernel)
  have bE : ∀ (M : gS) (H : Heap) (locs : List Loc) (ls : Array Slot), va_P (dC, dI) vwCl (mW cB cI cJ cZ h0 ad M) H → va_D A (mW cB cI cJ cZ h0 ad M) → va_S A s.heap H locs → lv_has ls 2 [(0, .ref h0)] → wX12_words  M Q → W p l e (headSpec wsX12_words rmX12_words).room s m ([.ref h0] : List Value).toArray below meth c H locs 0 0 (MQ below (va_Qv (fun (u : gS) => Q u) (mB dC dI cB cI cJ cZ h0 ad A) A) ([.ref h0] : List Value).toArray s 0 0 A) (F0 m 0 ls []) := by
    intro M H locs ls hP hD hS hl h
    unfold wX12_words at h
    refine lv_aload_n hx hb dX12_words_0 rfl (lv_at hl 0 rfl) ?_
    refine va_get (D := (dC, dI)) (ci := 12) (v := .ref (ad 25)) (C := RX12) (T := TX12) (N := 37) hx hb hts hin hown hK hP 0 rfl rfl 25 (by decide) f1 (fun _ h9 => h9) rfl dX12_words_1 ?_
    refine lv_bipush (v := (6)) hx hb dX12_words_4 (by decide) ?_
    refine wc_iald (j := 6) hx hb hK hP 12 1 (f := ma M 25) rfl rfl (by decide) (by decide) (by decide) dX12_words_6 ?_
    refine lv_topi (fun x1 ex1 => ?_)
    have h := h x1 ex1
    refine lv_istore_n (lv' := [(1, .int x1), (0, .ref h0)]) hx hb dX12_words_7 rfl hl (by decide) rfl (fun ls hl => ?_)
    refine lv_aload_n hx hb dX12_words_8 rfl (lv_at hl 1 rfl) ?_
    refine va_get (D := (dC, dI)) (ci := 12) (v := .ref (ad 24)) (C := RX12) (T := TX12) (N := 37) hx hb hts hin hown hK hP 0 rfl rfl 24 (by decide) f2 (fun _ h9 => h9) rfl dX12_words_9 ?_
    refine lv_iconst (v := 0) hx hb dX12_words_12 (by decide) ?_
    refine lv_iload_n hx hb dX12_words_13 rfl (lv_at hl 0 rfl) ?_
    refine lv_i2l hx hb dX12_words_14 rfl ?_
    refine lv_topl (fun x2 ex2 => ?_)
    have h := h x2 ex2
    refine wc_last (j := 0) hx hb hK hP hD hS 11 2 (f := ml M 24) rfl rfl (by decide) (by decide) (by decide) dX12_words_15 (fun H locs hP hD hS => ?_)
    have hP := mP_a24 hP
    have hD := mD_a24 hD
    have h := h _ rfl
    generalize sl M 24 0 x2 = M3 at hP hD h
    refine lv_aload_n hx hb dX12_words_16 rfl (lv_at hl 1 rfl) ?_
    refine va_get (D := (dC, dI)) (ci := 12) (v := .ref (ad 24)) (C := RX12) (T := TX12) (N := 37) hx hb hts hin hown hK hP 0 rfl rfl 24 (by decide) f2 (fun _ h9 => h9) rfl dX12_words_17 ?_
    refine lv_iconst (v := 1) hx hb dX12_words_20 (by decide) ?_
    refine lv_aload_n hx hb dX12_words_21 rfl (lv_at hl 1 rfl) ?_
    refine va_get (D := (dC, dI)) (ci := 12) (v := .ref (ad 25)) (C := RX12) (T := TX12) (N := 37) hx hb hts hin hown hK hP 0 rfl rfl 25 (by decide) f1 (fun _ h9 => h9) rfl dX12_words_22 ?_
    refine lv_iconst (v := 5) hx hb dX12_words_25 (by decide) ?_
    refine wc_iald (j := 5) hx hb hK hP 12 1 (f := ma M3 25) rfl rfl (by decide) (by decide) (by decide) dX12_words_26 ?_
    refine lv_i2l hx hb dX12_words_27 rfl ?_
    refine lv_topl (fun x4 ex4 => ?_)
    have h := h x4 ex4
    refine wc_last (j := 1) hx hb hK hP hD hS 11 2 (f := ml M3 24) rfl rfl (by decide) (by decide) (by decide) dX12_words_28 (fun H locs hP hD hS => ?_)
    have hP := mP_a24 hP
    have hD := mD_a24 hD
    have h := h _ rfl
    generalize sl M3 24 1 x4 = M5 at hP hD h
    refine lv_aload_n hx hb dX12_words_29 rfl (lv_at hl 1 rfl) ?_
    refine va_get (D := (dC, dI)) (ci := 12) (v := .ref (ad 24)) (C := RX12) (T := TX12) (N := 37) hx hb hts hin hown hK hP 0 rfl rfl 24 (by decide) f2 (fun _ h9 => h9) rfl dX12_words_30 ?_
    refine lv_iconst (v := 2) hx hb dX12_words_33 (by decide) ?_
    refine lv_aload_n hx hb dX12_words_34 rfl (lv_at hl 1 rfl) ?_
    refine va_get (D := (dC, dI)) (ci := 12) (v := .ref (ad 25)) (C := RX12) (T := TX12) (N := 37) hx hb hts hin hown hK hP 0 rfl rfl 25 (by decide) f1 (fun _ h9 => h9) rfl dX12_words_35 ?_
    refine lv_iconst (v := 4) hx hb dX12_words_38 (by decide) ?_
    refine wc_iald (j := 4) hx hb hK hP 12 1 (f := ma M5 25) rfl rfl (by decide) (by decide) (by decide) dX12_words_39 ?_
    refine lv_i2l hx hb dX12_words_40 rfl ?_
    refine lv_topl (fun x6 ex6 => ?_)
    have h := h x6 ex6
    refine wc_last (j := 2) hx hb hK hP hD hS 11 2 (f := ml M5 24) rfl rfl (by decide) (by decide) (by decide) dX12_words_41 (fun H locs hP hD hS => ?_)
    have hP := mP_a24 hP
    have hD := mD_a24 hD
    have h := h _ rfl
    generalize sl M5 24 2 x6 = M7 at hP hD h
    refine lv_aload_n hx hb dX12_words_42 rfl (lv_at hl 1 rfl) ?_
    refine va_get (D := (dC, dI)) (ci := 12) (v := .ref (ad 24)) (C := RX12) (T := TX12) (N := 37) hx hb hts hin hown hK hP 0 rfl rfl 24 (by decide) f2 (fun _ h9 => h9) rfl dX12_words_43 ?_
    refine lv_iconst (v := 3) hx hb dX12_words_46 (by decide) ?_
    refine lv_aload_n hx hb dX12_words_47 rfl (lv_at hl 1 rfl) ?_
    refine va_get (D := (dC, dI)) (ci := 12) (v := .ref (ad 25)) (C := RX12) (T := TX12) (N := 37) hx hb hts hin hown hK hP 0 rfl rfl 25 (by decide) f1 (fun _ h9 => h9) rfl dX12_words_48 ?_
    refine lv_bipush (v := (12)) hx hb dX12_words_51 (by decide) ?_
    refine lv_iload_n hx hb dX12_words_53 rfl (lv_at hl 0 rfl) ?_
    refine lv_iadd hx hb dX12_words_54 ?_
    refine va_iald hx hb hK hP 12 1 (f := ma M7 25) rfl rfl h.1 dX12_words_55 ?_
    have h := h.2
    refine lv_i2l hx hb dX12_words_56 rfl ?_
    refine lv_topl (fun x8 ex8 => ?_)
    have h := h x8 ex8
    refine wc_last (j := 3) hx hb hK hP hD hS 11 2 (f := ml M7 24) rfl rfl (by decide) (by decide) (by decide) dX12_words_57 (fun H locs hP hD hS => ?_)
    have hP := mP_a24 hP
    have hD := mD_a24 hD
    have h := h _ rfl
    generalize sl M7 24 3 x8 = M9 at hP hD h
    refine lv_aload_n hx hb dX12_words_58 rfl (lv_at hl 1 rfl) ?_
    refine va_get (D := (dC, dI)) (ci := 12) (v := .ref (ad 24)) (C := RX12) (T := TX12) (N := 37) hx hb hts hin hown hK hP 0 rfl rfl 24 (by decide) f2 (fun _ h9 => h9) rfl dX12_words_59 ?_
    refine lv_iconst (v := 4) hx hb dX12_words_62 (by decide) ?_
    refine lv_aload_n hx hb dX12_words_63 rfl (lv_at hl 1 rfl) ?_
    refine va_get (D := (dC, dI)) (ci := 12) (v := .ref (ad 25)) (C := RX12) (T := TX12) (N := 37) hx hb hts hin hown hK hP 0 rfl rfl 25 (by decide) f1 (fun _ h9 => h9) rfl dX12_words_64 ?_
    refine lv_bipush (v := (13)) hx hb dX12_words_67 (by decide) ?_
    refine lv_iload_n hx hb dX12_words_69 rfl (lv_at hl 0 rfl) ?_
    refine lv_isub hx hb dX12_words_70 ?_
    refine va_iald hx hb hK hP 12 1 (f := ma M9 25) rfl rfl h.1 dX12_words_71 ?_
    have h := h.2
    refine lv_i2l hx hb dX12_words_72 rfl ?_
    refine lv_topl (fun x10 ex10 => ?_)
    have h := h x10 ex10
    refine wc_last (j := 4) hx hb hK hP hD hS 11 2 (f := ml M9 24) rfl rfl (by decide) (by decide) (by decide) dX12_words_73 (fun H locs hP hD hS => ?_)
    have hP := mP_a24 hP
    have hD := mD_a24 hD
    have h := h _ rfl
    generalize sl M9 24 4 x10 = M11 at hP hD h
    refine lv_aload_n hx hb dX12_words_74 rfl (lv_at hl 1 rfl) ?_
    refine va_get (D := (dC, dI)) (ci := 12) (v := .ref (ad 24)) (C := RX12) (T := TX12) (N := 37) hx hb hts hin hown hK hP 0 rfl rfl 24 (by decide) f2 (fun _ h9 => h9) rfl dX12_words_75 ?_
    refine lv_iconst (v := 5) hx hb dX12_words_78 (by decide) ?_
    refine lv_aload_n hx hb dX12_words_79 rfl (lv_at hl 1 rfl) ?_
    refine va_get (D := (dC, dI)) (ci := 12) (v := .ref (ad 25)) (C := RX12) (T := TX12) (N := 37) hx hb hts hin hown hK hP 0 rfl rfl 25 (by decide) f1 (fun _ h9 => h9) rfl dX12_words_80 ?_
    refine lv_bipush (v := (14)) hx hb dX12_words_83 (by decide) ?_
    refine lv_iload_n hx hb dX12_words_85 rfl (lv_at hl 0 rfl) ?_
    refine lv_iadd hx hb dX12_words_86 ?_
    refine va_iald hx hb hK hP 12 1 (f := ma M11 25) rfl rfl h.1 dX12_words_87 ?_
    have h := h.2
    refine lv_i2l hx hb dX12_words_88 rfl ?_
    refine lv_topl (fun x12 ex12 => ?_)
    have h := h x12 ex12
    refine wc_last (j := 5) hx hb hK hP hD hS 11 2 (f := ml M11 24) rfl rfl (by decide) (by decide) (by decide) dX12_words_89 (fun H locs hP hD hS => ?_)
    have hP := mP_a24 hP
    have hD := mD_a24 hD
    have h := h _ rfl
    generalize sl M11 24 5 x12 = M13 at hP hD h
    refine lv_aload_n hx hb dX12_words_90 rfl (lv_at hl 1 rfl) ?_
    refine va_get (D := (dC, dI)) (ci := 12) (v := .ref (ad 24)) (C := RX12) (T := TX12) (N := 37) hx hb hts hin hown hK hP 0 rfl rfl 24 (by decide) f2 (fun _ h9 => h9) rfl dX12_words_91 ?_
    refine lv_bipush (v := (6)) hx hb dX12_words_94 (by decide) ?_
    refine lv_aload_n hx hb dX12_words_96 rfl (lv_at hl 1 rfl) ?_
    refine va_get (D := (dC, dI)) (ci := 12) (v := .ref (ad 25)) (C := RX12) (T := TX12) (N := 37) hx hb hts hin hown hK hP 0 rfl rfl 25 (by decide) f1 (fun _ h9 => h9) rfl dX12_words_97 ?_
    refine lv_bipush (v := (15)) hx hb dX12_words_100 (by decide) ?_
    refine lv_iload_n hx hb dX12_words_102 rfl (lv_at hl 0 rfl) ?_
    refine lv_isub hx hb dX12_words_103 ?_
    refine va_iald hx hb hK hP 12 1 (f := ma M13 25) rfl rfl h.1 dX12_words_104 ?_
    have h := h.2
    refine lv_i2l hx hb dX12_words_105 rfl ?_
    refine lv_topl (fun x14 ex14 => ?_)
    have h := h x14 ex14
    refine wc_last (j := 6) hx hb hK hP hD hS 11 2 (f := ml M13 24) rfl rfl (by decide) (by decide) (by decide) dX12_words_106 (fun H locs hP hD hS => ?_)
    have hP := mP_a24 hP
    have hD := mD_a24 hD
    have h := h _ rfl
    generalize sl M13 24 6 x14 = M15 at hP hD h
    refine lv_aload_n hx hb dX12_words_107 rfl (lv_at hl 1 rfl) ?_
    refine va_get (D := (dC, dI)) (ci := 12) (v := .ref (ad 24)) (C := RX12) (T := TX12) (N := 37) hx hb hts hin hown hK hP 0 rfl rfl 24 (by decide) f2 (fun _ h9 => h9) rfl dX12_words_108 ?_
    refine lv_bipush (v := (7)) hx hb dX12_words_111 (by decide) ?_
    refine lv_aload_n hx hb dX12_words_113 rfl (lv_at hl 1 rfl) ?_
    refine va_get (D := (dC, dI)) (ci := 12) (v := .ref (ad 25)) (C := RX12) (T := TX12) (N := 37) hx hb hts hin hown hK hP 0 rfl rfl 25 (by decide) f1 (fun _ h9 => h9) rfl dX12_words_114 ?_
    refine lv_bipush (v := (16)) hx hb dX12_words_117 (by decide) ?_
    refine lv_iload_n hx hb dX12_words_119 rfl (lv_at hl 0 rfl) ?_
    refine lv_iadd hx hb dX12_words_120 ?_
    refine va_iald hx hb hK hP 12 1 (f := ma M15 25) rfl rfl h.1 dX12_words_121 ?_
    have h := h.2
    refine lv_i2l hx hb dX12_words_122 rfl ?_
    refine lv_topl (fun x16 ex16 => ?_)
    have h := h x16 ex16
    refine wc_last (j := 7) hx hb hK hP hD hS 11 2 (f := ml M15 24) rfl rfl (by decide) (by decide) (by decide) dX12_words_123 (fun H locs hP hD hS => ?_)
    have hP := mP_a24 hP
    have hD := mD_a24 hD
    have h := h _ rfl
    generalize sl M15 24 7 x16 = M17 at hP hD h
    refine lv_aload_n hx hb dX12_words_124 rfl (lv_at hl 1 rfl) ?_
    refine va_get (D := (dC, dI)) (ci := 12) (v := .ref (ad 24)) (C := RX12) (T := TX12) (N := 37) hx hb hts hin hown hK hP 0 rfl rfl 24 (by decide) f2 (fun _ h9 => h9) rfl dX12_words_125 ?_
    refine lv_bipush (v := (8)) hx hb dX12_words_128 (by decide) ?_
    refine lv_aload_n hx hb dX12_words_130 rfl (lv_at hl 1 rfl) ?_
    refine va_get (D := (dC, dI)) (ci := 12) (v := .ref (ad 25)) (C := RX12) (T := TX12) (N := 37) hx hb hts hin hown hK hP 0 rfl rfl 25 (by decide) f1 (fun _ h9 => h9) rfl dX12_words_131 ?_
    refine lv_bipush (v := (7)) hx hb dX12_words_134 (by decide) ?_
    refine wc_iald (j := 7) hx hb hK hP 12 1 (f := ma M17 25) rfl rfl (by decide) (by decide) (by decide) dX12_words_136 ?_
    refine lv_i2l hx hb dX12_words_137 rfl ?_
    refine lv_topl (fun x18 ex18 => ?_)
    have h := h x18 ex18
    refine wc_last (j := 8) hx hb hK hP hD hS 11 2 (f := ml M17 24) rfl rfl (by decide) (by decide) (by decide) dX12_words_138 (fun H locs hP hD hS => ?_)
    have hP := mP_a24 hP
    have hD := mD_a24 hD
    have h := h _ rfl
    generalize sl M17 24 8 x18 = M19 at hP hD h
    exact W.vret hx hb hr (fun t ht hW => ⟨⟨M19, rfl, h, by rw [ht]; exact hP, va_K.moved hW.alike hK, hD⟩, hS.F ht⟩) hS.2.2 dX12_words_139
  have hl := lv_entry ([.ref h0]) (n := 2) (Nat.le_of_ble_eq_true rfl)
  rw [lg_entry_eq]
  generalize (lg_sl ([.ref h0]) ++ List.replicate (2 - (lg_sl ([.ref h0])).length) Slot.unset).toArray = ls at hl ⊢
  have hl : lv_has ls 2 [(0, .ref h0)] := hl
  exact bE M s.heap [] ls hP hD hS hl h
def wX12_clauseFor_123 (B12 : Int32 → Int32 → gS → Prop) (Q : Int32 → gS → Prop) (y1 : Int32) (y2 : Int32) (M : gS) : Prop :=
 (∀ x1 : Int32, x1 = y2 + (1 : Int32) → (B12 y1 x1 M))
def wX12_clauseFor_77 (B12 : Int32 → Int32 → gS → Prop) (Q : Int32 → gS → Prop) (y1 : Int32) (y2 : Int32) (y3 : Int32) (z0 : Int32) (M : gS) : Prop :=
 ((z0 = 0 → (wX12_clauseFor_123 B12 Q y1 y2 M))
 ∧ (¬ z0 = 0 → (vp_in (y3 + (2 : Int32)) 288 ∧ (((ma M 5 (Int32.toNatClampNeg (y3 + (2 : Int32)))) < 0 → (Q y3 M))
 ∧ (¬ (ma M 5 (Int32.toNatClampNeg (y3 + (2 : Int32)))) < 0 → (vp_in (y3 + (2 : Int32)) 288 ∧ (vp_in (y3 + (3 : Int32)) 288 ∧ (wX12_reckons y1 (ma M 5 (Int32.toNatClampNeg (y3 + (2 : Int32)))) (ma M 5 (Int32.toNatClampNeg (y3 + (3 : Int32)))) M (fun (r3 : Int64) (M4 : gS) => (((lg_cmp r3 (1 : Int64)) = 0 → (Q y3 M4))
 ∧ (¬ (lg_cmp r3 (1 : Int64)) = 0 → (wX12_clauseFor_123 B12 Q y1 y2 M4))))))))))))
def wX12_clauseFor_72 (B12 : Int32 → Int32 → gS → Prop) (Q : Int32 → gS → Prop) (y1 : Int32) (y2 : Int32) (y3 : Int32) (M : gS) : Prop :=
 (wX12_clauseFor_77 B12 Q y1 y2 y3 (1 : Int32) M)
def wX12_clauseFor_12  (Q : Int32 → gS → Prop) : Nat → Int32 → Int32 → gS → Prop
 | 0, _, _, _ => False
 | n + 1, y1, y2, M => (vp_in y1 6 ∧ (((ma M 6 (Int32.toNatClampNeg y1)) ≤ y2 → (Q (-1 : Int32) M))
 ∧ (¬ (ma M 6 (Int32.toNatClampNeg y1)) ≤ y2 → (∀ x2 : Int32, x2 = (((48 : Int32) * y1) + ((4 : Int32) * y2)) → (vp_in x2 288 ∧ (((ma M 5 (Int32.toNatClampNeg x2)) = 0 → (vp_in (x2 + (1 : Int32)) 288 ∧ (wX12_canSay (ma M 5 (Int32.toNatClampNeg (x2 + (1 : Int32)))) M (fun (b11 : Bool) (M10 : gS) => (wX12_clauseFor_77 (fun (y1 : Int32) (y2 : Int32) (M : gS) => wX12_clauseFor_12  Q n y1 y2 M) Q y1 y2 x2 (bI b11) M10)))))
 ∧ (¬ (ma M 5 (Int32.toNatClampNeg x2)) = 0 → (vp_in x2 288 ∧ (((ma M 5 (Int32.toNatClampNeg x2)) = (2 : Int32) → (wX12_clauseFor_72 (fun (y1 : Int32) (y2 : Int32) (M : gS) => wX12_clauseFor_12  Q n y1 y2 M) Q y1 y2 x2 M))
 ∧ (¬ (ma M 5 (Int32.toNatClampNeg x2)) = (2 : Int32) → (wX12_canThrow  M (fun (b7 : Bool) (M6 : gS) => (((bI b7) = 0 → (wX12_clauseFor_77 (fun (y1 : Int32) (y2 : Int32) (M : gS) => wX12_clauseFor_12  Q n y1 y2 M) Q y1 y2 x2 (0 : Int32) M6))
 ∧ (¬ (bI b7) = 0 → (wX12_clauseFor_72 (fun (y1 : Int32) (y2 : Int32) (M : gS) => wX12_clauseFor_12  Q n y1 y2 M) Q y1 y2 x2 M6)))))))))))))))
def wX12_clauseFor (p1 : Int32) (M : gS) (Q : Int32 → gS → Prop) : Prop :=
 ((0 ≤ p1 → (wX12_words  M (fun (M3 : gS) => (∃ k12 : Nat, wX12_clauseFor_12  Q k12 p1 (0 : Int32) M3))))
 ∧ (¬ 0 ≤ p1 → (Q (-1 : Int32) M)))
def rmX12_clauseFor : Room := { frames := 2, cells := 0, slots := 0, locals := 54 }
set_option maxHeartbeats 4000000 in
set_option maxRecDepth 100000 in
theorem kX12_clauseFor (l : Launch) (dC : Nat → ClassId) (dI : Nat → Nat → Nat) (cB cI cJ cZ : ClassId) (h0 : Nat) (ad : Nat → Nat) (sz : Nat) (p1 : Int32) (M : gS) (Q : Int32 → gS → Prop) (h : wX12_clauseFor p1 M Q) : Met l yX12_clauseFor wsX12_clauseFor rmX12_clauseFor (va_Pc [.ref h0, .int p1] (mI dC dI cB cI cJ cZ h0 ad M sz)) (va_Qi (fun (r : Int32) (u : gS) => Q r u) (mB dC dI cB cI cJ cZ h0 ad (va_A (mW cB cI cJ cZ h0 ad M) sz)) (va_A (mW cB cI cJ cZ h0 ad M) sz)) 0 0 (va_A (mW cB cI cJ cZ h0 ad M) sz) := by
  refine Met.ofW (cc := cX12_clauseFor) (maxL := 5) (ret := (some .int)) (by decide) rfl ?_
  intro p e s m args below meth c s₁ B hml hv
  obtain ⟨rfl, hsz, hP, hK, hD0⟩ := hv
  have hx := B.exec
  have hb := B.bytes
  have hr := B.returns
  have hts := atoms_spec (ws := wsX12_clauseFor) B.pre
  have hown : s.vm.findClass RX12 = some m.cls := findClass_of_methodNamed B.named
  have hlocks := B.notSynchronized
  subst hsz
  have hD := hD0.self (sz := s.heap.size)
  generalize hAe : va_A (mW cB cI cJ cZ h0 ad M) s.heap.size = A at hD ⊢
  have hA : ∀ q : Nat, s.heap.size ≤ q → A q := fun q h => by rw [← hAe]; exact Or.inr h
  have hS : va_S A s.heap s.heap [] := va_S.rf
  have hin : ∀ w ∈ wsX120, w ∈ wsX12_clauseFor := fun w h => List.mem_cons_of_mem _ (List.mem_append_right _ h)
  have f1 := hts (.fieldLink RX12 20 "LastWordsModel" "clause" "[I") (by decide +kernel)
  have f2 := hts (.fieldLink RX12 23 "LastWordsModel" "clauses" "[I") (by decide +kernel)
  have b123 : ∀ (B12 : Int32 → Int32 → gS → Prop) (hB12 : ∀ (y1 : Int32) (y2 : Int32) (M : gS) (H : Heap) (locs : List Loc) (ls : Array Slot), va_P (dC, dI) vwCl (mW cB cI cJ cZ h0 ad M) H → va_D A (mW cB cI cJ cZ h0 ad M) → va_S A s.heap H locs → lv_has ls 5 [(0, .ref h0), (1, .int y1), (2, .int y2)] → B12 y1 y2 M → W p l e (headSpec wsX12_clauseFor rmX12_clauseFor).room s m ([.ref h0, .int p1] : List Value).toArray below meth c H locs 0 0 (MQ below (va_Qi (fun (r : Int32) (u : gS) => Q r u) (mB dC dI cB cI cJ cZ h0 ad A) A) ([.ref h0, .int p1] : List Value).toArray s 0 0 A) (F0 m 12 ls [])) (y1 : Int32) (y2 : Int32) (M : gS) (H : Heap) (locs : List Loc) (ls : Array Slot), va_P (dC, dI) vwCl (mW cB cI cJ cZ h0 ad M) H → va_D A (mW cB cI cJ cZ h0 ad M) → va_S A s.heap H locs → lv_has ls 5 [(0, .ref h0), (1, .int y1), (2, .int y2)] → wX12_clauseFor_123 B12 Q y1 y2 M → W p l e (headSpec wsX12_clauseFor rmX12_clauseFor).room s m ([.ref h0, .int p1] : List Value).toArray below meth c H locs 0 0 (MQ below (va_Qi (fun (r : Int32) (u : gS) => Q r u) (mB dC dI cB cI cJ cZ h0 ad A) A) ([.ref h0, .int p1] : List Value).toArray s 0 0 A) (F0 m 123 ls []) := by
    intro B12 hB12 y1 y2 M H locs ls hP hD hS hl h
    unfold wX12_clauseFor_123 at h
    obtain ⟨x1, ex1⟩ : ∃ y : Int32, y = y2 + (1 : Int32) := ⟨_, rfl⟩
    have h := h x1 ex1
    refine lv_iinc (v := x1) (lv' := [(2, .int x1), (0, .ref h0), (1, .int y1)]) hx hb dX12_clauseFor_123 hl (k := 2) rfl (by rw [ex1]; rfl) (by decide) rfl (fun ls hl => ?_)
    refine lv_goto (tgt := 12) hx hb dX12_clauseFor_126 (by decide) ?_
    exact hB12 y1 x1 M H locs ls hP hD hS (lv_sub hl [1, 2, 0] rfl) h
  have b77 : ∀ (B12 : Int32 → Int32 → gS → Prop) (hB12 : ∀ (y1 : Int32) (y2 : Int32) (M : gS) (H : Heap) (locs : List Loc) (ls : Array Slot), va_P (dC, dI) vwCl (mW cB cI cJ cZ h0 ad M) H → va_D A (mW cB cI cJ cZ h0 ad M) → va_S A s.heap H locs → lv_has ls 5 [(0, .ref h0), (1, .int y1), (2, .int y2)] → B12 y1 y2 M → W p l e (headSpec wsX12_clauseFor rmX12_clauseFor).room s m ([.ref h0, .int p1] : List Value).toArray below meth c H locs 0 0 (MQ below (va_Qi (fun (r : Int32) (u : gS) => Q r u) (mB dC dI cB cI cJ cZ h0 ad A) A) ([.ref h0, .int p1] : List Value).toArray s 0 0 A) (F0 m 12 ls [])) (y1 : Int32) (y2 : Int32) (y3 : Int32) (z0 : Int32) (M : gS) (H : Heap) (locs : List Loc) (ls : Array Slot), va_P (dC, dI) vwCl (mW cB cI cJ cZ h0 ad M) H → va_D A (mW cB cI cJ cZ h0 ad M) → va_S A s.heap H locs → lv_has ls 5 [(0, .ref h0), (1, .int y1), (2, .int y2), (3, .int y3)] → wX12_clauseFor_77 B12 Q y1 y2 y3 z0 M → W p l e (headSpec wsX12_clauseFor rmX12_clauseFor).room s m ([.ref h0, .int p1] : List Value).toArray below meth c H locs 0 0 (MQ below (va_Qi (fun (r : Int32) (u : gS) => Q r u) (mB dC dI cB cI cJ cZ h0 ad A) A) ([.ref h0, .int p1] : List Value).toArray s 0 0 A) (F0 m 77 ls [.int z0]) := by
    intro B12 hB12 y1 y2 y3 z0 M H locs ls hP hD hS hl h
    unfold wX12_clauseFor_77 at h
    refine lv_istore (lv' := [(4, .int z0), (0, .ref h0), (1, .int y1), (2, .int y2), (3, .int y3)]) hx hb dX12_clauseFor_77 hl (by decide) rfl (fun ls hl => ?_)
    refine lv_iload hx hb dX12_clauseFor_79 (lv_at hl 0 rfl) ?_
    refine lv_if_eq (tgt := 123) hx hb dX12_clauseFor_81 (by decide) (fun c1 => ?_) (fun c1 => ?_)
    · have h := h.1 c1
      exact b123 _ hB12 y1 y2 M H locs ls hP hD hS (lv_sub hl [1, 2, 3] rfl) h
    · have h := h.2 c1
      refine lv_aload_n hx hb dX12_clauseFor_84 rfl (lv_at hl 1 rfl) ?_
      refine va_get (D := (dC, dI)) (ci := 12) (v := .ref (ad 5)) (C := RX12) (T := TX12) (N := 37) hx hb hts hin hown hK hP 0 rfl rfl 5 (by decide) f1 (fun _ h9 => h9) rfl dX12_clauseFor_85 ?_
      refine lv_iload_n hx hb dX12_clauseFor_88 rfl (lv_at hl 4 rfl) ?_
      refine lv_iconst (v := 2) hx hb dX12_clauseFor_89 (by decide) ?_
      refine lv_iadd hx hb dX12_clauseFor_90 ?_
      refine va_iald hx hb hK hP 4 1 (f := ma M 5) rfl rfl h.1 dX12_clauseFor_91 ?_
      have h := h.2
      refine lv_if_lt (tgt := 121) hx hb dX12_clauseFor_92 (by decide) (fun c2 => ?_) (fun c2 => ?_)
      · have h := h.1 c2
        refine lv_iload_n hx hb dX12_clauseFor_121 rfl (lv_at hl 4 rfl) ?_
        exact W.iret (v := y3) hx hb hr (fun t ht hW => ⟨⟨_, M, rfl, h, by rw [ht]; exact hP, va_K.moved hW.alike hK, hD⟩, hS.F ht⟩) hS.2.2 dX12_clauseFor_122
      · have h := h.2 c2
        refine lv_aload_n hx hb dX12_clauseFor_95 rfl (lv_at hl 1 rfl) ?_
        refine lv_iload_n hx hb dX12_clauseFor_96 rfl (lv_at hl 2 rfl) ?_
        refine lv_aload_n hx hb dX12_clauseFor_97 rfl (lv_at hl 1 rfl) ?_
        refine va_get (D := (dC, dI)) (ci := 12) (v := .ref (ad 5)) (C := RX12) (T := TX12) (N := 37) hx hb hts hin hown hK hP 0 rfl rfl 5 (by decide) f1 (fun _ h9 => h9) rfl dX12_clauseFor_98 ?_
        refine lv_iload_n hx hb dX12_clauseFor_101 rfl (lv_at hl 4 rfl) ?_
        refine lv_iconst (v := 2) hx hb dX12_clauseFor_102 (by decide) ?_
        refine lv_iadd hx hb dX12_clauseFor_103 ?_
        refine va_iald hx hb hK hP 4 1 (f := ma M 5) rfl rfl h.1 dX12_clauseFor_104 ?_
        have h := h.2
        refine lv_aload_n hx hb dX12_clauseFor_105 rfl (lv_at hl 1 rfl) ?_
        refine va_get (D := (dC, dI)) (ci := 12) (v := .ref (ad 5)) (C := RX12) (T := TX12) (N := 37) hx hb hts hin hown hK hP 0 rfl rfl 5 (by decide) f1 (fun _ h9 => h9) rfl dX12_clauseFor_106 ?_
        refine lv_iload_n hx hb dX12_clauseFor_109 rfl (lv_at hl 4 rfl) ?_
        refine lv_iconst (v := 3) hx hb dX12_clauseFor_110 (by decide) ?_
        refine lv_iadd hx hb dX12_clauseFor_111 ?_
        refine va_iald hx hb hK hP 4 1 (f := ma M 5) rfl rfl h.1 dX12_clauseFor_112 ?_
        have h := h.2
        have hFc := gs_free hD hS hA
        refine va_calll (va_runV (As := [.int y1, .int (ma M 5 (Int32.toNatClampNeg (y3 + (2 : Int32)))), .int (ma M 5 (Int32.toNatClampNeg (y3 + (3 : Int32))))]) (rest := []) ⟨hx, hb, hml, hown, hts⟩ (kX12_reckons l dC dI cB cI cJ cZ h0 ad H.size y1 (ma M 5 (Int32.toNatClampNeg (y3 + (2 : Int32)))) (ma M 5 (Int32.toNatClampNeg (y3 + (3 : Int32)))) M _ h) (cwV 3 hts gX12_clauseFor_X12_reckons rfl rfl rfl (by decide +kernel) ⟨Nat.le_of_ble_eq_true rfl, Nat.le_of_ble_eq_true rfl⟩) (mpV hK hP hD) rfl rfl hl.1 rfl (lv_room (Nat.le_of_ble_eq_true rfl)) dX12_clauseFor_113 ⟨Nat.le_of_ble_eq_true rfl, Nat.le_of_ble_eq_true rfl⟩) hS (fun q _ z => hFc q z) hFc (fun r3 M4 t H1 locs ht hvm hw hB hz1 hk1 hS => ?_)
        obtain ⟨hP, hD⟩ := gs_back ht hFc hB
        generalize H1 = H at hP hS ⊢
        have h := hw
        try dsimp only at h
        refine lv_lconst (v := 1) hx hb dX12_clauseFor_116 (by decide) ?_
        refine W.lcmp hx hb dX12_clauseFor_117 ?_
        refine lv_if_ne (tgt := 123) hx hb dX12_clauseFor_118 (by decide) (fun c5 => ?_) (fun c5 => ?_)
        · have h := h.2 c5
          exact b123 _ hB12 y1 y2 M4 H locs ls hP hD hS (lv_sub hl [1, 2, 3] rfl) h
        · have h := h.1 c5
          refine lv_iload_n hx hb dX12_clauseFor_121 rfl (lv_at hl 4 rfl) ?_
          exact W.iret (v := y3) hx hb hr (fun t ht hW => ⟨⟨_, M4, rfl, h, by rw [ht]; exact hP, va_K.moved hW.alike hK, hD⟩, hS.F ht⟩) hS.2.2 dX12_clauseFor_122
  have b72 : ∀ (B12 : Int32 → Int32 → gS → Prop) (hB12 : ∀ (y1 : Int32) (y2 : Int32) (M : gS) (H : Heap) (locs : List Loc) (ls : Array Slot), va_P (dC, dI) vwCl (mW cB cI cJ cZ h0 ad M) H → va_D A (mW cB cI cJ cZ h0 ad M) → va_S A s.heap H locs → lv_has ls 5 [(0, .ref h0), (1, .int y1), (2, .int y2)] → B12 y1 y2 M → W p l e (headSpec wsX12_clauseFor rmX12_clauseFor).room s m ([.ref h0, .int p1] : List Value).toArray below meth c H locs 0 0 (MQ below (va_Qi (fun (r : Int32) (u : gS) => Q r u) (mB dC dI cB cI cJ cZ h0 ad A) A) ([.ref h0, .int p1] : List Value).toArray s 0 0 A) (F0 m 12 ls [])) (y1 : Int32) (y2 : Int32) (y3 : Int32) (M : gS) (H : Heap) (locs : List Loc) (ls : Array Slot), va_P (dC, dI) vwCl (mW cB cI cJ cZ h0 ad M) H → va_D A (mW cB cI cJ cZ h0 ad M) → va_S A s.heap H locs → lv_has ls 5 [(0, .ref h0), (1, .int y1), (2, .int y2), (3, .int y3)] → wX12_clauseFor_72 B12 Q y1 y2 y3 M → W p l e (headSpec wsX12_clauseFor rmX12_clauseFor).room s m ([.ref h0, .int p1] : List Value).toArray below meth c H locs 0 0 (MQ below (va_Qi (fun (r : Int32) (u : gS) => Q r u) (mB dC dI cB cI cJ cZ h0 ad A) A) ([.ref h0, .int p1] : List Value).toArray s 0 0 A) (F0 m 72 ls []) := by
    intro B12 hB12 y1 y2 y3 M H locs ls hP hD hS hl h
    unfold wX12_clauseFor_72 at h
    refine lv_iconst (v := 1) hx hb dX12_clauseFor_72 (by decide) ?_
    refine lv_goto (tgt := 77) hx hb dX12_clauseFor_73 (by decide) ?_
    exact b77 _ hB12 y1 y2 y3 (1 : Int32) M H locs ls hP hD hS (lv_sub hl [0, 1, 2, 3] rfl) h
  have b12 : ∀ (n : Nat) (y1 : Int32) (y2 : Int32) (M : gS) (H : Heap) (locs : List Loc) (ls : Array Slot), va_P (dC, dI) vwCl (mW cB cI cJ cZ h0 ad M) H → va_D A (mW cB cI cJ cZ h0 ad M) → va_S A s.heap H locs → lv_has ls 5 [(0, .ref h0), (1, .int y1), (2, .int y2)] → wX12_clauseFor_12  Q n y1 y2 M → W p l e (headSpec wsX12_clauseFor rmX12_clauseFor).room s m ([.ref h0, .int p1] : List Value).toArray below meth c H locs 0 0 (MQ below (va_Qi (fun (r : Int32) (u : gS) => Q r u) (mB dC dI cB cI cJ cZ h0 ad A) A) ([.ref h0, .int p1] : List Value).toArray s 0 0 A) (F0 m 12 ls []) := by
    intro  n
    induction n with
    | zero => intro y1 y2 M H locs ls hP hD hS hl h; exact absurd h (by simp [wX12_clauseFor_12])
    | succ n hB120 =>
      intro y1 y2 M H locs ls hP hD hS hl h
      have hB12 := hB120
      rw [wX12_clauseFor_12] at h
      refine lv_iload_n hx hb dX12_clauseFor_12 rfl (lv_at hl 2 rfl) ?_
      refine lv_aload_n hx hb dX12_clauseFor_13 rfl (lv_at hl 0 rfl) ?_
      refine va_get (D := (dC, dI)) (ci := 12) (v := .ref (ad 6)) (C := RX12) (T := TX12) (N := 37) hx hb hts hin hown hK hP 0 rfl rfl 6 (by decide) f2 (fun _ h9 => h9) rfl dX12_clauseFor_14 ?_
      refine lv_iload_n hx hb dX12_clauseFor_17 rfl (lv_at hl 1 rfl) ?_
      refine va_iald hx hb hK hP 5 1 (f := ma M 6) rfl rfl h.1 dX12_clauseFor_18 ?_
      have h := h.2
      refine lv_icmp_ge (tgt := 129) hx hb dX12_clauseFor_19 (by decide) (fun c1 => ?_) (fun c1 => ?_)
      · have h := h.1 c1
        refine lv_iconst (v := (-1)) hx hb dX12_clauseFor_129 (by decide) ?_
        exact W.iret (v := (-1 : Int32)) hx hb hr (fun t ht hW => ⟨⟨_, M, rfl, h, by rw [ht]; exact hP, va_K.moved hW.alike hK, hD⟩, hS.F ht⟩) hS.2.2 dX12_clauseFor_130
      · have h := h.2 c1
        refine lv_bipush (v := (48)) hx hb dX12_clauseFor_22 (by decide) ?_
        refine lv_iload_n hx hb dX12_clauseFor_24 rfl (lv_at hl 1 rfl) ?_
        refine lv_imul hx hb dX12_clauseFor_25 ?_
        refine lv_iconst (v := 4) hx hb dX12_clauseFor_26 (by decide) ?_
        refine lv_iload_n hx hb dX12_clauseFor_27 rfl (lv_at hl 2 rfl) ?_
        refine lv_imul hx hb dX12_clauseFor_28 ?_
        refine lv_iadd hx hb dX12_clauseFor_29 ?_
        refine lv_topi (fun x2 ex2 => ?_)
        have h := h x2 ex2
        refine lv_istore_n (lv' := [(3, .int x2), (0, .ref h0), (1, .int y1), (2, .int y2)]) hx hb dX12_clauseFor_30 rfl hl (by decide) rfl (fun ls hl => ?_)
        refine lv_aload_n hx hb dX12_clauseFor_31 rfl (lv_at hl 1 rfl) ?_
        refine va_get (D := (dC, dI)) (ci := 12) (v := .ref (ad 5)) (C := RX12) (T := TX12) (N := 37) hx hb hts hin hown hK hP 0 rfl rfl 5 (by decide) f1 (fun _ h9 => h9) rfl dX12_clauseFor_32 ?_
        refine lv_iload_n hx hb dX12_clauseFor_35 rfl (lv_at hl 0 rfl) ?_
        refine va_iald hx hb hK hP 4 1 (f := ma M 5) rfl rfl h.1 dX12_clauseFor_36 ?_
        have h := h.2
        refine lv_if_ne (tgt := 55) hx hb dX12_clauseFor_37 (by decide) (fun c3 => ?_) (fun c3 => ?_)
        · have h := h.2 c3
          refine lv_aload_n hx hb dX12_clauseFor_55 rfl (lv_at hl 1 rfl) ?_
          refine va_get (D := (dC, dI)) (ci := 12) (v := .ref (ad 5)) (C := RX12) (T := TX12) (N := 37) hx hb hts hin hown hK hP 0 rfl rfl 5 (by decide) f1 (fun _ h9 => h9) rfl dX12_clauseFor_56 ?_
          refine lv_iload_n hx hb dX12_clauseFor_59 rfl (lv_at hl 0 rfl) ?_
          refine va_iald hx hb hK hP 4 1 (f := ma M 5) rfl rfl h.1 dX12_clauseFor_60 ?_
          have h := h.2
          refine lv_iconst (v := 2) hx hb dX12_clauseFor_61 (by decide) ?_
          refine lv_icmp_eq (tgt := 72) hx hb dX12_clauseFor_62 (by decide) (fun c4 => ?_) (fun c4 => ?_)
          · have h := h.1 c4
            exact b72 _ hB12 y1 y2 x2 M H locs ls hP hD hS (lv_sub hl [1, 2, 3, 0] rfl) h
          · have h := h.2 c4
            refine lv_aload_n hx hb dX12_clauseFor_65 rfl (lv_at hl 1 rfl) ?_
            have hFc := gs_free hD hS hA
            refine va_calli (va_runV (As := []) (rest := []) ⟨hx, hb, hml, hown, hts⟩ (kX12_canThrow l dC dI cB cI cJ cZ h0 ad H.size  M _ h) (cwV 0 hts gX12_clauseFor_X12_canThrow rfl rfl rfl (by decide +kernel) ⟨Nat.le_of_ble_eq_true rfl, Nat.le_of_ble_eq_true rfl⟩) (mpV hK hP hD) rfl rfl hl.1 rfl (lv_room (Nat.le_of_ble_eq_true rfl)) dX12_clauseFor_66 ⟨Nat.le_of_ble_eq_true rfl, Nat.le_of_ble_eq_true rfl⟩) hS (fun q _ z => hFc q z) hFc (fun r5 M6 t H1 locs ht hvm hw hB hz1 hk1 hS => ?_)
            obtain ⟨hP, hD⟩ := gs_back ht hFc hB
            generalize H1 = H at hP hS ⊢
            obtain ⟨b7, rfl, h⟩ := hw
            try dsimp only at h
            refine lv_if_eq (tgt := 76) hx hb dX12_clauseFor_69 (by decide) (fun c8 => ?_) (fun c8 => ?_)
            · have h := h.1 c8
              refine lv_iconst (v := 0) hx hb dX12_clauseFor_76 (by decide) ?_
              exact b77 _ hB12 y1 y2 x2 (0 : Int32) M6 H locs ls hP hD hS (lv_sub hl [1, 2, 3, 0] rfl) h
            · have h := h.2 c8
              exact b72 _ hB12 y1 y2 x2 M6 H locs ls hP hD hS (lv_sub hl [1, 2, 3, 0] rfl) h
        · have h := h.1 c3
          refine lv_aload_n hx hb dX12_clauseFor_40 rfl (lv_at hl 1 rfl) ?_
          refine lv_aload_n hx hb dX12_clauseFor_41 rfl (lv_at hl 1 rfl) ?_
          refine va_get (D := (dC, dI)) (ci := 12) (v := .ref (ad 5)) (C := RX12) (T := TX12) (N := 37) hx hb hts hin hown hK hP 0 rfl rfl 5 (by decide) f1 (fun _ h9 => h9) rfl dX12_clauseFor_42 ?_
          refine lv_iload_n hx hb dX12_clauseFor_45 rfl (lv_at hl 0 rfl) ?_
          refine lv_iconst (v := 1) hx hb dX12_clauseFor_46 (by decide) ?_
          refine lv_iadd hx hb dX12_clauseFor_47 ?_
          refine va_iald hx hb hK hP 4 1 (f := ma M 5) rfl rfl h.1 dX12_clauseFor_48 ?_
          have h := h.2
          have hFc := gs_free hD hS hA
          refine va_calli (va_runV (As := [.int (ma M 5 (Int32.toNatClampNeg (x2 + (1 : Int32))))]) (rest := []) ⟨hx, hb, hml, hown, hts⟩ (kX12_canSay l dC dI cB cI cJ cZ h0 ad H.size (ma M 5 (Int32.toNatClampNeg (x2 + (1 : Int32)))) M _ h) (cwV 1 hts gX12_clauseFor_X12_canSay rfl rfl rfl (by decide +kernel) ⟨Nat.le_of_ble_eq_true rfl, Nat.le_of_ble_eq_true rfl⟩) (mpV hK hP hD) rfl rfl hl.1 rfl (lv_room (Nat.le_of_ble_eq_true rfl)) dX12_clauseFor_49 ⟨Nat.le_of_ble_eq_true rfl, Nat.le_of_ble_eq_true rfl⟩) hS (fun q _ z => hFc q z) hFc (fun r9 M10 t H1 locs ht hvm hw hB hz1 hk1 hS => ?_)
          obtain ⟨hP, hD⟩ := gs_back ht hFc hB
          generalize H1 = H at hP hS ⊢
          obtain ⟨b11, rfl, h⟩ := hw
          try dsimp only at h
          refine lv_goto (tgt := 77) hx hb dX12_clauseFor_52 (by decide) ?_
          exact b77 _ hB12 y1 y2 x2 (bI b11) M10 H locs ls hP hD hS (lv_sub hl [1, 2, 3, 0] rfl) h
  have bE : ∀ (M : gS) (H : Heap) (locs : List Loc) (ls : Array Slot), va_P (dC, dI) vwCl (mW cB cI cJ cZ h0 ad M) H → va_D A (mW cB cI cJ cZ h0 ad M) → va_S A s.heap H locs → lv_has ls 5 [(0, .ref h0), (1, .int p1)] → wX12_clauseFor p1 M Q → W p l e (headSpec wsX12_clauseFor rmX12_clauseFor).room s m ([.ref h0, .int p1] : List Value).toArray below meth c H locs 0 0 (MQ below (va_Qi (fun (r : Int32) (u : gS) => Q r u) (mB dC dI cB cI cJ cZ h0 ad A) A) ([.ref h0, .int p1] : List Value).toArray s 0 0 A) (F0 m 0 ls []) := by
    intro M H locs ls hP hD hS hl h
    unfold wX12_clauseFor at h
    refine lv_iload_n hx hb dX12_clauseFor_0 rfl (lv_at hl 1 rfl) ?_
    refine lv_if_ge (tgt := 6) hx hb dX12_clauseFor_1 (by decide) (fun c1 => ?_) (fun c1 => ?_)
    · have h := h.1 c1
      refine lv_aload_n hx hb dX12_clauseFor_6 rfl (lv_at hl 0 rfl) ?_
      have hFc := gs_free hD hS hA
      refine va_callv (va_runV (As := []) (rest := []) ⟨hx, hb, hml, hown, hts⟩ (kX12_words l dC dI cB cI cJ cZ h0 ad H.size  M _ h) (cwV 0 hts gX12_clauseFor_X12_words rfl rfl rfl (by decide +kernel) ⟨Nat.le_of_ble_eq_true rfl, Nat.le_of_ble_eq_true rfl⟩) (mpV hK hP hD) rfl rfl hl.1 rfl (lv_room (Nat.le_of_ble_eq_true rfl)) dX12_clauseFor_7 ⟨Nat.le_of_ble_eq_true rfl, Nat.le_of_ble_eq_true rfl⟩) hS (fun q _ z => hFc q z) hFc (fun M3 t H1 locs ht hvm hw hB hz1 hk1 hS => ?_)
      obtain ⟨hP, hD⟩ := gs_back ht hFc hB
      generalize H1 = H at hP hS ⊢
      have h := hw
      try dsimp only at h
      refine lv_iconst (v := 0) hx hb dX12_clauseFor_10 (by decide) ?_
      refine lv_istore_n (lv' := [(2, .int (0 : Int32)), (0, .ref h0), (1, .int p1)]) hx hb dX12_clauseFor_11 rfl hl (by decide) rfl (fun ls hl => ?_)
      obtain ⟨n9, h⟩ := h
      exact b12  n9 p1 (0 : Int32) M3 H locs ls hP hD hS (lv_sub hl [1, 2, 0] rfl) h
    · have h := h.2 c1
      refine lv_iconst (v := (-1)) hx hb dX12_clauseFor_4 (by decide) ?_
      exact W.iret (v := (-1 : Int32)) hx hb hr (fun t ht hW => ⟨⟨_, M, rfl, h, by rw [ht]; exact hP, va_K.moved hW.alike hK, hD⟩, hS.F ht⟩) hS.2.2 dX12_clauseFor_5
  have hl := lv_entry ([.ref h0, .int p1]) (n := 5) (Nat.le_of_ble_eq_true rfl)
  rw [lg_entry_eq]
  generalize (lg_sl ([.ref h0, .int p1]) ++ List.replicate (5 - (lg_sl ([.ref h0, .int p1])).length) Slot.unset).toArray = ls at hl ⊢
  have hl : lv_has ls 5 [(0, .ref h0), (1, .int p1)] := hl
  exact bE M s.heap [] ls hP hD hS hl h
def wX12_runs_85 (B0 : Int32 → Int32 → gS → Prop) (Q : Int32 → gS → Prop) (y1 : Int32) (y2 : Int32) (M : gS) : Prop :=
 (B0 y1 y2 M)
def wX12_runs_41  (Q : Int32 → gS → Prop)  (M : gS) : Prop :=
 (∀ x1 : Int32, x1 = ((ma M 25 7) + (1 : Int32)) → (∀ M2 : gS, M2 = sa M 25 7 x1 → (wX12_ends  M2 (fun (r3 : Int32) (M4 : gS) => (Q r3 M4)))))
def wX12_runs_23 (B0 : Int32 → Int32 → gS → Prop) (Q : Int32 → gS → Prop) (y1 : Int32) (y2 : Int32) (z0 : Int32) (M : gS) : Prop :=
 (wX12_clauseFor z0 M (fun (r1 : Int32) (M2 : gS) => ((r1 < 0 → (wX12_runs_41  Q M2))
 ∧ (¬ r1 < 0 → (vp_in r1 288 ∧ (((ma M2 5 (Int32.toNatClampNeg r1)) = (2 : Int32) → (wX12_runs_41  Q M2))
 ∧ (¬ (ma M2 5 (Int32.toNatClampNeg r1)) = (2 : Int32) → (vp_in r1 288 ∧ (((ma M2 5 (Int32.toNatClampNeg r1)) = 0 → (vp_in (r1 + (1 : Int32)) 288 ∧ (wX12_says (ma M2 5 (Int32.toNatClampNeg (r1 + (1 : Int32)))) M2 (fun (M9 : gS) => (wX12_runs_85 B0 Q y1 y2 M9)))))
 ∧ (¬ (ma M2 5 (Int32.toNatClampNeg r1)) = 0 → (wX12_throwsOne  M2 (fun (M7 : gS) => (wX12_runs_85 B0 Q y1 y2 M7)))))))))))))
def wX12_runs_0  (Q : Int32 → gS → Prop) : Nat → Int32 → Int32 → gS → Prop
 | 0, _, _, _ => False
 | n + 1, y1, y2, M => (wX12_goesOn  M (fun (b3 : Bool) (M2 : gS) => (((bI b3) = 0 → (Q (mg M2 26) M2))
 ∧ (¬ (bI b3) = 0 → (((ma M2 25 6) = 0 → (wX12_runs_23 (fun (y1 : Int32) (y2 : Int32) (M : gS) => wX12_runs_0  Q n y1 y2 M) Q y1 y2 y1 M2))
 ∧ (¬ (ma M2 25 6) = 0 → (wX12_runs_23 (fun (y1 : Int32) (y2 : Int32) (M : gS) => wX12_runs_0  Q n y1 y2 M) Q y1 y2 y2 M2)))))))
def wX12_runs (p1 : Int32) (p2 : Int32) (M : gS) (Q : Int32 → gS → Prop) : Prop :=
 (∃ k0 : Nat, wX12_runs_0  Q k0 p1 p2 M)
def rmX12_runs : Room := { frames := 4, cells := 0, slots := 0, locals := 84 }
set_option maxHeartbeats 4000000 in
set_option maxRecDepth 100000 in
theorem kX12_runs (l : Launch) (dC : Nat → ClassId) (dI : Nat → Nat → Nat) (cB cI cJ cZ : ClassId) (h0 : Nat) (ad : Nat → Nat) (sz : Nat) (p1 : Int32) (p2 : Int32) (M : gS) (Q : Int32 → gS → Prop) (h : wX12_runs p1 p2 M Q) : Met l yX12_runs wsX12_runs rmX12_runs (va_Pc [.ref h0, .int p1, .int p2] (mI dC dI cB cI cJ cZ h0 ad M sz)) (va_Qi (fun (r : Int32) (u : gS) => Q r u) (mB dC dI cB cI cJ cZ h0 ad (va_A (mW cB cI cJ cZ h0 ad M) sz)) (va_A (mW cB cI cJ cZ h0 ad M) sz)) 0 0 (va_A (mW cB cI cJ cZ h0 ad M) sz) := by
  refine Met.ofW (cc := cX12_runs) (maxL := 4) (ret := (some .int)) (by decide) rfl ?_
  intro p e s m args below meth c s₁ B hml hv
  obtain ⟨rfl, hsz, hP, hK, hD0⟩ := hv
  have hx := B.exec
  have hb := B.bytes
  have hr := B.returns
  have hts := atoms_spec (ws := wsX12_runs) B.pre
  have hown : s.vm.findClass RX12 = some m.cls := findClass_of_methodNamed B.named
  have hlocks := B.notSynchronized
  subst hsz
  have hD := hD0.self (sz := s.heap.size)
  generalize hAe : va_A (mW cB cI cJ cZ h0 ad M) s.heap.size = A at hD ⊢
  have hA : ∀ q : Nat, s.heap.size ≤ q → A q := fun q h => by rw [← hAe]; exact Or.inr h
  have hS : va_S A s.heap s.heap [] := va_S.rf
  have hin : ∀ w ∈ wsX120, w ∈ wsX12_runs := fun w h => List.mem_cons_of_mem _ (List.mem_append_right _ h)
  have f1 := hts (.fieldLink RX12 45 "LastWordsModel" "said" "[I") (by decide +kernel)
  have f2 := hts (.fieldLink RX12 20 "LastWordsModel" "clause" "[I") (by decide +kernel)
  have f3 := hts (.fieldLink RX12 286 "LastWordsModel" "ended" "I") (by decide +kernel)
  have b85 : ∀ (B0 : Int32 → Int32 → gS → Prop) (hB0 : ∀ (y1 : Int32) (y2 : Int32) (M : gS) (H : Heap) (locs : List Loc) (ls : Array Slot), va_P (dC, dI) vwCl (mW cB cI cJ cZ h0 ad M) H → va_D A (mW cB cI cJ cZ h0 ad M) → va_S A s.heap H locs → lv_has ls 4 [(0, .ref h0), (1, .int y1), (2, .int y2)] → B0 y1 y2 M → W p l e (headSpec wsX12_runs rmX12_runs).room s m ([.ref h0, .int p1, .int p2] : List Value).toArray below meth c H locs 0 0 (MQ below (va_Qi (fun (r : Int32) (u : gS) => Q r u) (mB dC dI cB cI cJ cZ h0 ad A) A) ([.ref h0, .int p1, .int p2] : List Value).toArray s 0 0 A) (F0 m 0 ls [])) (y1 : Int32) (y2 : Int32) (M : gS) (H : Heap) (locs : List Loc) (ls : Array Slot), va_P (dC, dI) vwCl (mW cB cI cJ cZ h0 ad M) H → va_D A (mW cB cI cJ cZ h0 ad M) → va_S A s.heap H locs → lv_has ls 4 [(0, .ref h0), (1, .int y1), (2, .int y2)] → wX12_runs_85 B0 Q y1 y2 M → W p l e (headSpec wsX12_runs rmX12_runs).room s m ([.ref h0, .int p1, .int p2] : List Value).toArray below meth c H locs 0 0 (MQ below (va_Qi (fun (r : Int32) (u : gS) => Q r u) (mB dC dI cB cI cJ cZ h0 ad A) A) ([.ref h0, .int p1, .int p2] : List Value).toArray s 0 0 A) (F0 m 85 ls []) := by
    intro B0 hB0 y1 y2 M H locs ls hP hD hS hl h
    unfold wX12_runs_85 at h
    refine lv_goto (tgt := 0) hx hb dX12_runs_85 (by decide) ?_
    exact hB0 y1 y2 M H locs ls hP hD hS (lv_sub hl [0, 1, 2] rfl) h
  have b41 : ∀  (M : gS) (H : Heap) (locs : List Loc) (ls : Array Slot), va_P (dC, dI) vwCl (mW cB cI cJ cZ h0 ad M) H → va_D A (mW cB cI cJ cZ h0 ad M) → va_S A s.heap H locs → lv_has ls 4 [(0, .ref h0)] → wX12_runs_41  Q  M → W p l e (headSpec wsX12_runs rmX12_runs).room s m ([.ref h0, .int p1, .int p2] : List Value).toArray below meth c H locs 0 0 (MQ below (va_Qi (fun (r : Int32) (u : gS) => Q r u) (mB dC dI cB cI cJ cZ h0 ad A) A) ([.ref h0, .int p1, .int p2] : List Value).toArray s 0 0 A) (F0 m 41 ls []) := by
    intro   M H locs ls hP hD hS hl h
    unfold wX12_runs_41 at h
    refine lv_aload_n hx hb dX12_runs_41 rfl (lv_at hl 0 rfl) ?_
    refine va_get (D := (dC, dI)) (ci := 12) (v := .ref (ad 25)) (C := RX12) (T := TX12) (N := 37) hx hb hts hin hown hK hP 0 rfl rfl 25 (by decide) f1 (fun _ h9 => h9) rfl dX12_runs_42 ?_
    refine lv_bipush (v := (7)) hx hb dX12_runs_45 (by decide) ?_
    refine lv_dup2_11 hx hb dX12_runs_47 rfl rfl ?_
    refine wc_iald (j := 7) hx hb hK hP 12 1 (f := ma M 25) rfl rfl (by decide) (by decide) (by decide) dX12_runs_48 ?_
    refine lv_iconst (v := 1) hx hb dX12_runs_49 (by decide) ?_
    refine lv_iadd hx hb dX12_runs_50 ?_
    refine lv_topi (fun x1 ex1 => ?_)
    have h := h x1 ex1
    refine wc_iast (j := 7) hx hb hK hP hD hS 12 1 (f := ma M 25) rfl rfl (by decide) (by decide) (by decide) dX12_runs_51 (fun H locs hP hD hS => ?_)
    have hP := mP_a25 hP
    have hD := mD_a25 hD
    have h := h _ rfl
    generalize sa M 25 7 x1 = M2 at hP hD h
    refine lv_aload_n hx hb dX12_runs_52 rfl (lv_at hl 0 rfl) ?_
    have hFc := gs_free hD hS hA
    refine va_calli (va_runV (As := []) (rest := []) ⟨hx, hb, hml, hown, hts⟩ (kX12_ends l dC dI cB cI cJ cZ h0 ad H.size  M2 _ h) (cwV 0 hts gX12_runs_X12_ends rfl rfl rfl (by decide +kernel) ⟨Nat.le_of_ble_eq_true rfl, Nat.le_of_ble_eq_true rfl⟩) (mpV hK hP hD) rfl rfl hl.1 rfl (lv_room (Nat.le_of_ble_eq_true rfl)) dX12_runs_53 ⟨Nat.le_of_ble_eq_true rfl, Nat.le_of_ble_eq_true rfl⟩) hS (fun q _ z => hFc q z) hFc (fun r3 M4 t H1 locs ht hvm hw hB hz1 hk1 hS => ?_)
    obtain ⟨hP, hD⟩ := gs_back ht hFc hB
    generalize H1 = H at hP hS ⊢
    have h := hw
    try dsimp only at h
    exact W.iret (v := r3) hx hb hr (fun t ht hW => ⟨⟨_, M4, rfl, h, by rw [ht]; exact hP, va_K.moved hW.alike hK, hD⟩, hS.F ht⟩) hS.2.2 dX12_runs_56
  have b23 : ∀ (B0 : Int32 → Int32 → gS → Prop) (hB0 : ∀ (y1 : Int32) (y2 : Int32) (M : gS) (H : Heap) (locs : List Loc) (ls : Array Slot), va_P (dC, dI) vwCl (mW cB cI cJ cZ h0 ad M) H → va_D A (mW cB cI cJ cZ h0 ad M) → va_S A s.heap H locs → lv_has ls 4 [(0, .ref h0), (1, .int y1), (2, .int y2)] → B0 y1 y2 M → W p l e (headSpec wsX12_runs rmX12_runs).room s m ([.ref h0, .int p1, .int p2] : List Value).toArray below meth c H locs 0 0 (MQ below (va_Qi (fun (r : Int32) (u : gS) => Q r u) (mB dC dI cB cI cJ cZ h0 ad A) A) ([.ref h0, .int p1, .int p2] : List Value).toArray s 0 0 A) (F0 m 0 ls [])) (y1 : Int32) (y2 : Int32) (z0 : Int32) (M : gS) (H : Heap) (locs : List Loc) (ls : Array Slot), va_P (dC, dI) vwCl (mW cB cI cJ cZ h0 ad M) H → va_D A (mW cB cI cJ cZ h0 ad M) → va_S A s.heap H locs → lv_has ls 4 [(0, .ref h0), (1, .int y1), (2, .int y2)] → wX12_runs_23 B0 Q y1 y2 z0 M → W p l e (headSpec wsX12_runs rmX12_runs).room s m ([.ref h0, .int p1, .int p2] : List Value).toArray below meth c H locs 0 0 (MQ below (va_Qi (fun (r : Int32) (u : gS) => Q r u) (mB dC dI cB cI cJ cZ h0 ad A) A) ([.ref h0, .int p1, .int p2] : List Value).toArray s 0 0 A) (F0 m 23 ls [.int z0, .ref h0]) := by
    intro B0 hB0 y1 y2 z0 M H locs ls hP hD hS hl h
    unfold wX12_runs_23 at h
    have hFc := gs_free hD hS hA
    refine va_calli (va_runV (As := [.int z0]) (rest := []) ⟨hx, hb, hml, hown, hts⟩ (kX12_clauseFor l dC dI cB cI cJ cZ h0 ad H.size z0 M _ h) (cwV 1 hts gX12_runs_X12_clauseFor rfl rfl rfl (by decide +kernel) ⟨Nat.le_of_ble_eq_true rfl, Nat.le_of_ble_eq_true rfl⟩) (mpV hK hP hD) rfl rfl hl.1 rfl (lv_room (Nat.le_of_ble_eq_true rfl)) dX12_runs_23 ⟨Nat.le_of_ble_eq_true rfl, Nat.le_of_ble_eq_true rfl⟩) hS (fun q _ z => hFc q z) hFc (fun r1 M2 t H1 locs ht hvm hw hB hz1 hk1 hS => ?_)
    obtain ⟨hP, hD⟩ := gs_back ht hFc hB
    generalize H1 = H at hP hS ⊢
    have h := hw
    try dsimp only at h
    refine lv_istore_n (lv' := [(3, .int r1), (0, .ref h0), (1, .int y1), (2, .int y2)]) hx hb dX12_runs_26 rfl hl (by decide) rfl (fun ls hl => ?_)
    refine lv_iload_n hx hb dX12_runs_27 rfl (lv_at hl 0 rfl) ?_
    refine lv_if_lt (tgt := 41) hx hb dX12_runs_28 (by decide) (fun c3 => ?_) (fun c3 => ?_)
    · have h := h.1 c3
      exact b41  M2 H locs ls hP hD hS (lv_sub hl [1] rfl) h
    · have h := h.2 c3
      refine lv_aload_n hx hb dX12_runs_31 rfl (lv_at hl 1 rfl) ?_
      refine va_get (D := (dC, dI)) (ci := 12) (v := .ref (ad 5)) (C := RX12) (T := TX12) (N := 37) hx hb hts hin hown hK hP 0 rfl rfl 5 (by decide) f2 (fun _ h9 => h9) rfl dX12_runs_32 ?_
      refine lv_iload_n hx hb dX12_runs_35 rfl (lv_at hl 0 rfl) ?_
      refine va_iald hx hb hK hP 4 1 (f := ma M2 5) rfl rfl h.1 dX12_runs_36 ?_
      have h := h.2
      refine lv_iconst (v := 2) hx hb dX12_runs_37 (by decide) ?_
      refine lv_icmp_ne (tgt := 57) hx hb dX12_runs_38 (by decide) (fun c4 => ?_) (fun c4 => ?_)
      · have h := h.2 c4
        refine lv_aload_n hx hb dX12_runs_57 rfl (lv_at hl 1 rfl) ?_
        refine va_get (D := (dC, dI)) (ci := 12) (v := .ref (ad 5)) (C := RX12) (T := TX12) (N := 37) hx hb hts hin hown hK hP 0 rfl rfl 5 (by decide) f2 (fun _ h9 => h9) rfl dX12_runs_58 ?_
        refine lv_iload_n hx hb dX12_runs_61 rfl (lv_at hl 0 rfl) ?_
        refine va_iald hx hb hK hP 4 1 (f := ma M2 5) rfl rfl h.1 dX12_runs_62 ?_
        have h := h.2
        refine lv_if_ne (tgt := 81) hx hb dX12_runs_63 (by decide) (fun c5 => ?_) (fun c5 => ?_)
        · have h := h.2 c5
          refine lv_aload_n hx hb dX12_runs_81 rfl (lv_at hl 1 rfl) ?_
          have hFc := gs_free hD hS hA
          refine va_callv (va_runV (As := []) (rest := []) ⟨hx, hb, hml, hown, hts⟩ (kX12_throwsOne l dC dI cB cI cJ cZ h0 ad H.size  M2 _ h) (cwV 0 hts gX12_runs_X12_throwsOne rfl rfl rfl (by decide +kernel) ⟨Nat.le_of_ble_eq_true rfl, Nat.le_of_ble_eq_true rfl⟩) (mpV hK hP hD) rfl rfl hl.1 rfl (lv_room (Nat.le_of_ble_eq_true rfl)) dX12_runs_82 ⟨Nat.le_of_ble_eq_true rfl, Nat.le_of_ble_eq_true rfl⟩) hS (fun q _ z => hFc q z) hFc (fun M7 t H1 locs ht hvm hw hB hz1 hk1 hS => ?_)
          obtain ⟨hP, hD⟩ := gs_back ht hFc hB
          generalize H1 = H at hP hS ⊢
          have h := hw
          try dsimp only at h
          exact b85 _ hB0 y1 y2 M7 H locs ls hP hD hS (lv_sub hl [1, 2, 3] rfl) h
        · have h := h.1 c5
          refine lv_aload_n hx hb dX12_runs_66 rfl (lv_at hl 1 rfl) ?_
          refine lv_aload_n hx hb dX12_runs_67 rfl (lv_at hl 1 rfl) ?_
          refine va_get (D := (dC, dI)) (ci := 12) (v := .ref (ad 5)) (C := RX12) (T := TX12) (N := 37) hx hb hts hin hown hK hP 0 rfl rfl 5 (by decide) f2 (fun _ h9 => h9) rfl dX12_runs_68 ?_
          refine lv_iload_n hx hb dX12_runs_71 rfl (lv_at hl 0 rfl) ?_
          refine lv_iconst (v := 1) hx hb dX12_runs_72 (by decide) ?_
          refine lv_iadd hx hb dX12_runs_73 ?_
          refine va_iald hx hb hK hP 4 1 (f := ma M2 5) rfl rfl h.1 dX12_runs_74 ?_
          have h := h.2
          have hFc := gs_free hD hS hA
          refine va_callv (va_runV (As := [.int (ma M2 5 (Int32.toNatClampNeg (r1 + (1 : Int32))))]) (rest := []) ⟨hx, hb, hml, hown, hts⟩ (kX12_says l dC dI cB cI cJ cZ h0 ad H.size (ma M2 5 (Int32.toNatClampNeg (r1 + (1 : Int32)))) M2 _ h) (cwV 1 hts gX12_runs_X12_says rfl rfl rfl (by decide +kernel) ⟨Nat.le_of_ble_eq_true rfl, Nat.le_of_ble_eq_true rfl⟩) (mpV hK hP hD) rfl rfl hl.1 rfl (lv_room (Nat.le_of_ble_eq_true rfl)) dX12_runs_75 ⟨Nat.le_of_ble_eq_true rfl, Nat.le_of_ble_eq_true rfl⟩) hS (fun q _ z => hFc q z) hFc (fun M9 t H1 locs ht hvm hw hB hz1 hk1 hS => ?_)
          obtain ⟨hP, hD⟩ := gs_back ht hFc hB
          generalize H1 = H at hP hS ⊢
          have h := hw
          try dsimp only at h
          refine lv_goto (tgt := 85) hx hb dX12_runs_78 (by decide) ?_
          exact b85 _ hB0 y1 y2 M9 H locs ls hP hD hS (lv_sub hl [1, 2, 3] rfl) h
      · have h := h.1 c4
        exact b41  M2 H locs ls hP hD hS (lv_sub hl [1] rfl) h
  have b0 : ∀ (n : Nat) (y1 : Int32) (y2 : Int32) (M : gS) (H : Heap) (locs : List Loc) (ls : Array Slot), va_P (dC, dI) vwCl (mW cB cI cJ cZ h0 ad M) H → va_D A (mW cB cI cJ cZ h0 ad M) → va_S A s.heap H locs → lv_has ls 4 [(0, .ref h0), (1, .int y1), (2, .int y2)] → wX12_runs_0  Q n y1 y2 M → W p l e (headSpec wsX12_runs rmX12_runs).room s m ([.ref h0, .int p1, .int p2] : List Value).toArray below meth c H locs 0 0 (MQ below (va_Qi (fun (r : Int32) (u : gS) => Q r u) (mB dC dI cB cI cJ cZ h0 ad A) A) ([.ref h0, .int p1, .int p2] : List Value).toArray s 0 0 A) (F0 m 0 ls []) := by
    intro  n
    induction n with
    | zero => intro y1 y2 M H locs ls hP hD hS hl h; exact absurd h (by simp [wX12_runs_0])
    | succ n hB00 =>
      intro y1 y2 M H locs ls hP hD hS hl h
      have hB0 := hB00
      rw [wX12_runs_0] at h
      refine lv_aload_n hx hb dX12_runs_0 rfl (lv_at hl 0 rfl) ?_
      have hFc := gs_free hD hS hA
      refine va_calli (va_runV (As := []) (rest := []) ⟨hx, hb, hml, hown, hts⟩ (kX12_goesOn l dC dI cB cI cJ cZ h0 ad H.size  M _ h) (cwV 0 hts gX12_runs_X12_goesOn rfl rfl rfl (by decide +kernel) ⟨Nat.le_of_ble_eq_true rfl, Nat.le_of_ble_eq_true rfl⟩) (mpV hK hP hD) rfl rfl hl.1 rfl (lv_room (Nat.le_of_ble_eq_true rfl)) dX12_runs_1 ⟨Nat.le_of_ble_eq_true rfl, Nat.le_of_ble_eq_true rfl⟩) hS (fun q _ z => hFc q z) hFc (fun r1 M2 t H1 locs ht hvm hw hB hz1 hk1 hS => ?_)
      obtain ⟨hP, hD⟩ := gs_back ht hFc hB
      generalize H1 = H at hP hS ⊢
      obtain ⟨b3, rfl, h⟩ := hw
      try dsimp only at h
      refine lv_if_eq (tgt := 88) hx hb dX12_runs_4 (by decide) (fun c4 => ?_) (fun c4 => ?_)
      · have h := h.1 c4
        refine lv_aload_n hx hb dX12_runs_88 rfl (lv_at hl 0 rfl) ?_
        refine va_get (D := (dC, dI)) (ci := 12) (v := .int (mg M2 26)) (C := RX12) (T := TX12) (N := 37) hx hb hts hin hown hK hP 0 rfl rfl 26 (by decide) f3 (fun _ h9 => h9) rfl dX12_runs_89 ?_
        exact W.iret (v := (mg M2 26)) hx hb hr (fun t ht hW => ⟨⟨_, M2, rfl, h, by rw [ht]; exact hP, va_K.moved hW.alike hK, hD⟩, hS.F ht⟩) hS.2.2 dX12_runs_92
      · have h := h.2 c4
        refine lv_aload_n hx hb dX12_runs_7 rfl (lv_at hl 0 rfl) ?_
        refine lv_aload_n hx hb dX12_runs_8 rfl (lv_at hl 0 rfl) ?_
        refine va_get (D := (dC, dI)) (ci := 12) (v := .ref (ad 25)) (C := RX12) (T := TX12) (N := 37) hx hb hts hin hown hK hP 0 rfl rfl 25 (by decide) f1 (fun _ h9 => h9) rfl dX12_runs_9 ?_
        refine lv_bipush (v := (6)) hx hb dX12_runs_12 (by decide) ?_
        refine wc_iald (j := 6) hx hb hK hP 12 1 (f := ma M2 25) rfl rfl (by decide) (by decide) (by decide) dX12_runs_14 ?_
        refine lv_if_ne (tgt := 22) hx hb dX12_runs_15 (by decide) (fun c5 => ?_) (fun c5 => ?_)
        · have h := h.2 c5
          refine lv_iload_n hx hb dX12_runs_22 rfl (lv_at hl 2 rfl) ?_
          exact b23 _ hB0 y1 y2 y2 M2 H locs ls hP hD hS (lv_sub hl [0, 1, 2] rfl) h
        · have h := h.1 c5
          refine lv_iload_n hx hb dX12_runs_18 rfl (lv_at hl 1 rfl) ?_
          refine lv_goto (tgt := 23) hx hb dX12_runs_19 (by decide) ?_
          exact b23 _ hB0 y1 y2 y1 M2 H locs ls hP hD hS (lv_sub hl [0, 1, 2] rfl) h
  have bE : ∀ (M : gS) (H : Heap) (locs : List Loc) (ls : Array Slot), va_P (dC, dI) vwCl (mW cB cI cJ cZ h0 ad M) H → va_D A (mW cB cI cJ cZ h0 ad M) → va_S A s.heap H locs → lv_has ls 4 [(0, .ref h0), (1, .int p1), (2, .int p2)] → wX12_runs p1 p2 M Q → W p l e (headSpec wsX12_runs rmX12_runs).room s m ([.ref h0, .int p1, .int p2] : List Value).toArray below meth c H locs 0 0 (MQ below (va_Qi (fun (r : Int32) (u : gS) => Q r u) (mB dC dI cB cI cJ cZ h0 ad A) A) ([.ref h0, .int p1, .int p2] : List Value).toArray s 0 0 A) (F0 m 0 ls []) := by
    intro M H locs ls hP hD hS hl h
    unfold wX12_runs at h
    obtain ⟨n9, h⟩ := h
    exact b0  n9 p1 p2 M H locs ls hP hD hS (lv_sub hl [0, 1, 2] rfl) h
  have hl := lv_entry ([.ref h0, .int p1, .int p2]) (n := 4) (Nat.le_of_ble_eq_true rfl)
  rw [lg_entry_eq]
  generalize (lg_sl ([.ref h0, .int p1, .int p2]) ++ List.replicate (4 - (lg_sl ([.ref h0, .int p1, .int p2])).length) Slot.unset).toArray = ls at hl ⊢
  have hl : lv_has ls 4 [(0, .ref h0), (1, .int p1), (2, .int p2)] := hl
  exact bE M s.heap [] ls hP hD hS hl h
def wX12_areRules_26  (Q : Bool → gS → Prop)  (M : gS) : Prop :=
 (Q true M)
def wX12_areRules_13  (Q : Bool → gS → Prop) (y2 : Int32) (M : gS) : Prop :=
 ((y2 = (-1 : Int32) → (wX12_areRules_26  Q M))
 ∧ (¬ y2 = (-1 : Int32) → (wX12_isRule y2 M (fun (b4 : Bool) (M3 : gS) => (((bI b4) = 0 → (Q false M3))
 ∧ (¬ (bI b4) = 0 → (wX12_areRules_26  Q M3)))))))
def wX12_areRules (p1 : Int32) (p2 : Int32) (M : gS) (Q : Bool → gS → Prop) : Prop :=
 ((p1 = (-1 : Int32) → (wX12_areRules_13  Q p2 M))
 ∧ (¬ p1 = (-1 : Int32) → (wX12_isRule p1 M (fun (b4 : Bool) (M3 : gS) => (((bI b4) = 0 → (Q false M3))
 ∧ (¬ (bI b4) = 0 → (wX12_areRules_13  Q p2 M3)))))))
def rmX12_areRules : Room := { frames := 1, cells := 0, slots := 0, locals := 21 }
set_option maxHeartbeats 4000000 in
set_option maxRecDepth 100000 in
theorem kX12_areRules (l : Launch) (dC : Nat → ClassId) (dI : Nat → Nat → Nat) (cB cI cJ cZ : ClassId) (h0 : Nat) (ad : Nat → Nat) (sz : Nat) (p1 : Int32) (p2 : Int32) (M : gS) (Q : Bool → gS → Prop) (h : wX12_areRules p1 p2 M Q) : Met l yX12_areRules wsX12_areRules rmX12_areRules (va_Pc [.ref h0, .int p1, .int p2] (mI dC dI cB cI cJ cZ h0 ad M sz)) (va_Qi (fun (r : Int32) (u : gS) => ∃ b : Bool, r = bI b ∧ Q b u) (mB dC dI cB cI cJ cZ h0 ad (va_A (mW cB cI cJ cZ h0 ad M) sz)) (va_A (mW cB cI cJ cZ h0 ad M) sz)) 0 0 (va_A (mW cB cI cJ cZ h0 ad M) sz) := by
  refine Met.ofW (cc := cX12_areRules) (maxL := 3) (ret := (some .boolean)) (by decide) rfl ?_
  intro p e s m args below meth c s₁ B hml hv
  obtain ⟨rfl, hsz, hP, hK, hD0⟩ := hv
  have hx := B.exec
  have hb := B.bytes
  have hr := B.returns
  have hts := atoms_spec (ws := wsX12_areRules) B.pre
  have hown : s.vm.findClass RX12 = some m.cls := findClass_of_methodNamed B.named
  have hlocks := B.notSynchronized
  subst hsz
  have hD := hD0.self (sz := s.heap.size)
  generalize hAe : va_A (mW cB cI cJ cZ h0 ad M) s.heap.size = A at hD ⊢
  have hA : ∀ q : Nat, s.heap.size ≤ q → A q := fun q h => by rw [← hAe]; exact Or.inr h
  have hS : va_S A s.heap s.heap [] := va_S.rf
  have b26 : ∀  (M : gS) (H : Heap) (locs : List Loc) (ls : Array Slot), va_P (dC, dI) vwCl (mW cB cI cJ cZ h0 ad M) H → va_D A (mW cB cI cJ cZ h0 ad M) → va_S A s.heap H locs → lv_has ls 3 [] → wX12_areRules_26  Q  M → W p l e (headSpec wsX12_areRules rmX12_areRules).room s m ([.ref h0, .int p1, .int p2] : List Value).toArray below meth c H locs 0 0 (MQ below (va_Qi (fun (r : Int32) (u : gS) => ∃ b : Bool, r = bI b ∧ Q b u) (mB dC dI cB cI cJ cZ h0 ad A) A) ([.ref h0, .int p1, .int p2] : List Value).toArray s 0 0 A) (F0 m 26 ls []) := by
    intro   M H locs ls hP hD hS hl h
    unfold wX12_areRules_26 at h
    refine lv_iconst (v := 1) hx hb dX12_areRules_26 (by decide) ?_
    refine lv_goto (tgt := 31) hx hb dX12_areRules_27 (by decide) ?_
    exact W.zret (v := (bI true)) hx hb hr (nar_bI true) (fun t ht hW => ⟨⟨_, M, rfl, ⟨true, rfl, h⟩, by rw [ht]; exact hP, va_K.moved hW.alike hK, hD⟩, hS.F ht⟩) hS.2.2 dX12_areRules_31
  have b13 : ∀ (y2 : Int32) (M : gS) (H : Heap) (locs : List Loc) (ls : Array Slot), va_P (dC, dI) vwCl (mW cB cI cJ cZ h0 ad M) H → va_D A (mW cB cI cJ cZ h0 ad M) → va_S A s.heap H locs → lv_has ls 3 [(0, .ref h0), (2, .int y2)] → wX12_areRules_13  Q y2 M → W p l e (headSpec wsX12_areRules rmX12_areRules).room s m ([.ref h0, .int p1, .int p2] : List Value).toArray below meth c H locs 0 0 (MQ below (va_Qi (fun (r : Int32) (u : gS) => ∃ b : Bool, r = bI b ∧ Q b u) (mB dC dI cB cI cJ cZ h0 ad A) A) ([.ref h0, .int p1, .int p2] : List Value).toArray s 0 0 A) (F0 m 13 ls []) := by
    intro  y2 M H locs ls hP hD hS hl h
    unfold wX12_areRules_13 at h
    refine lv_iload_n hx hb dX12_areRules_13 rfl (lv_at hl 1 rfl) ?_
    refine lv_iconst (v := (-1)) hx hb dX12_areRules_14 (by decide) ?_
    refine lv_icmp_eq (tgt := 26) hx hb dX12_areRules_15 (by decide) (fun c1 => ?_) (fun c1 => ?_)
    · have h := h.1 c1
      exact b26  M H locs ls hP hD hS (lv_sub hl [] rfl) h
    · have h := h.2 c1
      refine lv_aload_n hx hb dX12_areRules_18 rfl (lv_at hl 0 rfl) ?_
      refine lv_iload_n hx hb dX12_areRules_19 rfl (lv_at hl 1 rfl) ?_
      have hFc := gs_free hD hS hA
      refine va_calli (va_runV (As := [.int y2]) (rest := []) ⟨hx, hb, hml, hown, hts⟩ (kX12_isRule l dC dI cB cI cJ cZ h0 ad H.size y2 M _ h) (cwV 1 hts gX12_areRules_X12_isRule rfl rfl rfl (by decide +kernel) ⟨Nat.le_of_ble_eq_true rfl, Nat.le_of_ble_eq_true rfl⟩) (mpV hK hP hD) rfl rfl hl.1 rfl (lv_room (Nat.le_of_ble_eq_true rfl)) dX12_areRules_20 ⟨Nat.le_of_ble_eq_true rfl, Nat.le_of_ble_eq_true rfl⟩) hS (fun q _ z => hFc q z) hFc (fun r2 M3 t H1 locs ht hvm hw hB hz1 hk1 hS => ?_)
      obtain ⟨hP, hD⟩ := gs_back ht hFc hB
      generalize H1 = H at hP hS ⊢
      obtain ⟨b4, rfl, h⟩ := hw
      try dsimp only at h
      refine lv_if_eq (tgt := 30) hx hb dX12_areRules_23 (by decide) (fun c5 => ?_) (fun c5 => ?_)
      · have h := h.1 c5
        refine lv_iconst (v := 0) hx hb dX12_areRules_30 (by decide) ?_
        exact W.zret (v := (bI false)) hx hb hr (nar_bI false) (fun t ht hW => ⟨⟨_, M3, rfl, ⟨false, rfl, h⟩, by rw [ht]; exact hP, va_K.moved hW.alike hK, hD⟩, hS.F ht⟩) hS.2.2 dX12_areRules_31
      · have h := h.2 c5
        exact b26  M3 H locs ls hP hD hS (lv_sub hl [] rfl) h
  have bE : ∀ (M : gS) (H : Heap) (locs : List Loc) (ls : Array Slot), va_P (dC, dI) vwCl (mW cB cI cJ cZ h0 ad M) H → va_D A (mW cB cI cJ cZ h0 ad M) → va_S A s.heap H locs → lv_has ls 3 [(0, .ref h0), (1, .int p1), (2, .int p2)] → wX12_areRules p1 p2 M Q → W p l e (headSpec wsX12_areRules rmX12_areRules).room s m ([.ref h0, .int p1, .int p2] : List Value).toArray below meth c H locs 0 0 (MQ below (va_Qi (fun (r : Int32) (u : gS) => ∃ b : Bool, r = bI b ∧ Q b u) (mB dC dI cB cI cJ cZ h0 ad A) A) ([.ref h0, .int p1, .int p2] : List Value).toArray s 0 0 A) (F0 m 0 ls []) := by
    intro M H locs ls hP hD hS hl h
    unfold wX12_areRules at h
    refine lv_iload_n hx hb dX12_areRules_0 rfl (lv_at hl 1 rfl) ?_
    refine lv_iconst (v := (-1)) hx hb dX12_areRules_1 (by decide) ?_
    refine lv_icmp_eq (tgt := 13) hx hb dX12_areRules_2 (by decide) (fun c1 => ?_) (fun c1 => ?_)
    · have h := h.1 c1
      exact b13  p2 M H locs ls hP hD hS (lv_sub hl [0, 2] rfl) h
    · have h := h.2 c1
      refine lv_aload_n hx hb dX12_areRules_5 rfl (lv_at hl 0 rfl) ?_
      refine lv_iload_n hx hb dX12_areRules_6 rfl (lv_at hl 1 rfl) ?_
      have hFc := gs_free hD hS hA
      refine va_calli (va_runV (As := [.int p1]) (rest := []) ⟨hx, hb, hml, hown, hts⟩ (kX12_isRule l dC dI cB cI cJ cZ h0 ad H.size p1 M _ h) (cwV 1 hts gX12_areRules_X12_isRule rfl rfl rfl (by decide +kernel) ⟨Nat.le_of_ble_eq_true rfl, Nat.le_of_ble_eq_true rfl⟩) (mpV hK hP hD) rfl rfl hl.1 rfl (lv_room (Nat.le_of_ble_eq_true rfl)) dX12_areRules_7 ⟨Nat.le_of_ble_eq_true rfl, Nat.le_of_ble_eq_true rfl⟩) hS (fun q _ z => hFc q z) hFc (fun r2 M3 t H1 locs ht hvm hw hB hz1 hk1 hS => ?_)
      obtain ⟨hP, hD⟩ := gs_back ht hFc hB
      generalize H1 = H at hP hS ⊢
      obtain ⟨b4, rfl, h⟩ := hw
      try dsimp only at h
      refine lv_if_eq (tgt := 30) hx hb dX12_areRules_10 (by decide) (fun c5 => ?_) (fun c5 => ?_)
      · have h := h.1 c5
        refine lv_iconst (v := 0) hx hb dX12_areRules_30 (by decide) ?_
        exact W.zret (v := (bI false)) hx hb hr (nar_bI false) (fun t ht hW => ⟨⟨_, M3, rfl, ⟨false, rfl, h⟩, by rw [ht]; exact hP, va_K.moved hW.alike hK, hD⟩, hS.F ht⟩) hS.2.2 dX12_areRules_31
      · have h := h.2 c5
        exact b13  p2 M3 H locs ls hP hD hS (lv_sub hl [0, 2] rfl) h
  have hl := lv_entry ([.ref h0, .int p1, .int p2]) (n := 3) (Nat.le_of_ble_eq_true rfl)
  rw [lg_entry_eq]
  generalize (lg_sl ([.ref h0, .int p1, .int p2]) ++ List.replicate (3 - (lg_sl ([.ref h0, .int p1, .int p2])).length) Slot.unset).toArray = ls at hl ⊢
  have hl : lv_has ls 3 [(0, .ref h0), (1, .int p1), (2, .int p2)] := hl
  exact bE M s.heap [] ls hP hD hS hl h
def wX12_run (p1 : Int32) (p2 : Int32) (M : gS) (Q : Int32 → gS → Prop) : Prop :=
 (wX12_goesOn  M (fun (b3 : Bool) (M2 : gS) => (((bI b3) = 0 → (Q (-2 : Int32) M2))
 ∧ (¬ (bI b3) = 0 → (wX12_areRules p1 p2 M2 (fun (b7 : Bool) (M6 : gS) => (((bI b7) = 0 → (Q (-2 : Int32) M6))
 ∧ (¬ (bI b7) = 0 → (wX12_runs p1 p2 M6 (fun (r9 : Int32) (M10 : gS) => (Q r9 M10)))))))))))
def rmX12_run : Room := { frames := 5, cells := 0, slots := 0, locals := 107 }
set_option maxHeartbeats 4000000 in
set_option maxRecDepth 100000 in
theorem kX12_run (l : Launch) (dC : Nat → ClassId) (dI : Nat → Nat → Nat) (cB cI cJ cZ : ClassId) (h0 : Nat) (ad : Nat → Nat) (sz : Nat) (p1 : Int32) (p2 : Int32) (M : gS) (Q : Int32 → gS → Prop) (h : wX12_run p1 p2 M Q) : Met l yX12_run wsX12_run rmX12_run (va_Pc [.ref h0, .int p1, .int p2] (mI dC dI cB cI cJ cZ h0 ad M sz)) (va_Qi (fun (r : Int32) (u : gS) => Q r u) (mB dC dI cB cI cJ cZ h0 ad (va_A (mW cB cI cJ cZ h0 ad M) sz)) (va_A (mW cB cI cJ cZ h0 ad M) sz)) 0 0 (va_A (mW cB cI cJ cZ h0 ad M) sz) := by
  refine Met.ofW (cc := cX12_run) (maxL := 3) (ret := (some .int)) (by decide) rfl ?_
  intro p e s m args below meth c s₁ B hml hv
  obtain ⟨rfl, hsz, hP, hK, hD0⟩ := hv
  have hx := B.exec
  have hb := B.bytes
  have hr := B.returns
  have hts := atoms_spec (ws := wsX12_run) B.pre
  have hown : s.vm.findClass RX12 = some m.cls := findClass_of_methodNamed B.named
  have hlocks := B.notSynchronized
  subst hsz
  have hD := hD0.self (sz := s.heap.size)
  generalize hAe : va_A (mW cB cI cJ cZ h0 ad M) s.heap.size = A at hD ⊢
  have hA : ∀ q : Nat, s.heap.size ≤ q → A q := fun q h => by rw [← hAe]; exact Or.inr h
  have hS : va_S A s.heap s.heap [] := va_S.rf
  have bE : ∀ (M : gS) (H : Heap) (locs : List Loc) (ls : Array Slot), va_P (dC, dI) vwCl (mW cB cI cJ cZ h0 ad M) H → va_D A (mW cB cI cJ cZ h0 ad M) → va_S A s.heap H locs → lv_has ls 3 [(0, .ref h0), (1, .int p1), (2, .int p2)] → wX12_run p1 p2 M Q → W p l e (headSpec wsX12_run rmX12_run).room s m ([.ref h0, .int p1, .int p2] : List Value).toArray below meth c H locs 0 0 (MQ below (va_Qi (fun (r : Int32) (u : gS) => Q r u) (mB dC dI cB cI cJ cZ h0 ad A) A) ([.ref h0, .int p1, .int p2] : List Value).toArray s 0 0 A) (F0 m 0 ls []) := by
    intro M H locs ls hP hD hS hl h
    unfold wX12_run at h
    refine lv_aload_n hx hb dX12_run_0 rfl (lv_at hl 0 rfl) ?_
    have hFc := gs_free hD hS hA
    refine va_calli (va_runV (As := []) (rest := []) ⟨hx, hb, hml, hown, hts⟩ (kX12_goesOn l dC dI cB cI cJ cZ h0 ad H.size  M _ h) (cwV 0 hts gX12_run_X12_goesOn rfl rfl rfl (by decide +kernel) ⟨Nat.le_of_ble_eq_true rfl, Nat.le_of_ble_eq_true rfl⟩) (mpV hK hP hD) rfl rfl hl.1 rfl (lv_room (Nat.le_of_ble_eq_true rfl)) dX12_run_1 ⟨Nat.le_of_ble_eq_true rfl, Nat.le_of_ble_eq_true rfl⟩) hS (fun q _ z => hFc q z) hFc (fun r1 M2 t H1 locs ht hvm hw hB hz1 hk1 hS => ?_)
    obtain ⟨hP, hD⟩ := gs_back ht hFc hB
    generalize H1 = H at hP hS ⊢
    obtain ⟨b3, rfl, h⟩ := hw
    try dsimp only at h
    refine lv_if_eq (tgt := 25) hx hb dX12_run_4 (by decide) (fun c4 => ?_) (fun c4 => ?_)
    · have h := h.1 c4
      refine lv_bipush (v := (-2)) hx hb dX12_run_25 (by decide) ?_
      exact W.iret (v := (-2 : Int32)) hx hb hr (fun t ht hW => ⟨⟨_, M2, rfl, h, by rw [ht]; exact hP, va_K.moved hW.alike hK, hD⟩, hS.F ht⟩) hS.2.2 dX12_run_27
    · have h := h.2 c4
      refine lv_aload_n hx hb dX12_run_7 rfl (lv_at hl 0 rfl) ?_
      refine lv_iload_n hx hb dX12_run_8 rfl (lv_at hl 1 rfl) ?_
      refine lv_iload_n hx hb dX12_run_9 rfl (lv_at hl 2 rfl) ?_
      have hFc := gs_free hD hS hA
      refine va_calli (va_runV (As := [.int p1, .int p2]) (rest := []) ⟨hx, hb, hml, hown, hts⟩ (kX12_areRules l dC dI cB cI cJ cZ h0 ad H.size p1 p2 M2 _ h) (cwV 2 hts gX12_run_X12_areRules rfl rfl rfl (by decide +kernel) ⟨Nat.le_of_ble_eq_true rfl, Nat.le_of_ble_eq_true rfl⟩) (mpV hK hP hD) rfl rfl hl.1 rfl (lv_room (Nat.le_of_ble_eq_true rfl)) dX12_run_10 ⟨Nat.le_of_ble_eq_true rfl, Nat.le_of_ble_eq_true rfl⟩) hS (fun q _ z => hFc q z) hFc (fun r5 M6 t H1 locs ht hvm hw hB hz1 hk1 hS => ?_)
      obtain ⟨hP, hD⟩ := gs_back ht hFc hB
      generalize H1 = H at hP hS ⊢
      obtain ⟨b7, rfl, h⟩ := hw
      try dsimp only at h
      refine lv_if_eq (tgt := 25) hx hb dX12_run_13 (by decide) (fun c8 => ?_) (fun c8 => ?_)
      · have h := h.1 c8
        refine lv_bipush (v := (-2)) hx hb dX12_run_25 (by decide) ?_
        exact W.iret (v := (-2 : Int32)) hx hb hr (fun t ht hW => ⟨⟨_, M6, rfl, h, by rw [ht]; exact hP, va_K.moved hW.alike hK, hD⟩, hS.F ht⟩) hS.2.2 dX12_run_27
      · have h := h.2 c8
        refine lv_aload_n hx hb dX12_run_16 rfl (lv_at hl 0 rfl) ?_
        refine lv_iload_n hx hb dX12_run_17 rfl (lv_at hl 1 rfl) ?_
        refine lv_iload_n hx hb dX12_run_18 rfl (lv_at hl 2 rfl) ?_
        have hFc := gs_free hD hS hA
        refine va_calli (va_runV (As := [.int p1, .int p2]) (rest := []) ⟨hx, hb, hml, hown, hts⟩ (kX12_runs l dC dI cB cI cJ cZ h0 ad H.size p1 p2 M6 _ h) (cwV 2 hts gX12_run_X12_runs rfl rfl rfl (by decide +kernel) ⟨Nat.le_of_ble_eq_true rfl, Nat.le_of_ble_eq_true rfl⟩) (mpV hK hP hD) rfl rfl hl.1 rfl (lv_room (Nat.le_of_ble_eq_true rfl)) dX12_run_19 ⟨Nat.le_of_ble_eq_true rfl, Nat.le_of_ble_eq_true rfl⟩) hS (fun q _ z => hFc q z) hFc (fun r9 M10 t H1 locs ht hvm hw hB hz1 hk1 hS => ?_)
        obtain ⟨hP, hD⟩ := gs_back ht hFc hB
        generalize H1 = H at hP hS ⊢
        have h := hw
        try dsimp only at h
        refine lv_goto (tgt := 27) hx hb dX12_run_22 (by decide) ?_
        exact W.iret (v := r9) hx hb hr (fun t ht hW => ⟨⟨_, M10, rfl, h, by rw [ht]; exact hP, va_K.moved hW.alike hK, hD⟩, hS.F ht⟩) hS.2.2 dX12_run_27
  have hl := lv_entry ([.ref h0, .int p1, .int p2]) (n := 3) (Nat.le_of_ble_eq_true rfl)
  rw [lg_entry_eq]
  generalize (lg_sl ([.ref h0, .int p1, .int p2]) ++ List.replicate (3 - (lg_sl ([.ref h0, .int p1, .int p2])).length) Slot.unset).toArray = ls at hl ⊢
  have hl : lv_has ls 3 [(0, .ref h0), (1, .int p1), (2, .int p2)] := hl
  exact bE M s.heap [] ls hP hD hS hl h
def wX12_keeps_2  (Q : gS → Prop) : Nat → Int32 → gS → Prop
 | 0, _, _ => False
 | n + 1, y1, M => (((44 : Int32) ≤ y1 → (Q M))
 ∧ (¬ (44 : Int32) ≤ y1 → (vp_in y1 44 ∧ (∀ x2 : Int32, x2 = (ma M 25 (Int32.toNatClampNeg y1)) → (vp_in y1 44 ∧ (∀ M3 : gS, M3 = sa M 27 (Int32.toNatClampNeg y1) x2 → (∀ x4 : Int32, x4 = y1 + (1 : Int32) → (wX12_keeps_2  Q n x4 M3))))))))
def wX12_keeps  (M : gS) (Q : gS → Prop) : Prop :=
 (∃ k2 : Nat, wX12_keeps_2  Q k2 (0 : Int32) M)
def rmX12_keeps : Room := { frames := 0, cells := 0, slots := 0, locals := 0 }
set_option maxHeartbeats 4000000 in
set_option maxRecDepth 100000 in
theorem kX12_keeps (l : Launch) (dC : Nat → ClassId) (dI : Nat → Nat → Nat) (cB cI cJ cZ : ClassId) (h0 : Nat) (ad : Nat → Nat) (sz : Nat)  (M : gS) (Q : gS → Prop) (h : wX12_keeps  M Q) : Met l yX12_keeps wsX12_keeps rmX12_keeps (va_Pc [.ref h0] (mI dC dI cB cI cJ cZ h0 ad M sz)) (va_Qv (fun (u : gS) => Q u) (mB dC dI cB cI cJ cZ h0 ad (va_A (mW cB cI cJ cZ h0 ad M) sz)) (va_A (mW cB cI cJ cZ h0 ad M) sz)) 0 0 (va_A (mW cB cI cJ cZ h0 ad M) sz) := by
  refine Met.ofW (cc := cX12_keeps) (maxL := 2) (ret := none) (by decide) rfl ?_
  intro p e s m args below meth c s₁ B hml hv
  obtain ⟨rfl, hsz, hP, hK, hD0⟩ := hv
  have hx := B.exec
  have hb := B.bytes
  have hr := B.returns
  have hts := atoms_spec (ws := wsX12_keeps) B.pre
  have hown : s.vm.findClass RX12 = some m.cls := findClass_of_methodNamed B.named
  have hlocks := B.notSynchronized
  subst hsz
  have hD := hD0.self (sz := s.heap.size)
  generalize hAe : va_A (mW cB cI cJ cZ h0 ad M) s.heap.size = A at hD ⊢
  have hA : ∀ q : Nat, s.heap.size ≤ q → A q := fun q h => by rw [← hAe]; exact Or.inr h
  have hS : va_S A s.heap s.heap [] := va_S.rf
  have hin : ∀ w ∈ wsX120, w ∈ wsX12_keeps := fun w h => List.mem_cons_of_mem _ (List.mem_append_right _ h)
  have f1 := hts (.fieldLink RX12 48 "LastWordsModel" "kept" "[I") (by decide +kernel)
  have f2 := hts (.fieldLink RX12 45 "LastWordsModel" "said" "[I") (by decide +kernel)
  have b2 : ∀ (n : Nat) (y1 : Int32) (M : gS) (H : Heap) (locs : List Loc) (ls : Array Slot), va_P (dC, dI) vwCl (mW cB cI cJ cZ h0 ad M) H → va_D A (mW cB cI cJ cZ h0 ad M) → va_S A s.heap H locs → lv_has ls 2 [(0, .ref h0), (1, .int y1)] → wX12_keeps_2  Q n y1 M → W p l e (headSpec wsX12_keeps rmX12_keeps).room s m ([.ref h0] : List Value).toArray below meth c H locs 0 0 (MQ below (va_Qv (fun (u : gS) => Q u) (mB dC dI cB cI cJ cZ h0 ad A) A) ([.ref h0] : List Value).toArray s 0 0 A) (F0 m 2 ls []) := by
    intro  n
    induction n with
    | zero => intro y1 M H locs ls hP hD hS hl h; exact absurd h (by simp [wX12_keeps_2])
    | succ n hB20 =>
      intro y1 M H locs ls hP hD hS hl h
      have hB2 := hB20
      rw [wX12_keeps_2] at h
      refine lv_iload_n hx hb dX12_keeps_2 rfl (lv_at hl 1 rfl) ?_
      refine lv_bipush (v := (44)) hx hb dX12_keeps_3 (by decide) ?_
      refine lv_icmp_ge (tgt := 26) hx hb dX12_keeps_5 (by decide) (fun c1 => ?_) (fun c1 => ?_)
      · have h := h.1 c1
        exact W.vret hx hb hr (fun t ht hW => ⟨⟨M, rfl, h, by rw [ht]; exact hP, va_K.moved hW.alike hK, hD⟩, hS.F ht⟩) hS.2.2 dX12_keeps_26
      · have h := h.2 c1
        refine lv_aload_n hx hb dX12_keeps_8 rfl (lv_at hl 0 rfl) ?_
        refine va_get (D := (dC, dI)) (ci := 12) (v := .ref (ad 27)) (C := RX12) (T := TX12) (N := 37) hx hb hts hin hown hK hP 0 rfl rfl 27 (by decide) f1 (fun _ h9 => h9) rfl dX12_keeps_9 ?_
        refine lv_iload_n hx hb dX12_keeps_12 rfl (lv_at hl 1 rfl) ?_
        refine lv_aload_n hx hb dX12_keeps_13 rfl (lv_at hl 0 rfl) ?_
        refine va_get (D := (dC, dI)) (ci := 12) (v := .ref (ad 25)) (C := RX12) (T := TX12) (N := 37) hx hb hts hin hown hK hP 0 rfl rfl 25 (by decide) f2 (fun _ h9 => h9) rfl dX12_keeps_14 ?_
        refine lv_iload_n hx hb dX12_keeps_17 rfl (lv_at hl 1 rfl) ?_
        refine va_iald hx hb hK hP 12 1 (f := ma M 25) rfl rfl h.1 dX12_keeps_18 ?_
        have h := h.2
        refine lv_topi (fun x2 ex2 => ?_)
        have h := h x2 ex2
        refine va_iast hx hb hK hP hD hS 13 1 (f := ma M 27) rfl rfl h.1 dX12_keeps_19 (fun H locs hP hD hS => ?_)
        have h := h.2
        have hP := mP_a27 hP
        have hD := mD_a27 hD
        have h := h _ rfl
        generalize sa M 27 (Int32.toNatClampNeg y1) x2 = M3 at hP hD h
        obtain ⟨x4, ex4⟩ : ∃ y : Int32, y = y1 + (1 : Int32) := ⟨_, rfl⟩
        have h := h x4 ex4
        refine lv_iinc (v := x4) (lv' := [(1, .int x4), (0, .ref h0)]) hx hb dX12_keeps_20 hl (k := 1) rfl (by rw [ex4]; rfl) (by decide) rfl (fun ls hl => ?_)
        refine lv_goto (tgt := 2) hx hb dX12_keeps_23 (by decide) ?_
        exact hB2 x4 M3 H locs ls hP hD hS (lv_sub hl [1, 0] rfl) h
  have bE : ∀ (M : gS) (H : Heap) (locs : List Loc) (ls : Array Slot), va_P (dC, dI) vwCl (mW cB cI cJ cZ h0 ad M) H → va_D A (mW cB cI cJ cZ h0 ad M) → va_S A s.heap H locs → lv_has ls 2 [(0, .ref h0)] → wX12_keeps  M Q → W p l e (headSpec wsX12_keeps rmX12_keeps).room s m ([.ref h0] : List Value).toArray below meth c H locs 0 0 (MQ below (va_Qv (fun (u : gS) => Q u) (mB dC dI cB cI cJ cZ h0 ad A) A) ([.ref h0] : List Value).toArray s 0 0 A) (F0 m 0 ls []) := by
    intro M H locs ls hP hD hS hl h
    unfold wX12_keeps at h
    refine lv_iconst (v := 0) hx hb dX12_keeps_0 (by decide) ?_
    refine lv_istore_n (lv' := [(1, .int (0 : Int32)), (0, .ref h0)]) hx hb dX12_keeps_1 rfl hl (by decide) rfl (fun ls hl => ?_)
    obtain ⟨n9, h⟩ := h
    exact b2  n9 (0 : Int32) M H locs ls hP hD hS (lv_sub hl [1, 0] rfl) h
  have hl := lv_entry ([.ref h0]) (n := 2) (Nat.le_of_ble_eq_true rfl)
  rw [lg_entry_eq]
  generalize (lg_sl ([.ref h0]) ++ List.replicate (2 - (lg_sl ([.ref h0])).length) Slot.unset).toArray = ls at hl ⊢
  have hl : lv_has ls 2 [(0, .ref h0)] := hl
  exact bE M s.heap [] ls hP hD hS hl h
def wX12_putsBack_2  (Q : gS → Prop) : Nat → Int32 → gS → Prop
 | 0, _, _ => False
 | n + 1, y1, M => (((44 : Int32) ≤ y1 → (Q M))
 ∧ (¬ (44 : Int32) ≤ y1 → (vp_in y1 44 ∧ (∀ x2 : Int32, x2 = (ma M 27 (Int32.toNatClampNeg y1)) → (vp_in y1 44 ∧ (∀ M3 : gS, M3 = sa M 25 (Int32.toNatClampNeg y1) x2 → (∀ x4 : Int32, x4 = y1 + (1 : Int32) → (wX12_putsBack_2  Q n x4 M3))))))))
def wX12_putsBack  (M : gS) (Q : gS → Prop) : Prop :=
 (∃ k2 : Nat, wX12_putsBack_2  Q k2 (0 : Int32) M)
def rmX12_putsBack : Room := { frames := 0, cells := 0, slots := 0, locals := 0 }
set_option maxHeartbeats 4000000 in
set_option maxRecDepth 100000 in
theorem kX12_putsBack (l : Launch) (dC : Nat → ClassId) (dI : Nat → Nat → Nat) (cB cI cJ cZ : ClassId) (h0 : Nat) (ad : Nat → Nat) (sz : Nat)  (M : gS) (Q : gS → Prop) (h : wX12_putsBack  M Q) : Met l yX12_putsBack wsX12_putsBack rmX12_putsBack (va_Pc [.ref h0] (mI dC dI cB cI cJ cZ h0 ad M sz)) (va_Qv (fun (u : gS) => Q u) (mB dC dI cB cI cJ cZ h0 ad (va_A (mW cB cI cJ cZ h0 ad M) sz)) (va_A (mW cB cI cJ cZ h0 ad M) sz)) 0 0 (va_A (mW cB cI cJ cZ h0 ad M) sz) := by
  refine Met.ofW (cc := cX12_putsBack) (maxL := 2) (ret := none) (by decide) rfl ?_
  intro p e s m args below meth c s₁ B hml hv
  obtain ⟨rfl, hsz, hP, hK, hD0⟩ := hv
  have hx := B.exec
  have hb := B.bytes
  have hr := B.returns
  have hts := atoms_spec (ws := wsX12_putsBack) B.pre
  have hown : s.vm.findClass RX12 = some m.cls := findClass_of_methodNamed B.named
  have hlocks := B.notSynchronized
  subst hsz
  have hD := hD0.self (sz := s.heap.size)
  generalize hAe : va_A (mW cB cI cJ cZ h0 ad M) s.heap.size = A at hD ⊢
  have hA : ∀ q : Nat, s.heap.size ≤ q → A q := fun q h => by rw [← hAe]; exact Or.inr h
  have hS : va_S A s.heap s.heap [] := va_S.rf
  have hin : ∀ w ∈ wsX120, w ∈ wsX12_putsBack := fun w h => List.mem_cons_of_mem _ (List.mem_append_right _ h)
  have f1 := hts (.fieldLink RX12 45 "LastWordsModel" "said" "[I") (by decide +kernel)
  have f2 := hts (.fieldLink RX12 48 "LastWordsModel" "kept" "[I") (by decide +kernel)
  have b2 : ∀ (n : Nat) (y1 : Int32) (M : gS) (H : Heap) (locs : List Loc) (ls : Array Slot), va_P (dC, dI) vwCl (mW cB cI cJ cZ h0 ad M) H → va_D A (mW cB cI cJ cZ h0 ad M) → va_S A s.heap H locs → lv_has ls 2 [(0, .ref h0), (1, .int y1)] → wX12_putsBack_2  Q n y1 M → W p l e (headSpec wsX12_putsBack rmX12_putsBack).room s m ([.ref h0] : List Value).toArray below meth c H locs 0 0 (MQ below (va_Qv (fun (u : gS) => Q u) (mB dC dI cB cI cJ cZ h0 ad A) A) ([.ref h0] : List Value).toArray s 0 0 A) (F0 m 2 ls []) := by
    intro  n
    induction n with
    | zero => intro y1 M H locs ls hP hD hS hl h; exact absurd h (by simp [wX12_putsBack_2])
    | succ n hB20 =>
      intro y1 M H locs ls hP hD hS hl h
      have hB2 := hB20
      rw [wX12_putsBack_2] at h
      refine lv_iload_n hx hb dX12_putsBack_2 rfl (lv_at hl 1 rfl) ?_
      refine lv_bipush (v := (44)) hx hb dX12_putsBack_3 (by decide) ?_
      refine lv_icmp_ge (tgt := 26) hx hb dX12_putsBack_5 (by decide) (fun c1 => ?_) (fun c1 => ?_)
      · have h := h.1 c1
        exact W.vret hx hb hr (fun t ht hW => ⟨⟨M, rfl, h, by rw [ht]; exact hP, va_K.moved hW.alike hK, hD⟩, hS.F ht⟩) hS.2.2 dX12_putsBack_26
      · have h := h.2 c1
        refine lv_aload_n hx hb dX12_putsBack_8 rfl (lv_at hl 0 rfl) ?_
        refine va_get (D := (dC, dI)) (ci := 12) (v := .ref (ad 25)) (C := RX12) (T := TX12) (N := 37) hx hb hts hin hown hK hP 0 rfl rfl 25 (by decide) f1 (fun _ h9 => h9) rfl dX12_putsBack_9 ?_
        refine lv_iload_n hx hb dX12_putsBack_12 rfl (lv_at hl 1 rfl) ?_
        refine lv_aload_n hx hb dX12_putsBack_13 rfl (lv_at hl 0 rfl) ?_
        refine va_get (D := (dC, dI)) (ci := 12) (v := .ref (ad 27)) (C := RX12) (T := TX12) (N := 37) hx hb hts hin hown hK hP 0 rfl rfl 27 (by decide) f2 (fun _ h9 => h9) rfl dX12_putsBack_14 ?_
        refine lv_iload_n hx hb dX12_putsBack_17 rfl (lv_at hl 1 rfl) ?_
        refine va_iald hx hb hK hP 13 1 (f := ma M 27) rfl rfl h.1 dX12_putsBack_18 ?_
        have h := h.2
        refine lv_topi (fun x2 ex2 => ?_)
        have h := h x2 ex2
        refine va_iast hx hb hK hP hD hS 12 1 (f := ma M 25) rfl rfl h.1 dX12_putsBack_19 (fun H locs hP hD hS => ?_)
        have h := h.2
        have hP := mP_a25 hP
        have hD := mD_a25 hD
        have h := h _ rfl
        generalize sa M 25 (Int32.toNatClampNeg y1) x2 = M3 at hP hD h
        obtain ⟨x4, ex4⟩ : ∃ y : Int32, y = y1 + (1 : Int32) := ⟨_, rfl⟩
        have h := h x4 ex4
        refine lv_iinc (v := x4) (lv' := [(1, .int x4), (0, .ref h0)]) hx hb dX12_putsBack_20 hl (k := 1) rfl (by rw [ex4]; rfl) (by decide) rfl (fun ls hl => ?_)
        refine lv_goto (tgt := 2) hx hb dX12_putsBack_23 (by decide) ?_
        exact hB2 x4 M3 H locs ls hP hD hS (lv_sub hl [1, 0] rfl) h
  have bE : ∀ (M : gS) (H : Heap) (locs : List Loc) (ls : Array Slot), va_P (dC, dI) vwCl (mW cB cI cJ cZ h0 ad M) H → va_D A (mW cB cI cJ cZ h0 ad M) → va_S A s.heap H locs → lv_has ls 2 [(0, .ref h0)] → wX12_putsBack  M Q → W p l e (headSpec wsX12_putsBack rmX12_putsBack).room s m ([.ref h0] : List Value).toArray below meth c H locs 0 0 (MQ below (va_Qv (fun (u : gS) => Q u) (mB dC dI cB cI cJ cZ h0 ad A) A) ([.ref h0] : List Value).toArray s 0 0 A) (F0 m 0 ls []) := by
    intro M H locs ls hP hD hS hl h
    unfold wX12_putsBack at h
    refine lv_iconst (v := 0) hx hb dX12_putsBack_0 (by decide) ?_
    refine lv_istore_n (lv' := [(1, .int (0 : Int32)), (0, .ref h0)]) hx hb dX12_putsBack_1 rfl hl (by decide) rfl (fun ls hl => ?_)
    obtain ⟨n9, h⟩ := h
    exact b2  n9 (0 : Int32) M H locs ls hP hD hS (lv_sub hl [1, 0] rfl) h
  have hl := lv_entry ([.ref h0]) (n := 2) (Nat.le_of_ble_eq_true rfl)
  rw [lg_entry_eq]
  generalize (lg_sl ([.ref h0]) ++ List.replicate (2 - (lg_sl ([.ref h0])).length) Slot.unset).toArray = ls at hl ⊢
  have hl : lv_has ls 2 [(0, .ref h0)] := hl
  exact bE M s.heap [] ls hP hD hS hl h
def wX12_would_104  (Q : Int32 → gS → Prop) (z0 : Int32) (M : gS) : Prop :=
 (wX12_putsBack  M (fun (M2 : gS) => (Q z0 M2)))
def wX12_would (p1 : Int32) (p2 : Int32) (p3 : Int32) (M : gS) (Q : Int32 → gS → Prop) : Prop :=
 (wX12_goesOn  M (fun (b3 : Bool) (M2 : gS) => (((bI b3) = 0 → (Q (-2 : Int32) M2))
 ∧ (¬ (bI b3) = 0 → (wX12_areRules p1 p2 M2 (fun (b7 : Bool) (M6 : gS) => (((bI b7) = 0 → (Q (-2 : Int32) M6))
 ∧ (¬ (bI b7) = 0 → (wX12_in (Int32.toInt64 p3) (0 : Int64) (3 : Int64) M6 (fun (b11 : Bool) (M10 : gS) => (((bI b11) = 0 → (Q (-2 : Int32) M10))
 ∧ (¬ (bI b11) = 0 → (wX12_keeps  M10 (fun (M14 : gS) => (wX12_runs p1 p2 M14 (fun (r15 : Int32) (M16 : gS) => ((p3 = 0 → (wX12_would_104  Q r15 M16))
 ∧ (¬ p3 = 0 → ((p3 = (1 : Int32) → (wX12_would_104  Q ((ma M16 25 7) - (ma M16 27 7)) M16))
 ∧ (¬ p3 = (1 : Int32) → ((p3 = (2 : Int32) → (wX12_would_104  Q ((ma M16 25 9) - (ma M16 27 9)) M16))
 ∧ (¬ p3 = (2 : Int32) → (wX12_would_104  Q (ma M16 25 5) M16)))))))))))))))))))))))
def rmX12_would : Room := { frames := 5, cells := 0, slots := 0, locals := 107 }
set_option maxHeartbeats 4000000 in
set_option maxRecDepth 100000 in
theorem kX12_would (l : Launch) (dC : Nat → ClassId) (dI : Nat → Nat → Nat) (cB cI cJ cZ : ClassId) (h0 : Nat) (ad : Nat → Nat) (sz : Nat) (p1 : Int32) (p2 : Int32) (p3 : Int32) (M : gS) (Q : Int32 → gS → Prop) (h : wX12_would p1 p2 p3 M Q) : Met l yX12_would wsX12_would rmX12_would (va_Pc [.ref h0, .int p1, .int p2, .int p3] (mI dC dI cB cI cJ cZ h0 ad M sz)) (va_Qi (fun (r : Int32) (u : gS) => Q r u) (mB dC dI cB cI cJ cZ h0 ad (va_A (mW cB cI cJ cZ h0 ad M) sz)) (va_A (mW cB cI cJ cZ h0 ad M) sz)) 0 0 (va_A (mW cB cI cJ cZ h0 ad M) sz) := by
  refine Met.ofW (cc := cX12_would) (maxL := 6) (ret := (some .int)) (by decide) rfl ?_
  intro p e s m args below meth c s₁ B hml hv
  obtain ⟨rfl, hsz, hP, hK, hD0⟩ := hv
  have hx := B.exec
  have hb := B.bytes
  have hr := B.returns
  have hts := atoms_spec (ws := wsX12_would) B.pre
  have hown : s.vm.findClass RX12 = some m.cls := findClass_of_methodNamed B.named
  have hlocks := B.notSynchronized
  subst hsz
  have hD := hD0.self (sz := s.heap.size)
  generalize hAe : va_A (mW cB cI cJ cZ h0 ad M) s.heap.size = A at hD ⊢
  have hA : ∀ q : Nat, s.heap.size ≤ q → A q := fun q h => by rw [← hAe]; exact Or.inr h
  have hS : va_S A s.heap s.heap [] := va_S.rf
  have hin : ∀ w ∈ wsX120, w ∈ wsX12_would := fun w h => List.mem_cons_of_mem _ (List.mem_append_right _ h)
  have f1 := hts (.constantLong RX12 319 (3)) (by decide +kernel)
  have f2 := hts (.fieldLink RX12 45 "LastWordsModel" "said" "[I") (by decide +kernel)
  have f3 := hts (.fieldLink RX12 48 "LastWordsModel" "kept" "[I") (by decide +kernel)
  have b104 : ∀ (z0 : Int32) (M : gS) (H : Heap) (locs : List Loc) (ls : Array Slot), va_P (dC, dI) vwCl (mW cB cI cJ cZ h0 ad M) H → va_D A (mW cB cI cJ cZ h0 ad M) → va_S A s.heap H locs → lv_has ls 6 [(0, .ref h0)] → wX12_would_104  Q z0 M → W p l e (headSpec wsX12_would rmX12_would).room s m ([.ref h0, .int p1, .int p2, .int p3] : List Value).toArray below meth c H locs 0 0 (MQ below (va_Qi (fun (r : Int32) (u : gS) => Q r u) (mB dC dI cB cI cJ cZ h0 ad A) A) ([.ref h0, .int p1, .int p2, .int p3] : List Value).toArray s 0 0 A) (F0 m 104 ls [.int z0]) := by
    intro  z0 M H locs ls hP hD hS hl h
    unfold wX12_would_104 at h
    refine lv_istore (lv' := [(5, .int z0), (0, .ref h0)]) hx hb dX12_would_104 hl (by decide) rfl (fun ls hl => ?_)
    refine lv_aload_n hx hb dX12_would_106 rfl (lv_at hl 1 rfl) ?_
    have hFc := gs_free hD hS hA
    refine va_callv (va_runV (As := []) (rest := []) ⟨hx, hb, hml, hown, hts⟩ (kX12_putsBack l dC dI cB cI cJ cZ h0 ad H.size  M _ h) (cwV 0 hts gX12_would_X12_putsBack rfl rfl rfl (by decide +kernel) ⟨Nat.le_of_ble_eq_true rfl, Nat.le_of_ble_eq_true rfl⟩) (mpV hK hP hD) rfl rfl hl.1 rfl (lv_room (Nat.le_of_ble_eq_true rfl)) dX12_would_107 ⟨Nat.le_of_ble_eq_true rfl, Nat.le_of_ble_eq_true rfl⟩) hS (fun q _ z => hFc q z) hFc (fun M2 t H1 locs ht hvm hw hB hz1 hk1 hS => ?_)
    obtain ⟨hP, hD⟩ := gs_back ht hFc hB
    generalize H1 = H at hP hS ⊢
    have h := hw
    try dsimp only at h
    refine lv_iload hx hb dX12_would_110 (lv_at hl 0 rfl) ?_
    exact W.iret (v := z0) hx hb hr (fun t ht hW => ⟨⟨_, M2, rfl, h, by rw [ht]; exact hP, va_K.moved hW.alike hK, hD⟩, hS.F ht⟩) hS.2.2 dX12_would_112
  have bE : ∀ (M : gS) (H : Heap) (locs : List Loc) (ls : Array Slot), va_P (dC, dI) vwCl (mW cB cI cJ cZ h0 ad M) H → va_D A (mW cB cI cJ cZ h0 ad M) → va_S A s.heap H locs → lv_has ls 6 [(0, .ref h0), (1, .int p1), (2, .int p2), (3, .int p3)] → wX12_would p1 p2 p3 M Q → W p l e (headSpec wsX12_would rmX12_would).room s m ([.ref h0, .int p1, .int p2, .int p3] : List Value).toArray below meth c H locs 0 0 (MQ below (va_Qi (fun (r : Int32) (u : gS) => Q r u) (mB dC dI cB cI cJ cZ h0 ad A) A) ([.ref h0, .int p1, .int p2, .int p3] : List Value).toArray s 0 0 A) (F0 m 0 ls []) := by
    intro M H locs ls hP hD hS hl h
    unfold wX12_would at h
    refine lv_aload_n hx hb dX12_would_0 rfl (lv_at hl 0 rfl) ?_
    have hFc := gs_free hD hS hA
    refine va_calli (va_runV (As := []) (rest := []) ⟨hx, hb, hml, hown, hts⟩ (kX12_goesOn l dC dI cB cI cJ cZ h0 ad H.size  M _ h) (cwV 0 hts gX12_would_X12_goesOn rfl rfl rfl (by decide +kernel) ⟨Nat.le_of_ble_eq_true rfl, Nat.le_of_ble_eq_true rfl⟩) (mpV hK hP hD) rfl rfl hl.1 rfl (lv_room (Nat.le_of_ble_eq_true rfl)) dX12_would_1 ⟨Nat.le_of_ble_eq_true rfl, Nat.le_of_ble_eq_true rfl⟩) hS (fun q _ z => hFc q z) hFc (fun r1 M2 t H1 locs ht hvm hw hB hz1 hk1 hS => ?_)
    obtain ⟨hP, hD⟩ := gs_back ht hFc hB
    generalize H1 = H at hP hS ⊢
    obtain ⟨b3, rfl, h⟩ := hw
    try dsimp only at h
    refine lv_if_eq (tgt := 28) hx hb dX12_would_4 (by decide) (fun c4 => ?_) (fun c4 => ?_)
    · have h := h.1 c4
      refine lv_bipush (v := (-2)) hx hb dX12_would_28 (by decide) ?_
      exact W.iret (v := (-2 : Int32)) hx hb hr (fun t ht hW => ⟨⟨_, M2, rfl, h, by rw [ht]; exact hP, va_K.moved hW.alike hK, hD⟩, hS.F ht⟩) hS.2.2 dX12_would_30
    · have h := h.2 c4
      refine lv_aload_n hx hb dX12_would_7 rfl (lv_at hl 0 rfl) ?_
      refine lv_iload_n hx hb dX12_would_8 rfl (lv_at hl 1 rfl) ?_
      refine lv_iload_n hx hb dX12_would_9 rfl (lv_at hl 2 rfl) ?_
      have hFc := gs_free hD hS hA
      refine va_calli (va_runV (As := [.int p1, .int p2]) (rest := []) ⟨hx, hb, hml, hown, hts⟩ (kX12_areRules l dC dI cB cI cJ cZ h0 ad H.size p1 p2 M2 _ h) (cwV 2 hts gX12_would_X12_areRules rfl rfl rfl (by decide +kernel) ⟨Nat.le_of_ble_eq_true rfl, Nat.le_of_ble_eq_true rfl⟩) (mpV hK hP hD) rfl rfl hl.1 rfl (lv_room (Nat.le_of_ble_eq_true rfl)) dX12_would_10 ⟨Nat.le_of_ble_eq_true rfl, Nat.le_of_ble_eq_true rfl⟩) hS (fun q _ z => hFc q z) hFc (fun r5 M6 t H1 locs ht hvm hw hB hz1 hk1 hS => ?_)
      obtain ⟨hP, hD⟩ := gs_back ht hFc hB
      generalize H1 = H at hP hS ⊢
      obtain ⟨b7, rfl, h⟩ := hw
      try dsimp only at h
      refine lv_if_eq (tgt := 28) hx hb dX12_would_13 (by decide) (fun c8 => ?_) (fun c8 => ?_)
      · have h := h.1 c8
        refine lv_bipush (v := (-2)) hx hb dX12_would_28 (by decide) ?_
        exact W.iret (v := (-2 : Int32)) hx hb hr (fun t ht hW => ⟨⟨_, M6, rfl, h, by rw [ht]; exact hP, va_K.moved hW.alike hK, hD⟩, hS.F ht⟩) hS.2.2 dX12_would_30
      · have h := h.2 c8
        refine lv_iload_n hx hb dX12_would_16 rfl (lv_at hl 3 rfl) ?_
        refine lv_i2l hx hb dX12_would_17 rfl ?_
        refine lv_lconst (v := 0) hx hb dX12_would_18 (by decide) ?_
        refine lv_ldc2 (v := (3)) hx hb hown f1 dX12_would_19 ?_
        have hFc := gs_free hD hS hA
        refine va_calli (va_runS (As := [.long (Int32.toInt64 p3), .long (0 : Int64), .long (3 : Int64)]) (rest := []) ⟨hx, hb, hml, hown, hts⟩ (kX12_in l dC dI cB cI cJ cZ h0 ad H.size (Int32.toInt64 p3) (0 : Int64) (3 : Int64) M6 _ h) (cwS 3 hts gX12_would_X12_in rfl rfl rfl (by decide +kernel) ⟨Nat.le_of_ble_eq_true rfl, Nat.le_of_ble_eq_true rfl⟩) (mpS hK hP hD) rfl rfl hl.1 rfl (lv_room (Nat.le_of_ble_eq_true rfl)) dX12_would_22 ⟨Nat.le_of_ble_eq_true rfl, Nat.le_of_ble_eq_true rfl⟩) hS (fun q _ z => hFc q z) hFc (fun r9 M10 t H1 locs ht hvm hw hB hz1 hk1 hS => ?_)
        obtain ⟨hP, hD⟩ := gs_back ht hFc hB
        generalize H1 = H at hP hS ⊢
        obtain ⟨b11, rfl, h⟩ := hw
        try dsimp only at h
        refine lv_if_ne (tgt := 31) hx hb dX12_would_25 (by decide) (fun c12 => ?_) (fun c12 => ?_)
        · have h := h.2 c12
          refine lv_aload_n hx hb dX12_would_31 rfl (lv_at hl 0 rfl) ?_
          have hFc := gs_free hD hS hA
          refine va_callv (va_runV (As := []) (rest := []) ⟨hx, hb, hml, hown, hts⟩ (kX12_keeps l dC dI cB cI cJ cZ h0 ad H.size  M10 _ h) (cwV 0 hts gX12_would_X12_keeps rfl rfl rfl (by decide +kernel) ⟨Nat.le_of_ble_eq_true rfl, Nat.le_of_ble_eq_true rfl⟩) (mpV hK hP hD) rfl rfl hl.1 rfl (lv_room (Nat.le_of_ble_eq_true rfl)) dX12_would_32 ⟨Nat.le_of_ble_eq_true rfl, Nat.le_of_ble_eq_true rfl⟩) hS (fun q _ z => hFc q z) hFc (fun M14 t H1 locs ht hvm hw hB hz1 hk1 hS => ?_)
          obtain ⟨hP, hD⟩ := gs_back ht hFc hB
          generalize H1 = H at hP hS ⊢
          have h := hw
          try dsimp only at h
          refine lv_aload_n hx hb dX12_would_35 rfl (lv_at hl 0 rfl) ?_
          refine lv_iload_n hx hb dX12_would_36 rfl (lv_at hl 1 rfl) ?_
          refine lv_iload_n hx hb dX12_would_37 rfl (lv_at hl 2 rfl) ?_
          have hFc := gs_free hD hS hA
          refine va_calli (va_runV (As := [.int p1, .int p2]) (rest := []) ⟨hx, hb, hml, hown, hts⟩ (kX12_runs l dC dI cB cI cJ cZ h0 ad H.size p1 p2 M14 _ h) (cwV 2 hts gX12_would_X12_runs rfl rfl rfl (by decide +kernel) ⟨Nat.le_of_ble_eq_true rfl, Nat.le_of_ble_eq_true rfl⟩) (mpV hK hP hD) rfl rfl hl.1 rfl (lv_room (Nat.le_of_ble_eq_true rfl)) dX12_would_38 ⟨Nat.le_of_ble_eq_true rfl, Nat.le_of_ble_eq_true rfl⟩) hS (fun q _ z => hFc q z) hFc (fun r15 M16 t H1 locs ht hvm hw hB hz1 hk1 hS => ?_)
          obtain ⟨hP, hD⟩ := gs_back ht hFc hB
          generalize H1 = H at hP hS ⊢
          have h := hw
          try dsimp only at h
          refine lv_istore (lv' := [(4, .int r15), (0, .ref h0), (1, .int p1), (2, .int p2), (3, .int p3)]) hx hb dX12_would_41 hl (by decide) rfl (fun ls hl => ?_)
          refine lv_iload_n hx hb dX12_would_43 rfl (lv_at hl 4 rfl) ?_
          refine lv_if_ne (tgt := 52) hx hb dX12_would_44 (by decide) (fun c17 => ?_) (fun c17 => ?_)
          · have h := h.2 c17
            refine lv_iload_n hx hb dX12_would_52 rfl (lv_at hl 4 rfl) ?_
            refine lv_iconst (v := 1) hx hb dX12_would_53 (by decide) ?_
            refine lv_icmp_ne (tgt := 75) hx hb dX12_would_54 (by decide) (fun c18 => ?_) (fun c18 => ?_)
            · have h := h.2 c18
              refine lv_iload_n hx hb dX12_would_75 rfl (lv_at hl 4 rfl) ?_
              refine lv_iconst (v := 2) hx hb dX12_would_76 (by decide) ?_
              refine lv_icmp_ne (tgt := 98) hx hb dX12_would_77 (by decide) (fun c19 => ?_) (fun c19 => ?_)
              · have h := h.2 c19
                refine lv_aload_n hx hb dX12_would_98 rfl (lv_at hl 1 rfl) ?_
                refine va_get (D := (dC, dI)) (ci := 12) (v := .ref (ad 25)) (C := RX12) (T := TX12) (N := 37) hx hb hts hin hown hK hP 0 rfl rfl 25 (by decide) f2 (fun _ h9 => h9) rfl dX12_would_99 ?_
                refine lv_iconst (v := 5) hx hb dX12_would_102 (by decide) ?_
                refine wc_iald (j := 5) hx hb hK hP 12 1 (f := ma M16 25) rfl rfl (by decide) (by decide) (by decide) dX12_would_103 ?_
                exact b104  (ma M16 25 5) M16 H locs ls hP hD hS (lv_sub hl [1] rfl) h
              · have h := h.1 c19
                refine lv_aload_n hx hb dX12_would_80 rfl (lv_at hl 1 rfl) ?_
                refine va_get (D := (dC, dI)) (ci := 12) (v := .ref (ad 25)) (C := RX12) (T := TX12) (N := 37) hx hb hts hin hown hK hP 0 rfl rfl 25 (by decide) f2 (fun _ h9 => h9) rfl dX12_would_81 ?_
                refine lv_bipush (v := (9)) hx hb dX12_would_84 (by decide) ?_
                refine wc_iald (j := 9) hx hb hK hP 12 1 (f := ma M16 25) rfl rfl (by decide) (by decide) (by decide) dX12_would_86 ?_
                refine lv_aload_n hx hb dX12_would_87 rfl (lv_at hl 1 rfl) ?_
                refine va_get (D := (dC, dI)) (ci := 12) (v := .ref (ad 27)) (C := RX12) (T := TX12) (N := 37) hx hb hts hin hown hK hP 0 rfl rfl 27 (by decide) f3 (fun _ h9 => h9) rfl dX12_would_88 ?_
                refine lv_bipush (v := (9)) hx hb dX12_would_91 (by decide) ?_
                refine wc_iald (j := 9) hx hb hK hP 13 1 (f := ma M16 27) rfl rfl (by decide) (by decide) (by decide) dX12_would_93 ?_
                refine lv_isub hx hb dX12_would_94 ?_
                refine lv_goto (tgt := 104) hx hb dX12_would_95 (by decide) ?_
                exact b104  ((ma M16 25 9) - (ma M16 27 9)) M16 H locs ls hP hD hS (lv_sub hl [1] rfl) h
            · have h := h.1 c18
              refine lv_aload_n hx hb dX12_would_57 rfl (lv_at hl 1 rfl) ?_
              refine va_get (D := (dC, dI)) (ci := 12) (v := .ref (ad 25)) (C := RX12) (T := TX12) (N := 37) hx hb hts hin hown hK hP 0 rfl rfl 25 (by decide) f2 (fun _ h9 => h9) rfl dX12_would_58 ?_
              refine lv_bipush (v := (7)) hx hb dX12_would_61 (by decide) ?_
              refine wc_iald (j := 7) hx hb hK hP 12 1 (f := ma M16 25) rfl rfl (by decide) (by decide) (by decide) dX12_would_63 ?_
              refine lv_aload_n hx hb dX12_would_64 rfl (lv_at hl 1 rfl) ?_
              refine va_get (D := (dC, dI)) (ci := 12) (v := .ref (ad 27)) (C := RX12) (T := TX12) (N := 37) hx hb hts hin hown hK hP 0 rfl rfl 27 (by decide) f3 (fun _ h9 => h9) rfl dX12_would_65 ?_
              refine lv_bipush (v := (7)) hx hb dX12_would_68 (by decide) ?_
              refine wc_iald (j := 7) hx hb hK hP 13 1 (f := ma M16 27) rfl rfl (by decide) (by decide) (by decide) dX12_would_70 ?_
              refine lv_isub hx hb dX12_would_71 ?_
              refine lv_goto (tgt := 104) hx hb dX12_would_72 (by decide) ?_
              exact b104  ((ma M16 25 7) - (ma M16 27 7)) M16 H locs ls hP hD hS (lv_sub hl [1] rfl) h
          · have h := h.1 c17
            refine lv_iload hx hb dX12_would_47 (lv_at hl 0 rfl) ?_
            refine lv_goto (tgt := 104) hx hb dX12_would_49 (by decide) ?_
            exact b104  r15 M16 H locs ls hP hD hS (lv_sub hl [1] rfl) h
        · have h := h.1 c12
          refine lv_bipush (v := (-2)) hx hb dX12_would_28 (by decide) ?_
          exact W.iret (v := (-2 : Int32)) hx hb hr (fun t ht hW => ⟨⟨_, M10, rfl, h, by rw [ht]; exact hP, va_K.moved hW.alike hK, hD⟩, hS.F ht⟩) hS.2.2 dX12_would_30
  have hl := lv_entry ([.ref h0, .int p1, .int p2, .int p3]) (n := 6) (Nat.le_of_ble_eq_true rfl)
  rw [lg_entry_eq]
  generalize (lg_sl ([.ref h0, .int p1, .int p2, .int p3]) ++ List.replicate (6 - (lg_sl ([.ref h0, .int p1, .int p2, .int p3])).length) Slot.unset).toArray = ls at hl ⊢
  have hl : lv_has ls 6 [(0, .ref h0), (1, .int p1), (2, .int p2), (3, .int p3)] := hl
  exact bE M s.heap [] ls hP hD hS hl h
