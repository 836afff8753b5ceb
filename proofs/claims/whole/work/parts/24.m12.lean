def wX12_seed (p1 : Int32) (M : gS) (Q : Int32 → gS → Prop) : Prop :=
 ((0 ≤ p1 → (∀ x2 : Int32, x2 = (ma M 25 11) → (∀ M3 : gS, M3 = sa M 25 11 p1 → (Q x2 M3))))
 ∧ (¬ 0 ≤ p1 → (Q (-1 : Int32) M)))
def rmX12_seed : Room := { frames := 0, cells := 0, slots := 0, locals := 0 }
set_option maxHeartbeats 4000000 in
set_option maxRecDepth 100000 in
theorem kX12_seed (l : Launch) (dC : Nat → ClassId) (dI : Nat → Nat → Nat) (cB cI cJ cZ : ClassId) (h0 : Nat) (ad : Nat → Nat) (sz : Nat) (p1 : Int32) (M : gS) (Q : Int32 → gS → Prop) (h : wX12_seed p1 M Q) : Met l yX12_seed wsX12_seed rmX12_seed (va_Pc [.ref h0, .int p1] (mI dC dI cB cI cJ cZ h0 ad M sz)) (va_Qi (fun (r : Int32) (u : gS) => Q r u) (mB dC dI cB cI cJ cZ h0 ad (va_A (mW cB cI cJ cZ h0 ad M) sz)) (va_A (mW cB cI cJ cZ h0 ad M) sz)) 0 0 (va_A (mW cB cI cJ cZ h0 ad M) sz) := by
  refine Met.ofW (cc := cX12_seed) (maxL := 3) (ret := (some .int)) (by decide) rfl ?_
  intro p e s m args below meth c s₁ B hml hv
  obtain ⟨rfl, hsz, hP, hK, hD0⟩ := hv
  have hx := B.exec
  have hb := B.bytes
  have hr := B.returns
  have hts := atoms_spec (ws := wsX12_seed) B.pre
  have hown : s.vm.findClass RX12 = some m.cls := findClass_of_methodNamed B.named
  have hlocks := B.notSynchronized
  subst hsz
  have hD := hD0.self (sz := s.heap.size)
  generalize hAe : va_A (mW cB cI cJ cZ h0 ad M) s.heap.size = A at hD ⊢
  have hA : ∀ q : Nat, s.heap.size ≤ q → A q := fun q h => by rw [← hAe]; exact Or.inr h
  have hS : va_S A s.heap s.heap [] := va_S.rf
  have hin : ∀ w ∈ wsX120, w ∈ wsX12_seed := fun w h => List.mem_cons_of_mem _ (List.mem_append_right _ h)
  have f1 := hts (.fieldLink RX12 45 "LastWordsModel" "said" "[I") (by decide +kernel)
  have bE : ∀ (M : gS) (H : Heap) (locs : List Loc) (ls : Array Slot), va_P (dC, dI) vwCl (mW cB cI cJ cZ h0 ad M) H → va_D A (mW cB cI cJ cZ h0 ad M) → va_S A s.heap H locs → lv_has ls 3 [(0, .ref h0), (1, .int p1)] → wX12_seed p1 M Q → W p l e (headSpec wsX12_seed rmX12_seed).room s m ([.ref h0, .int p1] : List Value).toArray below meth c H locs 0 0 (MQ below (va_Qi (fun (r : Int32) (u : gS) => Q r u) (mB dC dI cB cI cJ cZ h0 ad A) A) ([.ref h0, .int p1] : List Value).toArray s 0 0 A) (F0 m 0 ls []) := by
    intro M H locs ls hP hD hS hl h
    unfold wX12_seed at h
    refine lv_iload_n hx hb dX12_seed_0 rfl (lv_at hl 1 rfl) ?_
    refine lv_if_ge (tgt := 6) hx hb dX12_seed_1 (by decide) (fun c1 => ?_) (fun c1 => ?_)
    · have h := h.1 c1
      refine lv_aload_n hx hb dX12_seed_6 rfl (lv_at hl 0 rfl) ?_
      refine va_get (D := (dC, dI)) (ci := 12) (v := .ref (ad 25)) (C := RX12) (T := TX12) (N := 37) hx hb hts hin hown hK hP 0 rfl rfl 25 (by decide) f1 (fun _ h9 => h9) rfl dX12_seed_7 ?_
      refine lv_bipush (v := (11)) hx hb dX12_seed_10 (by decide) ?_
      refine wc_iald (j := 11) hx hb hK hP 12 1 (f := ma M 25) rfl rfl (by decide) (by decide) (by decide) dX12_seed_12 ?_
      refine lv_topi (fun x2 ex2 => ?_)
      have h := h x2 ex2
      refine lv_istore_n (lv' := [(2, .int x2), (0, .ref h0), (1, .int p1)]) hx hb dX12_seed_13 rfl hl (by decide) rfl (fun ls hl => ?_)
      refine lv_aload_n hx hb dX12_seed_14 rfl (lv_at hl 1 rfl) ?_
      refine va_get (D := (dC, dI)) (ci := 12) (v := .ref (ad 25)) (C := RX12) (T := TX12) (N := 37) hx hb hts hin hown hK hP 0 rfl rfl 25 (by decide) f1 (fun _ h9 => h9) rfl dX12_seed_15 ?_
      refine lv_bipush (v := (11)) hx hb dX12_seed_18 (by decide) ?_
      refine lv_iload_n hx hb dX12_seed_20 rfl (lv_at hl 2 rfl) ?_
      refine wc_iast (j := 11) hx hb hK hP hD hS 12 1 (f := ma M 25) rfl rfl (by decide) (by decide) (by decide) dX12_seed_21 (fun H locs hP hD hS => ?_)
      have hP := mP_a25 hP
      have hD := mD_a25 hD
      have h := h _ rfl
      generalize sa M 25 11 p1 = M3 at hP hD h
      refine lv_iload_n hx hb dX12_seed_22 rfl (lv_at hl 0 rfl) ?_
      exact W.iret (v := x2) hx hb hr (fun t ht hW => ⟨⟨_, M3, rfl, h, by rw [ht]; exact hP, va_K.moved hW.alike hK, hD⟩, hS.F ht⟩) hS.2.2 dX12_seed_23
    · have h := h.2 c1
      refine lv_iconst (v := (-1)) hx hb dX12_seed_4 (by decide) ?_
      exact W.iret (v := (-1 : Int32)) hx hb hr (fun t ht hW => ⟨⟨_, M, rfl, h, by rw [ht]; exact hP, va_K.moved hW.alike hK, hD⟩, hS.F ht⟩) hS.2.2 dX12_seed_5
  have hl := lv_entry ([.ref h0, .int p1]) (n := 3) (Nat.le_of_ble_eq_true rfl)
  rw [lg_entry_eq]
  generalize (lg_sl ([.ref h0, .int p1]) ++ List.replicate (3 - (lg_sl ([.ref h0, .int p1])).length) Slot.unset).toArray = ls at hl ⊢
  have hl : lv_has ls 3 [(0, .ref h0), (1, .int p1)] := hl
  exact bE M s.heap [] ls hP hD hS hl h
def wX12_draw (p1 : Int32) (M : gS) (Q : Int32 → gS → Prop) : Prop :=
 (∀ x1 : Int64, x1 = ((((mx M 33) * (1103515245 : Int64)) + (12345 : Int64)) - (((mx M 33) * (1103515245 : Int64)) + (12345 : Int64)) / (2147483648 : Int64) * (2147483648 : Int64)) → (∀ M2 : gS, M2 = sx M 33 x1 → (¬ (Int32.toInt64 p1) = 0 ∧ (Q (Int64.toInt32 (((mx M2 33) / (65536 : Int64)) - ((mx M2 33) / (65536 : Int64)) / (Int32.toInt64 p1) * (Int32.toInt64 p1))) M2))))
def rmX12_draw : Room := { frames := 0, cells := 0, slots := 0, locals := 0 }
set_option maxHeartbeats 4000000 in
set_option maxRecDepth 100000 in
theorem kX12_draw (l : Launch) (dC : Nat → ClassId) (dI : Nat → Nat → Nat) (cB cI cJ cZ : ClassId) (h0 : Nat) (ad : Nat → Nat) (sz : Nat) (p1 : Int32) (M : gS) (Q : Int32 → gS → Prop) (h : wX12_draw p1 M Q) : Met l yX12_draw wsX12_draw rmX12_draw (va_Pc [.ref h0, .int p1] (mI dC dI cB cI cJ cZ h0 ad M sz)) (va_Qi (fun (r : Int32) (u : gS) => Q r u) (mB dC dI cB cI cJ cZ h0 ad (va_A (mW cB cI cJ cZ h0 ad M) sz)) (va_A (mW cB cI cJ cZ h0 ad M) sz)) 0 0 (va_A (mW cB cI cJ cZ h0 ad M) sz) := by
  refine Met.ofW (cc := cX12_draw) (maxL := 2) (ret := (some .int)) (by decide) rfl ?_
  intro p e s m args below meth c s₁ B hml hv
  obtain ⟨rfl, hsz, hP, hK, hD0⟩ := hv
  have hx := B.exec
  have hb := B.bytes
  have hr := B.returns
  have hts := atoms_spec (ws := wsX12_draw) B.pre
  have hown : s.vm.findClass RX12 = some m.cls := findClass_of_methodNamed B.named
  have hlocks := B.notSynchronized
  subst hsz
  have hD := hD0.self (sz := s.heap.size)
  generalize hAe : va_A (mW cB cI cJ cZ h0 ad M) s.heap.size = A at hD ⊢
  have hA : ∀ q : Nat, s.heap.size ≤ q → A q := fun q h => by rw [← hAe]; exact Or.inr h
  have hS : va_S A s.heap s.heap [] := va_S.rf
  have hin : ∀ w ∈ wsX120, w ∈ wsX12_draw := fun w h => List.mem_cons_of_mem _ (List.mem_append_right _ h)
  have f1 := hts (.fieldLink RX12 409 "LastWordsModel" "drawX" "J") (by decide +kernel)
  have f2 := hts (.constantLong RX12 413 (1103515245)) (by decide +kernel)
  have f3 := hts (.constantLong RX12 415 (12345)) (by decide +kernel)
  have f4 := hts (.constantLong RX12 417 (2147483648)) (by decide +kernel)
  have f5 := hts (.constantLong RX12 419 (65536)) (by decide +kernel)
  have bE : ∀ (M : gS) (H : Heap) (locs : List Loc) (ls : Array Slot), va_P (dC, dI) vwCl (mW cB cI cJ cZ h0 ad M) H → va_D A (mW cB cI cJ cZ h0 ad M) → va_S A s.heap H locs → lv_has ls 2 [(0, .ref h0), (1, .int p1)] → wX12_draw p1 M Q → W p l e (headSpec wsX12_draw rmX12_draw).room s m ([.ref h0, .int p1] : List Value).toArray below meth c H locs 0 0 (MQ below (va_Qi (fun (r : Int32) (u : gS) => Q r u) (mB dC dI cB cI cJ cZ h0 ad A) A) ([.ref h0, .int p1] : List Value).toArray s 0 0 A) (F0 m 0 ls []) := by
    intro M H locs ls hP hD hS hl h
    unfold wX12_draw at h
    refine lv_aload_n hx hb dX12_draw_0 rfl (lv_at hl 0 rfl) ?_
    refine lv_aload_n hx hb dX12_draw_1 rfl (lv_at hl 0 rfl) ?_
    refine va_get (D := (dC, dI)) (ci := 12) (v := .long (mx M 33)) (C := RX12) (T := TX12) (N := 37) hx hb hts hin hown hK hP 0 rfl rfl 33 (by decide) f1 (fun _ h9 => h9) rfl dX12_draw_2 ?_
    refine lv_ldc2 (v := (1103515245)) hx hb hown f2 dX12_draw_5 ?_
    refine lv_lmul hx hb dX12_draw_8 ?_
    refine lv_ldc2 (v := (12345)) hx hb hown f3 dX12_draw_9 ?_
    refine lv_ladd hx hb dX12_draw_12 ?_
    refine lv_ldc2 (v := (2147483648)) hx hb hown f4 dX12_draw_13 ?_
    refine lv_lrem hx hb dX12_draw_16 (by decide) ?_
    refine lv_topl (fun x1 ex1 => ?_)
    have h := h x1 ex1
    refine va_put (D := (dC, dI)) (ci := 12) (v := .long x1) (ty := .long) (C := RX12) (T := TX12) (N := 37) hx hb hts hin tyX12 tyX12_ok nmX12 hown hK hP hD hS 0 rfl rfl 33 (by decide) f1 (fun _ h9 => h9) rfl (by decide +kernel) rfl rfl (Nat.le_of_ble_eq_true rfl) dX12_draw_17 (fun H locs hP hD hS => ?_)
    have hP := mP_f33 hP
    have hD := mD_f33 hD
    have h := h _ rfl
    generalize sx M 33 x1 = M2 at hP hD h
    refine lv_aload_n hx hb dX12_draw_20 rfl (lv_at hl 0 rfl) ?_
    refine va_get (D := (dC, dI)) (ci := 12) (v := .long (mx M2 33)) (C := RX12) (T := TX12) (N := 37) hx hb hts hin hown hK hP 0 rfl rfl 33 (by decide) f1 (fun _ h9 => h9) rfl dX12_draw_21 ?_
    refine lv_ldc2 (v := (65536)) hx hb hown f5 dX12_draw_24 ?_
    refine lv_ldiv hx hb dX12_draw_27 (by decide) ?_
    refine lv_iload_n hx hb dX12_draw_28 rfl (lv_at hl 1 rfl) ?_
    refine lv_i2l hx hb dX12_draw_29 rfl ?_
    refine lv_lrem hx hb dX12_draw_30 h.1 ?_
    have h := h.2
    refine lv_l2i hx hb dX12_draw_31 rfl ?_
    exact W.iret (v := (Int64.toInt32 (((mx M2 33) / (65536 : Int64)) - ((mx M2 33) / (65536 : Int64)) / (Int32.toInt64 p1) * (Int32.toInt64 p1)))) hx hb hr (fun t ht hW => ⟨⟨_, M2, rfl, h, by rw [ht]; exact hP, va_K.moved hW.alike hK, hD⟩, hS.F ht⟩) hS.2.2 dX12_draw_32
  have hl := lv_entry ([.ref h0, .int p1]) (n := 2) (Nat.le_of_ble_eq_true rfl)
  rw [lg_entry_eq]
  generalize (lg_sl ([.ref h0, .int p1]) ++ List.replicate (2 - (lg_sl ([.ref h0, .int p1])).length) Slot.unset).toArray = ls at hl ⊢
  have hl : lv_has ls 2 [(0, .ref h0), (1, .int p1)] := hl
  exact bE M s.heap [] ls hP hD hS hl h
def wX12_fillsFirsts_91 (B23 : Int32 → gS → Prop) (B44 : Int32 → Int32 → gS → Prop) (B52 : Int32 → Int32 → Int32 → gS → Prop) (Q : gS → Prop) (y1 : Int32) (y2 : Int32) (y3 : Int32) (z2 : Int32) (z1 : Int32) (z0 : Int32) (M : gS) : Prop :=
 (∀ x1 : Int32, x1 = (z1 ||| z0) → (vp_in z2 64 ∧ (∀ M2 : gS, M2 = sa M 34 (Int32.toNatClampNeg z2) x1 → (∀ x3 : Int32, x3 = y3 + (1 : Int32) → (B52 y1 y2 x3 M2)))))
def wX12_fillsFirsts_52 (B23 : Int32 → gS → Prop) (B44 : Int32 → Int32 → gS → Prop) (Q : gS → Prop) : Nat → Int32 → Int32 → Int32 → gS → Prop
 | 0, _, _, _, _ => False
 | n + 1, y1, y2, y3, M => (((7 : Int32) < y3 → (∀ x2 : Int32, x2 = y2 + (1 : Int32) → (B44 y1 x2 M)))
 ∧ (¬ (7 : Int32) < y3 → (vp_in (((8 : Int32) * y2) + y3) 64 ∧ (wX12_verseOf y1 M (fun (r3 : Int32) (M4 : gS) => (wX12_isFirsts r3 y2 y3 M4 (fun (b7 : Bool) (M6 : gS) => (((bI b7) = 0 → (wX12_fillsFirsts_91 B23 B44 (fun (y1 : Int32) (y2 : Int32) (y3 : Int32) (M : gS) => wX12_fillsFirsts_52 B23 B44 Q n y1 y2 y3 M) Q y1 y2 y3 (((8 : Int32) * y2) + y3) (ma M 34 (Int32.toNatClampNeg (((8 : Int32) * y2) + y3))) (0 : Int32) M6))
 ∧ (¬ (bI b7) = 0 → (wX12_fillsFirsts_91 B23 B44 (fun (y1 : Int32) (y2 : Int32) (y3 : Int32) (M : gS) => wX12_fillsFirsts_52 B23 B44 Q n y1 y2 y3 M) Q y1 y2 y3 (((8 : Int32) * y2) + y3) (ma M 34 (Int32.toNatClampNeg (((8 : Int32) * y2) + y3))) ((1 : Int32) <<< (y1 &&& 31)) M6))))))))))
def wX12_fillsFirsts_44 (B23 : Int32 → gS → Prop) (Q : gS → Prop) : Nat → Int32 → Int32 → gS → Prop
 | 0, _, _, _ => False
 | n + 1, y1, y2, M => (((7 : Int32) < y2 → (∀ x2 : Int32, x2 = y1 + (1 : Int32) → (B23 x2 M)))
 ∧ (¬ (7 : Int32) < y2 → (∃ k52 : Nat, wX12_fillsFirsts_52 B23 (fun (y1 : Int32) (y2 : Int32) (M : gS) => wX12_fillsFirsts_44 B23 Q n y1 y2 M) Q k52 y1 y2 (0 : Int32) M)))
def wX12_fillsFirsts_23  (Q : gS → Prop) : Nat → Int32 → gS → Prop
 | 0, _, _ => False
 | n + 1, y1, M => (((ma M 25 0) ≤ y1 → (Q M))
 ∧ (¬ (ma M 25 0) ≤ y1 → (wX12_verseOf y1 M (fun (r2 : Int32) (M3 : gS) => (wX12_fillsTable r2 M3 (fun (M5 : gS) => (∃ k44 : Nat, wX12_fillsFirsts_44 (fun (y1 : Int32) (M : gS) => wX12_fillsFirsts_23  Q n y1 M) Q k44 y1 (0 : Int32) M5)))))))
def wX12_fillsFirsts_2  (Q : gS → Prop) : Nat → Int32 → gS → Prop
 | 0, _, _ => False
 | n + 1, y1, M => (((64 : Int32) ≤ y1 → (∃ k23 : Nat, wX12_fillsFirsts_23  Q k23 (0 : Int32) M))
 ∧ (¬ (64 : Int32) ≤ y1 → (vp_in y1 64 ∧ (∀ M2 : gS, M2 = sa M 34 (Int32.toNatClampNeg y1) (0 : Int32) → (∀ x3 : Int32, x3 = y1 + (1 : Int32) → (wX12_fillsFirsts_2  Q n x3 M2))))))
def wX12_fillsFirsts  (M : gS) (Q : gS → Prop) : Prop :=
 (∃ k2 : Nat, wX12_fillsFirsts_2  Q k2 (0 : Int32) M)
def rmX12_fillsFirsts : Room := { frames := 5, cells := 0, slots := 0, locals := 126 }
set_option maxHeartbeats 4000000 in
set_option maxRecDepth 100000 in
theorem kX12_fillsFirsts (l : Launch) (dC : Nat → ClassId) (dI : Nat → Nat → Nat) (cB cI cJ cZ : ClassId) (h0 : Nat) (ad : Nat → Nat) (sz : Nat)  (M : gS) (Q : gS → Prop) (h : wX12_fillsFirsts  M Q) : Met l yX12_fillsFirsts wsX12_fillsFirsts rmX12_fillsFirsts (va_Pc [.ref h0] (mI dC dI cB cI cJ cZ h0 ad M sz)) (va_Qv (fun (u : gS) => Q u) (mB dC dI cB cI cJ cZ h0 ad (va_A (mW cB cI cJ cZ h0 ad M) sz)) (va_A (mW cB cI cJ cZ h0 ad M) sz)) 0 0 (va_A (mW cB cI cJ cZ h0 ad M) sz) := by
  refine Met.ofW (cc := cX12_fillsFirsts) (maxL := 4) (ret := none) (by decide) rfl ?_
  intro p e s m args below meth c s₁ B hml hv
  obtain ⟨rfl, hsz, hP, hK, hD0⟩ := hv
  have hx := B.exec
  have hb := B.bytes
  have hr := B.returns
  have hts := atoms_spec (ws := wsX12_fillsFirsts) B.pre
  have hown : s.vm.findClass RX12 = some m.cls := findClass_of_methodNamed B.named
  have hlocks := B.notSynchronized
  subst hsz
  have hD := hD0.self (sz := s.heap.size)
  generalize hAe : va_A (mW cB cI cJ cZ h0 ad M) s.heap.size = A at hD ⊢
  have hA : ∀ q : Nat, s.heap.size ≤ q → A q := fun q h => by rw [← hAe]; exact Or.inr h
  have hS : va_S A s.heap s.heap [] := va_S.rf
  have hin : ∀ w ∈ wsX120, w ∈ wsX12_fillsFirsts := fun w h => List.mem_cons_of_mem _ (List.mem_append_right _ h)
  have f1 := hts (.fieldLink RX12 66 "LastWordsModel" "firsts" "[I") (by decide +kernel)
  have f2 := hts (.fieldLink RX12 45 "LastWordsModel" "said" "[I") (by decide +kernel)
  have b91 : ∀ (B23 : Int32 → gS → Prop) (hB23 : ∀ (y1 : Int32) (M : gS) (H : Heap) (locs : List Loc) (ls : Array Slot), va_P (dC, dI) vwCl (mW cB cI cJ cZ h0 ad M) H → va_D A (mW cB cI cJ cZ h0 ad M) → va_S A s.heap H locs → lv_has ls 4 [(0, .ref h0), (1, .int y1)] → B23 y1 M → W p l e (headSpec wsX12_fillsFirsts rmX12_fillsFirsts).room s m ([.ref h0] : List Value).toArray below meth c H locs 0 0 (MQ below (va_Qv (fun (u : gS) => Q u) (mB dC dI cB cI cJ cZ h0 ad A) A) ([.ref h0] : List Value).toArray s 0 0 A) (F0 m 23 ls [])) (B44 : Int32 → Int32 → gS → Prop) (hB44 : ∀ (y1 : Int32) (y2 : Int32) (M : gS) (H : Heap) (locs : List Loc) (ls : Array Slot), va_P (dC, dI) vwCl (mW cB cI cJ cZ h0 ad M) H → va_D A (mW cB cI cJ cZ h0 ad M) → va_S A s.heap H locs → lv_has ls 4 [(0, .ref h0), (1, .int y1), (2, .int y2)] → B44 y1 y2 M → W p l e (headSpec wsX12_fillsFirsts rmX12_fillsFirsts).room s m ([.ref h0] : List Value).toArray below meth c H locs 0 0 (MQ below (va_Qv (fun (u : gS) => Q u) (mB dC dI cB cI cJ cZ h0 ad A) A) ([.ref h0] : List Value).toArray s 0 0 A) (F0 m 44 ls [])) (B52 : Int32 → Int32 → Int32 → gS → Prop) (hB52 : ∀ (y1 : Int32) (y2 : Int32) (y3 : Int32) (M : gS) (H : Heap) (locs : List Loc) (ls : Array Slot), va_P (dC, dI) vwCl (mW cB cI cJ cZ h0 ad M) H → va_D A (mW cB cI cJ cZ h0 ad M) → va_S A s.heap H locs → lv_has ls 4 [(0, .ref h0), (1, .int y1), (2, .int y2), (3, .int y3)] → B52 y1 y2 y3 M → W p l e (headSpec wsX12_fillsFirsts rmX12_fillsFirsts).room s m ([.ref h0] : List Value).toArray below meth c H locs 0 0 (MQ below (va_Qv (fun (u : gS) => Q u) (mB dC dI cB cI cJ cZ h0 ad A) A) ([.ref h0] : List Value).toArray s 0 0 A) (F0 m 52 ls [])) (y1 : Int32) (y2 : Int32) (y3 : Int32) (z2 : Int32) (z1 : Int32) (z0 : Int32) (M : gS) (H : Heap) (locs : List Loc) (ls : Array Slot), va_P (dC, dI) vwCl (mW cB cI cJ cZ h0 ad M) H → va_D A (mW cB cI cJ cZ h0 ad M) → va_S A s.heap H locs → lv_has ls 4 [(0, .ref h0), (1, .int y1), (2, .int y2), (3, .int y3)] → wX12_fillsFirsts_91 B23 B44 B52 Q y1 y2 y3 z2 z1 z0 M → W p l e (headSpec wsX12_fillsFirsts rmX12_fillsFirsts).room s m ([.ref h0] : List Value).toArray below meth c H locs 0 0 (MQ below (va_Qv (fun (u : gS) => Q u) (mB dC dI cB cI cJ cZ h0 ad A) A) ([.ref h0] : List Value).toArray s 0 0 A) (F0 m 91 ls [.int z0, .int z1, .int z2, .ref (ad 34)]) := by
    intro B23 hB23 B44 hB44 B52 hB52 y1 y2 y3 z2 z1 z0 M H locs ls hP hD hS hl h
    unfold wX12_fillsFirsts_91 at h
    refine lv_ior hx hb dX12_fillsFirsts_91 ?_
    refine lv_topi (fun x1 ex1 => ?_)
    have h := h x1 ex1
    refine va_iast hx hb hK hP hD hS 19 1 (f := ma M 34) rfl rfl h.1 dX12_fillsFirsts_92 (fun H locs hP hD hS => ?_)
    have h := h.2
    have hP := mP_a34 hP
    have hD := mD_a34 hD
    have h := h _ rfl
    generalize sa M 34 (Int32.toNatClampNeg z2) x1 = M2 at hP hD h
    obtain ⟨x3, ex3⟩ : ∃ y : Int32, y = y3 + (1 : Int32) := ⟨_, rfl⟩
    have h := h x3 ex3
    refine lv_iinc (v := x3) (lv' := [(3, .int x3), (0, .ref h0), (1, .int y1), (2, .int y2)]) hx hb dX12_fillsFirsts_93 hl (k := 3) rfl (by rw [ex3]; rfl) (by decide) rfl (fun ls hl => ?_)
    refine lv_goto (tgt := 52) hx hb dX12_fillsFirsts_96 (by decide) ?_
    exact hB52 y1 y2 x3 M2 H locs ls hP hD hS (lv_sub hl [1, 2, 3, 0] rfl) h
  have b52 : ∀ (B23 : Int32 → gS → Prop) (hB23 : ∀ (y1 : Int32) (M : gS) (H : Heap) (locs : List Loc) (ls : Array Slot), va_P (dC, dI) vwCl (mW cB cI cJ cZ h0 ad M) H → va_D A (mW cB cI cJ cZ h0 ad M) → va_S A s.heap H locs → lv_has ls 4 [(0, .ref h0), (1, .int y1)] → B23 y1 M → W p l e (headSpec wsX12_fillsFirsts rmX12_fillsFirsts).room s m ([.ref h0] : List Value).toArray below meth c H locs 0 0 (MQ below (va_Qv (fun (u : gS) => Q u) (mB dC dI cB cI cJ cZ h0 ad A) A) ([.ref h0] : List Value).toArray s 0 0 A) (F0 m 23 ls [])) (B44 : Int32 → Int32 → gS → Prop) (hB44 : ∀ (y1 : Int32) (y2 : Int32) (M : gS) (H : Heap) (locs : List Loc) (ls : Array Slot), va_P (dC, dI) vwCl (mW cB cI cJ cZ h0 ad M) H → va_D A (mW cB cI cJ cZ h0 ad M) → va_S A s.heap H locs → lv_has ls 4 [(0, .ref h0), (1, .int y1), (2, .int y2)] → B44 y1 y2 M → W p l e (headSpec wsX12_fillsFirsts rmX12_fillsFirsts).room s m ([.ref h0] : List Value).toArray below meth c H locs 0 0 (MQ below (va_Qv (fun (u : gS) => Q u) (mB dC dI cB cI cJ cZ h0 ad A) A) ([.ref h0] : List Value).toArray s 0 0 A) (F0 m 44 ls [])) (n : Nat) (y1 : Int32) (y2 : Int32) (y3 : Int32) (M : gS) (H : Heap) (locs : List Loc) (ls : Array Slot), va_P (dC, dI) vwCl (mW cB cI cJ cZ h0 ad M) H → va_D A (mW cB cI cJ cZ h0 ad M) → va_S A s.heap H locs → lv_has ls 4 [(0, .ref h0), (1, .int y1), (2, .int y2), (3, .int y3)] → wX12_fillsFirsts_52 B23 B44 Q n y1 y2 y3 M → W p l e (headSpec wsX12_fillsFirsts rmX12_fillsFirsts).room s m ([.ref h0] : List Value).toArray below meth c H locs 0 0 (MQ below (va_Qv (fun (u : gS) => Q u) (mB dC dI cB cI cJ cZ h0 ad A) A) ([.ref h0] : List Value).toArray s 0 0 A) (F0 m 52 ls []) := by
    intro B23 hB23 B44 hB44 n
    induction n with
    | zero => intro y1 y2 y3 M H locs ls hP hD hS hl h; exact absurd h (by simp [wX12_fillsFirsts_52])
    | succ n hB520 =>
      intro y1 y2 y3 M H locs ls hP hD hS hl h
      have hB52 := hB520
      rw [wX12_fillsFirsts_52] at h
      refine lv_iload_n hx hb dX12_fillsFirsts_52 rfl (lv_at hl 3 rfl) ?_
      refine lv_bipush (v := (7)) hx hb dX12_fillsFirsts_53 (by decide) ?_
      refine lv_icmp_gt (tgt := 99) hx hb dX12_fillsFirsts_55 (by decide) (fun c1 => ?_) (fun c1 => ?_)
      · have h := h.1 c1
        obtain ⟨x2, ex2⟩ : ∃ y : Int32, y = y2 + (1 : Int32) := ⟨_, rfl⟩
        have h := h x2 ex2
        refine lv_iinc (v := x2) (lv' := [(2, .int x2), (0, .ref h0), (1, .int y1), (3, .int y3)]) hx hb dX12_fillsFirsts_99 hl (k := 2) rfl (by rw [ex2]; rfl) (by decide) rfl (fun ls hl => ?_)
        refine lv_goto (tgt := 44) hx hb dX12_fillsFirsts_102 (by decide) ?_
        exact hB44 y1 x2 M H locs ls hP hD hS (lv_sub hl [1, 2, 0] rfl) h
      · have h := h.2 c1
        refine lv_aload_n hx hb dX12_fillsFirsts_58 rfl (lv_at hl 0 rfl) ?_
        refine va_get (D := (dC, dI)) (ci := 12) (v := .ref (ad 34)) (C := RX12) (T := TX12) (N := 37) hx hb hts hin hown hK hP 0 rfl rfl 34 (by decide) f1 (fun _ h9 => h9) rfl dX12_fillsFirsts_59 ?_
        refine lv_bipush (v := (8)) hx hb dX12_fillsFirsts_62 (by decide) ?_
        refine lv_iload_n hx hb dX12_fillsFirsts_64 rfl (lv_at hl 2 rfl) ?_
        refine lv_imul hx hb dX12_fillsFirsts_65 ?_
        refine lv_iload_n hx hb dX12_fillsFirsts_66 rfl (lv_at hl 3 rfl) ?_
        refine lv_iadd hx hb dX12_fillsFirsts_67 ?_
        refine lv_dup2_11 hx hb dX12_fillsFirsts_68 rfl rfl ?_
        refine va_iald hx hb hK hP 19 1 (f := ma M 34) rfl rfl h.1 dX12_fillsFirsts_69 ?_
        have h := h.2
        refine lv_aload_n hx hb dX12_fillsFirsts_70 rfl (lv_at hl 0 rfl) ?_
        refine lv_aload_n hx hb dX12_fillsFirsts_71 rfl (lv_at hl 0 rfl) ?_
        refine lv_iload_n hx hb dX12_fillsFirsts_72 rfl (lv_at hl 1 rfl) ?_
        have hFc := gs_free hD hS hA
        refine va_calli (va_runV (As := [.int y1]) (rest := [.ref h0, .int (ma M 34 (Int32.toNatClampNeg (((8 : Int32) * y2) + y3))), .int (((8 : Int32) * y2) + y3), .ref (ad 34)]) ⟨hx, hb, hml, hown, hts⟩ (kX12_verseOf l dC dI cB cI cJ cZ h0 ad H.size y1 M _ h) (cwV 1 hts gX12_fillsFirsts_X12_verseOf rfl rfl rfl (by decide +kernel) ⟨Nat.le_of_ble_eq_true rfl, Nat.le_of_ble_eq_true rfl⟩) (mpV hK hP hD) rfl rfl hl.1 rfl (lv_room (Nat.le_of_ble_eq_true rfl)) dX12_fillsFirsts_73 ⟨Nat.le_of_ble_eq_true rfl, Nat.le_of_ble_eq_true rfl⟩) hS (fun q _ z => hFc q z) hFc (fun r3 M4 t H1 locs ht hvm hw hB hz1 hk1 hS => ?_)
        obtain ⟨hP, hD⟩ := gs_back ht hFc hB
        generalize H1 = H at hP hS ⊢
        have h := hw
        try dsimp only at h
        refine lv_iload_n hx hb dX12_fillsFirsts_76 rfl (lv_at hl 2 rfl) ?_
        refine lv_iload_n hx hb dX12_fillsFirsts_77 rfl (lv_at hl 3 rfl) ?_
        have hFc := gs_free hD hS hA
        refine va_calli (va_runV (As := [.int r3, .int y2, .int y3]) (rest := [.int (ma M 34 (Int32.toNatClampNeg (((8 : Int32) * y2) + y3))), .int (((8 : Int32) * y2) + y3), .ref (ad 34)]) ⟨hx, hb, hml, hown, hts⟩ (kX12_isFirsts l dC dI cB cI cJ cZ h0 ad H.size r3 y2 y3 M4 _ h) (cwV 3 hts gX12_fillsFirsts_X12_isFirsts rfl rfl rfl (by decide +kernel) ⟨Nat.le_of_ble_eq_true rfl, Nat.le_of_ble_eq_true rfl⟩) (mpV hK hP hD) rfl rfl hl.1 rfl (lv_room (Nat.le_of_ble_eq_true rfl)) dX12_fillsFirsts_78 ⟨Nat.le_of_ble_eq_true rfl, Nat.le_of_ble_eq_true rfl⟩) hS (fun q _ z => hFc q z) hFc (fun r5 M6 t H1 locs ht hvm hw hB hz1 hk1 hS => ?_)
        obtain ⟨hP, hD⟩ := gs_back ht hFc hB
        generalize H1 = H at hP hS ⊢
        obtain ⟨b7, rfl, h⟩ := hw
        try dsimp only at h
        refine lv_if_eq (tgt := 90) hx hb dX12_fillsFirsts_81 (by decide) (fun c8 => ?_) (fun c8 => ?_)
        · have h := h.1 c8
          refine lv_iconst (v := 0) hx hb dX12_fillsFirsts_90 (by decide) ?_
          exact b91 _ hB23 _ hB44 _ hB52 y1 y2 y3 (((8 : Int32) * y2) + y3) (ma M 34 (Int32.toNatClampNeg (((8 : Int32) * y2) + y3))) (0 : Int32) M6 H locs ls hP hD hS (lv_sub hl [0, 1, 2, 3] rfl) h
        · have h := h.2 c8
          refine lv_iconst (v := 1) hx hb dX12_fillsFirsts_84 (by decide) ?_
          refine lv_iload_n hx hb dX12_fillsFirsts_85 rfl (lv_at hl 1 rfl) ?_
          refine lv_ishl hx hb dX12_fillsFirsts_86 ?_
          refine lv_goto (tgt := 91) hx hb dX12_fillsFirsts_87 (by decide) ?_
          exact b91 _ hB23 _ hB44 _ hB52 y1 y2 y3 (((8 : Int32) * y2) + y3) (ma M 34 (Int32.toNatClampNeg (((8 : Int32) * y2) + y3))) ((1 : Int32) <<< (y1 &&& 31)) M6 H locs ls hP hD hS (lv_sub hl [0, 1, 2, 3] rfl) h
  have b44 : ∀ (B23 : Int32 → gS → Prop) (hB23 : ∀ (y1 : Int32) (M : gS) (H : Heap) (locs : List Loc) (ls : Array Slot), va_P (dC, dI) vwCl (mW cB cI cJ cZ h0 ad M) H → va_D A (mW cB cI cJ cZ h0 ad M) → va_S A s.heap H locs → lv_has ls 4 [(0, .ref h0), (1, .int y1)] → B23 y1 M → W p l e (headSpec wsX12_fillsFirsts rmX12_fillsFirsts).room s m ([.ref h0] : List Value).toArray below meth c H locs 0 0 (MQ below (va_Qv (fun (u : gS) => Q u) (mB dC dI cB cI cJ cZ h0 ad A) A) ([.ref h0] : List Value).toArray s 0 0 A) (F0 m 23 ls [])) (n : Nat) (y1 : Int32) (y2 : Int32) (M : gS) (H : Heap) (locs : List Loc) (ls : Array Slot), va_P (dC, dI) vwCl (mW cB cI cJ cZ h0 ad M) H → va_D A (mW cB cI cJ cZ h0 ad M) → va_S A s.heap H locs → lv_has ls 4 [(0, .ref h0), (1, .int y1), (2, .int y2)] → wX12_fillsFirsts_44 B23 Q n y1 y2 M → W p l e (headSpec wsX12_fillsFirsts rmX12_fillsFirsts).room s m ([.ref h0] : List Value).toArray below meth c H locs 0 0 (MQ below (va_Qv (fun (u : gS) => Q u) (mB dC dI cB cI cJ cZ h0 ad A) A) ([.ref h0] : List Value).toArray s 0 0 A) (F0 m 44 ls []) := by
    intro B23 hB23 n
    induction n with
    | zero => intro y1 y2 M H locs ls hP hD hS hl h; exact absurd h (by simp [wX12_fillsFirsts_44])
    | succ n hB440 =>
      intro y1 y2 M H locs ls hP hD hS hl h
      have hB44 := hB440
      rw [wX12_fillsFirsts_44] at h
      refine lv_iload_n hx hb dX12_fillsFirsts_44 rfl (lv_at hl 2 rfl) ?_
      refine lv_bipush (v := (7)) hx hb dX12_fillsFirsts_45 (by decide) ?_
      refine lv_icmp_gt (tgt := 105) hx hb dX12_fillsFirsts_47 (by decide) (fun c1 => ?_) (fun c1 => ?_)
      · have h := h.1 c1
        obtain ⟨x2, ex2⟩ : ∃ y : Int32, y = y1 + (1 : Int32) := ⟨_, rfl⟩
        have h := h x2 ex2
        refine lv_iinc (v := x2) (lv' := [(1, .int x2), (0, .ref h0), (2, .int y2)]) hx hb dX12_fillsFirsts_105 hl (k := 1) rfl (by rw [ex2]; rfl) (by decide) rfl (fun ls hl => ?_)
        refine lv_goto (tgt := 23) hx hb dX12_fillsFirsts_108 (by decide) ?_
        exact hB23 x2 M H locs ls hP hD hS (lv_sub hl [1, 0] rfl) h
      · have h := h.2 c1
        refine lv_iconst (v := 0) hx hb dX12_fillsFirsts_50 (by decide) ?_
        refine lv_istore_n (lv' := [(3, .int (0 : Int32)), (0, .ref h0), (1, .int y1), (2, .int y2)]) hx hb dX12_fillsFirsts_51 rfl hl (by decide) rfl (fun ls hl => ?_)
        obtain ⟨n9, h⟩ := h
        exact b52 _ hB23 _ hB44 n9 y1 y2 (0 : Int32) M H locs ls hP hD hS (lv_sub hl [1, 2, 3, 0] rfl) h
  have b23 : ∀ (n : Nat) (y1 : Int32) (M : gS) (H : Heap) (locs : List Loc) (ls : Array Slot), va_P (dC, dI) vwCl (mW cB cI cJ cZ h0 ad M) H → va_D A (mW cB cI cJ cZ h0 ad M) → va_S A s.heap H locs → lv_has ls 4 [(0, .ref h0), (1, .int y1)] → wX12_fillsFirsts_23  Q n y1 M → W p l e (headSpec wsX12_fillsFirsts rmX12_fillsFirsts).room s m ([.ref h0] : List Value).toArray below meth c H locs 0 0 (MQ below (va_Qv (fun (u : gS) => Q u) (mB dC dI cB cI cJ cZ h0 ad A) A) ([.ref h0] : List Value).toArray s 0 0 A) (F0 m 23 ls []) := by
    intro  n
    induction n with
    | zero => intro y1 M H locs ls hP hD hS hl h; exact absurd h (by simp [wX12_fillsFirsts_23])
    | succ n hB230 =>
      intro y1 M H locs ls hP hD hS hl h
      have hB23 := hB230
      rw [wX12_fillsFirsts_23] at h
      refine lv_iload_n hx hb dX12_fillsFirsts_23 rfl (lv_at hl 1 rfl) ?_
      refine lv_aload_n hx hb dX12_fillsFirsts_24 rfl (lv_at hl 0 rfl) ?_
      refine va_get (D := (dC, dI)) (ci := 12) (v := .ref (ad 25)) (C := RX12) (T := TX12) (N := 37) hx hb hts hin hown hK hP 0 rfl rfl 25 (by decide) f2 (fun _ h9 => h9) rfl dX12_fillsFirsts_25 ?_
      refine lv_iconst (v := 0) hx hb dX12_fillsFirsts_28 (by decide) ?_
      refine wc_iald (j := 0) hx hb hK hP 12 1 (f := ma M 25) rfl rfl (by decide) (by decide) (by decide) dX12_fillsFirsts_29 ?_
      refine lv_icmp_ge (tgt := 111) hx hb dX12_fillsFirsts_30 (by decide) (fun c1 => ?_) (fun c1 => ?_)
      · have h := h.1 c1
        exact W.vret hx hb hr (fun t ht hW => ⟨⟨M, rfl, h, by rw [ht]; exact hP, va_K.moved hW.alike hK, hD⟩, hS.F ht⟩) hS.2.2 dX12_fillsFirsts_111
      · have h := h.2 c1
        refine lv_aload_n hx hb dX12_fillsFirsts_33 rfl (lv_at hl 0 rfl) ?_
        refine lv_aload_n hx hb dX12_fillsFirsts_34 rfl (lv_at hl 0 rfl) ?_
        refine lv_iload_n hx hb dX12_fillsFirsts_35 rfl (lv_at hl 1 rfl) ?_
        have hFc := gs_free hD hS hA
        refine va_calli (va_runV (As := [.int y1]) (rest := [.ref h0]) ⟨hx, hb, hml, hown, hts⟩ (kX12_verseOf l dC dI cB cI cJ cZ h0 ad H.size y1 M _ h) (cwV 1 hts gX12_fillsFirsts_X12_verseOf rfl rfl rfl (by decide +kernel) ⟨Nat.le_of_ble_eq_true rfl, Nat.le_of_ble_eq_true rfl⟩) (mpV hK hP hD) rfl rfl hl.1 rfl (lv_room (Nat.le_of_ble_eq_true rfl)) dX12_fillsFirsts_36 ⟨Nat.le_of_ble_eq_true rfl, Nat.le_of_ble_eq_true rfl⟩) hS (fun q _ z => hFc q z) hFc (fun r2 M3 t H1 locs ht hvm hw hB hz1 hk1 hS => ?_)
        obtain ⟨hP, hD⟩ := gs_back ht hFc hB
        generalize H1 = H at hP hS ⊢
        have h := hw
        try dsimp only at h
        have hFc := gs_free hD hS hA
        refine va_callv (va_runV (As := [.int r2]) (rest := []) ⟨hx, hb, hml, hown, hts⟩ (kX12_fillsTable l dC dI cB cI cJ cZ h0 ad H.size r2 M3 _ h) (cwV 1 hts gX12_fillsFirsts_X12_fillsTable rfl rfl rfl (by decide +kernel) ⟨Nat.le_of_ble_eq_true rfl, Nat.le_of_ble_eq_true rfl⟩) (mpV hK hP hD) rfl rfl hl.1 rfl (lv_room (Nat.le_of_ble_eq_true rfl)) dX12_fillsFirsts_39 ⟨Nat.le_of_ble_eq_true rfl, Nat.le_of_ble_eq_true rfl⟩) hS (fun q _ z => hFc q z) hFc (fun M5 t H1 locs ht hvm hw hB hz1 hk1 hS => ?_)
        obtain ⟨hP, hD⟩ := gs_back ht hFc hB
        generalize H1 = H at hP hS ⊢
        have h := hw
        try dsimp only at h
        refine lv_iconst (v := 0) hx hb dX12_fillsFirsts_42 (by decide) ?_
        refine lv_istore_n (lv' := [(2, .int (0 : Int32)), (0, .ref h0), (1, .int y1)]) hx hb dX12_fillsFirsts_43 rfl hl (by decide) rfl (fun ls hl => ?_)
        obtain ⟨n9, h⟩ := h
        exact b44 _ hB23 n9 y1 (0 : Int32) M5 H locs ls hP hD hS (lv_sub hl [1, 2, 0] rfl) h
  have b2 : ∀ (n : Nat) (y1 : Int32) (M : gS) (H : Heap) (locs : List Loc) (ls : Array Slot), va_P (dC, dI) vwCl (mW cB cI cJ cZ h0 ad M) H → va_D A (mW cB cI cJ cZ h0 ad M) → va_S A s.heap H locs → lv_has ls 4 [(0, .ref h0), (1, .int y1)] → wX12_fillsFirsts_2  Q n y1 M → W p l e (headSpec wsX12_fillsFirsts rmX12_fillsFirsts).room s m ([.ref h0] : List Value).toArray below meth c H locs 0 0 (MQ below (va_Qv (fun (u : gS) => Q u) (mB dC dI cB cI cJ cZ h0 ad A) A) ([.ref h0] : List Value).toArray s 0 0 A) (F0 m 2 ls []) := by
    intro  n
    induction n with
    | zero => intro y1 M H locs ls hP hD hS hl h; exact absurd h (by simp [wX12_fillsFirsts_2])
    | succ n hB20 =>
      intro y1 M H locs ls hP hD hS hl h
      have hB2 := hB20
      rw [wX12_fillsFirsts_2] at h
      refine lv_iload_n hx hb dX12_fillsFirsts_2 rfl (lv_at hl 1 rfl) ?_
      refine lv_bipush (v := (64)) hx hb dX12_fillsFirsts_3 (by decide) ?_
      refine lv_icmp_ge (tgt := 21) hx hb dX12_fillsFirsts_5 (by decide) (fun c1 => ?_) (fun c1 => ?_)
      · have h := h.1 c1
        refine lv_iconst (v := 0) hx hb dX12_fillsFirsts_21 (by decide) ?_
        refine lv_istore_n (lv' := [(1, .int (0 : Int32)), (0, .ref h0)]) hx hb dX12_fillsFirsts_22 rfl hl (by decide) rfl (fun ls hl => ?_)
        obtain ⟨n9, h⟩ := h
        exact b23  n9 (0 : Int32) M H locs ls hP hD hS (lv_sub hl [1, 0] rfl) h
      · have h := h.2 c1
        refine lv_aload_n hx hb dX12_fillsFirsts_8 rfl (lv_at hl 0 rfl) ?_
        refine va_get (D := (dC, dI)) (ci := 12) (v := .ref (ad 34)) (C := RX12) (T := TX12) (N := 37) hx hb hts hin hown hK hP 0 rfl rfl 34 (by decide) f1 (fun _ h9 => h9) rfl dX12_fillsFirsts_9 ?_
        refine lv_iload_n hx hb dX12_fillsFirsts_12 rfl (lv_at hl 1 rfl) ?_
        refine lv_iconst (v := 0) hx hb dX12_fillsFirsts_13 (by decide) ?_
        refine va_iast hx hb hK hP hD hS 19 1 (f := ma M 34) rfl rfl h.1 dX12_fillsFirsts_14 (fun H locs hP hD hS => ?_)
        have h := h.2
        have hP := mP_a34 hP
        have hD := mD_a34 hD
        have h := h _ rfl
        generalize sa M 34 (Int32.toNatClampNeg y1) (0 : Int32) = M2 at hP hD h
        obtain ⟨x3, ex3⟩ : ∃ y : Int32, y = y1 + (1 : Int32) := ⟨_, rfl⟩
        have h := h x3 ex3
        refine lv_iinc (v := x3) (lv' := [(1, .int x3), (0, .ref h0)]) hx hb dX12_fillsFirsts_15 hl (k := 1) rfl (by rw [ex3]; rfl) (by decide) rfl (fun ls hl => ?_)
        refine lv_goto (tgt := 2) hx hb dX12_fillsFirsts_18 (by decide) ?_
        exact hB2 x3 M2 H locs ls hP hD hS (lv_sub hl [1, 0] rfl) h
  have bE : ∀ (M : gS) (H : Heap) (locs : List Loc) (ls : Array Slot), va_P (dC, dI) vwCl (mW cB cI cJ cZ h0 ad M) H → va_D A (mW cB cI cJ cZ h0 ad M) → va_S A s.heap H locs → lv_has ls 4 [(0, .ref h0)] → wX12_fillsFirsts  M Q → W p l e (headSpec wsX12_fillsFirsts rmX12_fillsFirsts).room s m ([.ref h0] : List Value).toArray below meth c H locs 0 0 (MQ below (va_Qv (fun (u : gS) => Q u) (mB dC dI cB cI cJ cZ h0 ad A) A) ([.ref h0] : List Value).toArray s 0 0 A) (F0 m 0 ls []) := by
    intro M H locs ls hP hD hS hl h
    unfold wX12_fillsFirsts at h
    refine lv_iconst (v := 0) hx hb dX12_fillsFirsts_0 (by decide) ?_
    refine lv_istore_n (lv' := [(1, .int (0 : Int32)), (0, .ref h0)]) hx hb dX12_fillsFirsts_1 rfl hl (by decide) rfl (fun ls hl => ?_)
    obtain ⟨n9, h⟩ := h
    exact b2  n9 (0 : Int32) M H locs ls hP hD hS (lv_sub hl [1, 0] rfl) h
  have hl := lv_entry ([.ref h0]) (n := 4) (Nat.le_of_ble_eq_true rfl)
  rw [lg_entry_eq]
  generalize (lg_sl ([.ref h0]) ++ List.replicate (4 - (lg_sl ([.ref h0])).length) Slot.unset).toArray = ls at hl ⊢
  have hl : lv_has ls 4 [(0, .ref h0)] := hl
  exact bE M s.heap [] ls hP hD hS hl h
def wX12_drawn_107  (Q : Int32 → gS → Prop) (y1 : Int32) (y2 : Int32) (y4 : Int32) (y5 : Int32) (M : gS) : Prop :=
 (wX12_verseOf y4 M (fun (r1 : Int32) (M2 : gS) => (wX12_begins r1 y5 M2 (fun (M4 : gS) => (wX12_looks  M4 (fun (M6 : gS) => (wX12_runs y1 y2 M6 (fun (r7 : Int32) (M8 : gS) => (Q r7 M8)))))))))
def wX12_drawn_22  (Q : Int32 → gS → Prop) : Nat → Int32 → Int32 → Int32 → Int32 → Int32 → Int32 → gS → Prop
 | 0, _, _, _, _, _, _, _ => False
 | n + 1, y1, y2, y3, y4, y5, y6, M => (((2 : Int32) ≤ y6 → ((0 ≤ y1 → (wX12_drawn_107  Q y1 y2 y4 y5 M))
 ∧ (¬ 0 ≤ y1 → ((0 ≤ y2 → (wX12_drawn_107  Q y1 y2 y4 y5 M))
 ∧ (¬ 0 ≤ y2 → (vp_in ((12 : Int32) + y5) 44 ∧ (vp_in ((13 : Int32) - y5) 44 ∧ (vp_in (((8 : Int32) * (ma M 25 (Int32.toNatClampNeg ((12 : Int32) + y5)))) + (ma M 25 (Int32.toNatClampNeg ((13 : Int32) - y5)))) 64 ∧ (((((ma M 34 (Int32.toNatClampNeg (((8 : Int32) * (ma M 25 (Int32.toNatClampNeg ((12 : Int32) + y5)))) + (ma M 25 (Int32.toNatClampNeg ((13 : Int32) - y5)))))) >>> (y4 &&& 31)) &&& (1 : Int32)) = (1 : Int32) → (Q y5 M))
 ∧ (¬ (((ma M 34 (Int32.toNatClampNeg (((8 : Int32) * (ma M 25 (Int32.toNatClampNeg ((12 : Int32) + y5)))) + (ma M 25 (Int32.toNatClampNeg ((13 : Int32) - y5)))))) >>> (y4 &&& 31)) &&& (1 : Int32)) = (1 : Int32) → (Q ((1 : Int32) - y5) M)))))))))))
 ∧ (¬ (2 : Int32) ≤ y6 → (wX12_draw (y3 + (1 : Int32)) M (fun (r5 : Int32) (M6 : gS) => (vp_in ((12 : Int32) + y6) 44 ∧ (∀ M7 : gS, M7 = sa M6 25 (Int32.toNatClampNeg ((12 : Int32) + y6)) r5 → (∀ x8 : Int32, x8 = y6 + (1 : Int32) → (wX12_drawn_22  Q n y1 y2 y3 y4 y5 x8 M7))))))))
def wX12_drawn (p1 : Int32) (p2 : Int32) (p3 : Int32) (M : gS) (Q : Int32 → gS → Prop) : Prop :=
 (wX12_draw (ma M 25 0) M (fun (r1 : Int32) (M2 : gS) => (wX12_draw (2 : Int32) M2 (fun (r3 : Int32) (M4 : gS) => (∃ k22 : Nat, wX12_drawn_22  Q k22 p1 p2 p3 r1 r3 (0 : Int32) M4)))))
def rmX12_drawn : Room := { frames := 5, cells := 0, slots := 0, locals := 107 }
set_option maxHeartbeats 4000000 in
set_option maxRecDepth 100000 in
theorem kX12_drawn (l : Launch) (dC : Nat → ClassId) (dI : Nat → Nat → Nat) (cB cI cJ cZ : ClassId) (h0 : Nat) (ad : Nat → Nat) (sz : Nat) (p1 : Int32) (p2 : Int32) (p3 : Int32) (M : gS) (Q : Int32 → gS → Prop) (h : wX12_drawn p1 p2 p3 M Q) : Met l yX12_drawn wsX12_drawn rmX12_drawn (va_Pc [.ref h0, .int p1, .int p2, .int p3] (mI dC dI cB cI cJ cZ h0 ad M sz)) (va_Qi (fun (r : Int32) (u : gS) => Q r u) (mB dC dI cB cI cJ cZ h0 ad (va_A (mW cB cI cJ cZ h0 ad M) sz)) (va_A (mW cB cI cJ cZ h0 ad M) sz)) 0 0 (va_A (mW cB cI cJ cZ h0 ad M) sz) := by
  refine Met.ofW (cc := cX12_drawn) (maxL := 7) (ret := (some .int)) (by decide) rfl ?_
  intro p e s m args below meth c s₁ B hml hv
  obtain ⟨rfl, hsz, hP, hK, hD0⟩ := hv
  have hx := B.exec
  have hb := B.bytes
  have hr := B.returns
  have hts := atoms_spec (ws := wsX12_drawn) B.pre
  have hown : s.vm.findClass RX12 = some m.cls := findClass_of_methodNamed B.named
  have hlocks := B.notSynchronized
  subst hsz
  have hD := hD0.self (sz := s.heap.size)
  generalize hAe : va_A (mW cB cI cJ cZ h0 ad M) s.heap.size = A at hD ⊢
  have hA : ∀ q : Nat, s.heap.size ≤ q → A q := fun q h => by rw [← hAe]; exact Or.inr h
  have hS : va_S A s.heap s.heap [] := va_S.rf
  have hin : ∀ w ∈ wsX120, w ∈ wsX12_drawn := fun w h => List.mem_cons_of_mem _ (List.mem_append_right _ h)
  have f1 := hts (.fieldLink RX12 66 "LastWordsModel" "firsts" "[I") (by decide +kernel)
  have f2 := hts (.fieldLink RX12 45 "LastWordsModel" "said" "[I") (by decide +kernel)
  have b107 : ∀ (y1 : Int32) (y2 : Int32) (y4 : Int32) (y5 : Int32) (M : gS) (H : Heap) (locs : List Loc) (ls : Array Slot), va_P (dC, dI) vwCl (mW cB cI cJ cZ h0 ad M) H → va_D A (mW cB cI cJ cZ h0 ad M) → va_S A s.heap H locs → lv_has ls 7 [(0, .ref h0), (1, .int y1), (2, .int y2), (4, .int y4), (5, .int y5)] → wX12_drawn_107  Q y1 y2 y4 y5 M → W p l e (headSpec wsX12_drawn rmX12_drawn).room s m ([.ref h0, .int p1, .int p2, .int p3] : List Value).toArray below meth c H locs 0 0 (MQ below (va_Qi (fun (r : Int32) (u : gS) => Q r u) (mB dC dI cB cI cJ cZ h0 ad A) A) ([.ref h0, .int p1, .int p2, .int p3] : List Value).toArray s 0 0 A) (F0 m 107 ls []) := by
    intro  y1 y2 y4 y5 M H locs ls hP hD hS hl h
    unfold wX12_drawn_107 at h
    refine lv_aload_n hx hb dX12_drawn_107 rfl (lv_at hl 0 rfl) ?_
    refine lv_aload_n hx hb dX12_drawn_108 rfl (lv_at hl 0 rfl) ?_
    refine lv_iload hx hb dX12_drawn_109 (lv_at hl 3 rfl) ?_
    have hFc := gs_free hD hS hA
    refine va_calli (va_runV (As := [.int y4]) (rest := [.ref h0]) ⟨hx, hb, hml, hown, hts⟩ (kX12_verseOf l dC dI cB cI cJ cZ h0 ad H.size y4 M _ h) (cwV 1 hts gX12_drawn_X12_verseOf rfl rfl rfl (by decide +kernel) ⟨Nat.le_of_ble_eq_true rfl, Nat.le_of_ble_eq_true rfl⟩) (mpV hK hP hD) rfl rfl hl.1 rfl (lv_room (Nat.le_of_ble_eq_true rfl)) dX12_drawn_111 ⟨Nat.le_of_ble_eq_true rfl, Nat.le_of_ble_eq_true rfl⟩) hS (fun q _ z => hFc q z) hFc (fun r1 M2 t H1 locs ht hvm hw hB hz1 hk1 hS => ?_)
    obtain ⟨hP, hD⟩ := gs_back ht hFc hB
    generalize H1 = H at hP hS ⊢
    have h := hw
    try dsimp only at h
    refine lv_iload hx hb dX12_drawn_114 (lv_at hl 4 rfl) ?_
    have hFc := gs_free hD hS hA
    refine va_callv (va_runV (As := [.int r1, .int y5]) (rest := []) ⟨hx, hb, hml, hown, hts⟩ (kX12_begins l dC dI cB cI cJ cZ h0 ad H.size r1 y5 M2 _ h) (cwV 2 hts gX12_drawn_X12_begins rfl rfl rfl (by decide +kernel) ⟨Nat.le_of_ble_eq_true rfl, Nat.le_of_ble_eq_true rfl⟩) (mpV hK hP hD) rfl rfl hl.1 rfl (lv_room (Nat.le_of_ble_eq_true rfl)) dX12_drawn_116 ⟨Nat.le_of_ble_eq_true rfl, Nat.le_of_ble_eq_true rfl⟩) hS (fun q _ z => hFc q z) hFc (fun M4 t H1 locs ht hvm hw hB hz1 hk1 hS => ?_)
    obtain ⟨hP, hD⟩ := gs_back ht hFc hB
    generalize H1 = H at hP hS ⊢
    have h := hw
    try dsimp only at h
    refine lv_aload_n hx hb dX12_drawn_119 rfl (lv_at hl 0 rfl) ?_
    have hFc := gs_free hD hS hA
    refine va_callv (va_runV (As := []) (rest := []) ⟨hx, hb, hml, hown, hts⟩ (kX12_looks l dC dI cB cI cJ cZ h0 ad H.size  M4 _ h) (cwV 0 hts gX12_drawn_X12_looks rfl rfl rfl (by decide +kernel) ⟨Nat.le_of_ble_eq_true rfl, Nat.le_of_ble_eq_true rfl⟩) (mpV hK hP hD) rfl rfl hl.1 rfl (lv_room (Nat.le_of_ble_eq_true rfl)) dX12_drawn_120 ⟨Nat.le_of_ble_eq_true rfl, Nat.le_of_ble_eq_true rfl⟩) hS (fun q _ z => hFc q z) hFc (fun M6 t H1 locs ht hvm hw hB hz1 hk1 hS => ?_)
    obtain ⟨hP, hD⟩ := gs_back ht hFc hB
    generalize H1 = H at hP hS ⊢
    have h := hw
    try dsimp only at h
    refine lv_aload_n hx hb dX12_drawn_123 rfl (lv_at hl 0 rfl) ?_
    refine lv_iload_n hx hb dX12_drawn_124 rfl (lv_at hl 1 rfl) ?_
    refine lv_iload_n hx hb dX12_drawn_125 rfl (lv_at hl 2 rfl) ?_
    have hFc := gs_free hD hS hA
    refine va_calli (va_runV (As := [.int y1, .int y2]) (rest := []) ⟨hx, hb, hml, hown, hts⟩ (kX12_runs l dC dI cB cI cJ cZ h0 ad H.size y1 y2 M6 _ h) (cwV 2 hts gX12_drawn_X12_runs rfl rfl rfl (by decide +kernel) ⟨Nat.le_of_ble_eq_true rfl, Nat.le_of_ble_eq_true rfl⟩) (mpV hK hP hD) rfl rfl hl.1 rfl (lv_room (Nat.le_of_ble_eq_true rfl)) dX12_drawn_126 ⟨Nat.le_of_ble_eq_true rfl, Nat.le_of_ble_eq_true rfl⟩) hS (fun q _ z => hFc q z) hFc (fun r7 M8 t H1 locs ht hvm hw hB hz1 hk1 hS => ?_)
    obtain ⟨hP, hD⟩ := gs_back ht hFc hB
    generalize H1 = H at hP hS ⊢
    have h := hw
    try dsimp only at h
    exact W.iret (v := r7) hx hb hr (fun t ht hW => ⟨⟨_, M8, rfl, h, by rw [ht]; exact hP, va_K.moved hW.alike hK, hD⟩, hS.F ht⟩) hS.2.2 dX12_drawn_129
  have b22 : ∀ (n : Nat) (y1 : Int32) (y2 : Int32) (y3 : Int32) (y4 : Int32) (y5 : Int32) (y6 : Int32) (M : gS) (H : Heap) (locs : List Loc) (ls : Array Slot), va_P (dC, dI) vwCl (mW cB cI cJ cZ h0 ad M) H → va_D A (mW cB cI cJ cZ h0 ad M) → va_S A s.heap H locs → lv_has ls 7 [(0, .ref h0), (1, .int y1), (2, .int y2), (3, .int y3), (4, .int y4), (5, .int y5), (6, .int y6)] → wX12_drawn_22  Q n y1 y2 y3 y4 y5 y6 M → W p l e (headSpec wsX12_drawn rmX12_drawn).room s m ([.ref h0, .int p1, .int p2, .int p3] : List Value).toArray below meth c H locs 0 0 (MQ below (va_Qi (fun (r : Int32) (u : gS) => Q r u) (mB dC dI cB cI cJ cZ h0 ad A) A) ([.ref h0, .int p1, .int p2, .int p3] : List Value).toArray s 0 0 A) (F0 m 22 ls []) := by
    intro  n
    induction n with
    | zero => intro y1 y2 y3 y4 y5 y6 M H locs ls hP hD hS hl h; exact absurd h (by simp [wX12_drawn_22])
    | succ n hB220 =>
      intro y1 y2 y3 y4 y5 y6 M H locs ls hP hD hS hl h
      have hB22 := hB220
      rw [wX12_drawn_22] at h
      refine lv_iload hx hb dX12_drawn_22 (lv_at hl 6 rfl) ?_
      refine lv_iconst (v := 2) hx hb dX12_drawn_24 (by decide) ?_
      refine lv_icmp_ge (tgt := 51) hx hb dX12_drawn_25 (by decide) (fun c1 => ?_) (fun c1 => ?_)
      · have h := h.1 c1
        refine lv_iload_n hx hb dX12_drawn_51 rfl (lv_at hl 1 rfl) ?_
        refine lv_if_ge (tgt := 107) hx hb dX12_drawn_52 (by decide) (fun c2 => ?_) (fun c2 => ?_)
        · have h := h.1 c2
          exact b107  y1 y2 y4 y5 M H locs ls hP hD hS (lv_sub hl [0, 1, 2, 4, 5] rfl) h
        · have h := h.2 c2
          refine lv_iload_n hx hb dX12_drawn_55 rfl (lv_at hl 2 rfl) ?_
          refine lv_if_ge (tgt := 107) hx hb dX12_drawn_56 (by decide) (fun c3 => ?_) (fun c3 => ?_)
          · have h := h.1 c3
            exact b107  y1 y2 y4 y5 M H locs ls hP hD hS (lv_sub hl [0, 1, 2, 4, 5] rfl) h
          · have h := h.2 c3
            refine lv_aload_n hx hb dX12_drawn_59 rfl (lv_at hl 0 rfl) ?_
            refine va_get (D := (dC, dI)) (ci := 12) (v := .ref (ad 34)) (C := RX12) (T := TX12) (N := 37) hx hb hts hin hown hK hP 0 rfl rfl 34 (by decide) f1 (fun _ h9 => h9) rfl dX12_drawn_60 ?_
            refine lv_bipush (v := (8)) hx hb dX12_drawn_63 (by decide) ?_
            refine lv_aload_n hx hb dX12_drawn_65 rfl (lv_at hl 0 rfl) ?_
            refine va_get (D := (dC, dI)) (ci := 12) (v := .ref (ad 25)) (C := RX12) (T := TX12) (N := 37) hx hb hts hin hown hK hP 0 rfl rfl 25 (by decide) f2 (fun _ h9 => h9) rfl dX12_drawn_66 ?_
            refine lv_bipush (v := (12)) hx hb dX12_drawn_69 (by decide) ?_
            refine lv_iload hx hb dX12_drawn_71 (lv_at hl 5 rfl) ?_
            refine lv_iadd hx hb dX12_drawn_73 ?_
            refine va_iald hx hb hK hP 12 1 (f := ma M 25) rfl rfl h.1 dX12_drawn_74 ?_
            have h := h.2
            refine lv_imul hx hb dX12_drawn_75 ?_
            refine lv_aload_n hx hb dX12_drawn_76 rfl (lv_at hl 0 rfl) ?_
            refine va_get (D := (dC, dI)) (ci := 12) (v := .ref (ad 25)) (C := RX12) (T := TX12) (N := 37) hx hb hts hin hown hK hP 0 rfl rfl 25 (by decide) f2 (fun _ h9 => h9) rfl dX12_drawn_77 ?_
            refine lv_bipush (v := (13)) hx hb dX12_drawn_80 (by decide) ?_
            refine lv_iload hx hb dX12_drawn_82 (lv_at hl 5 rfl) ?_
            refine lv_isub hx hb dX12_drawn_84 ?_
            refine va_iald hx hb hK hP 12 1 (f := ma M 25) rfl rfl h.1 dX12_drawn_85 ?_
            have h := h.2
            refine lv_iadd hx hb dX12_drawn_86 ?_
            refine va_iald hx hb hK hP 19 1 (f := ma M 34) rfl rfl h.1 dX12_drawn_87 ?_
            have h := h.2
            refine lv_iload hx hb dX12_drawn_88 (lv_at hl 4 rfl) ?_
            refine lv_ishr hx hb dX12_drawn_90 ?_
            refine lv_iconst (v := 1) hx hb dX12_drawn_91 (by decide) ?_
            refine lv_iand hx hb dX12_drawn_92 ?_
            refine lv_iconst (v := 1) hx hb dX12_drawn_93 (by decide) ?_
            refine lv_icmp_ne (tgt := 102) hx hb dX12_drawn_94 (by decide) (fun c4 => ?_) (fun c4 => ?_)
            · have h := h.2 c4
              refine lv_iconst (v := 1) hx hb dX12_drawn_102 (by decide) ?_
              refine lv_iload hx hb dX12_drawn_103 (lv_at hl 5 rfl) ?_
              refine lv_isub hx hb dX12_drawn_105 ?_
              exact W.iret (v := ((1 : Int32) - y5)) hx hb hr (fun t ht hW => ⟨⟨_, M, rfl, h, by rw [ht]; exact hP, va_K.moved hW.alike hK, hD⟩, hS.F ht⟩) hS.2.2 dX12_drawn_106
            · have h := h.1 c4
              refine lv_iload hx hb dX12_drawn_97 (lv_at hl 5 rfl) ?_
              refine lv_goto (tgt := 106) hx hb dX12_drawn_99 (by decide) ?_
              exact W.iret (v := y5) hx hb hr (fun t ht hW => ⟨⟨_, M, rfl, h, by rw [ht]; exact hP, va_K.moved hW.alike hK, hD⟩, hS.F ht⟩) hS.2.2 dX12_drawn_106
      · have h := h.2 c1
        refine lv_aload_n hx hb dX12_drawn_28 rfl (lv_at hl 0 rfl) ?_
        refine va_get (D := (dC, dI)) (ci := 12) (v := .ref (ad 25)) (C := RX12) (T := TX12) (N := 37) hx hb hts hin hown hK hP 0 rfl rfl 25 (by decide) f2 (fun _ h9 => h9) rfl dX12_drawn_29 ?_
        refine lv_bipush (v := (12)) hx hb dX12_drawn_32 (by decide) ?_
        refine lv_iload hx hb dX12_drawn_34 (lv_at hl 6 rfl) ?_
        refine lv_iadd hx hb dX12_drawn_36 ?_
        refine lv_aload_n hx hb dX12_drawn_37 rfl (lv_at hl 0 rfl) ?_
        refine lv_iload_n hx hb dX12_drawn_38 rfl (lv_at hl 3 rfl) ?_
        refine lv_iconst (v := 1) hx hb dX12_drawn_39 (by decide) ?_
        refine lv_iadd hx hb dX12_drawn_40 ?_
        have hFc := gs_free hD hS hA
        refine va_calli (va_runV (As := [.int (y3 + (1 : Int32))]) (rest := [.int ((12 : Int32) + y6), .ref (ad 25)]) ⟨hx, hb, hml, hown, hts⟩ (kX12_draw l dC dI cB cI cJ cZ h0 ad H.size (y3 + (1 : Int32)) M _ h) (cwV 1 hts gX12_drawn_X12_draw rfl rfl rfl (by decide +kernel) ⟨Nat.le_of_ble_eq_true rfl, Nat.le_of_ble_eq_true rfl⟩) (mpV hK hP hD) rfl rfl hl.1 rfl (lv_room (Nat.le_of_ble_eq_true rfl)) dX12_drawn_41 ⟨Nat.le_of_ble_eq_true rfl, Nat.le_of_ble_eq_true rfl⟩) hS (fun q _ z => hFc q z) hFc (fun r5 M6 t H1 locs ht hvm hw hB hz1 hk1 hS => ?_)
        obtain ⟨hP, hD⟩ := gs_back ht hFc hB
        generalize H1 = H at hP hS ⊢
        have h := hw
        try dsimp only at h
        refine va_iast hx hb hK hP hD hS 12 1 (f := ma M6 25) rfl rfl h.1 dX12_drawn_44 (fun H locs hP hD hS => ?_)
        have h := h.2
        have hP := mP_a25 hP
        have hD := mD_a25 hD
        have h := h _ rfl
        generalize sa M6 25 (Int32.toNatClampNeg ((12 : Int32) + y6)) r5 = M7 at hP hD h
        obtain ⟨x8, ex8⟩ : ∃ y : Int32, y = y6 + (1 : Int32) := ⟨_, rfl⟩
        have h := h x8 ex8
        refine lv_iinc (v := x8) (lv' := [(6, .int x8), (0, .ref h0), (1, .int y1), (2, .int y2), (3, .int y3), (4, .int y4), (5, .int y5)]) hx hb dX12_drawn_45 hl (k := 6) rfl (by rw [ex8]; rfl) (by decide) rfl (fun ls hl => ?_)
        refine lv_goto (tgt := 22) hx hb dX12_drawn_48 (by decide) ?_
        exact hB22 y1 y2 y3 y4 y5 x8 M7 H locs ls hP hD hS (lv_sub hl [1, 2, 3, 4, 5, 6, 0] rfl) h
  have bE : ∀ (M : gS) (H : Heap) (locs : List Loc) (ls : Array Slot), va_P (dC, dI) vwCl (mW cB cI cJ cZ h0 ad M) H → va_D A (mW cB cI cJ cZ h0 ad M) → va_S A s.heap H locs → lv_has ls 7 [(0, .ref h0), (1, .int p1), (2, .int p2), (3, .int p3)] → wX12_drawn p1 p2 p3 M Q → W p l e (headSpec wsX12_drawn rmX12_drawn).room s m ([.ref h0, .int p1, .int p2, .int p3] : List Value).toArray below meth c H locs 0 0 (MQ below (va_Qi (fun (r : Int32) (u : gS) => Q r u) (mB dC dI cB cI cJ cZ h0 ad A) A) ([.ref h0, .int p1, .int p2, .int p3] : List Value).toArray s 0 0 A) (F0 m 0 ls []) := by
    intro M H locs ls hP hD hS hl h
    unfold wX12_drawn at h
    refine lv_aload_n hx hb dX12_drawn_0 rfl (lv_at hl 0 rfl) ?_
    refine lv_aload_n hx hb dX12_drawn_1 rfl (lv_at hl 0 rfl) ?_
    refine va_get (D := (dC, dI)) (ci := 12) (v := .ref (ad 25)) (C := RX12) (T := TX12) (N := 37) hx hb hts hin hown hK hP 0 rfl rfl 25 (by decide) f2 (fun _ h9 => h9) rfl dX12_drawn_2 ?_
    refine lv_iconst (v := 0) hx hb dX12_drawn_5 (by decide) ?_
    refine wc_iald (j := 0) hx hb hK hP 12 1 (f := ma M 25) rfl rfl (by decide) (by decide) (by decide) dX12_drawn_6 ?_
    have hFc := gs_free hD hS hA
    refine va_calli (va_runV (As := [.int (ma M 25 0)]) (rest := []) ⟨hx, hb, hml, hown, hts⟩ (kX12_draw l dC dI cB cI cJ cZ h0 ad H.size (ma M 25 0) M _ h) (cwV 1 hts gX12_drawn_X12_draw rfl rfl rfl (by decide +kernel) ⟨Nat.le_of_ble_eq_true rfl, Nat.le_of_ble_eq_true rfl⟩) (mpV hK hP hD) rfl rfl hl.1 rfl (lv_room (Nat.le_of_ble_eq_true rfl)) dX12_drawn_7 ⟨Nat.le_of_ble_eq_true rfl, Nat.le_of_ble_eq_true rfl⟩) hS (fun q _ z => hFc q z) hFc (fun r1 M2 t H1 locs ht hvm hw hB hz1 hk1 hS => ?_)
    obtain ⟨hP, hD⟩ := gs_back ht hFc hB
    generalize H1 = H at hP hS ⊢
    have h := hw
    try dsimp only at h
    refine lv_istore (lv' := [(4, .int r1), (0, .ref h0), (1, .int p1), (2, .int p2), (3, .int p3)]) hx hb dX12_drawn_10 hl (by decide) rfl (fun ls hl => ?_)
    refine lv_aload_n hx hb dX12_drawn_12 rfl (lv_at hl 1 rfl) ?_
    refine lv_iconst (v := 2) hx hb dX12_drawn_13 (by decide) ?_
    have hFc := gs_free hD hS hA
    refine va_calli (va_runV (As := [.int (2 : Int32)]) (rest := []) ⟨hx, hb, hml, hown, hts⟩ (kX12_draw l dC dI cB cI cJ cZ h0 ad H.size (2 : Int32) M2 _ h) (cwV 1 hts gX12_drawn_X12_draw rfl rfl rfl (by decide +kernel) ⟨Nat.le_of_ble_eq_true rfl, Nat.le_of_ble_eq_true rfl⟩) (mpV hK hP hD) rfl rfl hl.1 rfl (lv_room (Nat.le_of_ble_eq_true rfl)) dX12_drawn_14 ⟨Nat.le_of_ble_eq_true rfl, Nat.le_of_ble_eq_true rfl⟩) hS (fun q _ z => hFc q z) hFc (fun r3 M4 t H1 locs ht hvm hw hB hz1 hk1 hS => ?_)
    obtain ⟨hP, hD⟩ := gs_back ht hFc hB
    generalize H1 = H at hP hS ⊢
    have h := hw
    try dsimp only at h
    refine lv_istore (lv' := [(5, .int r3), (4, .int r1), (0, .ref h0), (1, .int p1), (2, .int p2), (3, .int p3)]) hx hb dX12_drawn_17 hl (by decide) rfl (fun ls hl => ?_)
    refine lv_iconst (v := 0) hx hb dX12_drawn_19 (by decide) ?_
    refine lv_istore (lv' := [(6, .int (0 : Int32)), (5, .int r3), (4, .int r1), (0, .ref h0), (1, .int p1), (2, .int p2), (3, .int p3)]) hx hb dX12_drawn_20 hl (by decide) rfl (fun ls hl => ?_)
    obtain ⟨n9, h⟩ := h
    exact b22  n9 p1 p2 p3 r1 r3 (0 : Int32) M4 H locs ls hP hD hS (lv_sub hl [3, 4, 5, 6, 2, 1, 0] rfl) h
  have hl := lv_entry ([.ref h0, .int p1, .int p2, .int p3]) (n := 7) (Nat.le_of_ble_eq_true rfl)
  rw [lg_entry_eq]
  generalize (lg_sl ([.ref h0, .int p1, .int p2, .int p3]) ++ List.replicate (7 - (lg_sl ([.ref h0, .int p1, .int p2, .int p3])).length) Slot.unset).toArray = ls at hl ⊢
  have hl : lv_has ls 7 [(0, .ref h0), (1, .int p1), (2, .int p2), (3, .int p3)] := hl
  exact bE M s.heap [] ls hP hD hS hl h
def wX12_lots_161 (B107 : Int32 → Int32 → Int32 → Int32 → Int32 → Int32 → Int32 → gS → Prop) (Q : Int32 → gS → Prop) (y1 : Int32) (y2 : Int32) (y3 : Int32) (y4 : Int32) (y5 : Int32) (y7 : Int32) (z1 : Int32) (z0 : Int32) (M : gS) : Prop :=
 (∀ x1 : Int32, x1 = (z1 + z0) → (wX12_putsBack  M (fun (M3 : gS) => (∀ x4 : Int32, x4 = y7 + (1 : Int32) → (B107 y1 y2 y3 y4 y5 x1 x4 M3)))))
def wX12_lots_107  (Q : Int32 → gS → Prop) : Nat → Int32 → Int32 → Int32 → Int32 → Int32 → Int32 → Int32 → gS → Prop
 | 0, _, _, _, _, _, _, _, _ => False
 | n + 1, y1, y2, y3, y4, y5, y6, y7, M => ((y3 ≤ y7 → (Q y6 M))
 ∧ (¬ y3 ≤ y7 → (wX12_drawn y1 y2 y4 M (fun (r2 : Int32) (M3 : gS) => ((y5 = (2 : Int32) → (wX12_lots_161 (fun (y1 : Int32) (y2 : Int32) (y3 : Int32) (y4 : Int32) (y5 : Int32) (y6 : Int32) (y7 : Int32) (M : gS) => wX12_lots_107  Q n y1 y2 y3 y4 y5 y6 y7 M) Q y1 y2 y3 y4 y5 y7 y6 ((ma M3 25 9) - (ma M3 27 9)) M3))
 ∧ (¬ y5 = (2 : Int32) → ((r2 = y5 → (wX12_lots_161 (fun (y1 : Int32) (y2 : Int32) (y3 : Int32) (y4 : Int32) (y5 : Int32) (y6 : Int32) (y7 : Int32) (M : gS) => wX12_lots_107  Q n y1 y2 y3 y4 y5 y6 y7 M) Q y1 y2 y3 y4 y5 y7 y6 (1 : Int32) M3))
 ∧ (¬ r2 = y5 → (wX12_lots_161 (fun (y1 : Int32) (y2 : Int32) (y3 : Int32) (y4 : Int32) (y5 : Int32) (y6 : Int32) (y7 : Int32) (M : gS) => wX12_lots_107  Q n y1 y2 y3 y4 y5 y6 y7 M) Q y1 y2 y3 y4 y5 y7 y6 (0 : Int32) M3)))))))))
def wX12_lots_85  (Q : Int32 → gS → Prop) (y1 : Int32) (y2 : Int32) (y3 : Int32) (y4 : Int32) (y5 : Int32) (M : gS) : Prop :=
 (wX12_keeps  M (fun (M2 : gS) => (∀ x3 : Int64, x3 = (Int32.toInt64 (ma M2 25 11)) → (∀ M4 : gS, M4 = sx M2 33 x3 → (∃ k107 : Nat, wX12_lots_107  Q k107 y1 y2 y3 y4 y5 (0 : Int32) (0 : Int32) M4)))))
def wX12_lots_34  (Q : Int32 → gS → Prop) (y1 : Int32) (y2 : Int32) (y3 : Int32) (y4 : Int32) (y5 : Int32) (z1 : Int32) (z0 : Int32) (M : gS) : Prop :=
 ((z1 = z0 → (wX12_in (Int32.toInt64 y3) (1 : Int64) (50 : Int64) M (fun (b4 : Bool) (M3 : gS) => (((bI b4) = 0 → (Q (-1 : Int32) M3))
 ∧ (¬ (bI b4) = 0 → (wX12_in (Int32.toInt64 y4) (0 : Int64) (7 : Int64) M3 (fun (b8 : Bool) (M7 : gS) => (((bI b8) = 0 → (Q (-1 : Int32) M7))
 ∧ (¬ (bI b8) = 0 → (wX12_in (Int32.toInt64 y5) (0 : Int64) (2 : Int64) M7 (fun (b12 : Bool) (M11 : gS) => (((bI b12) = 0 → (Q (-1 : Int32) M11))
 ∧ (¬ (bI b12) = 0 → ((0 ≤ y1 → (wX12_lots_85  Q y1 y2 y3 y4 y5 M11))
 ∧ (¬ 0 ≤ y1 → (wX12_fillsFirsts  M11 (fun (M16 : gS) => (wX12_lots_85  Q y1 y2 y3 y4 y5 M16))))))))))))))))))
 ∧ (¬ z1 = z0 → (Q (-1 : Int32) M)))
def wX12_lots_25  (Q : Int32 → gS → Prop) (y1 : Int32) (y2 : Int32) (y3 : Int32) (y4 : Int32) (y5 : Int32) (z0 : Int32) (M : gS) : Prop :=
 ((0 ≤ y2 → (wX12_lots_34  Q y1 y2 y3 y4 y5 z0 (0 : Int32) M))
 ∧ (¬ 0 ≤ y2 → (wX12_lots_34  Q y1 y2 y3 y4 y5 z0 (1 : Int32) M)))
def wX12_lots (p1 : Int32) (p2 : Int32) (p3 : Int32) (p4 : Int32) (p5 : Int32) (M : gS) (Q : Int32 → gS → Prop) : Prop :=
 (wX12_isCorner  M (fun (b3 : Bool) (M2 : gS) => (((bI b3) = 0 → (Q (-1 : Int32) M2))
 ∧ (¬ (bI b3) = 0 → (wX12_areRules p1 p2 M2 (fun (b7 : Bool) (M6 : gS) => (((bI b7) = 0 → (Q (-1 : Int32) M6))
 ∧ (¬ (bI b7) = 0 → ((0 ≤ p1 → (wX12_lots_25  Q p1 p2 p3 p4 p5 (0 : Int32) M6))
 ∧ (¬ 0 ≤ p1 → (wX12_lots_25  Q p1 p2 p3 p4 p5 (1 : Int32) M6)))))))))))
def rmX12_lots : Room := { frames := 6, cells := 0, slots := 0, locals := 149 }
set_option maxHeartbeats 4000000 in
set_option maxRecDepth 100000 in
theorem kX12_lots (l : Launch) (dC : Nat → ClassId) (dI : Nat → Nat → Nat) (cB cI cJ cZ : ClassId) (h0 : Nat) (ad : Nat → Nat) (sz : Nat) (p1 : Int32) (p2 : Int32) (p3 : Int32) (p4 : Int32) (p5 : Int32) (M : gS) (Q : Int32 → gS → Prop) (h : wX12_lots p1 p2 p3 p4 p5 M Q) : Met l yX12_lots wsX12_lots rmX12_lots (va_Pc [.ref h0, .int p1, .int p2, .int p3, .int p4, .int p5] (mI dC dI cB cI cJ cZ h0 ad M sz)) (va_Qi (fun (r : Int32) (u : gS) => Q r u) (mB dC dI cB cI cJ cZ h0 ad (va_A (mW cB cI cJ cZ h0 ad M) sz)) (va_A (mW cB cI cJ cZ h0 ad M) sz)) 0 0 (va_A (mW cB cI cJ cZ h0 ad M) sz) := by
  refine Met.ofW (cc := cX12_lots) (maxL := 9) (ret := (some .int)) (by decide) rfl ?_
  intro p e s m args below meth c s₁ B hml hv
  obtain ⟨rfl, hsz, hP, hK, hD0⟩ := hv
  have hx := B.exec
  have hb := B.bytes
  have hr := B.returns
  have hts := atoms_spec (ws := wsX12_lots) B.pre
  have hown : s.vm.findClass RX12 = some m.cls := findClass_of_methodNamed B.named
  have hlocks := B.notSynchronized
  subst hsz
  have hD := hD0.self (sz := s.heap.size)
  generalize hAe : va_A (mW cB cI cJ cZ h0 ad M) s.heap.size = A at hD ⊢
  have hA : ∀ q : Nat, s.heap.size ≤ q → A q := fun q h => by rw [← hAe]; exact Or.inr h
  have hS : va_S A s.heap s.heap [] := va_S.rf
  have hin : ∀ w ∈ wsX120, w ∈ wsX12_lots := fun w h => List.mem_cons_of_mem _ (List.mem_append_right _ h)
  have f1 := hts (.fieldLink RX12 45 "LastWordsModel" "said" "[I") (by decide +kernel)
  have f2 := hts (.fieldLink RX12 48 "LastWordsModel" "kept" "[I") (by decide +kernel)
  have f3 := hts (.fieldLink RX12 409 "LastWordsModel" "drawX" "J") (by decide +kernel)
  have f4 := hts (.constantLong RX12 424 (50)) (by decide +kernel)
  have f5 := hts (.constantLong RX12 321 (7)) (by decide +kernel)
  have f6 := hts (.constantLong RX12 426 (2)) (by decide +kernel)
  have b161 : ∀ (B107 : Int32 → Int32 → Int32 → Int32 → Int32 → Int32 → Int32 → gS → Prop) (hB107 : ∀ (y1 : Int32) (y2 : Int32) (y3 : Int32) (y4 : Int32) (y5 : Int32) (y6 : Int32) (y7 : Int32) (M : gS) (H : Heap) (locs : List Loc) (ls : Array Slot), va_P (dC, dI) vwCl (mW cB cI cJ cZ h0 ad M) H → va_D A (mW cB cI cJ cZ h0 ad M) → va_S A s.heap H locs → lv_has ls 9 [(0, .ref h0), (1, .int y1), (2, .int y2), (3, .int y3), (4, .int y4), (5, .int y5), (6, .int y6), (7, .int y7)] → B107 y1 y2 y3 y4 y5 y6 y7 M → W p l e (headSpec wsX12_lots rmX12_lots).room s m ([.ref h0, .int p1, .int p2, .int p3, .int p4, .int p5] : List Value).toArray below meth c H locs 0 0 (MQ below (va_Qi (fun (r : Int32) (u : gS) => Q r u) (mB dC dI cB cI cJ cZ h0 ad A) A) ([.ref h0, .int p1, .int p2, .int p3, .int p4, .int p5] : List Value).toArray s 0 0 A) (F0 m 107 ls [])) (y1 : Int32) (y2 : Int32) (y3 : Int32) (y4 : Int32) (y5 : Int32) (y7 : Int32) (z1 : Int32) (z0 : Int32) (M : gS) (H : Heap) (locs : List Loc) (ls : Array Slot), va_P (dC, dI) vwCl (mW cB cI cJ cZ h0 ad M) H → va_D A (mW cB cI cJ cZ h0 ad M) → va_S A s.heap H locs → lv_has ls 9 [(0, .ref h0), (1, .int y1), (2, .int y2), (3, .int y3), (4, .int y4), (5, .int y5), (7, .int y7)] → wX12_lots_161 B107 Q y1 y2 y3 y4 y5 y7 z1 z0 M → W p l e (headSpec wsX12_lots rmX12_lots).room s m ([.ref h0, .int p1, .int p2, .int p3, .int p4, .int p5] : List Value).toArray below meth c H locs 0 0 (MQ below (va_Qi (fun (r : Int32) (u : gS) => Q r u) (mB dC dI cB cI cJ cZ h0 ad A) A) ([.ref h0, .int p1, .int p2, .int p3, .int p4, .int p5] : List Value).toArray s 0 0 A) (F0 m 161 ls [.int z0, .int z1]) := by
    intro B107 hB107 y1 y2 y3 y4 y5 y7 z1 z0 M H locs ls hP hD hS hl h
    unfold wX12_lots_161 at h
    refine lv_iadd hx hb dX12_lots_161 ?_
    refine lv_topi (fun x1 ex1 => ?_)
    have h := h x1 ex1
    refine lv_istore (lv' := [(6, .int x1), (0, .ref h0), (1, .int y1), (2, .int y2), (3, .int y3), (4, .int y4), (5, .int y5), (7, .int y7)]) hx hb dX12_lots_162 hl (by decide) rfl (fun ls hl => ?_)
    refine lv_aload_n hx hb dX12_lots_164 rfl (lv_at hl 1 rfl) ?_
    have hFc := gs_free hD hS hA
    refine va_callv (va_runV (As := []) (rest := []) ⟨hx, hb, hml, hown, hts⟩ (kX12_putsBack l dC dI cB cI cJ cZ h0 ad H.size  M _ h) (cwV 0 hts gX12_lots_X12_putsBack rfl rfl rfl (by decide +kernel) ⟨Nat.le_of_ble_eq_true rfl, Nat.le_of_ble_eq_true rfl⟩) (mpV hK hP hD) rfl rfl hl.1 rfl (lv_room (Nat.le_of_ble_eq_true rfl)) dX12_lots_165 ⟨Nat.le_of_ble_eq_true rfl, Nat.le_of_ble_eq_true rfl⟩) hS (fun q _ z => hFc q z) hFc (fun M3 t H1 locs ht hvm hw hB hz1 hk1 hS => ?_)
    obtain ⟨hP, hD⟩ := gs_back ht hFc hB
    generalize H1 = H at hP hS ⊢
    have h := hw
    try dsimp only at h
    obtain ⟨x4, ex4⟩ : ∃ y : Int32, y = y7 + (1 : Int32) := ⟨_, rfl⟩
    have h := h x4 ex4
    refine lv_iinc (v := x4) (lv' := [(7, .int x4), (6, .int x1), (0, .ref h0), (1, .int y1), (2, .int y2), (3, .int y3), (4, .int y4), (5, .int y5)]) hx hb dX12_lots_168 hl (k := 7) rfl (by rw [ex4]; rfl) (by decide) rfl (fun ls hl => ?_)
    refine lv_goto (tgt := 107) hx hb dX12_lots_171 (by decide) ?_
    exact hB107 y1 y2 y3 y4 y5 x1 x4 M3 H locs ls hP hD hS (lv_sub hl [2, 3, 4, 5, 6, 7, 1, 0] rfl) h
  have b107 : ∀ (n : Nat) (y1 : Int32) (y2 : Int32) (y3 : Int32) (y4 : Int32) (y5 : Int32) (y6 : Int32) (y7 : Int32) (M : gS) (H : Heap) (locs : List Loc) (ls : Array Slot), va_P (dC, dI) vwCl (mW cB cI cJ cZ h0 ad M) H → va_D A (mW cB cI cJ cZ h0 ad M) → va_S A s.heap H locs → lv_has ls 9 [(0, .ref h0), (1, .int y1), (2, .int y2), (3, .int y3), (4, .int y4), (5, .int y5), (6, .int y6), (7, .int y7)] → wX12_lots_107  Q n y1 y2 y3 y4 y5 y6 y7 M → W p l e (headSpec wsX12_lots rmX12_lots).room s m ([.ref h0, .int p1, .int p2, .int p3, .int p4, .int p5] : List Value).toArray below meth c H locs 0 0 (MQ below (va_Qi (fun (r : Int32) (u : gS) => Q r u) (mB dC dI cB cI cJ cZ h0 ad A) A) ([.ref h0, .int p1, .int p2, .int p3, .int p4, .int p5] : List Value).toArray s 0 0 A) (F0 m 107 ls []) := by
    intro  n
    induction n with
    | zero => intro y1 y2 y3 y4 y5 y6 y7 M H locs ls hP hD hS hl h; exact absurd h (by simp [wX12_lots_107])
    | succ n hB1070 =>
      intro y1 y2 y3 y4 y5 y6 y7 M H locs ls hP hD hS hl h
      have hB107 := hB1070
      rw [wX12_lots_107] at h
      refine lv_iload hx hb dX12_lots_107 (lv_at hl 7 rfl) ?_
      refine lv_iload_n hx hb dX12_lots_109 rfl (lv_at hl 3 rfl) ?_
      refine lv_icmp_ge (tgt := 174) hx hb dX12_lots_110 (by decide) (fun c1 => ?_) (fun c1 => ?_)
      · have h := h.1 c1
        refine lv_iload hx hb dX12_lots_174 (lv_at hl 6 rfl) ?_
        exact W.iret (v := y6) hx hb hr (fun t ht hW => ⟨⟨_, M, rfl, h, by rw [ht]; exact hP, va_K.moved hW.alike hK, hD⟩, hS.F ht⟩) hS.2.2 dX12_lots_176
      · have h := h.2 c1
        refine lv_aload_n hx hb dX12_lots_113 rfl (lv_at hl 0 rfl) ?_
        refine lv_iload_n hx hb dX12_lots_114 rfl (lv_at hl 1 rfl) ?_
        refine lv_iload_n hx hb dX12_lots_115 rfl (lv_at hl 2 rfl) ?_
        refine lv_iload hx hb dX12_lots_116 (lv_at hl 4 rfl) ?_
        have hFc := gs_free hD hS hA
        refine va_calli (va_runV (As := [.int y1, .int y2, .int y4]) (rest := []) ⟨hx, hb, hml, hown, hts⟩ (kX12_drawn l dC dI cB cI cJ cZ h0 ad H.size y1 y2 y4 M _ h) (cwV 3 hts gX12_lots_X12_drawn rfl rfl rfl (by decide +kernel) ⟨Nat.le_of_ble_eq_true rfl, Nat.le_of_ble_eq_true rfl⟩) (mpV hK hP hD) rfl rfl hl.1 rfl (lv_room (Nat.le_of_ble_eq_true rfl)) dX12_lots_118 ⟨Nat.le_of_ble_eq_true rfl, Nat.le_of_ble_eq_true rfl⟩) hS (fun q _ z => hFc q z) hFc (fun r2 M3 t H1 locs ht hvm hw hB hz1 hk1 hS => ?_)
        obtain ⟨hP, hD⟩ := gs_back ht hFc hB
        generalize H1 = H at hP hS ⊢
        have h := hw
        try dsimp only at h
        refine lv_istore (lv' := [(8, .int r2), (0, .ref h0), (1, .int y1), (2, .int y2), (3, .int y3), (4, .int y4), (5, .int y5), (6, .int y6), (7, .int y7)]) hx hb dX12_lots_121 hl (by decide) rfl (fun ls hl => ?_)
        refine lv_iload hx hb dX12_lots_123 (lv_at hl 7 rfl) ?_
        refine lv_iload hx hb dX12_lots_125 (lv_at hl 6 rfl) ?_
        refine lv_iconst (v := 2) hx hb dX12_lots_127 (by decide) ?_
        refine lv_icmp_ne (tgt := 149) hx hb dX12_lots_128 (by decide) (fun c4 => ?_) (fun c4 => ?_)
        · have h := h.2 c4
          refine lv_iload hx hb dX12_lots_149 (lv_at hl 0 rfl) ?_
          refine lv_iload hx hb dX12_lots_151 (lv_at hl 6 rfl) ?_
          refine lv_icmp_ne (tgt := 160) hx hb dX12_lots_153 (by decide) (fun c5 => ?_) (fun c5 => ?_)
          · have h := h.2 c5
            refine lv_iconst (v := 0) hx hb dX12_lots_160 (by decide) ?_
            exact b161 _ hB107 y1 y2 y3 y4 y5 y7 y6 (0 : Int32) M3 H locs ls hP hD hS (lv_sub hl [1, 2, 3, 4, 5, 6, 8] rfl) h
          · have h := h.1 c5
            refine lv_iconst (v := 1) hx hb dX12_lots_156 (by decide) ?_
            refine lv_goto (tgt := 161) hx hb dX12_lots_157 (by decide) ?_
            exact b161 _ hB107 y1 y2 y3 y4 y5 y7 y6 (1 : Int32) M3 H locs ls hP hD hS (lv_sub hl [1, 2, 3, 4, 5, 6, 8] rfl) h
        · have h := h.1 c4
          refine lv_aload_n hx hb dX12_lots_131 rfl (lv_at hl 1 rfl) ?_
          refine va_get (D := (dC, dI)) (ci := 12) (v := .ref (ad 25)) (C := RX12) (T := TX12) (N := 37) hx hb hts hin hown hK hP 0 rfl rfl 25 (by decide) f1 (fun _ h9 => h9) rfl dX12_lots_132 ?_
          refine lv_bipush (v := (9)) hx hb dX12_lots_135 (by decide) ?_
          refine wc_iald (j := 9) hx hb hK hP 12 1 (f := ma M3 25) rfl rfl (by decide) (by decide) (by decide) dX12_lots_137 ?_
          refine lv_aload_n hx hb dX12_lots_138 rfl (lv_at hl 1 rfl) ?_
          refine va_get (D := (dC, dI)) (ci := 12) (v := .ref (ad 27)) (C := RX12) (T := TX12) (N := 37) hx hb hts hin hown hK hP 0 rfl rfl 27 (by decide) f2 (fun _ h9 => h9) rfl dX12_lots_139 ?_
          refine lv_bipush (v := (9)) hx hb dX12_lots_142 (by decide) ?_
          refine wc_iald (j := 9) hx hb hK hP 13 1 (f := ma M3 27) rfl rfl (by decide) (by decide) (by decide) dX12_lots_144 ?_
          refine lv_isub hx hb dX12_lots_145 ?_
          refine lv_goto (tgt := 161) hx hb dX12_lots_146 (by decide) ?_
          exact b161 _ hB107 y1 y2 y3 y4 y5 y7 y6 ((ma M3 25 9) - (ma M3 27 9)) M3 H locs ls hP hD hS (lv_sub hl [1, 2, 3, 4, 5, 6, 8] rfl) h
  have b85 : ∀ (y1 : Int32) (y2 : Int32) (y3 : Int32) (y4 : Int32) (y5 : Int32) (M : gS) (H : Heap) (locs : List Loc) (ls : Array Slot), va_P (dC, dI) vwCl (mW cB cI cJ cZ h0 ad M) H → va_D A (mW cB cI cJ cZ h0 ad M) → va_S A s.heap H locs → lv_has ls 9 [(0, .ref h0), (1, .int y1), (2, .int y2), (3, .int y3), (4, .int y4), (5, .int y5)] → wX12_lots_85  Q y1 y2 y3 y4 y5 M → W p l e (headSpec wsX12_lots rmX12_lots).room s m ([.ref h0, .int p1, .int p2, .int p3, .int p4, .int p5] : List Value).toArray below meth c H locs 0 0 (MQ below (va_Qi (fun (r : Int32) (u : gS) => Q r u) (mB dC dI cB cI cJ cZ h0 ad A) A) ([.ref h0, .int p1, .int p2, .int p3, .int p4, .int p5] : List Value).toArray s 0 0 A) (F0 m 85 ls []) := by
    intro  y1 y2 y3 y4 y5 M H locs ls hP hD hS hl h
    unfold wX12_lots_85 at h
    refine lv_aload_n hx hb dX12_lots_85 rfl (lv_at hl 0 rfl) ?_
    have hFc := gs_free hD hS hA
    refine va_callv (va_runV (As := []) (rest := []) ⟨hx, hb, hml, hown, hts⟩ (kX12_keeps l dC dI cB cI cJ cZ h0 ad H.size  M _ h) (cwV 0 hts gX12_lots_X12_keeps rfl rfl rfl (by decide +kernel) ⟨Nat.le_of_ble_eq_true rfl, Nat.le_of_ble_eq_true rfl⟩) (mpV hK hP hD) rfl rfl hl.1 rfl (lv_room (Nat.le_of_ble_eq_true rfl)) dX12_lots_86 ⟨Nat.le_of_ble_eq_true rfl, Nat.le_of_ble_eq_true rfl⟩) hS (fun q _ z => hFc q z) hFc (fun M2 t H1 locs ht hvm hw hB hz1 hk1 hS => ?_)
    obtain ⟨hP, hD⟩ := gs_back ht hFc hB
    generalize H1 = H at hP hS ⊢
    have h := hw
    try dsimp only at h
    refine lv_aload_n hx hb dX12_lots_89 rfl (lv_at hl 0 rfl) ?_
    refine lv_aload_n hx hb dX12_lots_90 rfl (lv_at hl 0 rfl) ?_
    refine va_get (D := (dC, dI)) (ci := 12) (v := .ref (ad 25)) (C := RX12) (T := TX12) (N := 37) hx hb hts hin hown hK hP 0 rfl rfl 25 (by decide) f1 (fun _ h9 => h9) rfl dX12_lots_91 ?_
    refine lv_bipush (v := (11)) hx hb dX12_lots_94 (by decide) ?_
    refine wc_iald (j := 11) hx hb hK hP 12 1 (f := ma M2 25) rfl rfl (by decide) (by decide) (by decide) dX12_lots_96 ?_
    refine lv_i2l hx hb dX12_lots_97 rfl ?_
    refine lv_topl (fun x3 ex3 => ?_)
    have h := h x3 ex3
    refine va_put (D := (dC, dI)) (ci := 12) (v := .long x3) (ty := .long) (C := RX12) (T := TX12) (N := 37) hx hb hts hin tyX12 tyX12_ok nmX12 hown hK hP hD hS 0 rfl rfl 33 (by decide) f3 (fun _ h9 => h9) rfl (by decide +kernel) rfl rfl (Nat.le_of_ble_eq_true rfl) dX12_lots_98 (fun H locs hP hD hS => ?_)
    have hP := mP_f33 hP
    have hD := mD_f33 hD
    have h := h _ rfl
    generalize sx M2 33 x3 = M4 at hP hD h
    refine lv_iconst (v := 0) hx hb dX12_lots_101 (by decide) ?_
    refine lv_istore (lv' := [(6, .int (0 : Int32)), (0, .ref h0), (1, .int y1), (2, .int y2), (3, .int y3), (4, .int y4), (5, .int y5)]) hx hb dX12_lots_102 hl (by decide) rfl (fun ls hl => ?_)
    refine lv_iconst (v := 0) hx hb dX12_lots_104 (by decide) ?_
    refine lv_istore (lv' := [(7, .int (0 : Int32)), (6, .int (0 : Int32)), (0, .ref h0), (1, .int y1), (2, .int y2), (3, .int y3), (4, .int y4), (5, .int y5)]) hx hb dX12_lots_105 hl (by decide) rfl (fun ls hl => ?_)
    obtain ⟨n9, h⟩ := h
    exact b107  n9 y1 y2 y3 y4 y5 (0 : Int32) (0 : Int32) M4 H locs ls hP hD hS (lv_sub hl [2, 3, 4, 5, 6, 7, 1, 0] rfl) h
  have b34 : ∀ (y1 : Int32) (y2 : Int32) (y3 : Int32) (y4 : Int32) (y5 : Int32) (z1 : Int32) (z0 : Int32) (M : gS) (H : Heap) (locs : List Loc) (ls : Array Slot), va_P (dC, dI) vwCl (mW cB cI cJ cZ h0 ad M) H → va_D A (mW cB cI cJ cZ h0 ad M) → va_S A s.heap H locs → lv_has ls 9 [(0, .ref h0), (1, .int y1), (2, .int y2), (3, .int y3), (4, .int y4), (5, .int y5)] → wX12_lots_34  Q y1 y2 y3 y4 y5 z1 z0 M → W p l e (headSpec wsX12_lots rmX12_lots).room s m ([.ref h0, .int p1, .int p2, .int p3, .int p4, .int p5] : List Value).toArray below meth c H locs 0 0 (MQ below (va_Qi (fun (r : Int32) (u : gS) => Q r u) (mB dC dI cB cI cJ cZ h0 ad A) A) ([.ref h0, .int p1, .int p2, .int p3, .int p4, .int p5] : List Value).toArray s 0 0 A) (F0 m 34 ls [.int z0, .int z1]) := by
    intro  y1 y2 y3 y4 y5 z1 z0 M H locs ls hP hD hS hl h
    unfold wX12_lots_34 at h
    refine lv_icmp_ne (tgt := 75) hx hb dX12_lots_34 (by decide) (fun c1 => ?_) (fun c1 => ?_)
    · have h := h.2 c1
      refine lv_iconst (v := (-1)) hx hb dX12_lots_75 (by decide) ?_
      exact W.iret (v := (-1 : Int32)) hx hb hr (fun t ht hW => ⟨⟨_, M, rfl, h, by rw [ht]; exact hP, va_K.moved hW.alike hK, hD⟩, hS.F ht⟩) hS.2.2 dX12_lots_76
    · have h := h.1 c1
      refine lv_iload_n hx hb dX12_lots_37 rfl (lv_at hl 3 rfl) ?_
      refine lv_i2l hx hb dX12_lots_38 rfl ?_
      refine lv_lconst (v := 1) hx hb dX12_lots_39 (by decide) ?_
      refine lv_ldc2 (v := (50)) hx hb hown f4 dX12_lots_40 ?_
      have hFc := gs_free hD hS hA
      refine va_calli (va_runS (As := [.long (Int32.toInt64 y3), .long (1 : Int64), .long (50 : Int64)]) (rest := []) ⟨hx, hb, hml, hown, hts⟩ (kX12_in l dC dI cB cI cJ cZ h0 ad H.size (Int32.toInt64 y3) (1 : Int64) (50 : Int64) M _ h) (cwS 3 hts gX12_lots_X12_in rfl rfl rfl (by decide +kernel) ⟨Nat.le_of_ble_eq_true rfl, Nat.le_of_ble_eq_true rfl⟩) (mpS hK hP hD) rfl rfl hl.1 rfl (lv_room (Nat.le_of_ble_eq_true rfl)) dX12_lots_43 ⟨Nat.le_of_ble_eq_true rfl, Nat.le_of_ble_eq_true rfl⟩) hS (fun q _ z => hFc q z) hFc (fun r2 M3 t H1 locs ht hvm hw hB hz1 hk1 hS => ?_)
      obtain ⟨hP, hD⟩ := gs_back ht hFc hB
      generalize H1 = H at hP hS ⊢
      obtain ⟨b4, rfl, h⟩ := hw
      try dsimp only at h
      refine lv_if_eq (tgt := 75) hx hb dX12_lots_46 (by decide) (fun c5 => ?_) (fun c5 => ?_)
      · have h := h.1 c5
        refine lv_iconst (v := (-1)) hx hb dX12_lots_75 (by decide) ?_
        exact W.iret (v := (-1 : Int32)) hx hb hr (fun t ht hW => ⟨⟨_, M3, rfl, h, by rw [ht]; exact hP, va_K.moved hW.alike hK, hD⟩, hS.F ht⟩) hS.2.2 dX12_lots_76
      · have h := h.2 c5
        refine lv_iload hx hb dX12_lots_49 (lv_at hl 4 rfl) ?_
        refine lv_i2l hx hb dX12_lots_51 rfl ?_
        refine lv_lconst (v := 0) hx hb dX12_lots_52 (by decide) ?_
        refine lv_ldc2 (v := (7)) hx hb hown f5 dX12_lots_53 ?_
        have hFc := gs_free hD hS hA
        refine va_calli (va_runS (As := [.long (Int32.toInt64 y4), .long (0 : Int64), .long (7 : Int64)]) (rest := []) ⟨hx, hb, hml, hown, hts⟩ (kX12_in l dC dI cB cI cJ cZ h0 ad H.size (Int32.toInt64 y4) (0 : Int64) (7 : Int64) M3 _ h) (cwS 3 hts gX12_lots_X12_in rfl rfl rfl (by decide +kernel) ⟨Nat.le_of_ble_eq_true rfl, Nat.le_of_ble_eq_true rfl⟩) (mpS hK hP hD) rfl rfl hl.1 rfl (lv_room (Nat.le_of_ble_eq_true rfl)) dX12_lots_56 ⟨Nat.le_of_ble_eq_true rfl, Nat.le_of_ble_eq_true rfl⟩) hS (fun q _ z => hFc q z) hFc (fun r6 M7 t H1 locs ht hvm hw hB hz1 hk1 hS => ?_)
        obtain ⟨hP, hD⟩ := gs_back ht hFc hB
        generalize H1 = H at hP hS ⊢
        obtain ⟨b8, rfl, h⟩ := hw
        try dsimp only at h
        refine lv_if_eq (tgt := 75) hx hb dX12_lots_59 (by decide) (fun c9 => ?_) (fun c9 => ?_)
        · have h := h.1 c9
          refine lv_iconst (v := (-1)) hx hb dX12_lots_75 (by decide) ?_
          exact W.iret (v := (-1 : Int32)) hx hb hr (fun t ht hW => ⟨⟨_, M7, rfl, h, by rw [ht]; exact hP, va_K.moved hW.alike hK, hD⟩, hS.F ht⟩) hS.2.2 dX12_lots_76
        · have h := h.2 c9
          refine lv_iload hx hb dX12_lots_62 (lv_at hl 5 rfl) ?_
          refine lv_i2l hx hb dX12_lots_64 rfl ?_
          refine lv_lconst (v := 0) hx hb dX12_lots_65 (by decide) ?_
          refine lv_ldc2 (v := (2)) hx hb hown f6 dX12_lots_66 ?_
          have hFc := gs_free hD hS hA
          refine va_calli (va_runS (As := [.long (Int32.toInt64 y5), .long (0 : Int64), .long (2 : Int64)]) (rest := []) ⟨hx, hb, hml, hown, hts⟩ (kX12_in l dC dI cB cI cJ cZ h0 ad H.size (Int32.toInt64 y5) (0 : Int64) (2 : Int64) M7 _ h) (cwS 3 hts gX12_lots_X12_in rfl rfl rfl (by decide +kernel) ⟨Nat.le_of_ble_eq_true rfl, Nat.le_of_ble_eq_true rfl⟩) (mpS hK hP hD) rfl rfl hl.1 rfl (lv_room (Nat.le_of_ble_eq_true rfl)) dX12_lots_69 ⟨Nat.le_of_ble_eq_true rfl, Nat.le_of_ble_eq_true rfl⟩) hS (fun q _ z => hFc q z) hFc (fun r10 M11 t H1 locs ht hvm hw hB hz1 hk1 hS => ?_)
          obtain ⟨hP, hD⟩ := gs_back ht hFc hB
          generalize H1 = H at hP hS ⊢
          obtain ⟨b12, rfl, h⟩ := hw
          try dsimp only at h
          refine lv_if_ne (tgt := 77) hx hb dX12_lots_72 (by decide) (fun c13 => ?_) (fun c13 => ?_)
          · have h := h.2 c13
            refine lv_iload_n hx hb dX12_lots_77 rfl (lv_at hl 1 rfl) ?_
            refine lv_if_ge (tgt := 85) hx hb dX12_lots_78 (by decide) (fun c14 => ?_) (fun c14 => ?_)
            · have h := h.1 c14
              exact b85  y1 y2 y3 y4 y5 M11 H locs ls hP hD hS (lv_sub hl [0, 1, 2, 3, 4, 5] rfl) h
            · have h := h.2 c14
              refine lv_aload_n hx hb dX12_lots_81 rfl (lv_at hl 0 rfl) ?_
              have hFc := gs_free hD hS hA
              refine va_callv (va_runV (As := []) (rest := []) ⟨hx, hb, hml, hown, hts⟩ (kX12_fillsFirsts l dC dI cB cI cJ cZ h0 ad H.size  M11 _ h) (cwV 0 hts gX12_lots_X12_fillsFirsts rfl rfl rfl (by decide +kernel) ⟨Nat.le_of_ble_eq_true rfl, Nat.le_of_ble_eq_true rfl⟩) (mpV hK hP hD) rfl rfl hl.1 rfl (lv_room (Nat.le_of_ble_eq_true rfl)) dX12_lots_82 ⟨Nat.le_of_ble_eq_true rfl, Nat.le_of_ble_eq_true rfl⟩) hS (fun q _ z => hFc q z) hFc (fun M16 t H1 locs ht hvm hw hB hz1 hk1 hS => ?_)
              obtain ⟨hP, hD⟩ := gs_back ht hFc hB
              generalize H1 = H at hP hS ⊢
              have h := hw
              try dsimp only at h
              exact b85  y1 y2 y3 y4 y5 M16 H locs ls hP hD hS (lv_sub hl [0, 1, 2, 3, 4, 5] rfl) h
          · have h := h.1 c13
            refine lv_iconst (v := (-1)) hx hb dX12_lots_75 (by decide) ?_
            exact W.iret (v := (-1 : Int32)) hx hb hr (fun t ht hW => ⟨⟨_, M11, rfl, h, by rw [ht]; exact hP, va_K.moved hW.alike hK, hD⟩, hS.F ht⟩) hS.2.2 dX12_lots_76
  have b25 : ∀ (y1 : Int32) (y2 : Int32) (y3 : Int32) (y4 : Int32) (y5 : Int32) (z0 : Int32) (M : gS) (H : Heap) (locs : List Loc) (ls : Array Slot), va_P (dC, dI) vwCl (mW cB cI cJ cZ h0 ad M) H → va_D A (mW cB cI cJ cZ h0 ad M) → va_S A s.heap H locs → lv_has ls 9 [(0, .ref h0), (1, .int y1), (2, .int y2), (3, .int y3), (4, .int y4), (5, .int y5)] → wX12_lots_25  Q y1 y2 y3 y4 y5 z0 M → W p l e (headSpec wsX12_lots rmX12_lots).room s m ([.ref h0, .int p1, .int p2, .int p3, .int p4, .int p5] : List Value).toArray below meth c H locs 0 0 (MQ below (va_Qi (fun (r : Int32) (u : gS) => Q r u) (mB dC dI cB cI cJ cZ h0 ad A) A) ([.ref h0, .int p1, .int p2, .int p3, .int p4, .int p5] : List Value).toArray s 0 0 A) (F0 m 25 ls [.int z0]) := by
    intro  y1 y2 y3 y4 y5 z0 M H locs ls hP hD hS hl h
    unfold wX12_lots_25 at h
    refine lv_iload_n hx hb dX12_lots_25 rfl (lv_at hl 2 rfl) ?_
    refine lv_if_ge (tgt := 33) hx hb dX12_lots_26 (by decide) (fun c1 => ?_) (fun c1 => ?_)
    · have h := h.1 c1
      refine lv_iconst (v := 0) hx hb dX12_lots_33 (by decide) ?_
      exact b34  y1 y2 y3 y4 y5 z0 (0 : Int32) M H locs ls hP hD hS (lv_sub hl [0, 1, 2, 3, 4, 5] rfl) h
    · have h := h.2 c1
      refine lv_iconst (v := 1) hx hb dX12_lots_29 (by decide) ?_
      refine lv_goto (tgt := 34) hx hb dX12_lots_30 (by decide) ?_
      exact b34  y1 y2 y3 y4 y5 z0 (1 : Int32) M H locs ls hP hD hS (lv_sub hl [0, 1, 2, 3, 4, 5] rfl) h
  have bE : ∀ (M : gS) (H : Heap) (locs : List Loc) (ls : Array Slot), va_P (dC, dI) vwCl (mW cB cI cJ cZ h0 ad M) H → va_D A (mW cB cI cJ cZ h0 ad M) → va_S A s.heap H locs → lv_has ls 9 [(0, .ref h0), (1, .int p1), (2, .int p2), (3, .int p3), (4, .int p4), (5, .int p5)] → wX12_lots p1 p2 p3 p4 p5 M Q → W p l e (headSpec wsX12_lots rmX12_lots).room s m ([.ref h0, .int p1, .int p2, .int p3, .int p4, .int p5] : List Value).toArray below meth c H locs 0 0 (MQ below (va_Qi (fun (r : Int32) (u : gS) => Q r u) (mB dC dI cB cI cJ cZ h0 ad A) A) ([.ref h0, .int p1, .int p2, .int p3, .int p4, .int p5] : List Value).toArray s 0 0 A) (F0 m 0 ls []) := by
    intro M H locs ls hP hD hS hl h
    unfold wX12_lots at h
    refine lv_aload_n hx hb dX12_lots_0 rfl (lv_at hl 0 rfl) ?_
    have hFc := gs_free hD hS hA
    refine va_calli (va_runV (As := []) (rest := []) ⟨hx, hb, hml, hown, hts⟩ (kX12_isCorner l dC dI cB cI cJ cZ h0 ad H.size  M _ h) (cwV 0 hts gX12_lots_X12_isCorner rfl rfl rfl (by decide +kernel) ⟨Nat.le_of_ble_eq_true rfl, Nat.le_of_ble_eq_true rfl⟩) (mpV hK hP hD) rfl rfl hl.1 rfl (lv_room (Nat.le_of_ble_eq_true rfl)) dX12_lots_1 ⟨Nat.le_of_ble_eq_true rfl, Nat.le_of_ble_eq_true rfl⟩) hS (fun q _ z => hFc q z) hFc (fun r1 M2 t H1 locs ht hvm hw hB hz1 hk1 hS => ?_)
    obtain ⟨hP, hD⟩ := gs_back ht hFc hB
    generalize H1 = H at hP hS ⊢
    obtain ⟨b3, rfl, h⟩ := hw
    try dsimp only at h
    refine lv_if_eq (tgt := 75) hx hb dX12_lots_4 (by decide) (fun c4 => ?_) (fun c4 => ?_)
    · have h := h.1 c4
      refine lv_iconst (v := (-1)) hx hb dX12_lots_75 (by decide) ?_
      exact W.iret (v := (-1 : Int32)) hx hb hr (fun t ht hW => ⟨⟨_, M2, rfl, h, by rw [ht]; exact hP, va_K.moved hW.alike hK, hD⟩, hS.F ht⟩) hS.2.2 dX12_lots_76
    · have h := h.2 c4
      refine lv_aload_n hx hb dX12_lots_7 rfl (lv_at hl 0 rfl) ?_
      refine lv_iload_n hx hb dX12_lots_8 rfl (lv_at hl 1 rfl) ?_
      refine lv_iload_n hx hb dX12_lots_9 rfl (lv_at hl 2 rfl) ?_
      have hFc := gs_free hD hS hA
      refine va_calli (va_runV (As := [.int p1, .int p2]) (rest := []) ⟨hx, hb, hml, hown, hts⟩ (kX12_areRules l dC dI cB cI cJ cZ h0 ad H.size p1 p2 M2 _ h) (cwV 2 hts gX12_lots_X12_areRules rfl rfl rfl (by decide +kernel) ⟨Nat.le_of_ble_eq_true rfl, Nat.le_of_ble_eq_true rfl⟩) (mpV hK hP hD) rfl rfl hl.1 rfl (lv_room (Nat.le_of_ble_eq_true rfl)) dX12_lots_10 ⟨Nat.le_of_ble_eq_true rfl, Nat.le_of_ble_eq_true rfl⟩) hS (fun q _ z => hFc q z) hFc (fun r5 M6 t H1 locs ht hvm hw hB hz1 hk1 hS => ?_)
      obtain ⟨hP, hD⟩ := gs_back ht hFc hB
      generalize H1 = H at hP hS ⊢
      obtain ⟨b7, rfl, h⟩ := hw
      try dsimp only at h
      refine lv_if_eq (tgt := 75) hx hb dX12_lots_13 (by decide) (fun c8 => ?_) (fun c8 => ?_)
      · have h := h.1 c8
        refine lv_iconst (v := (-1)) hx hb dX12_lots_75 (by decide) ?_
        exact W.iret (v := (-1 : Int32)) hx hb hr (fun t ht hW => ⟨⟨_, M6, rfl, h, by rw [ht]; exact hP, va_K.moved hW.alike hK, hD⟩, hS.F ht⟩) hS.2.2 dX12_lots_76
      · have h := h.2 c8
        refine lv_iload_n hx hb dX12_lots_16 rfl (lv_at hl 1 rfl) ?_
        refine lv_if_ge (tgt := 24) hx hb dX12_lots_17 (by decide) (fun c9 => ?_) (fun c9 => ?_)
        · have h := h.1 c9
          refine lv_iconst (v := 0) hx hb dX12_lots_24 (by decide) ?_
          exact b25  p1 p2 p3 p4 p5 (0 : Int32) M6 H locs ls hP hD hS (lv_sub hl [0, 1, 2, 3, 4, 5] rfl) h
        · have h := h.2 c9
          refine lv_iconst (v := 1) hx hb dX12_lots_20 (by decide) ?_
          refine lv_goto (tgt := 25) hx hb dX12_lots_21 (by decide) ?_
          exact b25  p1 p2 p3 p4 p5 (1 : Int32) M6 H locs ls hP hD hS (lv_sub hl [0, 1, 2, 3, 4, 5] rfl) h
  have hl := lv_entry ([.ref h0, .int p1, .int p2, .int p3, .int p4, .int p5]) (n := 9) (Nat.le_of_ble_eq_true rfl)
  rw [lg_entry_eq]
  generalize (lg_sl ([.ref h0, .int p1, .int p2, .int p3, .int p4, .int p5]) ++ List.replicate (9 - (lg_sl ([.ref h0, .int p1, .int p2, .int p3, .int p4, .int p5])).length) Slot.unset).toArray = ls at hl ⊢
  have hl : lv_has ls 9 [(0, .ref h0), (1, .int p1), (2, .int p2), (3, .int p3), (4, .int p4), (5, .int p5)] := hl
  exact bE M s.heap [] ls hP hD hS hl h
def wX12_count (p1 : Int32) (M : gS) (Q : Int32 → gS → Prop) : Prop :=
 ((p1 = (0 : Int32) → (vp_in p1 44 ∧ (Q (ma M 25 (Int32.toNatClampNeg p1)) M)))
 ∧ (¬ p1 = (0 : Int32) → ((p1 = (1 : Int32) → (vp_in p1 44 ∧ (Q (ma M 25 (Int32.toNatClampNeg p1)) M)))
 ∧ (¬ p1 = (1 : Int32) → ((p1 = (2 : Int32) → (Q (mg M 2) M))
 ∧ (¬ p1 = (2 : Int32) → ((p1 = (3 : Int32) → (wX12_goesOn  M (fun (b7 : Bool) (M6 : gS) => (((bI b7) = 0 → (Q (0 : Int32) M6))
 ∧ (¬ (bI b7) = 0 → (Q (ma M6 25 5) M6))))))
 ∧ (¬ p1 = (3 : Int32) → ((p1 = (4 : Int32) → (wX12_goesOn  M (fun (b12 : Bool) (M11 : gS) => (((bI b12) = 0 → (Q (-1 : Int32) M11))
 ∧ (¬ (bI b12) = 0 → (Q (ma M11 25 6) M11))))))
 ∧ (¬ p1 = (4 : Int32) → ((p1 = (5 : Int32) → (wX12_goesOn  M (fun (b17 : Bool) (M16 : gS) => (((bI b17) = 0 → (Q (0 : Int32) M16))
 ∧ (¬ (bI b17) = 0 → (Q (ma M16 25 4) M16))))))
 ∧ (¬ p1 = (5 : Int32) → ((p1 = (6 : Int32) → (Q (ma M 25 9) M))
 ∧ (¬ p1 = (6 : Int32) → ((p1 = (7 : Int32) → (wX12_goesOn  M (fun (b23 : Bool) (M22 : gS) => (((bI b23) = 0 → (Q (0 : Int32) M22))
 ∧ (¬ (bI b23) = 0 → (Q (ma M22 25 7) M22))))))
 ∧ (¬ p1 = (7 : Int32) → ((p1 = (8 : Int32) → (Q ((ma M 25 18) + (ma M 25 19)) M))
 ∧ (¬ p1 = (8 : Int32) → ((p1 = (9 : Int32) → (Q (ma M 25 10) M))
 ∧ (¬ p1 = (9 : Int32) → ((p1 = (10 : Int32) → (Q (ma M 25 11) M))
 ∧ (¬ p1 = (10 : Int32) → ((p1 = (11 : Int32) → (Q (mg M 1) M))
 ∧ (¬ p1 = (11 : Int32) → (Q (-1 : Int32) M)))))))))))))))))))))))))
def rmX12_count : Room := { frames := 1, cells := 0, slots := 0, locals := 20 }
set_option maxHeartbeats 4000000 in
set_option maxRecDepth 100000 in
theorem kX12_count (l : Launch) (dC : Nat → ClassId) (dI : Nat → Nat → Nat) (cB cI cJ cZ : ClassId) (h0 : Nat) (ad : Nat → Nat) (sz : Nat) (p1 : Int32) (M : gS) (Q : Int32 → gS → Prop) (h : wX12_count p1 M Q) : Met l yX12_count wsX12_count rmX12_count (va_Pc [.ref h0, .int p1] (mI dC dI cB cI cJ cZ h0 ad M sz)) (va_Qi (fun (r : Int32) (u : gS) => Q r u) (mB dC dI cB cI cJ cZ h0 ad (va_A (mW cB cI cJ cZ h0 ad M) sz)) (va_A (mW cB cI cJ cZ h0 ad M) sz)) 0 0 (va_A (mW cB cI cJ cZ h0 ad M) sz) := by
  refine Met.ofW (cc := cX12_count) (maxL := 2) (ret := (some .int)) (by decide) rfl ?_
  intro p e s m args below meth c s₁ B hml hv
  obtain ⟨rfl, hsz, hP, hK, hD0⟩ := hv
  have hx := B.exec
  have hb := B.bytes
  have hr := B.returns
  have hts := atoms_spec (ws := wsX12_count) B.pre
  have hown : s.vm.findClass RX12 = some m.cls := findClass_of_methodNamed B.named
  have hlocks := B.notSynchronized
  subst hsz
  have hD := hD0.self (sz := s.heap.size)
  generalize hAe : va_A (mW cB cI cJ cZ h0 ad M) s.heap.size = A at hD ⊢
  have hA : ∀ q : Nat, s.heap.size ≤ q → A q := fun q h => by rw [← hAe]; exact Or.inr h
  have hS : va_S A s.heap s.heap [] := va_S.rf
  have hin : ∀ w ∈ wsX120, w ∈ wsX12_count := fun w h => List.mem_cons_of_mem _ (List.mem_append_right _ h)
  have f1 := hts (.fieldLink RX12 45 "LastWordsModel" "said" "[I") (by decide +kernel)
  have f2 := hts (.fieldLink RX12 256 "LastWordsModel" "rules" "I") (by decide +kernel)
  have f3 := hts (.fieldLink RX12 76 "LastWordsModel" "taped" "I") (by decide +kernel)
  have bE : ∀ (M : gS) (H : Heap) (locs : List Loc) (ls : Array Slot), va_P (dC, dI) vwCl (mW cB cI cJ cZ h0 ad M) H → va_D A (mW cB cI cJ cZ h0 ad M) → va_S A s.heap H locs → lv_has ls 2 [(0, .ref h0), (1, .int p1)] → wX12_count p1 M Q → W p l e (headSpec wsX12_count rmX12_count).room s m ([.ref h0, .int p1] : List Value).toArray below meth c H locs 0 0 (MQ below (va_Qi (fun (r : Int32) (u : gS) => Q r u) (mB dC dI cB cI cJ cZ h0 ad A) A) ([.ref h0, .int p1] : List Value).toArray s 0 0 A) (F0 m 0 ls []) := by
    intro M H locs ls hP hD hS hl h
    unfold wX12_count at h
    refine lv_iload_n hx hb dX12_count_0 rfl (lv_at hl 1 rfl) ?_
    by_cases c1 : p1 = (0 : Int32)
    · have h := h.1 c1
      refine lv_tableIn (tgt := 64) hx hb dX12_count_1 (by rw [c1]; decide) (by rw [c1]; decide) (by rw [c1]; rfl) (by decide) ?_
      refine lv_aload_n hx hb dX12_count_64 rfl (lv_at hl 0 rfl) ?_
      refine va_get (D := (dC, dI)) (ci := 12) (v := .ref (ad 25)) (C := RX12) (T := TX12) (N := 37) hx hb hts hin hown hK hP 0 rfl rfl 25 (by decide) f1 (fun _ h9 => h9) rfl dX12_count_65 ?_
      refine lv_iload_n hx hb dX12_count_68 rfl (lv_at hl 1 rfl) ?_
      refine va_iald hx hb hK hP 12 1 (f := ma M 25) rfl rfl h.1 dX12_count_69 ?_
      have h := h.2
      exact W.iret (v := (ma M 25 (Int32.toNatClampNeg p1))) hx hb hr (fun t ht hW => ⟨⟨_, M, rfl, h, by rw [ht]; exact hP, va_K.moved hW.alike hK, hD⟩, hS.F ht⟩) hS.2.2 dX12_count_70
    have h := h.2 c1
    by_cases c2 : p1 = (1 : Int32)
    · have h := h.1 c2
      refine lv_tableIn (tgt := 64) hx hb dX12_count_1 (by rw [c2]; decide) (by rw [c2]; decide) (by rw [c2]; rfl) (by decide) ?_
      refine lv_aload_n hx hb dX12_count_64 rfl (lv_at hl 0 rfl) ?_
      refine va_get (D := (dC, dI)) (ci := 12) (v := .ref (ad 25)) (C := RX12) (T := TX12) (N := 37) hx hb hts hin hown hK hP 0 rfl rfl 25 (by decide) f1 (fun _ h9 => h9) rfl dX12_count_65 ?_
      refine lv_iload_n hx hb dX12_count_68 rfl (lv_at hl 1 rfl) ?_
      refine va_iald hx hb hK hP 12 1 (f := ma M 25) rfl rfl h.1 dX12_count_69 ?_
      have h := h.2
      exact W.iret (v := (ma M 25 (Int32.toNatClampNeg p1))) hx hb hr (fun t ht hW => ⟨⟨_, M, rfl, h, by rw [ht]; exact hP, va_K.moved hW.alike hK, hD⟩, hS.F ht⟩) hS.2.2 dX12_count_70
    have h := h.2 c2
    by_cases c3 : p1 = (2 : Int32)
    · have h := h.1 c3
      refine lv_tableIn (tgt := 71) hx hb dX12_count_1 (by rw [c3]; decide) (by rw [c3]; decide) (by rw [c3]; rfl) (by decide) ?_
      refine lv_aload_n hx hb dX12_count_71 rfl (lv_at hl 0 rfl) ?_
      refine va_get (D := (dC, dI)) (ci := 12) (v := .int (mg M 2)) (C := RX12) (T := TX12) (N := 37) hx hb hts hin hown hK hP 0 rfl rfl 2 (by decide) f2 (fun _ h9 => h9) rfl dX12_count_72 ?_
      exact W.iret (v := (mg M 2)) hx hb hr (fun t ht hW => ⟨⟨_, M, rfl, h, by rw [ht]; exact hP, va_K.moved hW.alike hK, hD⟩, hS.F ht⟩) hS.2.2 dX12_count_75
    have h := h.2 c3
    by_cases c4 : p1 = (3 : Int32)
    · have h := h.1 c4
      refine lv_tableIn (tgt := 76) hx hb dX12_count_1 (by rw [c4]; decide) (by rw [c4]; decide) (by rw [c4]; rfl) (by decide) ?_
      refine lv_aload_n hx hb dX12_count_76 rfl (lv_at hl 0 rfl) ?_
      have hFc := gs_free hD hS hA
      refine va_calli (va_runV (As := []) (rest := []) ⟨hx, hb, hml, hown, hts⟩ (kX12_goesOn l dC dI cB cI cJ cZ h0 ad H.size  M _ h) (cwV 0 hts gX12_count_X12_goesOn rfl rfl rfl (by decide +kernel) ⟨Nat.le_of_ble_eq_true rfl, Nat.le_of_ble_eq_true rfl⟩) (mpV hK hP hD) rfl rfl hl.1 rfl (lv_room (Nat.le_of_ble_eq_true rfl)) dX12_count_77 ⟨Nat.le_of_ble_eq_true rfl, Nat.le_of_ble_eq_true rfl⟩) hS (fun q _ z => hFc q z) hFc (fun r5 M6 t H1 locs ht hvm hw hB hz1 hk1 hS => ?_)
      obtain ⟨hP, hD⟩ := gs_back ht hFc hB
      generalize H1 = H at hP hS ⊢
      obtain ⟨b7, rfl, h⟩ := hw
      try dsimp only at h
      refine lv_if_eq (tgt := 92) hx hb dX12_count_80 (by decide) (fun c8 => ?_) (fun c8 => ?_)
      · have h := h.1 c8
        refine lv_iconst (v := 0) hx hb dX12_count_92 (by decide) ?_
        exact W.iret (v := (0 : Int32)) hx hb hr (fun t ht hW => ⟨⟨_, M6, rfl, h, by rw [ht]; exact hP, va_K.moved hW.alike hK, hD⟩, hS.F ht⟩) hS.2.2 dX12_count_93
      · have h := h.2 c8
        refine lv_aload_n hx hb dX12_count_83 rfl (lv_at hl 0 rfl) ?_
        refine va_get (D := (dC, dI)) (ci := 12) (v := .ref (ad 25)) (C := RX12) (T := TX12) (N := 37) hx hb hts hin hown hK hP 0 rfl rfl 25 (by decide) f1 (fun _ h9 => h9) rfl dX12_count_84 ?_
        refine lv_iconst (v := 5) hx hb dX12_count_87 (by decide) ?_
        refine wc_iald (j := 5) hx hb hK hP 12 1 (f := ma M6 25) rfl rfl (by decide) (by decide) (by decide) dX12_count_88 ?_
        refine lv_goto (tgt := 93) hx hb dX12_count_89 (by decide) ?_
        exact W.iret (v := (ma M6 25 5)) hx hb hr (fun t ht hW => ⟨⟨_, M6, rfl, h, by rw [ht]; exact hP, va_K.moved hW.alike hK, hD⟩, hS.F ht⟩) hS.2.2 dX12_count_93
    have h := h.2 c4
    by_cases c9 : p1 = (4 : Int32)
    · have h := h.1 c9
      refine lv_tableIn (tgt := 94) hx hb dX12_count_1 (by rw [c9]; decide) (by rw [c9]; decide) (by rw [c9]; rfl) (by decide) ?_
      refine lv_aload_n hx hb dX12_count_94 rfl (lv_at hl 0 rfl) ?_
      have hFc := gs_free hD hS hA
      refine va_calli (va_runV (As := []) (rest := []) ⟨hx, hb, hml, hown, hts⟩ (kX12_goesOn l dC dI cB cI cJ cZ h0 ad H.size  M _ h) (cwV 0 hts gX12_count_X12_goesOn rfl rfl rfl (by decide +kernel) ⟨Nat.le_of_ble_eq_true rfl, Nat.le_of_ble_eq_true rfl⟩) (mpV hK hP hD) rfl rfl hl.1 rfl (lv_room (Nat.le_of_ble_eq_true rfl)) dX12_count_95 ⟨Nat.le_of_ble_eq_true rfl, Nat.le_of_ble_eq_true rfl⟩) hS (fun q _ z => hFc q z) hFc (fun r10 M11 t H1 locs ht hvm hw hB hz1 hk1 hS => ?_)
      obtain ⟨hP, hD⟩ := gs_back ht hFc hB
      generalize H1 = H at hP hS ⊢
      obtain ⟨b12, rfl, h⟩ := hw
      try dsimp only at h
      refine lv_if_eq (tgt := 111) hx hb dX12_count_98 (by decide) (fun c13 => ?_) (fun c13 => ?_)
      · have h := h.1 c13
        refine lv_iconst (v := (-1)) hx hb dX12_count_111 (by decide) ?_
        exact W.iret (v := (-1 : Int32)) hx hb hr (fun t ht hW => ⟨⟨_, M11, rfl, h, by rw [ht]; exact hP, va_K.moved hW.alike hK, hD⟩, hS.F ht⟩) hS.2.2 dX12_count_112
      · have h := h.2 c13
        refine lv_aload_n hx hb dX12_count_101 rfl (lv_at hl 0 rfl) ?_
        refine va_get (D := (dC, dI)) (ci := 12) (v := .ref (ad 25)) (C := RX12) (T := TX12) (N := 37) hx hb hts hin hown hK hP 0 rfl rfl 25 (by decide) f1 (fun _ h9 => h9) rfl dX12_count_102 ?_
        refine lv_bipush (v := (6)) hx hb dX12_count_105 (by decide) ?_
        refine wc_iald (j := 6) hx hb hK hP 12 1 (f := ma M11 25) rfl rfl (by decide) (by decide) (by decide) dX12_count_107 ?_
        refine lv_goto (tgt := 112) hx hb dX12_count_108 (by decide) ?_
        exact W.iret (v := (ma M11 25 6)) hx hb hr (fun t ht hW => ⟨⟨_, M11, rfl, h, by rw [ht]; exact hP, va_K.moved hW.alike hK, hD⟩, hS.F ht⟩) hS.2.2 dX12_count_112
    have h := h.2 c9
    by_cases c14 : p1 = (5 : Int32)
    · have h := h.1 c14
      refine lv_tableIn (tgt := 113) hx hb dX12_count_1 (by rw [c14]; decide) (by rw [c14]; decide) (by rw [c14]; rfl) (by decide) ?_
      refine lv_aload_n hx hb dX12_count_113 rfl (lv_at hl 0 rfl) ?_
      have hFc := gs_free hD hS hA
      refine va_calli (va_runV (As := []) (rest := []) ⟨hx, hb, hml, hown, hts⟩ (kX12_goesOn l dC dI cB cI cJ cZ h0 ad H.size  M _ h) (cwV 0 hts gX12_count_X12_goesOn rfl rfl rfl (by decide +kernel) ⟨Nat.le_of_ble_eq_true rfl, Nat.le_of_ble_eq_true rfl⟩) (mpV hK hP hD) rfl rfl hl.1 rfl (lv_room (Nat.le_of_ble_eq_true rfl)) dX12_count_114 ⟨Nat.le_of_ble_eq_true rfl, Nat.le_of_ble_eq_true rfl⟩) hS (fun q _ z => hFc q z) hFc (fun r15 M16 t H1 locs ht hvm hw hB hz1 hk1 hS => ?_)
      obtain ⟨hP, hD⟩ := gs_back ht hFc hB
      generalize H1 = H at hP hS ⊢
      obtain ⟨b17, rfl, h⟩ := hw
      try dsimp only at h
      refine lv_if_eq (tgt := 129) hx hb dX12_count_117 (by decide) (fun c18 => ?_) (fun c18 => ?_)
      · have h := h.1 c18
        refine lv_iconst (v := 0) hx hb dX12_count_129 (by decide) ?_
        exact W.iret (v := (0 : Int32)) hx hb hr (fun t ht hW => ⟨⟨_, M16, rfl, h, by rw [ht]; exact hP, va_K.moved hW.alike hK, hD⟩, hS.F ht⟩) hS.2.2 dX12_count_130
      · have h := h.2 c18
        refine lv_aload_n hx hb dX12_count_120 rfl (lv_at hl 0 rfl) ?_
        refine va_get (D := (dC, dI)) (ci := 12) (v := .ref (ad 25)) (C := RX12) (T := TX12) (N := 37) hx hb hts hin hown hK hP 0 rfl rfl 25 (by decide) f1 (fun _ h9 => h9) rfl dX12_count_121 ?_
        refine lv_iconst (v := 4) hx hb dX12_count_124 (by decide) ?_
        refine wc_iald (j := 4) hx hb hK hP 12 1 (f := ma M16 25) rfl rfl (by decide) (by decide) (by decide) dX12_count_125 ?_
        refine lv_goto (tgt := 130) hx hb dX12_count_126 (by decide) ?_
        exact W.iret (v := (ma M16 25 4)) hx hb hr (fun t ht hW => ⟨⟨_, M16, rfl, h, by rw [ht]; exact hP, va_K.moved hW.alike hK, hD⟩, hS.F ht⟩) hS.2.2 dX12_count_130
    have h := h.2 c14
    by_cases c19 : p1 = (6 : Int32)
    · have h := h.1 c19
      refine lv_tableIn (tgt := 131) hx hb dX12_count_1 (by rw [c19]; decide) (by rw [c19]; decide) (by rw [c19]; rfl) (by decide) ?_
      refine lv_aload_n hx hb dX12_count_131 rfl (lv_at hl 0 rfl) ?_
      refine va_get (D := (dC, dI)) (ci := 12) (v := .ref (ad 25)) (C := RX12) (T := TX12) (N := 37) hx hb hts hin hown hK hP 0 rfl rfl 25 (by decide) f1 (fun _ h9 => h9) rfl dX12_count_132 ?_
      refine lv_bipush (v := (9)) hx hb dX12_count_135 (by decide) ?_
      refine wc_iald (j := 9) hx hb hK hP 12 1 (f := ma M 25) rfl rfl (by decide) (by decide) (by decide) dX12_count_137 ?_
      exact W.iret (v := (ma M 25 9)) hx hb hr (fun t ht hW => ⟨⟨_, M, rfl, h, by rw [ht]; exact hP, va_K.moved hW.alike hK, hD⟩, hS.F ht⟩) hS.2.2 dX12_count_138
    have h := h.2 c19
    by_cases c20 : p1 = (7 : Int32)
    · have h := h.1 c20
      refine lv_tableIn (tgt := 139) hx hb dX12_count_1 (by rw [c20]; decide) (by rw [c20]; decide) (by rw [c20]; rfl) (by decide) ?_
      refine lv_aload_n hx hb dX12_count_139 rfl (lv_at hl 0 rfl) ?_
      have hFc := gs_free hD hS hA
      refine va_calli (va_runV (As := []) (rest := []) ⟨hx, hb, hml, hown, hts⟩ (kX12_goesOn l dC dI cB cI cJ cZ h0 ad H.size  M _ h) (cwV 0 hts gX12_count_X12_goesOn rfl rfl rfl (by decide +kernel) ⟨Nat.le_of_ble_eq_true rfl, Nat.le_of_ble_eq_true rfl⟩) (mpV hK hP hD) rfl rfl hl.1 rfl (lv_room (Nat.le_of_ble_eq_true rfl)) dX12_count_140 ⟨Nat.le_of_ble_eq_true rfl, Nat.le_of_ble_eq_true rfl⟩) hS (fun q _ z => hFc q z) hFc (fun r21 M22 t H1 locs ht hvm hw hB hz1 hk1 hS => ?_)
      obtain ⟨hP, hD⟩ := gs_back ht hFc hB
      generalize H1 = H at hP hS ⊢
      obtain ⟨b23, rfl, h⟩ := hw
      try dsimp only at h
      refine lv_if_eq (tgt := 156) hx hb dX12_count_143 (by decide) (fun c24 => ?_) (fun c24 => ?_)
      · have h := h.1 c24
        refine lv_iconst (v := 0) hx hb dX12_count_156 (by decide) ?_
        exact W.iret (v := (0 : Int32)) hx hb hr (fun t ht hW => ⟨⟨_, M22, rfl, h, by rw [ht]; exact hP, va_K.moved hW.alike hK, hD⟩, hS.F ht⟩) hS.2.2 dX12_count_157
      · have h := h.2 c24
        refine lv_aload_n hx hb dX12_count_146 rfl (lv_at hl 0 rfl) ?_
        refine va_get (D := (dC, dI)) (ci := 12) (v := .ref (ad 25)) (C := RX12) (T := TX12) (N := 37) hx hb hts hin hown hK hP 0 rfl rfl 25 (by decide) f1 (fun _ h9 => h9) rfl dX12_count_147 ?_
        refine lv_bipush (v := (7)) hx hb dX12_count_150 (by decide) ?_
        refine wc_iald (j := 7) hx hb hK hP 12 1 (f := ma M22 25) rfl rfl (by decide) (by decide) (by decide) dX12_count_152 ?_
        refine lv_goto (tgt := 157) hx hb dX12_count_153 (by decide) ?_
        exact W.iret (v := (ma M22 25 7)) hx hb hr (fun t ht hW => ⟨⟨_, M22, rfl, h, by rw [ht]; exact hP, va_K.moved hW.alike hK, hD⟩, hS.F ht⟩) hS.2.2 dX12_count_157
    have h := h.2 c20
    by_cases c25 : p1 = (8 : Int32)
    · have h := h.1 c25
      refine lv_tableIn (tgt := 158) hx hb dX12_count_1 (by rw [c25]; decide) (by rw [c25]; decide) (by rw [c25]; rfl) (by decide) ?_
      refine lv_aload_n hx hb dX12_count_158 rfl (lv_at hl 0 rfl) ?_
      refine va_get (D := (dC, dI)) (ci := 12) (v := .ref (ad 25)) (C := RX12) (T := TX12) (N := 37) hx hb hts hin hown hK hP 0 rfl rfl 25 (by decide) f1 (fun _ h9 => h9) rfl dX12_count_159 ?_
      refine lv_bipush (v := (18)) hx hb dX12_count_162 (by decide) ?_
      refine wc_iald (j := 18) hx hb hK hP 12 1 (f := ma M 25) rfl rfl (by decide) (by decide) (by decide) dX12_count_164 ?_
      refine lv_aload_n hx hb dX12_count_165 rfl (lv_at hl 0 rfl) ?_
      refine va_get (D := (dC, dI)) (ci := 12) (v := .ref (ad 25)) (C := RX12) (T := TX12) (N := 37) hx hb hts hin hown hK hP 0 rfl rfl 25 (by decide) f1 (fun _ h9 => h9) rfl dX12_count_166 ?_
      refine lv_bipush (v := (19)) hx hb dX12_count_169 (by decide) ?_
      refine wc_iald (j := 19) hx hb hK hP 12 1 (f := ma M 25) rfl rfl (by decide) (by decide) (by decide) dX12_count_171 ?_
      refine lv_iadd hx hb dX12_count_172 ?_
      exact W.iret (v := ((ma M 25 18) + (ma M 25 19))) hx hb hr (fun t ht hW => ⟨⟨_, M, rfl, h, by rw [ht]; exact hP, va_K.moved hW.alike hK, hD⟩, hS.F ht⟩) hS.2.2 dX12_count_173
    have h := h.2 c25
    by_cases c26 : p1 = (9 : Int32)
    · have h := h.1 c26
      refine lv_tableIn (tgt := 174) hx hb dX12_count_1 (by rw [c26]; decide) (by rw [c26]; decide) (by rw [c26]; rfl) (by decide) ?_
      refine lv_aload_n hx hb dX12_count_174 rfl (lv_at hl 0 rfl) ?_
      refine va_get (D := (dC, dI)) (ci := 12) (v := .ref (ad 25)) (C := RX12) (T := TX12) (N := 37) hx hb hts hin hown hK hP 0 rfl rfl 25 (by decide) f1 (fun _ h9 => h9) rfl dX12_count_175 ?_
      refine lv_bipush (v := (10)) hx hb dX12_count_178 (by decide) ?_
      refine wc_iald (j := 10) hx hb hK hP 12 1 (f := ma M 25) rfl rfl (by decide) (by decide) (by decide) dX12_count_180 ?_
      exact W.iret (v := (ma M 25 10)) hx hb hr (fun t ht hW => ⟨⟨_, M, rfl, h, by rw [ht]; exact hP, va_K.moved hW.alike hK, hD⟩, hS.F ht⟩) hS.2.2 dX12_count_181
    have h := h.2 c26
    by_cases c27 : p1 = (10 : Int32)
    · have h := h.1 c27
      refine lv_tableIn (tgt := 182) hx hb dX12_count_1 (by rw [c27]; decide) (by rw [c27]; decide) (by rw [c27]; rfl) (by decide) ?_
      refine lv_aload_n hx hb dX12_count_182 rfl (lv_at hl 0 rfl) ?_
      refine va_get (D := (dC, dI)) (ci := 12) (v := .ref (ad 25)) (C := RX12) (T := TX12) (N := 37) hx hb hts hin hown hK hP 0 rfl rfl 25 (by decide) f1 (fun _ h9 => h9) rfl dX12_count_183 ?_
      refine lv_bipush (v := (11)) hx hb dX12_count_186 (by decide) ?_
      refine wc_iald (j := 11) hx hb hK hP 12 1 (f := ma M 25) rfl rfl (by decide) (by decide) (by decide) dX12_count_188 ?_
      exact W.iret (v := (ma M 25 11)) hx hb hr (fun t ht hW => ⟨⟨_, M, rfl, h, by rw [ht]; exact hP, va_K.moved hW.alike hK, hD⟩, hS.F ht⟩) hS.2.2 dX12_count_189
    have h := h.2 c27
    by_cases c28 : p1 = (11 : Int32)
    · have h := h.1 c28
      refine lv_tableIn (tgt := 190) hx hb dX12_count_1 (by rw [c28]; decide) (by rw [c28]; decide) (by rw [c28]; rfl) (by decide) ?_
      refine lv_aload_n hx hb dX12_count_190 rfl (lv_at hl 0 rfl) ?_
      refine va_get (D := (dC, dI)) (ci := 12) (v := .int (mg M 1)) (C := RX12) (T := TX12) (N := 37) hx hb hts hin hown hK hP 0 rfl rfl 1 (by decide) f3 (fun _ h9 => h9) rfl dX12_count_191 ?_
      exact W.iret (v := (mg M 1)) hx hb hr (fun t ht hW => ⟨⟨_, M, rfl, h, by rw [ht]; exact hP, va_K.moved hW.alike hK, hD⟩, hS.F ht⟩) hS.2.2 dX12_count_194
    have h := h.2 c28
    refine lv_tableOut (tgt := 195) hx hb dX12_count_1 (by have qc1 : p1.toInt ≠ 0 := fun q => c1 (Int32.toInt_inj.mp (q.trans (by decide))); have qc2 : p1.toInt ≠ 1 := fun q => c2 (Int32.toInt_inj.mp (q.trans (by decide))); have qc3 : p1.toInt ≠ 2 := fun q => c3 (Int32.toInt_inj.mp (q.trans (by decide))); have qc4 : p1.toInt ≠ 3 := fun q => c4 (Int32.toInt_inj.mp (q.trans (by decide))); have qc9 : p1.toInt ≠ 4 := fun q => c9 (Int32.toInt_inj.mp (q.trans (by decide))); have qc14 : p1.toInt ≠ 5 := fun q => c14 (Int32.toInt_inj.mp (q.trans (by decide))); have qc19 : p1.toInt ≠ 6 := fun q => c19 (Int32.toInt_inj.mp (q.trans (by decide))); have qc20 : p1.toInt ≠ 7 := fun q => c20 (Int32.toInt_inj.mp (q.trans (by decide))); have qc25 : p1.toInt ≠ 8 := fun q => c25 (Int32.toInt_inj.mp (q.trans (by decide))); have qc26 : p1.toInt ≠ 9 := fun q => c26 (Int32.toInt_inj.mp (q.trans (by decide))); have qc27 : p1.toInt ≠ 10 := fun q => c27 (Int32.toInt_inj.mp (q.trans (by decide))); have qc28 : p1.toInt ≠ 11 := fun q => c28 (Int32.toInt_inj.mp (q.trans (by decide))); omega) (by decide) ?_
    refine lv_iconst (v := (-1)) hx hb dX12_count_195 (by decide) ?_
    exact W.iret (v := (-1 : Int32)) hx hb hr (fun t ht hW => ⟨⟨_, M, rfl, h, by rw [ht]; exact hP, va_K.moved hW.alike hK, hD⟩, hS.F ht⟩) hS.2.2 dX12_count_196
  have hl := lv_entry ([.ref h0, .int p1]) (n := 2) (Nat.le_of_ble_eq_true rfl)
  rw [lg_entry_eq]
  generalize (lg_sl ([.ref h0, .int p1]) ++ List.replicate (2 - (lg_sl ([.ref h0, .int p1])).length) Slot.unset).toArray = ls at hl ⊢
  have hl : lv_has ls 2 [(0, .ref h0), (1, .int p1)] := hl
  exact bE M s.heap [] ls hP hD hS hl h
def wX12_image_23  (Q : Int32 → gS → Prop) : Nat → Int32 → Int32 → gS → Prop
 | 0, _, _, _ => False
 | n + 1, y1, y2, M => (((44 : Int32) ≤ y2 → (Q ((ma M 25 18) + (ma M 25 19)) M))
 ∧ (¬ (44 : Int32) ≤ y2 → (vp_in y2 44 ∧ (∀ x2 : Int32, x2 = (ma M 25 (Int32.toNatClampNeg y2)) → (vp_in (((44 : Int32) * y1) + y2) 176 ∧ (∀ M3 : gS, M3 = sa M 35 (Int32.toNatClampNeg (((44 : Int32) * y1) + y2)) x2 → (∀ x4 : Int32, x4 = y2 + (1 : Int32) → (wX12_image_23  Q n y1 x4 M3))))))))
def wX12_image (p1 : Int32) (M : gS) (Q : Int32 → gS → Prop) : Prop :=
 (wX12_in (Int32.toInt64 p1) (0 : Int64) (3 : Int64) M (fun (b3 : Bool) (M2 : gS) => (((bI b3) = 0 → (Q (-1 : Int32) M2))
 ∧ (¬ (bI b3) = 0 → (vp_in p1 4 ∧ (∀ M5 : gS, M5 = sa M2 36 (Int32.toNatClampNeg p1) (vp_nar .boolean (1 : Int32)) → (∃ k23 : Nat, wX12_image_23  Q k23 p1 (0 : Int32) M5)))))))
def rmX12_image : Room := { frames := 1, cells := 0, slots := 0, locals := 25 }
set_option maxHeartbeats 4000000 in
set_option maxRecDepth 100000 in
theorem kX12_image (l : Launch) (dC : Nat → ClassId) (dI : Nat → Nat → Nat) (cB cI cJ cZ : ClassId) (h0 : Nat) (ad : Nat → Nat) (sz : Nat) (p1 : Int32) (M : gS) (Q : Int32 → gS → Prop) (h : wX12_image p1 M Q) : Met l yX12_image wsX12_image rmX12_image (va_Pc [.ref h0, .int p1] (mI dC dI cB cI cJ cZ h0 ad M sz)) (va_Qi (fun (r : Int32) (u : gS) => Q r u) (mB dC dI cB cI cJ cZ h0 ad (va_A (mW cB cI cJ cZ h0 ad M) sz)) (va_A (mW cB cI cJ cZ h0 ad M) sz)) 0 0 (va_A (mW cB cI cJ cZ h0 ad M) sz) := by
  refine Met.ofW (cc := cX12_image) (maxL := 3) (ret := (some .int)) (by decide) rfl ?_
  intro p e s m args below meth c s₁ B hml hv
  obtain ⟨rfl, hsz, hP, hK, hD0⟩ := hv
  have hx := B.exec
  have hb := B.bytes
  have hr := B.returns
  have hts := atoms_spec (ws := wsX12_image) B.pre
  have hown : s.vm.findClass RX12 = some m.cls := findClass_of_methodNamed B.named
  have hlocks := B.notSynchronized
  subst hsz
  have hD := hD0.self (sz := s.heap.size)
  generalize hAe : va_A (mW cB cI cJ cZ h0 ad M) s.heap.size = A at hD ⊢
  have hA : ∀ q : Nat, s.heap.size ≤ q → A q := fun q h => by rw [← hAe]; exact Or.inr h
  have hS : va_S A s.heap s.heap [] := va_S.rf
  have hin : ∀ w ∈ wsX120, w ∈ wsX12_image := fun w h => List.mem_cons_of_mem _ (List.mem_append_right _ h)
  have f1 := hts (.fieldLink RX12 45 "LastWordsModel" "said" "[I") (by decide +kernel)
  have f2 := hts (.fieldLink RX12 69 "LastWordsModel" "images" "[I") (by decide +kernel)
  have f3 := hts (.constantLong RX12 319 (3)) (by decide +kernel)
  have f4 := hts (.fieldLink RX12 72 "LastWordsModel" "isMade" "[Z") (by decide +kernel)
  have b23 : ∀ (n : Nat) (y1 : Int32) (y2 : Int32) (M : gS) (H : Heap) (locs : List Loc) (ls : Array Slot), va_P (dC, dI) vwCl (mW cB cI cJ cZ h0 ad M) H → va_D A (mW cB cI cJ cZ h0 ad M) → va_S A s.heap H locs → lv_has ls 3 [(0, .ref h0), (1, .int y1), (2, .int y2)] → wX12_image_23  Q n y1 y2 M → W p l e (headSpec wsX12_image rmX12_image).room s m ([.ref h0, .int p1] : List Value).toArray below meth c H locs 0 0 (MQ below (va_Qi (fun (r : Int32) (u : gS) => Q r u) (mB dC dI cB cI cJ cZ h0 ad A) A) ([.ref h0, .int p1] : List Value).toArray s 0 0 A) (F0 m 23 ls []) := by
    intro  n
    induction n with
    | zero => intro y1 y2 M H locs ls hP hD hS hl h; exact absurd h (by simp [wX12_image_23])
    | succ n hB230 =>
      intro y1 y2 M H locs ls hP hD hS hl h
      have hB23 := hB230
      rw [wX12_image_23] at h
      refine lv_iload_n hx hb dX12_image_23 rfl (lv_at hl 2 rfl) ?_
      refine lv_bipush (v := (44)) hx hb dX12_image_24 (by decide) ?_
      refine lv_icmp_ge (tgt := 52) hx hb dX12_image_26 (by decide) (fun c1 => ?_) (fun c1 => ?_)
      · have h := h.1 c1
        refine lv_aload_n hx hb dX12_image_52 rfl (lv_at hl 0 rfl) ?_
        refine va_get (D := (dC, dI)) (ci := 12) (v := .ref (ad 25)) (C := RX12) (T := TX12) (N := 37) hx hb hts hin hown hK hP 0 rfl rfl 25 (by decide) f1 (fun _ h9 => h9) rfl dX12_image_53 ?_
        refine lv_bipush (v := (18)) hx hb dX12_image_56 (by decide) ?_
        refine wc_iald (j := 18) hx hb hK hP 12 1 (f := ma M 25) rfl rfl (by decide) (by decide) (by decide) dX12_image_58 ?_
        refine lv_aload_n hx hb dX12_image_59 rfl (lv_at hl 0 rfl) ?_
        refine va_get (D := (dC, dI)) (ci := 12) (v := .ref (ad 25)) (C := RX12) (T := TX12) (N := 37) hx hb hts hin hown hK hP 0 rfl rfl 25 (by decide) f1 (fun _ h9 => h9) rfl dX12_image_60 ?_
        refine lv_bipush (v := (19)) hx hb dX12_image_63 (by decide) ?_
        refine wc_iald (j := 19) hx hb hK hP 12 1 (f := ma M 25) rfl rfl (by decide) (by decide) (by decide) dX12_image_65 ?_
        refine lv_iadd hx hb dX12_image_66 ?_
        exact W.iret (v := ((ma M 25 18) + (ma M 25 19))) hx hb hr (fun t ht hW => ⟨⟨_, M, rfl, h, by rw [ht]; exact hP, va_K.moved hW.alike hK, hD⟩, hS.F ht⟩) hS.2.2 dX12_image_67
      · have h := h.2 c1
        refine lv_aload_n hx hb dX12_image_29 rfl (lv_at hl 0 rfl) ?_
        refine va_get (D := (dC, dI)) (ci := 12) (v := .ref (ad 35)) (C := RX12) (T := TX12) (N := 37) hx hb hts hin hown hK hP 0 rfl rfl 35 (by decide) f2 (fun _ h9 => h9) rfl dX12_image_30 ?_
        refine lv_bipush (v := (44)) hx hb dX12_image_33 (by decide) ?_
        refine lv_iload_n hx hb dX12_image_35 rfl (lv_at hl 1 rfl) ?_
        refine lv_imul hx hb dX12_image_36 ?_
        refine lv_iload_n hx hb dX12_image_37 rfl (lv_at hl 2 rfl) ?_
        refine lv_iadd hx hb dX12_image_38 ?_
        refine lv_aload_n hx hb dX12_image_39 rfl (lv_at hl 0 rfl) ?_
        refine va_get (D := (dC, dI)) (ci := 12) (v := .ref (ad 25)) (C := RX12) (T := TX12) (N := 37) hx hb hts hin hown hK hP 0 rfl rfl 25 (by decide) f1 (fun _ h9 => h9) rfl dX12_image_40 ?_
        refine lv_iload_n hx hb dX12_image_43 rfl (lv_at hl 2 rfl) ?_
        refine va_iald hx hb hK hP 12 1 (f := ma M 25) rfl rfl h.1 dX12_image_44 ?_
        have h := h.2
        refine lv_topi (fun x2 ex2 => ?_)
        have h := h x2 ex2
        refine va_iast hx hb hK hP hD hS 20 1 (f := ma M 35) rfl rfl h.1 dX12_image_45 (fun H locs hP hD hS => ?_)
        have h := h.2
        have hP := mP_a35 hP
        have hD := mD_a35 hD
        have h := h _ rfl
        generalize sa M 35 (Int32.toNatClampNeg (((44 : Int32) * y1) + y2)) x2 = M3 at hP hD h
        obtain ⟨x4, ex4⟩ : ∃ y : Int32, y = y2 + (1 : Int32) := ⟨_, rfl⟩
        have h := h x4 ex4
        refine lv_iinc (v := x4) (lv' := [(2, .int x4), (0, .ref h0), (1, .int y1)]) hx hb dX12_image_46 hl (k := 2) rfl (by rw [ex4]; rfl) (by decide) rfl (fun ls hl => ?_)
        refine lv_goto (tgt := 23) hx hb dX12_image_49 (by decide) ?_
        exact hB23 y1 x4 M3 H locs ls hP hD hS (lv_sub hl [1, 2, 0] rfl) h
  have bE : ∀ (M : gS) (H : Heap) (locs : List Loc) (ls : Array Slot), va_P (dC, dI) vwCl (mW cB cI cJ cZ h0 ad M) H → va_D A (mW cB cI cJ cZ h0 ad M) → va_S A s.heap H locs → lv_has ls 3 [(0, .ref h0), (1, .int p1)] → wX12_image p1 M Q → W p l e (headSpec wsX12_image rmX12_image).room s m ([.ref h0, .int p1] : List Value).toArray below meth c H locs 0 0 (MQ below (va_Qi (fun (r : Int32) (u : gS) => Q r u) (mB dC dI cB cI cJ cZ h0 ad A) A) ([.ref h0, .int p1] : List Value).toArray s 0 0 A) (F0 m 0 ls []) := by
    intro M H locs ls hP hD hS hl h
    unfold wX12_image at h
    refine lv_iload_n hx hb dX12_image_0 rfl (lv_at hl 1 rfl) ?_
    refine lv_i2l hx hb dX12_image_1 rfl ?_
    refine lv_lconst (v := 0) hx hb dX12_image_2 (by decide) ?_
    refine lv_ldc2 (v := (3)) hx hb hown f3 dX12_image_3 ?_
    have hFc := gs_free hD hS hA
    refine va_calli (va_runS (As := [.long (Int32.toInt64 p1), .long (0 : Int64), .long (3 : Int64)]) (rest := []) ⟨hx, hb, hml, hown, hts⟩ (kX12_in l dC dI cB cI cJ cZ h0 ad H.size (Int32.toInt64 p1) (0 : Int64) (3 : Int64) M _ h) (cwS 3 hts gX12_image_X12_in rfl rfl rfl (by decide +kernel) ⟨Nat.le_of_ble_eq_true rfl, Nat.le_of_ble_eq_true rfl⟩) (mpS hK hP hD) rfl rfl hl.1 rfl (lv_room (Nat.le_of_ble_eq_true rfl)) dX12_image_6 ⟨Nat.le_of_ble_eq_true rfl, Nat.le_of_ble_eq_true rfl⟩) hS (fun q _ z => hFc q z) hFc (fun r1 M2 t H1 locs ht hvm hw hB hz1 hk1 hS => ?_)
    obtain ⟨hP, hD⟩ := gs_back ht hFc hB
    generalize H1 = H at hP hS ⊢
    obtain ⟨b3, rfl, h⟩ := hw
    try dsimp only at h
    refine lv_if_ne (tgt := 14) hx hb dX12_image_9 (by decide) (fun c4 => ?_) (fun c4 => ?_)
    · have h := h.2 c4
      refine lv_aload_n hx hb dX12_image_14 rfl (lv_at hl 0 rfl) ?_
      refine va_get (D := (dC, dI)) (ci := 12) (v := .ref (ad 36)) (C := RX12) (T := TX12) (N := 37) hx hb hts hin hown hK hP 0 rfl rfl 36 (by decide) f4 (fun _ h9 => h9) rfl dX12_image_15 ?_
      refine lv_iload_n hx hb dX12_image_18 rfl (lv_at hl 1 rfl) ?_
      refine lv_iconst (v := 1) hx hb dX12_image_19 (by decide) ?_
      refine va_zast hx hb hK hP hD hS 21 3 (f := ma M2 36) rfl rfl h.1 dX12_image_20 (fun H locs hP hD hS => ?_)
      have h := h.2
      have hP := mP_a36 hP
      have hD := mD_a36 hD
      have h := h _ rfl
      generalize sa M2 36 (Int32.toNatClampNeg p1) (vp_nar .boolean (1 : Int32)) = M5 at hP hD h
      refine lv_iconst (v := 0) hx hb dX12_image_21 (by decide) ?_
      refine lv_istore_n (lv' := [(2, .int (0 : Int32)), (0, .ref h0), (1, .int p1)]) hx hb dX12_image_22 rfl hl (by decide) rfl (fun ls hl => ?_)
      obtain ⟨n9, h⟩ := h
      exact b23  n9 p1 (0 : Int32) M5 H locs ls hP hD hS (lv_sub hl [1, 2, 0] rfl) h
    · have h := h.1 c4
      refine lv_iconst (v := (-1)) hx hb dX12_image_12 (by decide) ?_
      exact W.iret (v := (-1 : Int32)) hx hb hr (fun t ht hW => ⟨⟨_, M2, rfl, h, by rw [ht]; exact hP, va_K.moved hW.alike hK, hD⟩, hS.F ht⟩) hS.2.2 dX12_image_13
  have hl := lv_entry ([.ref h0, .int p1]) (n := 3) (Nat.le_of_ble_eq_true rfl)
  rw [lg_entry_eq]
  generalize (lg_sl ([.ref h0, .int p1]) ++ List.replicate (3 - (lg_sl ([.ref h0, .int p1])).length) Slot.unset).toArray = ls at hl ⊢
  have hl : lv_has ls 3 [(0, .ref h0), (1, .int p1)] := hl
  exact bE M s.heap [] ls hP hD hS hl h
def wX12_back_25  (Q : Int32 → gS → Prop) : Nat → Int32 → Int32 → gS → Prop
 | 0, _, _, _ => False
 | n + 1, y1, y2, M => (((44 : Int32) ≤ y2 → (Q ((ma M 25 18) + (ma M 25 19)) M))
 ∧ (¬ (44 : Int32) ≤ y2 → (vp_in (((44 : Int32) * y1) + y2) 176 ∧ (∀ x2 : Int32, x2 = (ma M 35 (Int32.toNatClampNeg (((44 : Int32) * y1) + y2))) → (vp_in y2 44 ∧ (∀ M3 : gS, M3 = sa M 25 (Int32.toNatClampNeg y2) x2 → (∀ x4 : Int32, x4 = y2 + (1 : Int32) → (wX12_back_25  Q n y1 x4 M3))))))))
def wX12_back (p1 : Int32) (M : gS) (Q : Int32 → gS → Prop) : Prop :=
 (wX12_in (Int32.toInt64 p1) (0 : Int64) (3 : Int64) M (fun (b3 : Bool) (M2 : gS) => (((bI b3) = 0 → (Q (-1 : Int32) M2))
 ∧ (¬ (bI b3) = 0 → (vp_in p1 4 ∧ (((ma M2 36 (Int32.toNatClampNeg p1)) = 0 → (Q (-1 : Int32) M2))
 ∧ (¬ (ma M2 36 (Int32.toNatClampNeg p1)) = 0 → (∃ k25 : Nat, wX12_back_25  Q k25 p1 (0 : Int32) M2))))))))
def rmX12_back : Room := { frames := 1, cells := 0, slots := 0, locals := 25 }
set_option maxHeartbeats 4000000 in
set_option maxRecDepth 100000 in
theorem kX12_back (l : Launch) (dC : Nat → ClassId) (dI : Nat → Nat → Nat) (cB cI cJ cZ : ClassId) (h0 : Nat) (ad : Nat → Nat) (sz : Nat) (p1 : Int32) (M : gS) (Q : Int32 → gS → Prop) (h : wX12_back p1 M Q) : Met l yX12_back wsX12_back rmX12_back (va_Pc [.ref h0, .int p1] (mI dC dI cB cI cJ cZ h0 ad M sz)) (va_Qi (fun (r : Int32) (u : gS) => Q r u) (mB dC dI cB cI cJ cZ h0 ad (va_A (mW cB cI cJ cZ h0 ad M) sz)) (va_A (mW cB cI cJ cZ h0 ad M) sz)) 0 0 (va_A (mW cB cI cJ cZ h0 ad M) sz) := by
  refine Met.ofW (cc := cX12_back) (maxL := 3) (ret := (some .int)) (by decide) rfl ?_
  intro p e s m args below meth c s₁ B hml hv
  obtain ⟨rfl, hsz, hP, hK, hD0⟩ := hv
  have hx := B.exec
  have hb := B.bytes
  have hr := B.returns
  have hts := atoms_spec (ws := wsX12_back) B.pre
  have hown : s.vm.findClass RX12 = some m.cls := findClass_of_methodNamed B.named
  have hlocks := B.notSynchronized
  subst hsz
  have hD := hD0.self (sz := s.heap.size)
  generalize hAe : va_A (mW cB cI cJ cZ h0 ad M) s.heap.size = A at hD ⊢
  have hA : ∀ q : Nat, s.heap.size ≤ q → A q := fun q h => by rw [← hAe]; exact Or.inr h
  have hS : va_S A s.heap s.heap [] := va_S.rf
  have hin : ∀ w ∈ wsX120, w ∈ wsX12_back := fun w h => List.mem_cons_of_mem _ (List.mem_append_right _ h)
  have f1 := hts (.fieldLink RX12 45 "LastWordsModel" "said" "[I") (by decide +kernel)
  have f2 := hts (.fieldLink RX12 69 "LastWordsModel" "images" "[I") (by decide +kernel)
  have f3 := hts (.constantLong RX12 319 (3)) (by decide +kernel)
  have f4 := hts (.fieldLink RX12 72 "LastWordsModel" "isMade" "[Z") (by decide +kernel)
  have b25 : ∀ (n : Nat) (y1 : Int32) (y2 : Int32) (M : gS) (H : Heap) (locs : List Loc) (ls : Array Slot), va_P (dC, dI) vwCl (mW cB cI cJ cZ h0 ad M) H → va_D A (mW cB cI cJ cZ h0 ad M) → va_S A s.heap H locs → lv_has ls 3 [(0, .ref h0), (1, .int y1), (2, .int y2)] → wX12_back_25  Q n y1 y2 M → W p l e (headSpec wsX12_back rmX12_back).room s m ([.ref h0, .int p1] : List Value).toArray below meth c H locs 0 0 (MQ below (va_Qi (fun (r : Int32) (u : gS) => Q r u) (mB dC dI cB cI cJ cZ h0 ad A) A) ([.ref h0, .int p1] : List Value).toArray s 0 0 A) (F0 m 25 ls []) := by
    intro  n
    induction n with
    | zero => intro y1 y2 M H locs ls hP hD hS hl h; exact absurd h (by simp [wX12_back_25])
    | succ n hB250 =>
      intro y1 y2 M H locs ls hP hD hS hl h
      have hB25 := hB250
      rw [wX12_back_25] at h
      refine lv_iload_n hx hb dX12_back_25 rfl (lv_at hl 2 rfl) ?_
      refine lv_bipush (v := (44)) hx hb dX12_back_26 (by decide) ?_
      refine lv_icmp_ge (tgt := 54) hx hb dX12_back_28 (by decide) (fun c1 => ?_) (fun c1 => ?_)
      · have h := h.1 c1
        refine lv_aload_n hx hb dX12_back_54 rfl (lv_at hl 0 rfl) ?_
        refine va_get (D := (dC, dI)) (ci := 12) (v := .ref (ad 25)) (C := RX12) (T := TX12) (N := 37) hx hb hts hin hown hK hP 0 rfl rfl 25 (by decide) f1 (fun _ h9 => h9) rfl dX12_back_55 ?_
        refine lv_bipush (v := (18)) hx hb dX12_back_58 (by decide) ?_
        refine wc_iald (j := 18) hx hb hK hP 12 1 (f := ma M 25) rfl rfl (by decide) (by decide) (by decide) dX12_back_60 ?_
        refine lv_aload_n hx hb dX12_back_61 rfl (lv_at hl 0 rfl) ?_
        refine va_get (D := (dC, dI)) (ci := 12) (v := .ref (ad 25)) (C := RX12) (T := TX12) (N := 37) hx hb hts hin hown hK hP 0 rfl rfl 25 (by decide) f1 (fun _ h9 => h9) rfl dX12_back_62 ?_
        refine lv_bipush (v := (19)) hx hb dX12_back_65 (by decide) ?_
        refine wc_iald (j := 19) hx hb hK hP 12 1 (f := ma M 25) rfl rfl (by decide) (by decide) (by decide) dX12_back_67 ?_
        refine lv_iadd hx hb dX12_back_68 ?_
        exact W.iret (v := ((ma M 25 18) + (ma M 25 19))) hx hb hr (fun t ht hW => ⟨⟨_, M, rfl, h, by rw [ht]; exact hP, va_K.moved hW.alike hK, hD⟩, hS.F ht⟩) hS.2.2 dX12_back_69
      · have h := h.2 c1
        refine lv_aload_n hx hb dX12_back_31 rfl (lv_at hl 0 rfl) ?_
        refine va_get (D := (dC, dI)) (ci := 12) (v := .ref (ad 25)) (C := RX12) (T := TX12) (N := 37) hx hb hts hin hown hK hP 0 rfl rfl 25 (by decide) f1 (fun _ h9 => h9) rfl dX12_back_32 ?_
        refine lv_iload_n hx hb dX12_back_35 rfl (lv_at hl 2 rfl) ?_
        refine lv_aload_n hx hb dX12_back_36 rfl (lv_at hl 0 rfl) ?_
        refine va_get (D := (dC, dI)) (ci := 12) (v := .ref (ad 35)) (C := RX12) (T := TX12) (N := 37) hx hb hts hin hown hK hP 0 rfl rfl 35 (by decide) f2 (fun _ h9 => h9) rfl dX12_back_37 ?_
        refine lv_bipush (v := (44)) hx hb dX12_back_40 (by decide) ?_
        refine lv_iload_n hx hb dX12_back_42 rfl (lv_at hl 1 rfl) ?_
        refine lv_imul hx hb dX12_back_43 ?_
        refine lv_iload_n hx hb dX12_back_44 rfl (lv_at hl 2 rfl) ?_
        refine lv_iadd hx hb dX12_back_45 ?_
        refine va_iald hx hb hK hP 20 1 (f := ma M 35) rfl rfl h.1 dX12_back_46 ?_
        have h := h.2
        refine lv_topi (fun x2 ex2 => ?_)
        have h := h x2 ex2
        refine va_iast hx hb hK hP hD hS 12 1 (f := ma M 25) rfl rfl h.1 dX12_back_47 (fun H locs hP hD hS => ?_)
        have h := h.2
        have hP := mP_a25 hP
        have hD := mD_a25 hD
        have h := h _ rfl
        generalize sa M 25 (Int32.toNatClampNeg y2) x2 = M3 at hP hD h
        obtain ⟨x4, ex4⟩ : ∃ y : Int32, y = y2 + (1 : Int32) := ⟨_, rfl⟩
        have h := h x4 ex4
        refine lv_iinc (v := x4) (lv' := [(2, .int x4), (0, .ref h0), (1, .int y1)]) hx hb dX12_back_48 hl (k := 2) rfl (by rw [ex4]; rfl) (by decide) rfl (fun ls hl => ?_)
        refine lv_goto (tgt := 25) hx hb dX12_back_51 (by decide) ?_
        exact hB25 y1 x4 M3 H locs ls hP hD hS (lv_sub hl [1, 2, 0] rfl) h
  have bE : ∀ (M : gS) (H : Heap) (locs : List Loc) (ls : Array Slot), va_P (dC, dI) vwCl (mW cB cI cJ cZ h0 ad M) H → va_D A (mW cB cI cJ cZ h0 ad M) → va_S A s.heap H locs → lv_has ls 3 [(0, .ref h0), (1, .int p1)] → wX12_back p1 M Q → W p l e (headSpec wsX12_back rmX12_back).room s m ([.ref h0, .int p1] : List Value).toArray below meth c H locs 0 0 (MQ below (va_Qi (fun (r : Int32) (u : gS) => Q r u) (mB dC dI cB cI cJ cZ h0 ad A) A) ([.ref h0, .int p1] : List Value).toArray s 0 0 A) (F0 m 0 ls []) := by
    intro M H locs ls hP hD hS hl h
    unfold wX12_back at h
    refine lv_iload_n hx hb dX12_back_0 rfl (lv_at hl 1 rfl) ?_
    refine lv_i2l hx hb dX12_back_1 rfl ?_
    refine lv_lconst (v := 0) hx hb dX12_back_2 (by decide) ?_
    refine lv_ldc2 (v := (3)) hx hb hown f3 dX12_back_3 ?_
    have hFc := gs_free hD hS hA
    refine va_calli (va_runS (As := [.long (Int32.toInt64 p1), .long (0 : Int64), .long (3 : Int64)]) (rest := []) ⟨hx, hb, hml, hown, hts⟩ (kX12_in l dC dI cB cI cJ cZ h0 ad H.size (Int32.toInt64 p1) (0 : Int64) (3 : Int64) M _ h) (cwS 3 hts gX12_back_X12_in rfl rfl rfl (by decide +kernel) ⟨Nat.le_of_ble_eq_true rfl, Nat.le_of_ble_eq_true rfl⟩) (mpS hK hP hD) rfl rfl hl.1 rfl (lv_room (Nat.le_of_ble_eq_true rfl)) dX12_back_6 ⟨Nat.le_of_ble_eq_true rfl, Nat.le_of_ble_eq_true rfl⟩) hS (fun q _ z => hFc q z) hFc (fun r1 M2 t H1 locs ht hvm hw hB hz1 hk1 hS => ?_)
    obtain ⟨hP, hD⟩ := gs_back ht hFc hB
    generalize H1 = H at hP hS ⊢
    obtain ⟨b3, rfl, h⟩ := hw
    try dsimp only at h
    refine lv_if_eq (tgt := 21) hx hb dX12_back_9 (by decide) (fun c4 => ?_) (fun c4 => ?_)
    · have h := h.1 c4
      refine lv_iconst (v := (-1)) hx hb dX12_back_21 (by decide) ?_
      exact W.iret (v := (-1 : Int32)) hx hb hr (fun t ht hW => ⟨⟨_, M2, rfl, h, by rw [ht]; exact hP, va_K.moved hW.alike hK, hD⟩, hS.F ht⟩) hS.2.2 dX12_back_22
    · have h := h.2 c4
      refine lv_aload_n hx hb dX12_back_12 rfl (lv_at hl 0 rfl) ?_
      refine va_get (D := (dC, dI)) (ci := 12) (v := .ref (ad 36)) (C := RX12) (T := TX12) (N := 37) hx hb hts hin hown hK hP 0 rfl rfl 36 (by decide) f4 (fun _ h9 => h9) rfl dX12_back_13 ?_
      refine lv_iload_n hx hb dX12_back_16 rfl (lv_at hl 1 rfl) ?_
      refine va_zald hx hb hK hP 21 3 (f := ma M2 36) rfl rfl h.1 dX12_back_17 ?_
      have h := h.2
      refine lv_if_ne (tgt := 23) hx hb dX12_back_18 (by decide) (fun c5 => ?_) (fun c5 => ?_)
      · have h := h.2 c5
        refine lv_iconst (v := 0) hx hb dX12_back_23 (by decide) ?_
        refine lv_istore_n (lv' := [(2, .int (0 : Int32)), (0, .ref h0), (1, .int p1)]) hx hb dX12_back_24 rfl hl (by decide) rfl (fun ls hl => ?_)
        obtain ⟨n9, h⟩ := h
        exact b25  n9 p1 (0 : Int32) M2 H locs ls hP hD hS (lv_sub hl [1, 2, 0] rfl) h
      · have h := h.1 c5
        refine lv_iconst (v := (-1)) hx hb dX12_back_21 (by decide) ?_
        exact W.iret (v := (-1 : Int32)) hx hb hr (fun t ht hW => ⟨⟨_, M2, rfl, h, by rw [ht]; exact hP, va_K.moved hW.alike hK, hD⟩, hS.F ht⟩) hS.2.2 dX12_back_22
  have hl := lv_entry ([.ref h0, .int p1]) (n := 3) (Nat.le_of_ble_eq_true rfl)
  rw [lg_entry_eq]
  generalize (lg_sl ([.ref h0, .int p1]) ++ List.replicate (3 - (lg_sl ([.ref h0, .int p1])).length) Slot.unset).toArray = ls at hl ⊢
  have hl : lv_has ls 3 [(0, .ref h0), (1, .int p1)] := hl
  exact bE M s.heap [] ls hP hD hS hl h
