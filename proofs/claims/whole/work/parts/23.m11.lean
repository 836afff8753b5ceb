def wX12_keepsAt_2  (Q : gS → Prop) : Nat → Int32 → Int32 → gS → Prop
 | 0, _, _, _ => False
 | n + 1, y1, y2, M => (((44 : Int32) ≤ y2 → (vp_in y1 9 ∧ (∀ M2 : gS, M2 = sa M 30 (Int32.toNatClampNeg y1) (-1 : Int32) → (Q M2))))
 ∧ (¬ (44 : Int32) ≤ y2 → (vp_in y2 44 ∧ (∀ x3 : Int32, x3 = (ma M 25 (Int32.toNatClampNeg y2)) → (vp_in (((44 : Int32) * y1) + y2) 396 ∧ (∀ M4 : gS, M4 = sa M 29 (Int32.toNatClampNeg (((44 : Int32) * y1) + y2)) x3 → (∀ x5 : Int32, x5 = y2 + (1 : Int32) → (wX12_keepsAt_2  Q n y1 x5 M4))))))))
def wX12_keepsAt (p1 : Int32) (M : gS) (Q : gS → Prop) : Prop :=
 (∃ k2 : Nat, wX12_keepsAt_2  Q k2 p1 (0 : Int32) M)
def rmX12_keepsAt : Room := { frames := 0, cells := 0, slots := 0, locals := 0 }
set_option maxHeartbeats 4000000 in
set_option maxRecDepth 100000 in
theorem kX12_keepsAt (l : Launch) (dC : Nat → ClassId) (dI : Nat → Nat → Nat) (cB cI cJ cZ : ClassId) (h0 : Nat) (ad : Nat → Nat) (sz : Nat) (p1 : Int32) (M : gS) (Q : gS → Prop) (h : wX12_keepsAt p1 M Q) : Met l yX12_keepsAt wsX12_keepsAt rmX12_keepsAt (va_Pc [.ref h0, .int p1] (mI dC dI cB cI cJ cZ h0 ad M sz)) (va_Qv (fun (u : gS) => Q u) (mB dC dI cB cI cJ cZ h0 ad (va_A (mW cB cI cJ cZ h0 ad M) sz)) (va_A (mW cB cI cJ cZ h0 ad M) sz)) 0 0 (va_A (mW cB cI cJ cZ h0 ad M) sz) := by
  refine Met.ofW (cc := cX12_keepsAt) (maxL := 3) (ret := none) (by decide) rfl ?_
  intro p e s m args below meth c s₁ B hml hv
  obtain ⟨rfl, hsz, hP, hK, hD0⟩ := hv
  have hx := B.exec
  have hb := B.bytes
  have hr := B.returns
  have hts := atoms_spec (ws := wsX12_keepsAt) B.pre
  have hown : s.vm.findClass RX12 = some m.cls := findClass_of_methodNamed B.named
  have hlocks := B.notSynchronized
  subst hsz
  have hD := hD0.self (sz := s.heap.size)
  generalize hAe : va_A (mW cB cI cJ cZ h0 ad M) s.heap.size = A at hD ⊢
  have hA : ∀ q : Nat, s.heap.size ≤ q → A q := fun q h => by rw [← hAe]; exact Or.inr h
  have hS : va_S A s.heap s.heap [] := va_S.rf
  have hin : ∀ w ∈ wsX120, w ∈ wsX12_keepsAt := fun w h => List.mem_cons_of_mem _ (List.mem_append_right _ h)
  have f1 := hts (.fieldLink RX12 57 "LastWordsModel" "doing" "[I") (by decide +kernel)
  have f2 := hts (.fieldLink RX12 54 "LastWordsModel" "stood" "[I") (by decide +kernel)
  have f3 := hts (.fieldLink RX12 45 "LastWordsModel" "said" "[I") (by decide +kernel)
  have b2 : ∀ (n : Nat) (y1 : Int32) (y2 : Int32) (M : gS) (H : Heap) (locs : List Loc) (ls : Array Slot), va_P (dC, dI) vwCl (mW cB cI cJ cZ h0 ad M) H → va_D A (mW cB cI cJ cZ h0 ad M) → va_S A s.heap H locs → lv_has ls 3 [(0, .ref h0), (1, .int y1), (2, .int y2)] → wX12_keepsAt_2  Q n y1 y2 M → W p l e (headSpec wsX12_keepsAt rmX12_keepsAt).room s m ([.ref h0, .int p1] : List Value).toArray below meth c H locs 0 0 (MQ below (va_Qv (fun (u : gS) => Q u) (mB dC dI cB cI cJ cZ h0 ad A) A) ([.ref h0, .int p1] : List Value).toArray s 0 0 A) (F0 m 2 ls []) := by
    intro  n
    induction n with
    | zero => intro y1 y2 M H locs ls hP hD hS hl h; exact absurd h (by simp [wX12_keepsAt_2])
    | succ n hB20 =>
      intro y1 y2 M H locs ls hP hD hS hl h
      have hB2 := hB20
      rw [wX12_keepsAt_2] at h
      refine lv_iload_n hx hb dX12_keepsAt_2 rfl (lv_at hl 2 rfl) ?_
      refine lv_bipush (v := (44)) hx hb dX12_keepsAt_3 (by decide) ?_
      refine lv_icmp_ge (tgt := 31) hx hb dX12_keepsAt_5 (by decide) (fun c1 => ?_) (fun c1 => ?_)
      · have h := h.1 c1
        refine lv_aload_n hx hb dX12_keepsAt_31 rfl (lv_at hl 0 rfl) ?_
        refine va_get (D := (dC, dI)) (ci := 12) (v := .ref (ad 30)) (C := RX12) (T := TX12) (N := 37) hx hb hts hin hown hK hP 0 rfl rfl 30 (by decide) f1 (fun _ h9 => h9) rfl dX12_keepsAt_32 ?_
        refine lv_iload_n hx hb dX12_keepsAt_35 rfl (lv_at hl 1 rfl) ?_
        refine lv_iconst (v := (-1)) hx hb dX12_keepsAt_36 (by decide) ?_
        refine va_iast hx hb hK hP hD hS 16 1 (f := ma M 30) rfl rfl h.1 dX12_keepsAt_37 (fun H locs hP hD hS => ?_)
        have h := h.2
        have hP := mP_a30 hP
        have hD := mD_a30 hD
        have h := h _ rfl
        generalize sa M 30 (Int32.toNatClampNeg y1) (-1 : Int32) = M2 at hP hD h
        exact W.vret hx hb hr (fun t ht hW => ⟨⟨M2, rfl, h, by rw [ht]; exact hP, va_K.moved hW.alike hK, hD⟩, hS.F ht⟩) hS.2.2 dX12_keepsAt_38
      · have h := h.2 c1
        refine lv_aload_n hx hb dX12_keepsAt_8 rfl (lv_at hl 0 rfl) ?_
        refine va_get (D := (dC, dI)) (ci := 12) (v := .ref (ad 29)) (C := RX12) (T := TX12) (N := 37) hx hb hts hin hown hK hP 0 rfl rfl 29 (by decide) f2 (fun _ h9 => h9) rfl dX12_keepsAt_9 ?_
        refine lv_bipush (v := (44)) hx hb dX12_keepsAt_12 (by decide) ?_
        refine lv_iload_n hx hb dX12_keepsAt_14 rfl (lv_at hl 1 rfl) ?_
        refine lv_imul hx hb dX12_keepsAt_15 ?_
        refine lv_iload_n hx hb dX12_keepsAt_16 rfl (lv_at hl 2 rfl) ?_
        refine lv_iadd hx hb dX12_keepsAt_17 ?_
        refine lv_aload_n hx hb dX12_keepsAt_18 rfl (lv_at hl 0 rfl) ?_
        refine va_get (D := (dC, dI)) (ci := 12) (v := .ref (ad 25)) (C := RX12) (T := TX12) (N := 37) hx hb hts hin hown hK hP 0 rfl rfl 25 (by decide) f3 (fun _ h9 => h9) rfl dX12_keepsAt_19 ?_
        refine lv_iload_n hx hb dX12_keepsAt_22 rfl (lv_at hl 2 rfl) ?_
        refine va_iald hx hb hK hP 12 1 (f := ma M 25) rfl rfl h.1 dX12_keepsAt_23 ?_
        have h := h.2
        refine lv_topi (fun x3 ex3 => ?_)
        have h := h x3 ex3
        refine va_iast hx hb hK hP hD hS 15 1 (f := ma M 29) rfl rfl h.1 dX12_keepsAt_24 (fun H locs hP hD hS => ?_)
        have h := h.2
        have hP := mP_a29 hP
        have hD := mD_a29 hD
        have h := h _ rfl
        generalize sa M 29 (Int32.toNatClampNeg (((44 : Int32) * y1) + y2)) x3 = M4 at hP hD h
        obtain ⟨x5, ex5⟩ : ∃ y : Int32, y = y2 + (1 : Int32) := ⟨_, rfl⟩
        have h := h x5 ex5
        refine lv_iinc (v := x5) (lv' := [(2, .int x5), (0, .ref h0), (1, .int y1)]) hx hb dX12_keepsAt_25 hl (k := 2) rfl (by rw [ex5]; rfl) (by decide) rfl (fun ls hl => ?_)
        refine lv_goto (tgt := 2) hx hb dX12_keepsAt_28 (by decide) ?_
        exact hB2 y1 x5 M4 H locs ls hP hD hS (lv_sub hl [1, 2, 0] rfl) h
  have bE : ∀ (M : gS) (H : Heap) (locs : List Loc) (ls : Array Slot), va_P (dC, dI) vwCl (mW cB cI cJ cZ h0 ad M) H → va_D A (mW cB cI cJ cZ h0 ad M) → va_S A s.heap H locs → lv_has ls 3 [(0, .ref h0), (1, .int p1)] → wX12_keepsAt p1 M Q → W p l e (headSpec wsX12_keepsAt rmX12_keepsAt).room s m ([.ref h0, .int p1] : List Value).toArray below meth c H locs 0 0 (MQ below (va_Qv (fun (u : gS) => Q u) (mB dC dI cB cI cJ cZ h0 ad A) A) ([.ref h0, .int p1] : List Value).toArray s 0 0 A) (F0 m 0 ls []) := by
    intro M H locs ls hP hD hS hl h
    unfold wX12_keepsAt at h
    refine lv_iconst (v := 0) hx hb dX12_keepsAt_0 (by decide) ?_
    refine lv_istore_n (lv' := [(2, .int (0 : Int32)), (0, .ref h0), (1, .int p1)]) hx hb dX12_keepsAt_1 rfl hl (by decide) rfl (fun ls hl => ?_)
    obtain ⟨n9, h⟩ := h
    exact b2  n9 p1 (0 : Int32) M H locs ls hP hD hS (lv_sub hl [1, 2, 0] rfl) h
  have hl := lv_entry ([.ref h0, .int p1]) (n := 3) (Nat.le_of_ble_eq_true rfl)
  rw [lg_entry_eq]
  generalize (lg_sl ([.ref h0, .int p1]) ++ List.replicate (3 - (lg_sl ([.ref h0, .int p1])).length) Slot.unset).toArray = ls at hl ⊢
  have hl : lv_has ls 3 [(0, .ref h0), (1, .int p1)] := hl
  exact bE M s.heap [] ls hP hD hS hl h
def wX12_putsBackAt_2  (Q : gS → Prop) : Nat → Int32 → Int32 → gS → Prop
 | 0, _, _, _ => False
 | n + 1, y1, y2, M => (((44 : Int32) ≤ y2 → (Q M))
 ∧ (¬ (44 : Int32) ≤ y2 → (vp_in (((44 : Int32) * y1) + y2) 396 ∧ (∀ x2 : Int32, x2 = (ma M 29 (Int32.toNatClampNeg (((44 : Int32) * y1) + y2))) → (vp_in y2 44 ∧ (∀ M3 : gS, M3 = sa M 25 (Int32.toNatClampNeg y2) x2 → (∀ x4 : Int32, x4 = y2 + (1 : Int32) → (wX12_putsBackAt_2  Q n y1 x4 M3))))))))
def wX12_putsBackAt (p1 : Int32) (M : gS) (Q : gS → Prop) : Prop :=
 (∃ k2 : Nat, wX12_putsBackAt_2  Q k2 p1 (0 : Int32) M)
def rmX12_putsBackAt : Room := { frames := 0, cells := 0, slots := 0, locals := 0 }
set_option maxHeartbeats 4000000 in
set_option maxRecDepth 100000 in
theorem kX12_putsBackAt (l : Launch) (dC : Nat → ClassId) (dI : Nat → Nat → Nat) (cB cI cJ cZ : ClassId) (h0 : Nat) (ad : Nat → Nat) (sz : Nat) (p1 : Int32) (M : gS) (Q : gS → Prop) (h : wX12_putsBackAt p1 M Q) : Met l yX12_putsBackAt wsX12_putsBackAt rmX12_putsBackAt (va_Pc [.ref h0, .int p1] (mI dC dI cB cI cJ cZ h0 ad M sz)) (va_Qv (fun (u : gS) => Q u) (mB dC dI cB cI cJ cZ h0 ad (va_A (mW cB cI cJ cZ h0 ad M) sz)) (va_A (mW cB cI cJ cZ h0 ad M) sz)) 0 0 (va_A (mW cB cI cJ cZ h0 ad M) sz) := by
  refine Met.ofW (cc := cX12_putsBackAt) (maxL := 3) (ret := none) (by decide) rfl ?_
  intro p e s m args below meth c s₁ B hml hv
  obtain ⟨rfl, hsz, hP, hK, hD0⟩ := hv
  have hx := B.exec
  have hb := B.bytes
  have hr := B.returns
  have hts := atoms_spec (ws := wsX12_putsBackAt) B.pre
  have hown : s.vm.findClass RX12 = some m.cls := findClass_of_methodNamed B.named
  have hlocks := B.notSynchronized
  subst hsz
  have hD := hD0.self (sz := s.heap.size)
  generalize hAe : va_A (mW cB cI cJ cZ h0 ad M) s.heap.size = A at hD ⊢
  have hA : ∀ q : Nat, s.heap.size ≤ q → A q := fun q h => by rw [← hAe]; exact Or.inr h
  have hS : va_S A s.heap s.heap [] := va_S.rf
  have hin : ∀ w ∈ wsX120, w ∈ wsX12_putsBackAt := fun w h => List.mem_cons_of_mem _ (List.mem_append_right _ h)
  have f1 := hts (.fieldLink RX12 45 "LastWordsModel" "said" "[I") (by decide +kernel)
  have f2 := hts (.fieldLink RX12 54 "LastWordsModel" "stood" "[I") (by decide +kernel)
  have b2 : ∀ (n : Nat) (y1 : Int32) (y2 : Int32) (M : gS) (H : Heap) (locs : List Loc) (ls : Array Slot), va_P (dC, dI) vwCl (mW cB cI cJ cZ h0 ad M) H → va_D A (mW cB cI cJ cZ h0 ad M) → va_S A s.heap H locs → lv_has ls 3 [(0, .ref h0), (1, .int y1), (2, .int y2)] → wX12_putsBackAt_2  Q n y1 y2 M → W p l e (headSpec wsX12_putsBackAt rmX12_putsBackAt).room s m ([.ref h0, .int p1] : List Value).toArray below meth c H locs 0 0 (MQ below (va_Qv (fun (u : gS) => Q u) (mB dC dI cB cI cJ cZ h0 ad A) A) ([.ref h0, .int p1] : List Value).toArray s 0 0 A) (F0 m 2 ls []) := by
    intro  n
    induction n with
    | zero => intro y1 y2 M H locs ls hP hD hS hl h; exact absurd h (by simp [wX12_putsBackAt_2])
    | succ n hB20 =>
      intro y1 y2 M H locs ls hP hD hS hl h
      have hB2 := hB20
      rw [wX12_putsBackAt_2] at h
      refine lv_iload_n hx hb dX12_putsBackAt_2 rfl (lv_at hl 2 rfl) ?_
      refine lv_bipush (v := (44)) hx hb dX12_putsBackAt_3 (by decide) ?_
      refine lv_icmp_ge (tgt := 31) hx hb dX12_putsBackAt_5 (by decide) (fun c1 => ?_) (fun c1 => ?_)
      · have h := h.1 c1
        exact W.vret hx hb hr (fun t ht hW => ⟨⟨M, rfl, h, by rw [ht]; exact hP, va_K.moved hW.alike hK, hD⟩, hS.F ht⟩) hS.2.2 dX12_putsBackAt_31
      · have h := h.2 c1
        refine lv_aload_n hx hb dX12_putsBackAt_8 rfl (lv_at hl 0 rfl) ?_
        refine va_get (D := (dC, dI)) (ci := 12) (v := .ref (ad 25)) (C := RX12) (T := TX12) (N := 37) hx hb hts hin hown hK hP 0 rfl rfl 25 (by decide) f1 (fun _ h9 => h9) rfl dX12_putsBackAt_9 ?_
        refine lv_iload_n hx hb dX12_putsBackAt_12 rfl (lv_at hl 2 rfl) ?_
        refine lv_aload_n hx hb dX12_putsBackAt_13 rfl (lv_at hl 0 rfl) ?_
        refine va_get (D := (dC, dI)) (ci := 12) (v := .ref (ad 29)) (C := RX12) (T := TX12) (N := 37) hx hb hts hin hown hK hP 0 rfl rfl 29 (by decide) f2 (fun _ h9 => h9) rfl dX12_putsBackAt_14 ?_
        refine lv_bipush (v := (44)) hx hb dX12_putsBackAt_17 (by decide) ?_
        refine lv_iload_n hx hb dX12_putsBackAt_19 rfl (lv_at hl 1 rfl) ?_
        refine lv_imul hx hb dX12_putsBackAt_20 ?_
        refine lv_iload_n hx hb dX12_putsBackAt_21 rfl (lv_at hl 2 rfl) ?_
        refine lv_iadd hx hb dX12_putsBackAt_22 ?_
        refine va_iald hx hb hK hP 15 1 (f := ma M 29) rfl rfl h.1 dX12_putsBackAt_23 ?_
        have h := h.2
        refine lv_topi (fun x2 ex2 => ?_)
        have h := h x2 ex2
        refine va_iast hx hb hK hP hD hS 12 1 (f := ma M 25) rfl rfl h.1 dX12_putsBackAt_24 (fun H locs hP hD hS => ?_)
        have h := h.2
        have hP := mP_a25 hP
        have hD := mD_a25 hD
        have h := h _ rfl
        generalize sa M 25 (Int32.toNatClampNeg y2) x2 = M3 at hP hD h
        obtain ⟨x4, ex4⟩ : ∃ y : Int32, y = y2 + (1 : Int32) := ⟨_, rfl⟩
        have h := h x4 ex4
        refine lv_iinc (v := x4) (lv' := [(2, .int x4), (0, .ref h0), (1, .int y1)]) hx hb dX12_putsBackAt_25 hl (k := 2) rfl (by rw [ex4]; rfl) (by decide) rfl (fun ls hl => ?_)
        refine lv_goto (tgt := 2) hx hb dX12_putsBackAt_28 (by decide) ?_
        exact hB2 y1 x4 M3 H locs ls hP hD hS (lv_sub hl [1, 2, 0] rfl) h
  have bE : ∀ (M : gS) (H : Heap) (locs : List Loc) (ls : Array Slot), va_P (dC, dI) vwCl (mW cB cI cJ cZ h0 ad M) H → va_D A (mW cB cI cJ cZ h0 ad M) → va_S A s.heap H locs → lv_has ls 3 [(0, .ref h0), (1, .int p1)] → wX12_putsBackAt p1 M Q → W p l e (headSpec wsX12_putsBackAt rmX12_putsBackAt).room s m ([.ref h0, .int p1] : List Value).toArray below meth c H locs 0 0 (MQ below (va_Qv (fun (u : gS) => Q u) (mB dC dI cB cI cJ cZ h0 ad A) A) ([.ref h0, .int p1] : List Value).toArray s 0 0 A) (F0 m 0 ls []) := by
    intro M H locs ls hP hD hS hl h
    unfold wX12_putsBackAt at h
    refine lv_iconst (v := 0) hx hb dX12_putsBackAt_0 (by decide) ?_
    refine lv_istore_n (lv' := [(2, .int (0 : Int32)), (0, .ref h0), (1, .int p1)]) hx hb dX12_putsBackAt_1 rfl hl (by decide) rfl (fun ls hl => ?_)
    obtain ⟨n9, h⟩ := h
    exact b2  n9 p1 (0 : Int32) M H locs ls hP hD hS (lv_sub hl [1, 2, 0] rfl) h
  have hl := lv_entry ([.ref h0, .int p1]) (n := 3) (Nat.le_of_ble_eq_true rfl)
  rw [lg_entry_eq]
  generalize (lg_sl ([.ref h0, .int p1]) ++ List.replicate (3 - (lg_sl ([.ref h0, .int p1])).length) Slot.unset).toArray = ls at hl ⊢
  have hl : lv_has ls 3 [(0, .ref h0), (1, .int p1)] := hl
  exact bE M s.heap [] ls hP hD hS hl h
def wX12_doesNext_73  (Q : Bool → gS → Prop) (y1 : Int32) (M : gS) : Prop :=
 (vp_in y1 9 ∧ (((ma M 30 (Int32.toNatClampNeg y1)) ≤ (5 : Int32) → (vp_in y1 9 ∧ (((4 : Int32) ≤ (ma M 30 (Int32.toNatClampNeg y1)) → (vp_in y1 9 ∧ (((ma M 30 (Int32.toNatClampNeg y1)) = (4 : Int32) → (wX12_throwsOne  M (fun (M7 : gS) => (Q true M7))))
 ∧ (¬ (ma M 30 (Int32.toNatClampNeg y1)) = (4 : Int32) → (wX12_ends  M (fun (r4 : Int32) (M5 : gS) => (Q true M5)))))))
 ∧ (¬ (4 : Int32) ≤ (ma M 30 (Int32.toNatClampNeg y1)) → (vp_in y1 9 ∧ (wX12_says (ma M 30 (Int32.toNatClampNeg y1)) M (fun (M9 : gS) => (Q true M9))))))))
 ∧ (¬ (ma M 30 (Int32.toNatClampNeg y1)) ≤ (5 : Int32) → (Q false M))))
def wX12_doesNext_46  (Q : Bool → gS → Prop) (y1 : Int32) (M : gS) : Prop :=
 (vp_in y1 9 ∧ (((ma M 30 (Int32.toNatClampNeg y1)) = (4 : Int32) → (wX12_canThrow  M (fun (b4 : Bool) (M3 : gS) => (((bI b4) = 0 → (vp_in y1 9 ∧ (∀ x6 : Int32, x6 = ((ma M3 30 (Int32.toNatClampNeg y1)) + (1 : Int32)) → (vp_in y1 9 ∧ (∀ M7 : gS, M7 = sa M3 30 (Int32.toNatClampNeg y1) x6 → (wX12_doesNext_73  Q y1 M7))))))
 ∧ (¬ (bI b4) = 0 → (wX12_doesNext_73  Q y1 M3))))))
 ∧ (¬ (ma M 30 (Int32.toNatClampNeg y1)) = (4 : Int32) → (wX12_doesNext_73  Q y1 M))))
def wX12_doesNext_10  (Q : Bool → gS → Prop) : Nat → Int32 → gS → Prop
 | 0, _, _ => False
 | n + 1, y1, M => (vp_in y1 9 ∧ (((4 : Int32) ≤ (ma M 30 (Int32.toNatClampNeg y1)) → (wX12_doesNext_46  Q y1 M))
 ∧ (¬ (4 : Int32) ≤ (ma M 30 (Int32.toNatClampNeg y1)) → (vp_in y1 9 ∧ (wX12_canSay (ma M 30 (Int32.toNatClampNeg y1)) M (fun (b4 : Bool) (M3 : gS) => (((bI b4) = 0 → (vp_in y1 9 ∧ (∀ x6 : Int32, x6 = ((ma M3 30 (Int32.toNatClampNeg y1)) + (1 : Int32)) → (vp_in y1 9 ∧ (∀ M7 : gS, M7 = sa M3 30 (Int32.toNatClampNeg y1) x6 → (wX12_doesNext_10  Q n y1 M7))))))
 ∧ (¬ (bI b4) = 0 → (wX12_doesNext_46  Q y1 M3)))))))))
def wX12_doesNext (p1 : Int32) (M : gS) (Q : Bool → gS → Prop) : Prop :=
 (vp_in p1 9 ∧ (∀ x1 : Int32, x1 = ((ma M 30 (Int32.toNatClampNeg p1)) + (1 : Int32)) → (vp_in p1 9 ∧ (∀ M2 : gS, M2 = sa M 30 (Int32.toNatClampNeg p1) x1 → (∃ k10 : Nat, wX12_doesNext_10  Q k10 p1 M2)))))
def rmX12_doesNext : Room := { frames := 4, cells := 0, slots := 0, locals := 84 }
set_option maxHeartbeats 4000000 in
set_option maxRecDepth 100000 in
theorem kX12_doesNext (l : Launch) (dC : Nat → ClassId) (dI : Nat → Nat → Nat) (cB cI cJ cZ : ClassId) (h0 : Nat) (ad : Nat → Nat) (sz : Nat) (p1 : Int32) (M : gS) (Q : Bool → gS → Prop) (h : wX12_doesNext p1 M Q) : Met l yX12_doesNext wsX12_doesNext rmX12_doesNext (va_Pc [.ref h0, .int p1] (mI dC dI cB cI cJ cZ h0 ad M sz)) (va_Qi (fun (r : Int32) (u : gS) => ∃ b : Bool, r = bI b ∧ Q b u) (mB dC dI cB cI cJ cZ h0 ad (va_A (mW cB cI cJ cZ h0 ad M) sz)) (va_A (mW cB cI cJ cZ h0 ad M) sz)) 0 0 (va_A (mW cB cI cJ cZ h0 ad M) sz) := by
  refine Met.ofW (cc := cX12_doesNext) (maxL := 2) (ret := (some .boolean)) (by decide) rfl ?_
  intro p e s m args below meth c s₁ B hml hv
  obtain ⟨rfl, hsz, hP, hK, hD0⟩ := hv
  have hx := B.exec
  have hb := B.bytes
  have hr := B.returns
  have hts := atoms_spec (ws := wsX12_doesNext) B.pre
  have hown : s.vm.findClass RX12 = some m.cls := findClass_of_methodNamed B.named
  have hlocks := B.notSynchronized
  subst hsz
  have hD := hD0.self (sz := s.heap.size)
  generalize hAe : va_A (mW cB cI cJ cZ h0 ad M) s.heap.size = A at hD ⊢
  have hA : ∀ q : Nat, s.heap.size ≤ q → A q := fun q h => by rw [← hAe]; exact Or.inr h
  have hS : va_S A s.heap s.heap [] := va_S.rf
  have hin : ∀ w ∈ wsX120, w ∈ wsX12_doesNext := fun w h => List.mem_cons_of_mem _ (List.mem_append_right _ h)
  have f1 := hts (.fieldLink RX12 57 "LastWordsModel" "doing" "[I") (by decide +kernel)
  have b73 : ∀ (y1 : Int32) (M : gS) (H : Heap) (locs : List Loc) (ls : Array Slot), va_P (dC, dI) vwCl (mW cB cI cJ cZ h0 ad M) H → va_D A (mW cB cI cJ cZ h0 ad M) → va_S A s.heap H locs → lv_has ls 2 [(0, .ref h0), (1, .int y1)] → wX12_doesNext_73  Q y1 M → W p l e (headSpec wsX12_doesNext rmX12_doesNext).room s m ([.ref h0, .int p1] : List Value).toArray below meth c H locs 0 0 (MQ below (va_Qi (fun (r : Int32) (u : gS) => ∃ b : Bool, r = bI b ∧ Q b u) (mB dC dI cB cI cJ cZ h0 ad A) A) ([.ref h0, .int p1] : List Value).toArray s 0 0 A) (F0 m 73 ls []) := by
    intro  y1 M H locs ls hP hD hS hl h
    unfold wX12_doesNext_73 at h
    refine lv_aload_n hx hb dX12_doesNext_73 rfl (lv_at hl 0 rfl) ?_
    refine va_get (D := (dC, dI)) (ci := 12) (v := .ref (ad 30)) (C := RX12) (T := TX12) (N := 37) hx hb hts hin hown hK hP 0 rfl rfl 30 (by decide) f1 (fun _ h9 => h9) rfl dX12_doesNext_74 ?_
    refine lv_iload_n hx hb dX12_doesNext_77 rfl (lv_at hl 1 rfl) ?_
    refine va_iald hx hb hK hP 16 1 (f := ma M 30) rfl rfl h.1 dX12_doesNext_78 ?_
    have h := h.2
    refine lv_iconst (v := 5) hx hb dX12_doesNext_79 (by decide) ?_
    refine lv_icmp_le (tgt := 85) hx hb dX12_doesNext_80 (by decide) (fun c1 => ?_) (fun c1 => ?_)
    · have h := h.1 c1
      refine lv_aload_n hx hb dX12_doesNext_85 rfl (lv_at hl 0 rfl) ?_
      refine va_get (D := (dC, dI)) (ci := 12) (v := .ref (ad 30)) (C := RX12) (T := TX12) (N := 37) hx hb hts hin hown hK hP 0 rfl rfl 30 (by decide) f1 (fun _ h9 => h9) rfl dX12_doesNext_86 ?_
      refine lv_iload_n hx hb dX12_doesNext_89 rfl (lv_at hl 1 rfl) ?_
      refine va_iald hx hb hK hP 16 1 (f := ma M 30) rfl rfl h.1 dX12_doesNext_90 ?_
      have h := h.2
      refine lv_iconst (v := 4) hx hb dX12_doesNext_91 (by decide) ?_
      refine lv_icmp_ge (tgt := 108) hx hb dX12_doesNext_92 (by decide) (fun c2 => ?_) (fun c2 => ?_)
      · have h := h.1 c2
        refine lv_aload_n hx hb dX12_doesNext_108 rfl (lv_at hl 0 rfl) ?_
        refine va_get (D := (dC, dI)) (ci := 12) (v := .ref (ad 30)) (C := RX12) (T := TX12) (N := 37) hx hb hts hin hown hK hP 0 rfl rfl 30 (by decide) f1 (fun _ h9 => h9) rfl dX12_doesNext_109 ?_
        refine lv_iload_n hx hb dX12_doesNext_112 rfl (lv_at hl 1 rfl) ?_
        refine va_iald hx hb hK hP 16 1 (f := ma M 30) rfl rfl h.1 dX12_doesNext_113 ?_
        have h := h.2
        refine lv_iconst (v := 4) hx hb dX12_doesNext_114 (by decide) ?_
        refine lv_icmp_ne (tgt := 125) hx hb dX12_doesNext_115 (by decide) (fun c3 => ?_) (fun c3 => ?_)
        · have h := h.2 c3
          refine lv_aload_n hx hb dX12_doesNext_125 rfl (lv_at hl 0 rfl) ?_
          have hFc := gs_free hD hS hA
          refine va_calli (va_runV (As := []) (rest := []) ⟨hx, hb, hml, hown, hts⟩ (kX12_ends l dC dI cB cI cJ cZ h0 ad H.size  M _ h) (cwV 0 hts gX12_doesNext_X12_ends rfl rfl rfl (by decide +kernel) ⟨Nat.le_of_ble_eq_true rfl, Nat.le_of_ble_eq_true rfl⟩) (mpV hK hP hD) rfl rfl hl.1 rfl (lv_room (Nat.le_of_ble_eq_true rfl)) dX12_doesNext_126 ⟨Nat.le_of_ble_eq_true rfl, Nat.le_of_ble_eq_true rfl⟩) hS (fun q _ z => hFc q z) hFc (fun r4 M5 t H1 locs ht hvm hw hB hz1 hk1 hS => ?_)
          obtain ⟨hP, hD⟩ := gs_back ht hFc hB
          generalize H1 = H at hP hS ⊢
          have h := hw
          try dsimp only at h
          refine lv_pop hx hb dX12_doesNext_129 rfl ?_
          refine lv_iconst (v := 1) hx hb dX12_doesNext_130 (by decide) ?_
          exact W.zret (v := (bI true)) hx hb hr (nar_bI true) (fun t ht hW => ⟨⟨_, M5, rfl, ⟨true, rfl, h⟩, by rw [ht]; exact hP, va_K.moved hW.alike hK, hD⟩, hS.F ht⟩) hS.2.2 dX12_doesNext_131
        · have h := h.1 c3
          refine lv_aload_n hx hb dX12_doesNext_118 rfl (lv_at hl 0 rfl) ?_
          have hFc := gs_free hD hS hA
          refine va_callv (va_runV (As := []) (rest := []) ⟨hx, hb, hml, hown, hts⟩ (kX12_throwsOne l dC dI cB cI cJ cZ h0 ad H.size  M _ h) (cwV 0 hts gX12_doesNext_X12_throwsOne rfl rfl rfl (by decide +kernel) ⟨Nat.le_of_ble_eq_true rfl, Nat.le_of_ble_eq_true rfl⟩) (mpV hK hP hD) rfl rfl hl.1 rfl (lv_room (Nat.le_of_ble_eq_true rfl)) dX12_doesNext_119 ⟨Nat.le_of_ble_eq_true rfl, Nat.le_of_ble_eq_true rfl⟩) hS (fun q _ z => hFc q z) hFc (fun M7 t H1 locs ht hvm hw hB hz1 hk1 hS => ?_)
          obtain ⟨hP, hD⟩ := gs_back ht hFc hB
          generalize H1 = H at hP hS ⊢
          have h := hw
          try dsimp only at h
          refine lv_goto (tgt := 130) hx hb dX12_doesNext_122 (by decide) ?_
          refine lv_iconst (v := 1) hx hb dX12_doesNext_130 (by decide) ?_
          exact W.zret (v := (bI true)) hx hb hr (nar_bI true) (fun t ht hW => ⟨⟨_, M7, rfl, ⟨true, rfl, h⟩, by rw [ht]; exact hP, va_K.moved hW.alike hK, hD⟩, hS.F ht⟩) hS.2.2 dX12_doesNext_131
      · have h := h.2 c2
        refine lv_aload_n hx hb dX12_doesNext_95 rfl (lv_at hl 0 rfl) ?_
        refine lv_aload_n hx hb dX12_doesNext_96 rfl (lv_at hl 0 rfl) ?_
        refine va_get (D := (dC, dI)) (ci := 12) (v := .ref (ad 30)) (C := RX12) (T := TX12) (N := 37) hx hb hts hin hown hK hP 0 rfl rfl 30 (by decide) f1 (fun _ h9 => h9) rfl dX12_doesNext_97 ?_
        refine lv_iload_n hx hb dX12_doesNext_100 rfl (lv_at hl 1 rfl) ?_
        refine va_iald hx hb hK hP 16 1 (f := ma M 30) rfl rfl h.1 dX12_doesNext_101 ?_
        have h := h.2
        have hFc := gs_free hD hS hA
        refine va_callv (va_runV (As := [.int (ma M 30 (Int32.toNatClampNeg y1))]) (rest := []) ⟨hx, hb, hml, hown, hts⟩ (kX12_says l dC dI cB cI cJ cZ h0 ad H.size (ma M 30 (Int32.toNatClampNeg y1)) M _ h) (cwV 1 hts gX12_doesNext_X12_says rfl rfl rfl (by decide +kernel) ⟨Nat.le_of_ble_eq_true rfl, Nat.le_of_ble_eq_true rfl⟩) (mpV hK hP hD) rfl rfl hl.1 rfl (lv_room (Nat.le_of_ble_eq_true rfl)) dX12_doesNext_102 ⟨Nat.le_of_ble_eq_true rfl, Nat.le_of_ble_eq_true rfl⟩) hS (fun q _ z => hFc q z) hFc (fun M9 t H1 locs ht hvm hw hB hz1 hk1 hS => ?_)
        obtain ⟨hP, hD⟩ := gs_back ht hFc hB
        generalize H1 = H at hP hS ⊢
        have h := hw
        try dsimp only at h
        refine lv_goto (tgt := 130) hx hb dX12_doesNext_105 (by decide) ?_
        refine lv_iconst (v := 1) hx hb dX12_doesNext_130 (by decide) ?_
        exact W.zret (v := (bI true)) hx hb hr (nar_bI true) (fun t ht hW => ⟨⟨_, M9, rfl, ⟨true, rfl, h⟩, by rw [ht]; exact hP, va_K.moved hW.alike hK, hD⟩, hS.F ht⟩) hS.2.2 dX12_doesNext_131
    · have h := h.2 c1
      refine lv_iconst (v := 0) hx hb dX12_doesNext_83 (by decide) ?_
      exact W.zret (v := (bI false)) hx hb hr (nar_bI false) (fun t ht hW => ⟨⟨_, M, rfl, ⟨false, rfl, h⟩, by rw [ht]; exact hP, va_K.moved hW.alike hK, hD⟩, hS.F ht⟩) hS.2.2 dX12_doesNext_84
  have b46 : ∀ (y1 : Int32) (M : gS) (H : Heap) (locs : List Loc) (ls : Array Slot), va_P (dC, dI) vwCl (mW cB cI cJ cZ h0 ad M) H → va_D A (mW cB cI cJ cZ h0 ad M) → va_S A s.heap H locs → lv_has ls 2 [(0, .ref h0), (1, .int y1)] → wX12_doesNext_46  Q y1 M → W p l e (headSpec wsX12_doesNext rmX12_doesNext).room s m ([.ref h0, .int p1] : List Value).toArray below meth c H locs 0 0 (MQ below (va_Qi (fun (r : Int32) (u : gS) => ∃ b : Bool, r = bI b ∧ Q b u) (mB dC dI cB cI cJ cZ h0 ad A) A) ([.ref h0, .int p1] : List Value).toArray s 0 0 A) (F0 m 46 ls []) := by
    intro  y1 M H locs ls hP hD hS hl h
    unfold wX12_doesNext_46 at h
    refine lv_aload_n hx hb dX12_doesNext_46 rfl (lv_at hl 0 rfl) ?_
    refine va_get (D := (dC, dI)) (ci := 12) (v := .ref (ad 30)) (C := RX12) (T := TX12) (N := 37) hx hb hts hin hown hK hP 0 rfl rfl 30 (by decide) f1 (fun _ h9 => h9) rfl dX12_doesNext_47 ?_
    refine lv_iload_n hx hb dX12_doesNext_50 rfl (lv_at hl 1 rfl) ?_
    refine va_iald hx hb hK hP 16 1 (f := ma M 30) rfl rfl h.1 dX12_doesNext_51 ?_
    have h := h.2
    refine lv_iconst (v := 4) hx hb dX12_doesNext_52 (by decide) ?_
    refine lv_icmp_ne (tgt := 73) hx hb dX12_doesNext_53 (by decide) (fun c1 => ?_) (fun c1 => ?_)
    · have h := h.2 c1
      exact b73  y1 M H locs ls hP hD hS (lv_sub hl [0, 1] rfl) h
    · have h := h.1 c1
      refine lv_aload_n hx hb dX12_doesNext_56 rfl (lv_at hl 0 rfl) ?_
      have hFc := gs_free hD hS hA
      refine va_calli (va_runV (As := []) (rest := []) ⟨hx, hb, hml, hown, hts⟩ (kX12_canThrow l dC dI cB cI cJ cZ h0 ad H.size  M _ h) (cwV 0 hts gX12_doesNext_X12_canThrow rfl rfl rfl (by decide +kernel) ⟨Nat.le_of_ble_eq_true rfl, Nat.le_of_ble_eq_true rfl⟩) (mpV hK hP hD) rfl rfl hl.1 rfl (lv_room (Nat.le_of_ble_eq_true rfl)) dX12_doesNext_57 ⟨Nat.le_of_ble_eq_true rfl, Nat.le_of_ble_eq_true rfl⟩) hS (fun q _ z => hFc q z) hFc (fun r2 M3 t H1 locs ht hvm hw hB hz1 hk1 hS => ?_)
      obtain ⟨hP, hD⟩ := gs_back ht hFc hB
      generalize H1 = H at hP hS ⊢
      obtain ⟨b4, rfl, h⟩ := hw
      try dsimp only at h
      refine lv_if_ne (tgt := 73) hx hb dX12_doesNext_60 (by decide) (fun c5 => ?_) (fun c5 => ?_)
      · have h := h.2 c5
        exact b73  y1 M3 H locs ls hP hD hS (lv_sub hl [0, 1] rfl) h
      · have h := h.1 c5
        refine lv_aload_n hx hb dX12_doesNext_63 rfl (lv_at hl 0 rfl) ?_
        refine va_get (D := (dC, dI)) (ci := 12) (v := .ref (ad 30)) (C := RX12) (T := TX12) (N := 37) hx hb hts hin hown hK hP 0 rfl rfl 30 (by decide) f1 (fun _ h9 => h9) rfl dX12_doesNext_64 ?_
        refine lv_iload_n hx hb dX12_doesNext_67 rfl (lv_at hl 1 rfl) ?_
        refine lv_dup2_11 hx hb dX12_doesNext_68 rfl rfl ?_
        refine va_iald hx hb hK hP 16 1 (f := ma M3 30) rfl rfl h.1 dX12_doesNext_69 ?_
        have h := h.2
        refine lv_iconst (v := 1) hx hb dX12_doesNext_70 (by decide) ?_
        refine lv_iadd hx hb dX12_doesNext_71 ?_
        refine lv_topi (fun x6 ex6 => ?_)
        have h := h x6 ex6
        refine va_iast hx hb hK hP hD hS 16 1 (f := ma M3 30) rfl rfl h.1 dX12_doesNext_72 (fun H locs hP hD hS => ?_)
        have h := h.2
        have hP := mP_a30 hP
        have hD := mD_a30 hD
        have h := h _ rfl
        generalize sa M3 30 (Int32.toNatClampNeg y1) x6 = M7 at hP hD h
        exact b73  y1 M7 H locs ls hP hD hS (lv_sub hl [0, 1] rfl) h
  have b10 : ∀ (n : Nat) (y1 : Int32) (M : gS) (H : Heap) (locs : List Loc) (ls : Array Slot), va_P (dC, dI) vwCl (mW cB cI cJ cZ h0 ad M) H → va_D A (mW cB cI cJ cZ h0 ad M) → va_S A s.heap H locs → lv_has ls 2 [(0, .ref h0), (1, .int y1)] → wX12_doesNext_10  Q n y1 M → W p l e (headSpec wsX12_doesNext rmX12_doesNext).room s m ([.ref h0, .int p1] : List Value).toArray below meth c H locs 0 0 (MQ below (va_Qi (fun (r : Int32) (u : gS) => ∃ b : Bool, r = bI b ∧ Q b u) (mB dC dI cB cI cJ cZ h0 ad A) A) ([.ref h0, .int p1] : List Value).toArray s 0 0 A) (F0 m 10 ls []) := by
    intro  n
    induction n with
    | zero => intro y1 M H locs ls hP hD hS hl h; exact absurd h (by simp [wX12_doesNext_10])
    | succ n hB100 =>
      intro y1 M H locs ls hP hD hS hl h
      have hB10 := hB100
      rw [wX12_doesNext_10] at h
      refine lv_aload_n hx hb dX12_doesNext_10 rfl (lv_at hl 0 rfl) ?_
      refine va_get (D := (dC, dI)) (ci := 12) (v := .ref (ad 30)) (C := RX12) (T := TX12) (N := 37) hx hb hts hin hown hK hP 0 rfl rfl 30 (by decide) f1 (fun _ h9 => h9) rfl dX12_doesNext_11 ?_
      refine lv_iload_n hx hb dX12_doesNext_14 rfl (lv_at hl 1 rfl) ?_
      refine va_iald hx hb hK hP 16 1 (f := ma M 30) rfl rfl h.1 dX12_doesNext_15 ?_
      have h := h.2
      refine lv_iconst (v := 4) hx hb dX12_doesNext_16 (by decide) ?_
      refine lv_icmp_ge (tgt := 46) hx hb dX12_doesNext_17 (by decide) (fun c1 => ?_) (fun c1 => ?_)
      · have h := h.1 c1
        exact b46  y1 M H locs ls hP hD hS (lv_sub hl [0, 1] rfl) h
      · have h := h.2 c1
        refine lv_aload_n hx hb dX12_doesNext_20 rfl (lv_at hl 0 rfl) ?_
        refine lv_aload_n hx hb dX12_doesNext_21 rfl (lv_at hl 0 rfl) ?_
        refine va_get (D := (dC, dI)) (ci := 12) (v := .ref (ad 30)) (C := RX12) (T := TX12) (N := 37) hx hb hts hin hown hK hP 0 rfl rfl 30 (by decide) f1 (fun _ h9 => h9) rfl dX12_doesNext_22 ?_
        refine lv_iload_n hx hb dX12_doesNext_25 rfl (lv_at hl 1 rfl) ?_
        refine va_iald hx hb hK hP 16 1 (f := ma M 30) rfl rfl h.1 dX12_doesNext_26 ?_
        have h := h.2
        have hFc := gs_free hD hS hA
        refine va_calli (va_runV (As := [.int (ma M 30 (Int32.toNatClampNeg y1))]) (rest := []) ⟨hx, hb, hml, hown, hts⟩ (kX12_canSay l dC dI cB cI cJ cZ h0 ad H.size (ma M 30 (Int32.toNatClampNeg y1)) M _ h) (cwV 1 hts gX12_doesNext_X12_canSay rfl rfl rfl (by decide +kernel) ⟨Nat.le_of_ble_eq_true rfl, Nat.le_of_ble_eq_true rfl⟩) (mpV hK hP hD) rfl rfl hl.1 rfl (lv_room (Nat.le_of_ble_eq_true rfl)) dX12_doesNext_27 ⟨Nat.le_of_ble_eq_true rfl, Nat.le_of_ble_eq_true rfl⟩) hS (fun q _ z => hFc q z) hFc (fun r2 M3 t H1 locs ht hvm hw hB hz1 hk1 hS => ?_)
        obtain ⟨hP, hD⟩ := gs_back ht hFc hB
        generalize H1 = H at hP hS ⊢
        obtain ⟨b4, rfl, h⟩ := hw
        try dsimp only at h
        refine lv_if_ne (tgt := 46) hx hb dX12_doesNext_30 (by decide) (fun c5 => ?_) (fun c5 => ?_)
        · have h := h.2 c5
          exact b46  y1 M3 H locs ls hP hD hS (lv_sub hl [0, 1] rfl) h
        · have h := h.1 c5
          refine lv_aload_n hx hb dX12_doesNext_33 rfl (lv_at hl 0 rfl) ?_
          refine va_get (D := (dC, dI)) (ci := 12) (v := .ref (ad 30)) (C := RX12) (T := TX12) (N := 37) hx hb hts hin hown hK hP 0 rfl rfl 30 (by decide) f1 (fun _ h9 => h9) rfl dX12_doesNext_34 ?_
          refine lv_iload_n hx hb dX12_doesNext_37 rfl (lv_at hl 1 rfl) ?_
          refine lv_dup2_11 hx hb dX12_doesNext_38 rfl rfl ?_
          refine va_iald hx hb hK hP 16 1 (f := ma M3 30) rfl rfl h.1 dX12_doesNext_39 ?_
          have h := h.2
          refine lv_iconst (v := 1) hx hb dX12_doesNext_40 (by decide) ?_
          refine lv_iadd hx hb dX12_doesNext_41 ?_
          refine lv_topi (fun x6 ex6 => ?_)
          have h := h x6 ex6
          refine va_iast hx hb hK hP hD hS 16 1 (f := ma M3 30) rfl rfl h.1 dX12_doesNext_42 (fun H locs hP hD hS => ?_)
          have h := h.2
          have hP := mP_a30 hP
          have hD := mD_a30 hD
          have h := h _ rfl
          generalize sa M3 30 (Int32.toNatClampNeg y1) x6 = M7 at hP hD h
          refine lv_goto (tgt := 10) hx hb dX12_doesNext_43 (by decide) ?_
          exact hB10 y1 M7 H locs ls hP hD hS (lv_sub hl [0, 1] rfl) h
  have bE : ∀ (M : gS) (H : Heap) (locs : List Loc) (ls : Array Slot), va_P (dC, dI) vwCl (mW cB cI cJ cZ h0 ad M) H → va_D A (mW cB cI cJ cZ h0 ad M) → va_S A s.heap H locs → lv_has ls 2 [(0, .ref h0), (1, .int p1)] → wX12_doesNext p1 M Q → W p l e (headSpec wsX12_doesNext rmX12_doesNext).room s m ([.ref h0, .int p1] : List Value).toArray below meth c H locs 0 0 (MQ below (va_Qi (fun (r : Int32) (u : gS) => ∃ b : Bool, r = bI b ∧ Q b u) (mB dC dI cB cI cJ cZ h0 ad A) A) ([.ref h0, .int p1] : List Value).toArray s 0 0 A) (F0 m 0 ls []) := by
    intro M H locs ls hP hD hS hl h
    unfold wX12_doesNext at h
    refine lv_aload_n hx hb dX12_doesNext_0 rfl (lv_at hl 0 rfl) ?_
    refine va_get (D := (dC, dI)) (ci := 12) (v := .ref (ad 30)) (C := RX12) (T := TX12) (N := 37) hx hb hts hin hown hK hP 0 rfl rfl 30 (by decide) f1 (fun _ h9 => h9) rfl dX12_doesNext_1 ?_
    refine lv_iload_n hx hb dX12_doesNext_4 rfl (lv_at hl 1 rfl) ?_
    refine lv_dup2_11 hx hb dX12_doesNext_5 rfl rfl ?_
    refine va_iald hx hb hK hP 16 1 (f := ma M 30) rfl rfl h.1 dX12_doesNext_6 ?_
    have h := h.2
    refine lv_iconst (v := 1) hx hb dX12_doesNext_7 (by decide) ?_
    refine lv_iadd hx hb dX12_doesNext_8 ?_
    refine lv_topi (fun x1 ex1 => ?_)
    have h := h x1 ex1
    refine va_iast hx hb hK hP hD hS 16 1 (f := ma M 30) rfl rfl h.1 dX12_doesNext_9 (fun H locs hP hD hS => ?_)
    have h := h.2
    have hP := mP_a30 hP
    have hD := mD_a30 hD
    have h := h _ rfl
    generalize sa M 30 (Int32.toNatClampNeg p1) x1 = M2 at hP hD h
    obtain ⟨n9, h⟩ := h
    exact b10  n9 p1 M2 H locs ls hP hD hS (lv_sub hl [0, 1] rfl) h
  have hl := lv_entry ([.ref h0, .int p1]) (n := 2) (Nat.le_of_ble_eq_true rfl)
  rw [lg_entry_eq]
  generalize (lg_sl ([.ref h0, .int p1]) ++ List.replicate (2 - (lg_sl ([.ref h0, .int p1])).length) Slot.unset).toArray = ls at hl ⊢
  have hl : lv_has ls 2 [(0, .ref h0), (1, .int p1)] := hl
  exact bE M s.heap [] ls hP hD hS hl h
def wX12_plays_131 (B69 : Int32 → Int32 → Int32 → Int32 → Int32 → Int32 → gS → Prop) (Q : Int32 → gS → Prop) (y1 : Int32) (y2 : Int32) (y3 : Int32) (y4 : Int32) (y6 : Int32) (z1 : Int32) (z0 : Int32) (M : gS) : Prop :=
 (∀ x1 : Int32, x1 = (z1 + z0) → (B69 y1 y2 y3 y4 x1 y6 M))
def wX12_plays_130 (B69 : Int32 → Int32 → Int32 → Int32 → Int32 → Int32 → gS → Prop) (Q : Int32 → gS → Prop) (y1 : Int32) (y2 : Int32) (y3 : Int32) (y4 : Int32) (y6 : Int32) (z0 : Int32) (M : gS) : Prop :=
 (wX12_plays_131 B69 Q y1 y2 y3 y4 y6 z0 (0 : Int32) M)
def wX12_plays_69  (Q : Int32 → gS → Prop) : Nat → Int32 → Int32 → Int32 → Int32 → Int32 → Int32 → gS → Prop
 | 0, _, _, _, _, _, _, _ => False
 | n + 1, y1, y2, y3, y4, y5, y6, M => ((y6 < 0 → (wX12_putsBackAt (0 : Int32) M (fun (M3 : gS) => (Q y5 M3))))
 ∧ (¬ y6 < 0 → (wX12_putsBackAt y6 M (fun (M5 : gS) => (wX12_doesNext y6 M5 (fun (b8 : Bool) (M7 : gS) => (((bI b8) = 0 → (∀ x20 : Int32, x20 = y6 + (-1 : Int32) → (wX12_plays_69  Q n y1 y2 y3 y4 y5 x20 M7)))
 ∧ (¬ (bI b8) = 0 → (wX12_goesOn  M7 (fun (b12 : Bool) (M11 : gS) => (((bI b12) = 0 → (((mg M11 26) = y3 → ((((ma M11 25 9) - y4) = y2 → (wX12_plays_131 (fun (y1 : Int32) (y2 : Int32) (y3 : Int32) (y4 : Int32) (y5 : Int32) (y6 : Int32) (M : gS) => wX12_plays_69  Q n y1 y2 y3 y4 y5 y6 M) Q y1 y2 y3 y4 y6 y5 (1 : Int32) M11))
 ∧ (¬ ((ma M11 25 9) - y4) = y2 → (wX12_plays_130 (fun (y1 : Int32) (y2 : Int32) (y3 : Int32) (y4 : Int32) (y5 : Int32) (y6 : Int32) (M : gS) => wX12_plays_69  Q n y1 y2 y3 y4 y5 y6 M) Q y1 y2 y3 y4 y6 y5 M11))))
 ∧ (¬ (mg M11 26) = y3 → (wX12_plays_130 (fun (y1 : Int32) (y2 : Int32) (y3 : Int32) (y4 : Int32) (y5 : Int32) (y6 : Int32) (M : gS) => wX12_plays_69  Q n y1 y2 y3 y4 y5 y6 M) Q y1 y2 y3 y4 y6 y5 M11))))
 ∧ (¬ (bI b12) = 0 → (((y1 - (1 : Int32)) ≤ y6 → (wX12_plays_69  Q n y1 y2 y3 y4 y5 y6 M11))
 ∧ (¬ (y1 - (1 : Int32)) ≤ y6 → (∀ x15 : Int32, x15 = y6 + (1 : Int32) → (wX12_keepsAt x15 M11 (fun (M17 : gS) => (wX12_plays_69  Q n y1 y2 y3 y4 y5 x15 M17))))))))))))))))))
def wX12_plays_62  (Q : Int32 → gS → Prop) (y1 : Int32) (y2 : Int32) (y3 : Int32) (y4 : Int32) (y5 : Int32) (z0 : Int32) (M : gS) : Prop :=
 (wX12_keepsAt (0 : Int32) M (fun (M2 : gS) => (∃ k69 : Nat, wX12_plays_69  Q k69 y1 y2 y3 y4 y5 z0 M2)))
def wX12_plays (p1 : Int32) (p2 : Int32) (p3 : Int32) (M : gS) (Q : Int32 → gS → Prop) : Prop :=
 (wX12_goesOn  M (fun (b3 : Bool) (M2 : gS) => (((bI b3) = 0 → (Q (-2 : Int32) M2))
 ∧ (¬ (bI b3) = 0 → (wX12_in (Int32.toInt64 p1) (0 : Int64) (8 : Int64) M2 (fun (b7 : Bool) (M6 : gS) => (((bI b7) = 0 → (Q (-2 : Int32) M6))
 ∧ (¬ (bI b7) = 0 → (wX12_in (Int32.toInt64 p2) (0 : Int64) (14 : Int64) M6 (fun (b11 : Bool) (M10 : gS) => (((bI b11) = 0 → (Q (-2 : Int32) M10))
 ∧ (¬ (bI b11) = 0 → (wX12_isSide p3 M10 (fun (b15 : Bool) (M14 : gS) => (((bI b15) = 0 → (Q (-2 : Int32) M14))
 ∧ (¬ (bI b15) = 0 → (∀ x17 : Int32, x17 = (ma M14 25 9) → ((p1 = 0 → (wX12_plays_62  Q p1 p2 p3 x17 (0 : Int32) (-1 : Int32) M14))
 ∧ (¬ p1 = 0 → (wX12_plays_62  Q p1 p2 p3 x17 (0 : Int32) (0 : Int32) M14))))))))))))))))))))
def rmX12_plays : Room := { frames := 5, cells := 0, slots := 0, locals := 105 }
set_option maxHeartbeats 4000000 in
set_option maxRecDepth 100000 in
theorem kX12_plays (l : Launch) (dC : Nat → ClassId) (dI : Nat → Nat → Nat) (cB cI cJ cZ : ClassId) (h0 : Nat) (ad : Nat → Nat) (sz : Nat) (p1 : Int32) (p2 : Int32) (p3 : Int32) (M : gS) (Q : Int32 → gS → Prop) (h : wX12_plays p1 p2 p3 M Q) : Met l yX12_plays wsX12_plays rmX12_plays (va_Pc [.ref h0, .int p1, .int p2, .int p3] (mI dC dI cB cI cJ cZ h0 ad M sz)) (va_Qi (fun (r : Int32) (u : gS) => Q r u) (mB dC dI cB cI cJ cZ h0 ad (va_A (mW cB cI cJ cZ h0 ad M) sz)) (va_A (mW cB cI cJ cZ h0 ad M) sz)) 0 0 (va_A (mW cB cI cJ cZ h0 ad M) sz) := by
  refine Met.ofW (cc := cX12_plays) (maxL := 7) (ret := (some .int)) (by decide) rfl ?_
  intro p e s m args below meth c s₁ B hml hv
  obtain ⟨rfl, hsz, hP, hK, hD0⟩ := hv
  have hx := B.exec
  have hb := B.bytes
  have hr := B.returns
  have hts := atoms_spec (ws := wsX12_plays) B.pre
  have hown : s.vm.findClass RX12 = some m.cls := findClass_of_methodNamed B.named
  have hlocks := B.notSynchronized
  subst hsz
  have hD := hD0.self (sz := s.heap.size)
  generalize hAe : va_A (mW cB cI cJ cZ h0 ad M) s.heap.size = A at hD ⊢
  have hA : ∀ q : Nat, s.heap.size ≤ q → A q := fun q h => by rw [← hAe]; exact Or.inr h
  have hS : va_S A s.heap s.heap [] := va_S.rf
  have hin : ∀ w ∈ wsX120, w ∈ wsX12_plays := fun w h => List.mem_cons_of_mem _ (List.mem_append_right _ h)
  have f1 := hts (.fieldLink RX12 286 "LastWordsModel" "ended" "I") (by decide +kernel)
  have f2 := hts (.fieldLink RX12 45 "LastWordsModel" "said" "[I") (by decide +kernel)
  have f3 := hts (.constantLong RX12 387 (8)) (by decide +kernel)
  have f4 := hts (.constantLong RX12 389 (14)) (by decide +kernel)
  have b131 : ∀ (B69 : Int32 → Int32 → Int32 → Int32 → Int32 → Int32 → gS → Prop) (hB69 : ∀ (y1 : Int32) (y2 : Int32) (y3 : Int32) (y4 : Int32) (y5 : Int32) (y6 : Int32) (M : gS) (H : Heap) (locs : List Loc) (ls : Array Slot), va_P (dC, dI) vwCl (mW cB cI cJ cZ h0 ad M) H → va_D A (mW cB cI cJ cZ h0 ad M) → va_S A s.heap H locs → lv_has ls 7 [(0, .ref h0), (1, .int y1), (2, .int y2), (3, .int y3), (4, .int y4), (5, .int y5), (6, .int y6)] → B69 y1 y2 y3 y4 y5 y6 M → W p l e (headSpec wsX12_plays rmX12_plays).room s m ([.ref h0, .int p1, .int p2, .int p3] : List Value).toArray below meth c H locs 0 0 (MQ below (va_Qi (fun (r : Int32) (u : gS) => Q r u) (mB dC dI cB cI cJ cZ h0 ad A) A) ([.ref h0, .int p1, .int p2, .int p3] : List Value).toArray s 0 0 A) (F0 m 69 ls [])) (y1 : Int32) (y2 : Int32) (y3 : Int32) (y4 : Int32) (y6 : Int32) (z1 : Int32) (z0 : Int32) (M : gS) (H : Heap) (locs : List Loc) (ls : Array Slot), va_P (dC, dI) vwCl (mW cB cI cJ cZ h0 ad M) H → va_D A (mW cB cI cJ cZ h0 ad M) → va_S A s.heap H locs → lv_has ls 7 [(0, .ref h0), (1, .int y1), (2, .int y2), (3, .int y3), (4, .int y4), (6, .int y6)] → wX12_plays_131 B69 Q y1 y2 y3 y4 y6 z1 z0 M → W p l e (headSpec wsX12_plays rmX12_plays).room s m ([.ref h0, .int p1, .int p2, .int p3] : List Value).toArray below meth c H locs 0 0 (MQ below (va_Qi (fun (r : Int32) (u : gS) => Q r u) (mB dC dI cB cI cJ cZ h0 ad A) A) ([.ref h0, .int p1, .int p2, .int p3] : List Value).toArray s 0 0 A) (F0 m 131 ls [.int z0, .int z1]) := by
    intro B69 hB69 y1 y2 y3 y4 y6 z1 z0 M H locs ls hP hD hS hl h
    unfold wX12_plays_131 at h
    refine lv_iadd hx hb dX12_plays_131 ?_
    refine lv_topi (fun x1 ex1 => ?_)
    have h := h x1 ex1
    refine lv_istore (lv' := [(5, .int x1), (0, .ref h0), (1, .int y1), (2, .int y2), (3, .int y3), (4, .int y4), (6, .int y6)]) hx hb dX12_plays_132 hl (by decide) rfl (fun ls hl => ?_)
    refine lv_goto (tgt := 69) hx hb dX12_plays_134 (by decide) ?_
    exact hB69 y1 y2 y3 y4 x1 y6 M H locs ls hP hD hS (lv_sub hl [1, 2, 3, 4, 5, 0, 6] rfl) h
  have b130 : ∀ (B69 : Int32 → Int32 → Int32 → Int32 → Int32 → Int32 → gS → Prop) (hB69 : ∀ (y1 : Int32) (y2 : Int32) (y3 : Int32) (y4 : Int32) (y5 : Int32) (y6 : Int32) (M : gS) (H : Heap) (locs : List Loc) (ls : Array Slot), va_P (dC, dI) vwCl (mW cB cI cJ cZ h0 ad M) H → va_D A (mW cB cI cJ cZ h0 ad M) → va_S A s.heap H locs → lv_has ls 7 [(0, .ref h0), (1, .int y1), (2, .int y2), (3, .int y3), (4, .int y4), (5, .int y5), (6, .int y6)] → B69 y1 y2 y3 y4 y5 y6 M → W p l e (headSpec wsX12_plays rmX12_plays).room s m ([.ref h0, .int p1, .int p2, .int p3] : List Value).toArray below meth c H locs 0 0 (MQ below (va_Qi (fun (r : Int32) (u : gS) => Q r u) (mB dC dI cB cI cJ cZ h0 ad A) A) ([.ref h0, .int p1, .int p2, .int p3] : List Value).toArray s 0 0 A) (F0 m 69 ls [])) (y1 : Int32) (y2 : Int32) (y3 : Int32) (y4 : Int32) (y6 : Int32) (z0 : Int32) (M : gS) (H : Heap) (locs : List Loc) (ls : Array Slot), va_P (dC, dI) vwCl (mW cB cI cJ cZ h0 ad M) H → va_D A (mW cB cI cJ cZ h0 ad M) → va_S A s.heap H locs → lv_has ls 7 [(0, .ref h0), (1, .int y1), (2, .int y2), (3, .int y3), (4, .int y4), (6, .int y6)] → wX12_plays_130 B69 Q y1 y2 y3 y4 y6 z0 M → W p l e (headSpec wsX12_plays rmX12_plays).room s m ([.ref h0, .int p1, .int p2, .int p3] : List Value).toArray below meth c H locs 0 0 (MQ below (va_Qi (fun (r : Int32) (u : gS) => Q r u) (mB dC dI cB cI cJ cZ h0 ad A) A) ([.ref h0, .int p1, .int p2, .int p3] : List Value).toArray s 0 0 A) (F0 m 130 ls [.int z0]) := by
    intro B69 hB69 y1 y2 y3 y4 y6 z0 M H locs ls hP hD hS hl h
    unfold wX12_plays_130 at h
    refine lv_iconst (v := 0) hx hb dX12_plays_130 (by decide) ?_
    exact b131 _ hB69 y1 y2 y3 y4 y6 z0 (0 : Int32) M H locs ls hP hD hS (lv_sub hl [0, 1, 2, 3, 4, 5] rfl) h
  have b69 : ∀ (n : Nat) (y1 : Int32) (y2 : Int32) (y3 : Int32) (y4 : Int32) (y5 : Int32) (y6 : Int32) (M : gS) (H : Heap) (locs : List Loc) (ls : Array Slot), va_P (dC, dI) vwCl (mW cB cI cJ cZ h0 ad M) H → va_D A (mW cB cI cJ cZ h0 ad M) → va_S A s.heap H locs → lv_has ls 7 [(0, .ref h0), (1, .int y1), (2, .int y2), (3, .int y3), (4, .int y4), (5, .int y5), (6, .int y6)] → wX12_plays_69  Q n y1 y2 y3 y4 y5 y6 M → W p l e (headSpec wsX12_plays rmX12_plays).room s m ([.ref h0, .int p1, .int p2, .int p3] : List Value).toArray below meth c H locs 0 0 (MQ below (va_Qi (fun (r : Int32) (u : gS) => Q r u) (mB dC dI cB cI cJ cZ h0 ad A) A) ([.ref h0, .int p1, .int p2, .int p3] : List Value).toArray s 0 0 A) (F0 m 69 ls []) := by
    intro  n
    induction n with
    | zero => intro y1 y2 y3 y4 y5 y6 M H locs ls hP hD hS hl h; exact absurd h (by simp [wX12_plays_69])
    | succ n hB690 =>
      intro y1 y2 y3 y4 y5 y6 M H locs ls hP hD hS hl h
      have hB69 := hB690
      rw [wX12_plays_69] at h
      refine lv_iload hx hb dX12_plays_69 (lv_at hl 6 rfl) ?_
      refine lv_if_lt (tgt := 157) hx hb dX12_plays_71 (by decide) (fun c1 => ?_) (fun c1 => ?_)
      · have h := h.1 c1
        refine lv_aload_n hx hb dX12_plays_157 rfl (lv_at hl 0 rfl) ?_
        refine lv_iconst (v := 0) hx hb dX12_plays_158 (by decide) ?_
        have hFc := gs_free hD hS hA
        refine va_callv (va_runV (As := [.int (0 : Int32)]) (rest := []) ⟨hx, hb, hml, hown, hts⟩ (kX12_putsBackAt l dC dI cB cI cJ cZ h0 ad H.size (0 : Int32) M _ h) (cwV 1 hts gX12_plays_X12_putsBackAt rfl rfl rfl (by decide +kernel) ⟨Nat.le_of_ble_eq_true rfl, Nat.le_of_ble_eq_true rfl⟩) (mpV hK hP hD) rfl rfl hl.1 rfl (lv_room (Nat.le_of_ble_eq_true rfl)) dX12_plays_159 ⟨Nat.le_of_ble_eq_true rfl, Nat.le_of_ble_eq_true rfl⟩) hS (fun q _ z => hFc q z) hFc (fun M3 t H1 locs ht hvm hw hB hz1 hk1 hS => ?_)
        obtain ⟨hP, hD⟩ := gs_back ht hFc hB
        generalize H1 = H at hP hS ⊢
        have h := hw
        try dsimp only at h
        refine lv_iload hx hb dX12_plays_162 (lv_at hl 5 rfl) ?_
        exact W.iret (v := y5) hx hb hr (fun t ht hW => ⟨⟨_, M3, rfl, h, by rw [ht]; exact hP, va_K.moved hW.alike hK, hD⟩, hS.F ht⟩) hS.2.2 dX12_plays_164
      · have h := h.2 c1
        refine lv_aload_n hx hb dX12_plays_74 rfl (lv_at hl 0 rfl) ?_
        refine lv_iload hx hb dX12_plays_75 (lv_at hl 6 rfl) ?_
        have hFc := gs_free hD hS hA
        refine va_callv (va_runV (As := [.int y6]) (rest := []) ⟨hx, hb, hml, hown, hts⟩ (kX12_putsBackAt l dC dI cB cI cJ cZ h0 ad H.size y6 M _ h) (cwV 1 hts gX12_plays_X12_putsBackAt rfl rfl rfl (by decide +kernel) ⟨Nat.le_of_ble_eq_true rfl, Nat.le_of_ble_eq_true rfl⟩) (mpV hK hP hD) rfl rfl hl.1 rfl (lv_room (Nat.le_of_ble_eq_true rfl)) dX12_plays_77 ⟨Nat.le_of_ble_eq_true rfl, Nat.le_of_ble_eq_true rfl⟩) hS (fun q _ z => hFc q z) hFc (fun M5 t H1 locs ht hvm hw hB hz1 hk1 hS => ?_)
        obtain ⟨hP, hD⟩ := gs_back ht hFc hB
        generalize H1 = H at hP hS ⊢
        have h := hw
        try dsimp only at h
        refine lv_aload_n hx hb dX12_plays_80 rfl (lv_at hl 0 rfl) ?_
        refine lv_iload hx hb dX12_plays_81 (lv_at hl 6 rfl) ?_
        have hFc := gs_free hD hS hA
        refine va_calli (va_runV (As := [.int y6]) (rest := []) ⟨hx, hb, hml, hown, hts⟩ (kX12_doesNext l dC dI cB cI cJ cZ h0 ad H.size y6 M5 _ h) (cwV 1 hts gX12_plays_X12_doesNext rfl rfl rfl (by decide +kernel) ⟨Nat.le_of_ble_eq_true rfl, Nat.le_of_ble_eq_true rfl⟩) (mpV hK hP hD) rfl rfl hl.1 rfl (lv_room (Nat.le_of_ble_eq_true rfl)) dX12_plays_83 ⟨Nat.le_of_ble_eq_true rfl, Nat.le_of_ble_eq_true rfl⟩) hS (fun q _ z => hFc q z) hFc (fun r6 M7 t H1 locs ht hvm hw hB hz1 hk1 hS => ?_)
        obtain ⟨hP, hD⟩ := gs_back ht hFc hB
        generalize H1 = H at hP hS ⊢
        obtain ⟨b8, rfl, h⟩ := hw
        try dsimp only at h
        refine lv_if_ne (tgt := 95) hx hb dX12_plays_86 (by decide) (fun c9 => ?_) (fun c9 => ?_)
        · have h := h.2 c9
          refine lv_aload_n hx hb dX12_plays_95 rfl (lv_at hl 0 rfl) ?_
          have hFc := gs_free hD hS hA
          refine va_calli (va_runV (As := []) (rest := []) ⟨hx, hb, hml, hown, hts⟩ (kX12_goesOn l dC dI cB cI cJ cZ h0 ad H.size  M7 _ h) (cwV 0 hts gX12_plays_X12_goesOn rfl rfl rfl (by decide +kernel) ⟨Nat.le_of_ble_eq_true rfl, Nat.le_of_ble_eq_true rfl⟩) (mpV hK hP hD) rfl rfl hl.1 rfl (lv_room (Nat.le_of_ble_eq_true rfl)) dX12_plays_96 ⟨Nat.le_of_ble_eq_true rfl, Nat.le_of_ble_eq_true rfl⟩) hS (fun q _ z => hFc q z) hFc (fun r10 M11 t H1 locs ht hvm hw hB hz1 hk1 hS => ?_)
          obtain ⟨hP, hD⟩ := gs_back ht hFc hB
          generalize H1 = H at hP hS ⊢
          obtain ⟨b12, rfl, h⟩ := hw
          try dsimp only at h
          refine lv_if_ne (tgt := 137) hx hb dX12_plays_99 (by decide) (fun c13 => ?_) (fun c13 => ?_)
          · have h := h.2 c13
            refine lv_iload hx hb dX12_plays_137 (lv_at hl 6 rfl) ?_
            refine lv_iload_n hx hb dX12_plays_139 rfl (lv_at hl 1 rfl) ?_
            refine lv_iconst (v := 1) hx hb dX12_plays_140 (by decide) ?_
            refine lv_isub hx hb dX12_plays_141 ?_
            refine lv_icmp_ge (tgt := 69) hx hb dX12_plays_142 (by decide) (fun c14 => ?_) (fun c14 => ?_)
            · have h := h.1 c14
              exact hB69 y1 y2 y3 y4 y5 y6 M11 H locs ls hP hD hS (lv_sub hl [0, 1, 2, 3, 4, 5, 6] rfl) h
            · have h := h.2 c14
              obtain ⟨x15, ex15⟩ : ∃ y : Int32, y = y6 + (1 : Int32) := ⟨_, rfl⟩
              have h := h x15 ex15
              refine lv_iinc (v := x15) (lv' := [(6, .int x15), (0, .ref h0), (1, .int y1), (2, .int y2), (3, .int y3), (4, .int y4), (5, .int y5)]) hx hb dX12_plays_145 hl (k := 6) rfl (by rw [ex15]; rfl) (by decide) rfl (fun ls hl => ?_)
              refine lv_aload_n hx hb dX12_plays_148 rfl (lv_at hl 1 rfl) ?_
              refine lv_iload hx hb dX12_plays_149 (lv_at hl 0 rfl) ?_
              have hFc := gs_free hD hS hA
              refine va_callv (va_runV (As := [.int x15]) (rest := []) ⟨hx, hb, hml, hown, hts⟩ (kX12_keepsAt l dC dI cB cI cJ cZ h0 ad H.size x15 M11 _ h) (cwV 1 hts gX12_plays_X12_keepsAt rfl rfl rfl (by decide +kernel) ⟨Nat.le_of_ble_eq_true rfl, Nat.le_of_ble_eq_true rfl⟩) (mpV hK hP hD) rfl rfl hl.1 rfl (lv_room (Nat.le_of_ble_eq_true rfl)) dX12_plays_151 ⟨Nat.le_of_ble_eq_true rfl, Nat.le_of_ble_eq_true rfl⟩) hS (fun q _ z => hFc q z) hFc (fun M17 t H1 locs ht hvm hw hB hz1 hk1 hS => ?_)
              obtain ⟨hP, hD⟩ := gs_back ht hFc hB
              generalize H1 = H at hP hS ⊢
              have h := hw
              try dsimp only at h
              refine lv_goto (tgt := 69) hx hb dX12_plays_154 (by decide) ?_
              exact hB69 y1 y2 y3 y4 y5 x15 M17 H locs ls hP hD hS (lv_sub hl [1, 2, 3, 4, 5, 6, 0] rfl) h
          · have h := h.1 c13
            refine lv_iload hx hb dX12_plays_102 (lv_at hl 5 rfl) ?_
            refine lv_aload_n hx hb dX12_plays_104 rfl (lv_at hl 0 rfl) ?_
            refine va_get (D := (dC, dI)) (ci := 12) (v := .int (mg M11 26)) (C := RX12) (T := TX12) (N := 37) hx hb hts hin hown hK hP 0 rfl rfl 26 (by decide) f1 (fun _ h9 => h9) rfl dX12_plays_105 ?_
            refine lv_iload_n hx hb dX12_plays_108 rfl (lv_at hl 3 rfl) ?_
            refine lv_icmp_ne (tgt := 130) hx hb dX12_plays_109 (by decide) (fun c18 => ?_) (fun c18 => ?_)
            · have h := h.2 c18
              exact b130 _ hB69 y1 y2 y3 y4 y6 y5 M11 H locs ls hP hD hS (lv_sub hl [0, 1, 2, 3, 4, 6] rfl) h
            · have h := h.1 c18
              refine lv_aload_n hx hb dX12_plays_112 rfl (lv_at hl 0 rfl) ?_
              refine va_get (D := (dC, dI)) (ci := 12) (v := .ref (ad 25)) (C := RX12) (T := TX12) (N := 37) hx hb hts hin hown hK hP 0 rfl rfl 25 (by decide) f2 (fun _ h9 => h9) rfl dX12_plays_113 ?_
              refine lv_bipush (v := (9)) hx hb dX12_plays_116 (by decide) ?_
              refine wc_iald (j := 9) hx hb hK hP 12 1 (f := ma M11 25) rfl rfl (by decide) (by decide) (by decide) dX12_plays_118 ?_
              refine lv_iload hx hb dX12_plays_119 (lv_at hl 4 rfl) ?_
              refine lv_isub hx hb dX12_plays_121 ?_
              refine lv_iload_n hx hb dX12_plays_122 rfl (lv_at hl 2 rfl) ?_
              refine lv_icmp_ne (tgt := 130) hx hb dX12_plays_123 (by decide) (fun c19 => ?_) (fun c19 => ?_)
              · have h := h.2 c19
                exact b130 _ hB69 y1 y2 y3 y4 y6 y5 M11 H locs ls hP hD hS (lv_sub hl [0, 1, 2, 3, 4, 6] rfl) h
              · have h := h.1 c19
                refine lv_iconst (v := 1) hx hb dX12_plays_126 (by decide) ?_
                refine lv_goto (tgt := 131) hx hb dX12_plays_127 (by decide) ?_
                exact b131 _ hB69 y1 y2 y3 y4 y6 y5 (1 : Int32) M11 H locs ls hP hD hS (lv_sub hl [0, 1, 2, 3, 4, 6] rfl) h
        · have h := h.1 c9
          obtain ⟨x20, ex20⟩ : ∃ y : Int32, y = y6 + (-1 : Int32) := ⟨_, rfl⟩
          have h := h x20 ex20
          refine lv_iinc (v := x20) (lv' := [(6, .int x20), (0, .ref h0), (1, .int y1), (2, .int y2), (3, .int y3), (4, .int y4), (5, .int y5)]) hx hb dX12_plays_89 hl (k := 6) rfl (by rw [ex20]; rfl) (by decide) rfl (fun ls hl => ?_)
          refine lv_goto (tgt := 69) hx hb dX12_plays_92 (by decide) ?_
          exact hB69 y1 y2 y3 y4 y5 x20 M7 H locs ls hP hD hS (lv_sub hl [1, 2, 3, 4, 5, 6, 0] rfl) h
  have b62 : ∀ (y1 : Int32) (y2 : Int32) (y3 : Int32) (y4 : Int32) (y5 : Int32) (z0 : Int32) (M : gS) (H : Heap) (locs : List Loc) (ls : Array Slot), va_P (dC, dI) vwCl (mW cB cI cJ cZ h0 ad M) H → va_D A (mW cB cI cJ cZ h0 ad M) → va_S A s.heap H locs → lv_has ls 7 [(0, .ref h0), (1, .int y1), (2, .int y2), (3, .int y3), (4, .int y4), (5, .int y5)] → wX12_plays_62  Q y1 y2 y3 y4 y5 z0 M → W p l e (headSpec wsX12_plays rmX12_plays).room s m ([.ref h0, .int p1, .int p2, .int p3] : List Value).toArray below meth c H locs 0 0 (MQ below (va_Qi (fun (r : Int32) (u : gS) => Q r u) (mB dC dI cB cI cJ cZ h0 ad A) A) ([.ref h0, .int p1, .int p2, .int p3] : List Value).toArray s 0 0 A) (F0 m 62 ls [.int z0]) := by
    intro  y1 y2 y3 y4 y5 z0 M H locs ls hP hD hS hl h
    unfold wX12_plays_62 at h
    refine lv_istore (lv' := [(6, .int z0), (0, .ref h0), (1, .int y1), (2, .int y2), (3, .int y3), (4, .int y4), (5, .int y5)]) hx hb dX12_plays_62 hl (by decide) rfl (fun ls hl => ?_)
    refine lv_aload_n hx hb dX12_plays_64 rfl (lv_at hl 1 rfl) ?_
    refine lv_iconst (v := 0) hx hb dX12_plays_65 (by decide) ?_
    have hFc := gs_free hD hS hA
    refine va_callv (va_runV (As := [.int (0 : Int32)]) (rest := []) ⟨hx, hb, hml, hown, hts⟩ (kX12_keepsAt l dC dI cB cI cJ cZ h0 ad H.size (0 : Int32) M _ h) (cwV 1 hts gX12_plays_X12_keepsAt rfl rfl rfl (by decide +kernel) ⟨Nat.le_of_ble_eq_true rfl, Nat.le_of_ble_eq_true rfl⟩) (mpV hK hP hD) rfl rfl hl.1 rfl (lv_room (Nat.le_of_ble_eq_true rfl)) dX12_plays_66 ⟨Nat.le_of_ble_eq_true rfl, Nat.le_of_ble_eq_true rfl⟩) hS (fun q _ z => hFc q z) hFc (fun M2 t H1 locs ht hvm hw hB hz1 hk1 hS => ?_)
    obtain ⟨hP, hD⟩ := gs_back ht hFc hB
    generalize H1 = H at hP hS ⊢
    have h := hw
    try dsimp only at h
    obtain ⟨n9, h⟩ := h
    exact b69  n9 y1 y2 y3 y4 y5 z0 M2 H locs ls hP hD hS (lv_sub hl [1, 2, 3, 4, 5, 6, 0] rfl) h
  have bE : ∀ (M : gS) (H : Heap) (locs : List Loc) (ls : Array Slot), va_P (dC, dI) vwCl (mW cB cI cJ cZ h0 ad M) H → va_D A (mW cB cI cJ cZ h0 ad M) → va_S A s.heap H locs → lv_has ls 7 [(0, .ref h0), (1, .int p1), (2, .int p2), (3, .int p3)] → wX12_plays p1 p2 p3 M Q → W p l e (headSpec wsX12_plays rmX12_plays).room s m ([.ref h0, .int p1, .int p2, .int p3] : List Value).toArray below meth c H locs 0 0 (MQ below (va_Qi (fun (r : Int32) (u : gS) => Q r u) (mB dC dI cB cI cJ cZ h0 ad A) A) ([.ref h0, .int p1, .int p2, .int p3] : List Value).toArray s 0 0 A) (F0 m 0 ls []) := by
    intro M H locs ls hP hD hS hl h
    unfold wX12_plays at h
    refine lv_aload_n hx hb dX12_plays_0 rfl (lv_at hl 0 rfl) ?_
    have hFc := gs_free hD hS hA
    refine va_calli (va_runV (As := []) (rest := []) ⟨hx, hb, hml, hown, hts⟩ (kX12_goesOn l dC dI cB cI cJ cZ h0 ad H.size  M _ h) (cwV 0 hts gX12_plays_X12_goesOn rfl rfl rfl (by decide +kernel) ⟨Nat.le_of_ble_eq_true rfl, Nat.le_of_ble_eq_true rfl⟩) (mpV hK hP hD) rfl rfl hl.1 rfl (lv_room (Nat.le_of_ble_eq_true rfl)) dX12_plays_1 ⟨Nat.le_of_ble_eq_true rfl, Nat.le_of_ble_eq_true rfl⟩) hS (fun q _ z => hFc q z) hFc (fun r1 M2 t H1 locs ht hvm hw hB hz1 hk1 hS => ?_)
    obtain ⟨hP, hD⟩ := gs_back ht hFc hB
    generalize H1 = H at hP hS ⊢
    obtain ⟨b3, rfl, h⟩ := hw
    try dsimp only at h
    refine lv_if_eq (tgt := 38) hx hb dX12_plays_4 (by decide) (fun c4 => ?_) (fun c4 => ?_)
    · have h := h.1 c4
      refine lv_bipush (v := (-2)) hx hb dX12_plays_38 (by decide) ?_
      exact W.iret (v := (-2 : Int32)) hx hb hr (fun t ht hW => ⟨⟨_, M2, rfl, h, by rw [ht]; exact hP, va_K.moved hW.alike hK, hD⟩, hS.F ht⟩) hS.2.2 dX12_plays_40
    · have h := h.2 c4
      refine lv_iload_n hx hb dX12_plays_7 rfl (lv_at hl 1 rfl) ?_
      refine lv_i2l hx hb dX12_plays_8 rfl ?_
      refine lv_lconst (v := 0) hx hb dX12_plays_9 (by decide) ?_
      refine lv_ldc2 (v := (8)) hx hb hown f3 dX12_plays_10 ?_
      have hFc := gs_free hD hS hA
      refine va_calli (va_runS (As := [.long (Int32.toInt64 p1), .long (0 : Int64), .long (8 : Int64)]) (rest := []) ⟨hx, hb, hml, hown, hts⟩ (kX12_in l dC dI cB cI cJ cZ h0 ad H.size (Int32.toInt64 p1) (0 : Int64) (8 : Int64) M2 _ h) (cwS 3 hts gX12_plays_X12_in rfl rfl rfl (by decide +kernel) ⟨Nat.le_of_ble_eq_true rfl, Nat.le_of_ble_eq_true rfl⟩) (mpS hK hP hD) rfl rfl hl.1 rfl (lv_room (Nat.le_of_ble_eq_true rfl)) dX12_plays_13 ⟨Nat.le_of_ble_eq_true rfl, Nat.le_of_ble_eq_true rfl⟩) hS (fun q _ z => hFc q z) hFc (fun r5 M6 t H1 locs ht hvm hw hB hz1 hk1 hS => ?_)
      obtain ⟨hP, hD⟩ := gs_back ht hFc hB
      generalize H1 = H at hP hS ⊢
      obtain ⟨b7, rfl, h⟩ := hw
      try dsimp only at h
      refine lv_if_eq (tgt := 38) hx hb dX12_plays_16 (by decide) (fun c8 => ?_) (fun c8 => ?_)
      · have h := h.1 c8
        refine lv_bipush (v := (-2)) hx hb dX12_plays_38 (by decide) ?_
        exact W.iret (v := (-2 : Int32)) hx hb hr (fun t ht hW => ⟨⟨_, M6, rfl, h, by rw [ht]; exact hP, va_K.moved hW.alike hK, hD⟩, hS.F ht⟩) hS.2.2 dX12_plays_40
      · have h := h.2 c8
        refine lv_iload_n hx hb dX12_plays_19 rfl (lv_at hl 2 rfl) ?_
        refine lv_i2l hx hb dX12_plays_20 rfl ?_
        refine lv_lconst (v := 0) hx hb dX12_plays_21 (by decide) ?_
        refine lv_ldc2 (v := (14)) hx hb hown f4 dX12_plays_22 ?_
        have hFc := gs_free hD hS hA
        refine va_calli (va_runS (As := [.long (Int32.toInt64 p2), .long (0 : Int64), .long (14 : Int64)]) (rest := []) ⟨hx, hb, hml, hown, hts⟩ (kX12_in l dC dI cB cI cJ cZ h0 ad H.size (Int32.toInt64 p2) (0 : Int64) (14 : Int64) M6 _ h) (cwS 3 hts gX12_plays_X12_in rfl rfl rfl (by decide +kernel) ⟨Nat.le_of_ble_eq_true rfl, Nat.le_of_ble_eq_true rfl⟩) (mpS hK hP hD) rfl rfl hl.1 rfl (lv_room (Nat.le_of_ble_eq_true rfl)) dX12_plays_25 ⟨Nat.le_of_ble_eq_true rfl, Nat.le_of_ble_eq_true rfl⟩) hS (fun q _ z => hFc q z) hFc (fun r9 M10 t H1 locs ht hvm hw hB hz1 hk1 hS => ?_)
        obtain ⟨hP, hD⟩ := gs_back ht hFc hB
        generalize H1 = H at hP hS ⊢
        obtain ⟨b11, rfl, h⟩ := hw
        try dsimp only at h
        refine lv_if_eq (tgt := 38) hx hb dX12_plays_28 (by decide) (fun c12 => ?_) (fun c12 => ?_)
        · have h := h.1 c12
          refine lv_bipush (v := (-2)) hx hb dX12_plays_38 (by decide) ?_
          exact W.iret (v := (-2 : Int32)) hx hb hr (fun t ht hW => ⟨⟨_, M10, rfl, h, by rw [ht]; exact hP, va_K.moved hW.alike hK, hD⟩, hS.F ht⟩) hS.2.2 dX12_plays_40
        · have h := h.2 c12
          refine lv_iload_n hx hb dX12_plays_31 rfl (lv_at hl 3 rfl) ?_
          have hFc := gs_free hD hS hA
          refine va_calli (va_runS (As := [.int p3]) (rest := []) ⟨hx, hb, hml, hown, hts⟩ (kX12_isSide l dC dI cB cI cJ cZ h0 ad H.size p3 M10 _ h) (cwS 1 hts gX12_plays_X12_isSide rfl rfl rfl (by decide +kernel) ⟨Nat.le_of_ble_eq_true rfl, Nat.le_of_ble_eq_true rfl⟩) (mpS hK hP hD) rfl rfl hl.1 rfl (lv_room (Nat.le_of_ble_eq_true rfl)) dX12_plays_32 ⟨Nat.le_of_ble_eq_true rfl, Nat.le_of_ble_eq_true rfl⟩) hS (fun q _ z => hFc q z) hFc (fun r13 M14 t H1 locs ht hvm hw hB hz1 hk1 hS => ?_)
          obtain ⟨hP, hD⟩ := gs_back ht hFc hB
          generalize H1 = H at hP hS ⊢
          obtain ⟨b15, rfl, h⟩ := hw
          try dsimp only at h
          refine lv_if_ne (tgt := 41) hx hb dX12_plays_35 (by decide) (fun c16 => ?_) (fun c16 => ?_)
          · have h := h.2 c16
            refine lv_aload_n hx hb dX12_plays_41 rfl (lv_at hl 0 rfl) ?_
            refine va_get (D := (dC, dI)) (ci := 12) (v := .ref (ad 25)) (C := RX12) (T := TX12) (N := 37) hx hb hts hin hown hK hP 0 rfl rfl 25 (by decide) f2 (fun _ h9 => h9) rfl dX12_plays_42 ?_
            refine lv_bipush (v := (9)) hx hb dX12_plays_45 (by decide) ?_
            refine wc_iald (j := 9) hx hb hK hP 12 1 (f := ma M14 25) rfl rfl (by decide) (by decide) (by decide) dX12_plays_47 ?_
            refine lv_topi (fun x17 ex17 => ?_)
            have h := h x17 ex17
            refine lv_istore (lv' := [(4, .int x17), (0, .ref h0), (1, .int p1), (2, .int p2), (3, .int p3)]) hx hb dX12_plays_48 hl (by decide) rfl (fun ls hl => ?_)
            refine lv_iconst (v := 0) hx hb dX12_plays_50 (by decide) ?_
            refine lv_istore (lv' := [(5, .int (0 : Int32)), (4, .int x17), (0, .ref h0), (1, .int p1), (2, .int p2), (3, .int p3)]) hx hb dX12_plays_51 hl (by decide) rfl (fun ls hl => ?_)
            refine lv_iload_n hx hb dX12_plays_53 rfl (lv_at hl 3 rfl) ?_
            refine lv_if_ne (tgt := 61) hx hb dX12_plays_54 (by decide) (fun c18 => ?_) (fun c18 => ?_)
            · have h := h.2 c18
              refine lv_iconst (v := 0) hx hb dX12_plays_61 (by decide) ?_
              exact b62  p1 p2 p3 x17 (0 : Int32) (0 : Int32) M14 H locs ls hP hD hS (lv_sub hl [2, 3, 4, 5, 1, 0] rfl) h
            · have h := h.1 c18
              refine lv_iconst (v := (-1)) hx hb dX12_plays_57 (by decide) ?_
              refine lv_goto (tgt := 62) hx hb dX12_plays_58 (by decide) ?_
              exact b62  p1 p2 p3 x17 (0 : Int32) (-1 : Int32) M14 H locs ls hP hD hS (lv_sub hl [2, 3, 4, 5, 1, 0] rfl) h
          · have h := h.1 c16
            refine lv_bipush (v := (-2)) hx hb dX12_plays_38 (by decide) ?_
            exact W.iret (v := (-2 : Int32)) hx hb hr (fun t ht hW => ⟨⟨_, M14, rfl, h, by rw [ht]; exact hP, va_K.moved hW.alike hK, hD⟩, hS.F ht⟩) hS.2.2 dX12_plays_40
  have hl := lv_entry ([.ref h0, .int p1, .int p2, .int p3]) (n := 7) (Nat.le_of_ble_eq_true rfl)
  rw [lg_entry_eq]
  generalize (lg_sl ([.ref h0, .int p1, .int p2, .int p3]) ++ List.replicate (7 - (lg_sl ([.ref h0, .int p1, .int p2, .int p3])).length) Slot.unset).toArray = ls at hl ⊢
  have hl : lv_has ls 7 [(0, .ref h0), (1, .int p1), (2, .int p2), (3, .int p3)] := hl
  exact bE M s.heap [] ls hP hD hS hl h
def wX12_waits (p1 : Int32) (p2 : Int32) (M : gS) (Q : Int32 → gS → Prop) : Prop :=
 ((p1 = (-1 : Int32) → (∀ M19 : gS, M19 = sa M 25 10 (0 : Int32) → (Q (0 : Int32) M19)))
 ∧ (¬ p1 = (-1 : Int32) → (wX12_isCorner  M (fun (b4 : Bool) (M3 : gS) => (((bI b4) = 0 → (Q (-2 : Int32) M3))
 ∧ (¬ (bI b4) = 0 → (wX12_in (Int32.toInt64 p1) (1 : Int64) (999 : Int64) M3 (fun (b8 : Bool) (M7 : gS) => (((bI b8) = 0 → (Q (-2 : Int32) M7))
 ∧ (¬ (bI b8) = 0 → (wX12_in (Int32.toInt64 p2) (0 : Int64) (99 : Int64) M7 (fun (b12 : Bool) (M11 : gS) => (((bI b12) = 0 → (Q (-2 : Int32) M11))
 ∧ (¬ (bI b12) = 0 → (((ma M11 25 10) = (6 : Int32) → (Q (-2 : Int32) M11))
 ∧ (¬ (ma M11 25 10) = (6 : Int32) → (vp_in ((32 : Int32) + ((2 : Int32) * (ma M11 25 10))) 44 ∧ (∀ M15 : gS, M15 = sa M11 25 (Int32.toNatClampNeg ((32 : Int32) + ((2 : Int32) * (ma M11 25 10)))) p1 → (vp_in (((32 : Int32) + ((2 : Int32) * (ma M15 25 10))) + (1 : Int32)) 44 ∧ (∀ M16 : gS, M16 = sa M15 25 (Int32.toNatClampNeg (((32 : Int32) + ((2 : Int32) * (ma M15 25 10))) + (1 : Int32))) p2 → (∀ x17 : Int32, x17 = ((ma M16 25 10) + (1 : Int32)) → (∀ M18 : gS, M18 = sa M16 25 10 x17 → (Q (ma M18 25 10) M18)))))))))))))))))))))))
def rmX12_waits : Room := { frames := 1, cells := 0, slots := 0, locals := 25 }
set_option maxHeartbeats 4000000 in
set_option maxRecDepth 100000 in
theorem kX12_waits (l : Launch) (dC : Nat → ClassId) (dI : Nat → Nat → Nat) (cB cI cJ cZ : ClassId) (h0 : Nat) (ad : Nat → Nat) (sz : Nat) (p1 : Int32) (p2 : Int32) (M : gS) (Q : Int32 → gS → Prop) (h : wX12_waits p1 p2 M Q) : Met l yX12_waits wsX12_waits rmX12_waits (va_Pc [.ref h0, .int p1, .int p2] (mI dC dI cB cI cJ cZ h0 ad M sz)) (va_Qi (fun (r : Int32) (u : gS) => Q r u) (mB dC dI cB cI cJ cZ h0 ad (va_A (mW cB cI cJ cZ h0 ad M) sz)) (va_A (mW cB cI cJ cZ h0 ad M) sz)) 0 0 (va_A (mW cB cI cJ cZ h0 ad M) sz) := by
  refine Met.ofW (cc := cX12_waits) (maxL := 3) (ret := (some .int)) (by decide) rfl ?_
  intro p e s m args below meth c s₁ B hml hv
  obtain ⟨rfl, hsz, hP, hK, hD0⟩ := hv
  have hx := B.exec
  have hb := B.bytes
  have hr := B.returns
  have hts := atoms_spec (ws := wsX12_waits) B.pre
  have hown : s.vm.findClass RX12 = some m.cls := findClass_of_methodNamed B.named
  have hlocks := B.notSynchronized
  subst hsz
  have hD := hD0.self (sz := s.heap.size)
  generalize hAe : va_A (mW cB cI cJ cZ h0 ad M) s.heap.size = A at hD ⊢
  have hA : ∀ q : Nat, s.heap.size ≤ q → A q := fun q h => by rw [← hAe]; exact Or.inr h
  have hS : va_S A s.heap s.heap [] := va_S.rf
  have hin : ∀ w ∈ wsX120, w ∈ wsX12_waits := fun w h => List.mem_cons_of_mem _ (List.mem_append_right _ h)
  have f1 := hts (.constantLong RX12 400 (999)) (by decide +kernel)
  have f2 := hts (.constantLong RX12 402 (99)) (by decide +kernel)
  have f3 := hts (.fieldLink RX12 45 "LastWordsModel" "said" "[I") (by decide +kernel)
  have bE : ∀ (M : gS) (H : Heap) (locs : List Loc) (ls : Array Slot), va_P (dC, dI) vwCl (mW cB cI cJ cZ h0 ad M) H → va_D A (mW cB cI cJ cZ h0 ad M) → va_S A s.heap H locs → lv_has ls 3 [(0, .ref h0), (1, .int p1), (2, .int p2)] → wX12_waits p1 p2 M Q → W p l e (headSpec wsX12_waits rmX12_waits).room s m ([.ref h0, .int p1, .int p2] : List Value).toArray below meth c H locs 0 0 (MQ below (va_Qi (fun (r : Int32) (u : gS) => Q r u) (mB dC dI cB cI cJ cZ h0 ad A) A) ([.ref h0, .int p1, .int p2] : List Value).toArray s 0 0 A) (F0 m 0 ls []) := by
    intro M H locs ls hP hD hS hl h
    unfold wX12_waits at h
    refine lv_iload_n hx hb dX12_waits_0 rfl (lv_at hl 1 rfl) ?_
    refine lv_iconst (v := (-1)) hx hb dX12_waits_1 (by decide) ?_
    refine lv_icmp_ne (tgt := 15) hx hb dX12_waits_2 (by decide) (fun c1 => ?_) (fun c1 => ?_)
    · have h := h.2 c1
      refine lv_aload_n hx hb dX12_waits_15 rfl (lv_at hl 0 rfl) ?_
      have hFc := gs_free hD hS hA
      refine va_calli (va_runV (As := []) (rest := []) ⟨hx, hb, hml, hown, hts⟩ (kX12_isCorner l dC dI cB cI cJ cZ h0 ad H.size  M _ h) (cwV 0 hts gX12_waits_X12_isCorner rfl rfl rfl (by decide +kernel) ⟨Nat.le_of_ble_eq_true rfl, Nat.le_of_ble_eq_true rfl⟩) (mpV hK hP hD) rfl rfl hl.1 rfl (lv_room (Nat.le_of_ble_eq_true rfl)) dX12_waits_16 ⟨Nat.le_of_ble_eq_true rfl, Nat.le_of_ble_eq_true rfl⟩) hS (fun q _ z => hFc q z) hFc (fun r2 M3 t H1 locs ht hvm hw hB hz1 hk1 hS => ?_)
      obtain ⟨hP, hD⟩ := gs_back ht hFc hB
      generalize H1 = H at hP hS ⊢
      obtain ⟨b4, rfl, h⟩ := hw
      try dsimp only at h
      refine lv_if_eq (tgt := 58) hx hb dX12_waits_19 (by decide) (fun c5 => ?_) (fun c5 => ?_)
      · have h := h.1 c5
        refine lv_bipush (v := (-2)) hx hb dX12_waits_58 (by decide) ?_
        exact W.iret (v := (-2 : Int32)) hx hb hr (fun t ht hW => ⟨⟨_, M3, rfl, h, by rw [ht]; exact hP, va_K.moved hW.alike hK, hD⟩, hS.F ht⟩) hS.2.2 dX12_waits_60
      · have h := h.2 c5
        refine lv_iload_n hx hb dX12_waits_22 rfl (lv_at hl 1 rfl) ?_
        refine lv_i2l hx hb dX12_waits_23 rfl ?_
        refine lv_lconst (v := 1) hx hb dX12_waits_24 (by decide) ?_
        refine lv_ldc2 (v := (999)) hx hb hown f1 dX12_waits_25 ?_
        have hFc := gs_free hD hS hA
        refine va_calli (va_runS (As := [.long (Int32.toInt64 p1), .long (1 : Int64), .long (999 : Int64)]) (rest := []) ⟨hx, hb, hml, hown, hts⟩ (kX12_in l dC dI cB cI cJ cZ h0 ad H.size (Int32.toInt64 p1) (1 : Int64) (999 : Int64) M3 _ h) (cwS 3 hts gX12_waits_X12_in rfl rfl rfl (by decide +kernel) ⟨Nat.le_of_ble_eq_true rfl, Nat.le_of_ble_eq_true rfl⟩) (mpS hK hP hD) rfl rfl hl.1 rfl (lv_room (Nat.le_of_ble_eq_true rfl)) dX12_waits_28 ⟨Nat.le_of_ble_eq_true rfl, Nat.le_of_ble_eq_true rfl⟩) hS (fun q _ z => hFc q z) hFc (fun r6 M7 t H1 locs ht hvm hw hB hz1 hk1 hS => ?_)
        obtain ⟨hP, hD⟩ := gs_back ht hFc hB
        generalize H1 = H at hP hS ⊢
        obtain ⟨b8, rfl, h⟩ := hw
        try dsimp only at h
        refine lv_if_eq (tgt := 58) hx hb dX12_waits_31 (by decide) (fun c9 => ?_) (fun c9 => ?_)
        · have h := h.1 c9
          refine lv_bipush (v := (-2)) hx hb dX12_waits_58 (by decide) ?_
          exact W.iret (v := (-2 : Int32)) hx hb hr (fun t ht hW => ⟨⟨_, M7, rfl, h, by rw [ht]; exact hP, va_K.moved hW.alike hK, hD⟩, hS.F ht⟩) hS.2.2 dX12_waits_60
        · have h := h.2 c9
          refine lv_iload_n hx hb dX12_waits_34 rfl (lv_at hl 2 rfl) ?_
          refine lv_i2l hx hb dX12_waits_35 rfl ?_
          refine lv_lconst (v := 0) hx hb dX12_waits_36 (by decide) ?_
          refine lv_ldc2 (v := (99)) hx hb hown f2 dX12_waits_37 ?_
          have hFc := gs_free hD hS hA
          refine va_calli (va_runS (As := [.long (Int32.toInt64 p2), .long (0 : Int64), .long (99 : Int64)]) (rest := []) ⟨hx, hb, hml, hown, hts⟩ (kX12_in l dC dI cB cI cJ cZ h0 ad H.size (Int32.toInt64 p2) (0 : Int64) (99 : Int64) M7 _ h) (cwS 3 hts gX12_waits_X12_in rfl rfl rfl (by decide +kernel) ⟨Nat.le_of_ble_eq_true rfl, Nat.le_of_ble_eq_true rfl⟩) (mpS hK hP hD) rfl rfl hl.1 rfl (lv_room (Nat.le_of_ble_eq_true rfl)) dX12_waits_40 ⟨Nat.le_of_ble_eq_true rfl, Nat.le_of_ble_eq_true rfl⟩) hS (fun q _ z => hFc q z) hFc (fun r10 M11 t H1 locs ht hvm hw hB hz1 hk1 hS => ?_)
          obtain ⟨hP, hD⟩ := gs_back ht hFc hB
          generalize H1 = H at hP hS ⊢
          obtain ⟨b12, rfl, h⟩ := hw
          try dsimp only at h
          refine lv_if_eq (tgt := 58) hx hb dX12_waits_43 (by decide) (fun c13 => ?_) (fun c13 => ?_)
          · have h := h.1 c13
            refine lv_bipush (v := (-2)) hx hb dX12_waits_58 (by decide) ?_
            exact W.iret (v := (-2 : Int32)) hx hb hr (fun t ht hW => ⟨⟨_, M11, rfl, h, by rw [ht]; exact hP, va_K.moved hW.alike hK, hD⟩, hS.F ht⟩) hS.2.2 dX12_waits_60
          · have h := h.2 c13
            refine lv_aload_n hx hb dX12_waits_46 rfl (lv_at hl 0 rfl) ?_
            refine va_get (D := (dC, dI)) (ci := 12) (v := .ref (ad 25)) (C := RX12) (T := TX12) (N := 37) hx hb hts hin hown hK hP 0 rfl rfl 25 (by decide) f3 (fun _ h9 => h9) rfl dX12_waits_47 ?_
            refine lv_bipush (v := (10)) hx hb dX12_waits_50 (by decide) ?_
            refine wc_iald (j := 10) hx hb hK hP 12 1 (f := ma M11 25) rfl rfl (by decide) (by decide) (by decide) dX12_waits_52 ?_
            refine lv_bipush (v := (6)) hx hb dX12_waits_53 (by decide) ?_
            refine lv_icmp_ne (tgt := 61) hx hb dX12_waits_55 (by decide) (fun c14 => ?_) (fun c14 => ?_)
            · have h := h.2 c14
              refine lv_aload_n hx hb dX12_waits_61 rfl (lv_at hl 0 rfl) ?_
              refine va_get (D := (dC, dI)) (ci := 12) (v := .ref (ad 25)) (C := RX12) (T := TX12) (N := 37) hx hb hts hin hown hK hP 0 rfl rfl 25 (by decide) f3 (fun _ h9 => h9) rfl dX12_waits_62 ?_
              refine lv_bipush (v := (32)) hx hb dX12_waits_65 (by decide) ?_
              refine lv_iconst (v := 2) hx hb dX12_waits_67 (by decide) ?_
              refine lv_aload_n hx hb dX12_waits_68 rfl (lv_at hl 0 rfl) ?_
              refine va_get (D := (dC, dI)) (ci := 12) (v := .ref (ad 25)) (C := RX12) (T := TX12) (N := 37) hx hb hts hin hown hK hP 0 rfl rfl 25 (by decide) f3 (fun _ h9 => h9) rfl dX12_waits_69 ?_
              refine lv_bipush (v := (10)) hx hb dX12_waits_72 (by decide) ?_
              refine wc_iald (j := 10) hx hb hK hP 12 1 (f := ma M11 25) rfl rfl (by decide) (by decide) (by decide) dX12_waits_74 ?_
              refine lv_imul hx hb dX12_waits_75 ?_
              refine lv_iadd hx hb dX12_waits_76 ?_
              refine lv_iload_n hx hb dX12_waits_77 rfl (lv_at hl 1 rfl) ?_
              refine va_iast hx hb hK hP hD hS 12 1 (f := ma M11 25) rfl rfl h.1 dX12_waits_78 (fun H locs hP hD hS => ?_)
              have h := h.2
              have hP := mP_a25 hP
              have hD := mD_a25 hD
              have h := h _ rfl
              generalize sa M11 25 (Int32.toNatClampNeg ((32 : Int32) + ((2 : Int32) * (ma M11 25 10)))) p1 = M15 at hP hD h
              refine lv_aload_n hx hb dX12_waits_79 rfl (lv_at hl 0 rfl) ?_
              refine va_get (D := (dC, dI)) (ci := 12) (v := .ref (ad 25)) (C := RX12) (T := TX12) (N := 37) hx hb hts hin hown hK hP 0 rfl rfl 25 (by decide) f3 (fun _ h9 => h9) rfl dX12_waits_80 ?_
              refine lv_bipush (v := (32)) hx hb dX12_waits_83 (by decide) ?_
              refine lv_iconst (v := 2) hx hb dX12_waits_85 (by decide) ?_
              refine lv_aload_n hx hb dX12_waits_86 rfl (lv_at hl 0 rfl) ?_
              refine va_get (D := (dC, dI)) (ci := 12) (v := .ref (ad 25)) (C := RX12) (T := TX12) (N := 37) hx hb hts hin hown hK hP 0 rfl rfl 25 (by decide) f3 (fun _ h9 => h9) rfl dX12_waits_87 ?_
              refine lv_bipush (v := (10)) hx hb dX12_waits_90 (by decide) ?_
              refine wc_iald (j := 10) hx hb hK hP 12 1 (f := ma M15 25) rfl rfl (by decide) (by decide) (by decide) dX12_waits_92 ?_
              refine lv_imul hx hb dX12_waits_93 ?_
              refine lv_iadd hx hb dX12_waits_94 ?_
              refine lv_iconst (v := 1) hx hb dX12_waits_95 (by decide) ?_
              refine lv_iadd hx hb dX12_waits_96 ?_
              refine lv_iload_n hx hb dX12_waits_97 rfl (lv_at hl 2 rfl) ?_
              refine va_iast hx hb hK hP hD hS 12 1 (f := ma M15 25) rfl rfl h.1 dX12_waits_98 (fun H locs hP hD hS => ?_)
              have h := h.2
              have hP := mP_a25 hP
              have hD := mD_a25 hD
              have h := h _ rfl
              generalize sa M15 25 (Int32.toNatClampNeg (((32 : Int32) + ((2 : Int32) * (ma M15 25 10))) + (1 : Int32))) p2 = M16 at hP hD h
              refine lv_aload_n hx hb dX12_waits_99 rfl (lv_at hl 0 rfl) ?_
              refine va_get (D := (dC, dI)) (ci := 12) (v := .ref (ad 25)) (C := RX12) (T := TX12) (N := 37) hx hb hts hin hown hK hP 0 rfl rfl 25 (by decide) f3 (fun _ h9 => h9) rfl dX12_waits_100 ?_
              refine lv_bipush (v := (10)) hx hb dX12_waits_103 (by decide) ?_
              refine lv_dup2_11 hx hb dX12_waits_105 rfl rfl ?_
              refine wc_iald (j := 10) hx hb hK hP 12 1 (f := ma M16 25) rfl rfl (by decide) (by decide) (by decide) dX12_waits_106 ?_
              refine lv_iconst (v := 1) hx hb dX12_waits_107 (by decide) ?_
              refine lv_iadd hx hb dX12_waits_108 ?_
              refine lv_topi (fun x17 ex17 => ?_)
              have h := h x17 ex17
              refine wc_iast (j := 10) hx hb hK hP hD hS 12 1 (f := ma M16 25) rfl rfl (by decide) (by decide) (by decide) dX12_waits_109 (fun H locs hP hD hS => ?_)
              have hP := mP_a25 hP
              have hD := mD_a25 hD
              have h := h _ rfl
              generalize sa M16 25 10 x17 = M18 at hP hD h
              refine lv_aload_n hx hb dX12_waits_110 rfl (lv_at hl 0 rfl) ?_
              refine va_get (D := (dC, dI)) (ci := 12) (v := .ref (ad 25)) (C := RX12) (T := TX12) (N := 37) hx hb hts hin hown hK hP 0 rfl rfl 25 (by decide) f3 (fun _ h9 => h9) rfl dX12_waits_111 ?_
              refine lv_bipush (v := (10)) hx hb dX12_waits_114 (by decide) ?_
              refine wc_iald (j := 10) hx hb hK hP 12 1 (f := ma M18 25) rfl rfl (by decide) (by decide) (by decide) dX12_waits_116 ?_
              exact W.iret (v := (ma M18 25 10)) hx hb hr (fun t ht hW => ⟨⟨_, M18, rfl, h, by rw [ht]; exact hP, va_K.moved hW.alike hK, hD⟩, hS.F ht⟩) hS.2.2 dX12_waits_117
            · have h := h.1 c14
              refine lv_bipush (v := (-2)) hx hb dX12_waits_58 (by decide) ?_
              exact W.iret (v := (-2 : Int32)) hx hb hr (fun t ht hW => ⟨⟨_, M11, rfl, h, by rw [ht]; exact hP, va_K.moved hW.alike hK, hD⟩, hS.F ht⟩) hS.2.2 dX12_waits_60
    · have h := h.1 c1
      refine lv_aload_n hx hb dX12_waits_5 rfl (lv_at hl 0 rfl) ?_
      refine va_get (D := (dC, dI)) (ci := 12) (v := .ref (ad 25)) (C := RX12) (T := TX12) (N := 37) hx hb hts hin hown hK hP 0 rfl rfl 25 (by decide) f3 (fun _ h9 => h9) rfl dX12_waits_6 ?_
      refine lv_bipush (v := (10)) hx hb dX12_waits_9 (by decide) ?_
      refine lv_iconst (v := 0) hx hb dX12_waits_11 (by decide) ?_
      refine wc_iast (j := 10) hx hb hK hP hD hS 12 1 (f := ma M 25) rfl rfl (by decide) (by decide) (by decide) dX12_waits_12 (fun H locs hP hD hS => ?_)
      have hP := mP_a25 hP
      have hD := mD_a25 hD
      have h := h _ rfl
      generalize sa M 25 10 (0 : Int32) = M19 at hP hD h
      refine lv_iconst (v := 0) hx hb dX12_waits_13 (by decide) ?_
      exact W.iret (v := (0 : Int32)) hx hb hr (fun t ht hW => ⟨⟨_, M19, rfl, h, by rw [ht]; exact hP, va_K.moved hW.alike hK, hD⟩, hS.F ht⟩) hS.2.2 dX12_waits_14
  have hl := lv_entry ([.ref h0, .int p1, .int p2]) (n := 3) (Nat.le_of_ble_eq_true rfl)
  rw [lg_entry_eq]
  generalize (lg_sl ([.ref h0, .int p1, .int p2]) ++ List.replicate (3 - (lg_sl ([.ref h0, .int p1, .int p2])).length) Slot.unset).toArray = ls at hl ⊢
  have hl : lv_has ls 3 [(0, .ref h0), (1, .int p1), (2, .int p2)] := hl
  exact bE M s.heap [] ls hP hD hS hl h
def wX12_isRow_10  (Q : Bool → gS → Prop) : Nat → Int32 → Int32 → Int32 → Int32 → gS → Prop
 | 0, _, _, _, _, _ => False
 | n + 1, y2, y3, y4, y5, M => ((y5 < 0 → ((y4 = (((1 : Int32) <<< (y2 &&& 31)) - (1 : Int32)) → (Q true M))
 ∧ (¬ y4 = (((1 : Int32) <<< (y2 &&& 31)) - (1 : Int32)) → (Q false M))))
 ∧ (¬ y5 < 0 → (¬ y2 = 0 ∧ (∀ x3 : Int32, x3 = (y3 - y3 / y2 * y2) → (vp_in y5 6 ∧ (∀ M4 : gS, M4 = sa M 31 (Int32.toNatClampNeg y5) x3 → (¬ y2 = 0 ∧ (∀ x5 : Int32, x5 = (y3 / y2) → (vp_in y5 6 ∧ (∀ x6 : Int32, x6 = (y4 ||| ((1 : Int32) <<< ((ma M4 31 (Int32.toNatClampNeg y5)) &&& 31))) → (∀ x7 : Int32, x7 = y5 + (-1 : Int32) → (wX12_isRow_10  Q n y2 x5 x6 x7 M4))))))))))))
def wX12_isRow (p1 : Int32) (p2 : Int32) (M : gS) (Q : Bool → gS → Prop) : Prop :=
 (∀ x1 : Int32, x1 = (p2 - (1 : Int32)) → (∃ k10 : Nat, wX12_isRow_10  Q k10 p2 p1 (0 : Int32) x1 M))
def rmX12_isRow : Room := { frames := 0, cells := 0, slots := 0, locals := 0 }
set_option maxHeartbeats 4000000 in
set_option maxRecDepth 100000 in
theorem kX12_isRow (l : Launch) (dC : Nat → ClassId) (dI : Nat → Nat → Nat) (cB cI cJ cZ : ClassId) (h0 : Nat) (ad : Nat → Nat) (sz : Nat) (p1 : Int32) (p2 : Int32) (M : gS) (Q : Bool → gS → Prop) (h : wX12_isRow p1 p2 M Q) : Met l yX12_isRow wsX12_isRow rmX12_isRow (va_Pc [.ref h0, .int p1, .int p2] (mI dC dI cB cI cJ cZ h0 ad M sz)) (va_Qi (fun (r : Int32) (u : gS) => ∃ b : Bool, r = bI b ∧ Q b u) (mB dC dI cB cI cJ cZ h0 ad (va_A (mW cB cI cJ cZ h0 ad M) sz)) (va_A (mW cB cI cJ cZ h0 ad M) sz)) 0 0 (va_A (mW cB cI cJ cZ h0 ad M) sz) := by
  refine Met.ofW (cc := cX12_isRow) (maxL := 6) (ret := (some .boolean)) (by decide) rfl ?_
  intro p e s m args below meth c s₁ B hml hv
  obtain ⟨rfl, hsz, hP, hK, hD0⟩ := hv
  have hx := B.exec
  have hb := B.bytes
  have hr := B.returns
  have hts := atoms_spec (ws := wsX12_isRow) B.pre
  have hown : s.vm.findClass RX12 = some m.cls := findClass_of_methodNamed B.named
  have hlocks := B.notSynchronized
  subst hsz
  have hD := hD0.self (sz := s.heap.size)
  generalize hAe : va_A (mW cB cI cJ cZ h0 ad M) s.heap.size = A at hD ⊢
  have hA : ∀ q : Nat, s.heap.size ≤ q → A q := fun q h => by rw [← hAe]; exact Or.inr h
  have hS : va_S A s.heap s.heap [] := va_S.rf
  have hin : ∀ w ∈ wsX120, w ∈ wsX12_isRow := fun w h => List.mem_cons_of_mem _ (List.mem_append_right _ h)
  have f1 := hts (.fieldLink RX12 60 "LastWordsModel" "place" "[I") (by decide +kernel)
  have b10 : ∀ (n : Nat) (y2 : Int32) (y3 : Int32) (y4 : Int32) (y5 : Int32) (M : gS) (H : Heap) (locs : List Loc) (ls : Array Slot), va_P (dC, dI) vwCl (mW cB cI cJ cZ h0 ad M) H → va_D A (mW cB cI cJ cZ h0 ad M) → va_S A s.heap H locs → lv_has ls 6 [(0, .ref h0), (2, .int y2), (3, .int y3), (4, .int y4), (5, .int y5)] → wX12_isRow_10  Q n y2 y3 y4 y5 M → W p l e (headSpec wsX12_isRow rmX12_isRow).room s m ([.ref h0, .int p1, .int p2] : List Value).toArray below meth c H locs 0 0 (MQ below (va_Qi (fun (r : Int32) (u : gS) => ∃ b : Bool, r = bI b ∧ Q b u) (mB dC dI cB cI cJ cZ h0 ad A) A) ([.ref h0, .int p1, .int p2] : List Value).toArray s 0 0 A) (F0 m 10 ls []) := by
    intro  n
    induction n with
    | zero => intro y2 y3 y4 y5 M H locs ls hP hD hS hl h; exact absurd h (by simp [wX12_isRow_10])
    | succ n hB100 =>
      intro y2 y3 y4 y5 M H locs ls hP hD hS hl h
      have hB10 := hB100
      rw [wX12_isRow_10] at h
      refine lv_iload hx hb dX12_isRow_10 (lv_at hl 4 rfl) ?_
      refine lv_if_lt (tgt := 49) hx hb dX12_isRow_12 (by decide) (fun c1 => ?_) (fun c1 => ?_)
      · have h := h.1 c1
        refine lv_iload hx hb dX12_isRow_49 (lv_at hl 3 rfl) ?_
        refine lv_iconst (v := 1) hx hb dX12_isRow_51 (by decide) ?_
        refine lv_iload_n hx hb dX12_isRow_52 rfl (lv_at hl 1 rfl) ?_
        refine lv_ishl hx hb dX12_isRow_53 ?_
        refine lv_iconst (v := 1) hx hb dX12_isRow_54 (by decide) ?_
        refine lv_isub hx hb dX12_isRow_55 ?_
        refine lv_icmp_ne (tgt := 63) hx hb dX12_isRow_56 (by decide) (fun c2 => ?_) (fun c2 => ?_)
        · have h := h.2 c2
          refine lv_iconst (v := 0) hx hb dX12_isRow_63 (by decide) ?_
          exact W.zret (v := (bI false)) hx hb hr (nar_bI false) (fun t ht hW => ⟨⟨_, M, rfl, ⟨false, rfl, h⟩, by rw [ht]; exact hP, va_K.moved hW.alike hK, hD⟩, hS.F ht⟩) hS.2.2 dX12_isRow_64
        · have h := h.1 c2
          refine lv_iconst (v := 1) hx hb dX12_isRow_59 (by decide) ?_
          refine lv_goto (tgt := 64) hx hb dX12_isRow_60 (by decide) ?_
          exact W.zret (v := (bI true)) hx hb hr (nar_bI true) (fun t ht hW => ⟨⟨_, M, rfl, ⟨true, rfl, h⟩, by rw [ht]; exact hP, va_K.moved hW.alike hK, hD⟩, hS.F ht⟩) hS.2.2 dX12_isRow_64
      · have h := h.2 c1
        refine lv_aload_n hx hb dX12_isRow_15 rfl (lv_at hl 0 rfl) ?_
        refine va_get (D := (dC, dI)) (ci := 12) (v := .ref (ad 31)) (C := RX12) (T := TX12) (N := 37) hx hb hts hin hown hK hP 0 rfl rfl 31 (by decide) f1 (fun _ h9 => h9) rfl dX12_isRow_16 ?_
        refine lv_iload hx hb dX12_isRow_19 (lv_at hl 4 rfl) ?_
        refine lv_iload_n hx hb dX12_isRow_21 rfl (lv_at hl 2 rfl) ?_
        refine lv_iload_n hx hb dX12_isRow_22 rfl (lv_at hl 1 rfl) ?_
        refine lv_irem hx hb dX12_isRow_23 h.1 ?_
        have h := h.2
        refine lv_topi (fun x3 ex3 => ?_)
        have h := h x3 ex3
        refine va_iast hx hb hK hP hD hS 17 1 (f := ma M 31) rfl rfl h.1 dX12_isRow_24 (fun H locs hP hD hS => ?_)
        have h := h.2
        have hP := mP_a31 hP
        have hD := mD_a31 hD
        have h := h _ rfl
        generalize sa M 31 (Int32.toNatClampNeg y5) x3 = M4 at hP hD h
        refine lv_iload_n hx hb dX12_isRow_25 rfl (lv_at hl 2 rfl) ?_
        refine lv_iload_n hx hb dX12_isRow_26 rfl (lv_at hl 1 rfl) ?_
        refine lv_idiv hx hb dX12_isRow_27 h.1 ?_
        have h := h.2
        refine lv_topi (fun x5 ex5 => ?_)
        have h := h x5 ex5
        refine lv_istore_n (lv' := [(3, .int x5), (0, .ref h0), (2, .int y2), (4, .int y4), (5, .int y5)]) hx hb dX12_isRow_28 rfl hl (by decide) rfl (fun ls hl => ?_)
        refine lv_iload hx hb dX12_isRow_29 (lv_at hl 3 rfl) ?_
        refine lv_iconst (v := 1) hx hb dX12_isRow_31 (by decide) ?_
        refine lv_aload_n hx hb dX12_isRow_32 rfl (lv_at hl 1 rfl) ?_
        refine va_get (D := (dC, dI)) (ci := 12) (v := .ref (ad 31)) (C := RX12) (T := TX12) (N := 37) hx hb hts hin hown hK hP 0 rfl rfl 31 (by decide) f1 (fun _ h9 => h9) rfl dX12_isRow_33 ?_
        refine lv_iload hx hb dX12_isRow_36 (lv_at hl 4 rfl) ?_
        refine va_iald hx hb hK hP 17 1 (f := ma M4 31) rfl rfl h.1 dX12_isRow_38 ?_
        have h := h.2
        refine lv_ishl hx hb dX12_isRow_39 ?_
        refine lv_ior hx hb dX12_isRow_40 ?_
        refine lv_topi (fun x6 ex6 => ?_)
        have h := h x6 ex6
        refine lv_istore (lv' := [(4, .int x6), (3, .int x5), (0, .ref h0), (2, .int y2), (5, .int y5)]) hx hb dX12_isRow_41 hl (by decide) rfl (fun ls hl => ?_)
        obtain ⟨x7, ex7⟩ : ∃ y : Int32, y = y5 + (-1 : Int32) := ⟨_, rfl⟩
        have h := h x7 ex7
        refine lv_iinc (v := x7) (lv' := [(5, .int x7), (4, .int x6), (3, .int x5), (0, .ref h0), (2, .int y2)]) hx hb dX12_isRow_43 hl (k := 4) rfl (by rw [ex7]; rfl) (by decide) rfl (fun ls hl => ?_)
        refine lv_goto (tgt := 10) hx hb dX12_isRow_46 (by decide) ?_
        exact hB10 y2 x5 x6 x7 M4 H locs ls hP hD hS (lv_sub hl [3, 4, 2, 1, 0] rfl) h
  have bE : ∀ (M : gS) (H : Heap) (locs : List Loc) (ls : Array Slot), va_P (dC, dI) vwCl (mW cB cI cJ cZ h0 ad M) H → va_D A (mW cB cI cJ cZ h0 ad M) → va_S A s.heap H locs → lv_has ls 6 [(0, .ref h0), (1, .int p1), (2, .int p2)] → wX12_isRow p1 p2 M Q → W p l e (headSpec wsX12_isRow rmX12_isRow).room s m ([.ref h0, .int p1, .int p2] : List Value).toArray below meth c H locs 0 0 (MQ below (va_Qi (fun (r : Int32) (u : gS) => ∃ b : Bool, r = bI b ∧ Q b u) (mB dC dI cB cI cJ cZ h0 ad A) A) ([.ref h0, .int p1, .int p2] : List Value).toArray s 0 0 A) (F0 m 0 ls []) := by
    intro M H locs ls hP hD hS hl h
    unfold wX12_isRow at h
    refine lv_iload_n hx hb dX12_isRow_0 rfl (lv_at hl 1 rfl) ?_
    refine lv_istore_n (lv' := [(3, .int p1), (0, .ref h0), (1, .int p1), (2, .int p2)]) hx hb dX12_isRow_1 rfl hl (by decide) rfl (fun ls hl => ?_)
    refine lv_iconst (v := 0) hx hb dX12_isRow_2 (by decide) ?_
    refine lv_istore (lv' := [(4, .int (0 : Int32)), (3, .int p1), (0, .ref h0), (1, .int p1), (2, .int p2)]) hx hb dX12_isRow_3 hl (by decide) rfl (fun ls hl => ?_)
    refine lv_iload_n hx hb dX12_isRow_5 rfl (lv_at hl 4 rfl) ?_
    refine lv_iconst (v := 1) hx hb dX12_isRow_6 (by decide) ?_
    refine lv_isub hx hb dX12_isRow_7 ?_
    refine lv_topi (fun x1 ex1 => ?_)
    have h := h x1 ex1
    refine lv_istore (lv' := [(5, .int x1), (4, .int (0 : Int32)), (3, .int p1), (0, .ref h0), (1, .int p1), (2, .int p2)]) hx hb dX12_isRow_8 hl (by decide) rfl (fun ls hl => ?_)
    obtain ⟨n9, h⟩ := h
    exact b10  n9 p2 p1 (0 : Int32) x1 M H locs ls hP hD hS (lv_sub hl [3, 5, 2, 1, 0] rfl) h
  have hl := lv_entry ([.ref h0, .int p1, .int p2]) (n := 6) (Nat.le_of_ble_eq_true rfl)
  rw [lg_entry_eq]
  generalize (lg_sl ([.ref h0, .int p1, .int p2]) ++ List.replicate (6 - (lg_sl ([.ref h0, .int p1, .int p2])).length) Slot.unset).toArray = ls at hl ⊢
  have hl : lv_has ls 6 [(0, .ref h0), (1, .int p1), (2, .int p2)] := hl
  exact bE M s.heap [] ls hP hD hS hl h
def wX12_order_186 (B49 : Int32 → Int32 → Int32 → Int32 → Int32 → gS → Prop) (Q : Int32 → gS → Prop) (y1 : Int32) (y2 : Int32) (y3 : Int32) (y4 : Int32) (y5 : Int32) (M : gS) : Prop :=
 (∀ x1 : Int32, x1 = y5 + (1 : Int32) → (B49 y1 y2 y3 y4 x1 M))
def wX12_order_160 (B49 : Int32 → Int32 → Int32 → Int32 → Int32 → gS → Prop) (Q : Int32 → gS → Prop) : Nat → Int32 → Int32 → Int32 → Int32 → Int32 → Int32 → gS → Prop
 | 0, _, _, _, _, _, _, _ => False
 | n + 1, y1, y2, y3, y4, y5, y8, M => ((y2 ≤ y8 → (wX12_order_186 B49 Q y1 y2 y3 y4 y5 M))
 ∧ (¬ y2 ≤ y8 → (vp_in y8 6 ∧ (∀ x2 : Int32, x2 = (ma M 31 (Int32.toNatClampNeg y8)) → (vp_in y8 6 ∧ (∀ M3 : gS, M3 = sa M 32 (Int32.toNatClampNeg y8) x2 → (∀ x4 : Int32, x4 = y8 + (1 : Int32) → (wX12_order_160 B49 Q n y1 y2 y3 y4 y5 x4 M3))))))))
def wX12_order_153 (B49 : Int32 → Int32 → Int32 → Int32 → Int32 → gS → Prop) (Q : Int32 → gS → Prop) (y1 : Int32) (y2 : Int32) (y3 : Int32) (y5 : Int32) (y7 : Int32) (M : gS) : Prop :=
 (∃ k160 : Nat, wX12_order_160 B49 Q k160 y1 y2 y3 y7 y5 (0 : Int32) M)
def wX12_order_77 (B49 : Int32 → Int32 → Int32 → Int32 → Int32 → gS → Prop) (Q : Int32 → gS → Prop) : Nat → Int32 → Int32 → Int32 → Int32 → Int32 → Int32 → Int32 → Int32 → gS → Prop
 | 0, _, _, _, _, _, _, _, _, _ => False
 | n + 1, y1, y2, y3, y4, y5, y6, y7, y8, M => ((y2 ≤ y8 → ((y4 < 0 → (wX12_order_153 B49 Q y1 y2 y3 y5 y7 M))
 ∧ (¬ y4 < 0 → ((y7 < y4 → (wX12_order_153 B49 Q y1 y2 y3 y5 y7 M))
 ∧ (¬ y7 < y4 → (wX12_order_186 B49 Q y1 y2 y3 y4 y5 M))))))
 ∧ (¬ y2 ≤ y8 → (vp_in y8 6 ∧ (vp_in ((32 : Int32) + ((2 : Int32) * (ma M 31 (Int32.toNatClampNeg y8)))) 44 ∧ (∀ x4 : Int32, x4 = (y6 + (ma M 25 (Int32.toNatClampNeg ((32 : Int32) + ((2 : Int32) * (ma M 31 (Int32.toNatClampNeg y8))))))) → (vp_in y8 6 ∧ (vp_in (((32 : Int32) + ((2 : Int32) * (ma M 31 (Int32.toNatClampNeg y8)))) + (1 : Int32)) 44 ∧ (∀ x5 : Int32, x5 = (y7 + (x4 * (ma M 25 (Int32.toNatClampNeg (((32 : Int32) + ((2 : Int32) * (ma M 31 (Int32.toNatClampNeg y8)))) + (1 : Int32)))))) → (∀ x6 : Int32, x6 = y8 + (1 : Int32) → (wX12_order_77 B49 Q n y1 y2 y3 y4 y5 x4 x5 x6 M))))))))))
def wX12_order_49  (Q : Int32 → gS → Prop) : Nat → Int32 → Int32 → Int32 → Int32 → Int32 → gS → Prop
 | 0, _, _, _, _, _, _ => False
 | n + 1, y1, y2, y3, y4, y5, M => ((y3 ≤ y5 → ((y1 = 0 → (Q y4 M))
 ∧ (¬ y1 = 0 → ((y2 < y1 → (Q (-2 : Int32) M))
 ∧ (¬ y2 < y1 → (vp_in (y1 - (1 : Int32)) 6 ∧ (Q (ma M 32 (Int32.toNatClampNeg (y1 - (1 : Int32)))) M)))))))
 ∧ (¬ y3 ≤ y5 → (wX12_isRow y5 y2 M (fun (b6 : Bool) (M5 : gS) => (((bI b6) = 0 → (wX12_order_186 (fun (y1 : Int32) (y2 : Int32) (y3 : Int32) (y4 : Int32) (y5 : Int32) (M : gS) => wX12_order_49  Q n y1 y2 y3 y4 y5 M) Q y1 y2 y3 y4 y5 M5))
 ∧ (¬ (bI b6) = 0 → (∃ k77 : Nat, wX12_order_77 (fun (y1 : Int32) (y2 : Int32) (y3 : Int32) (y4 : Int32) (y5 : Int32) (M : gS) => wX12_order_49  Q n y1 y2 y3 y4 y5 M) Q k77 y1 y2 y3 y4 y5 (0 : Int32) (0 : Int32) (0 : Int32) M5)))))))
def wX12_order_27  (Q : Int32 → gS → Prop) : Nat → Int32 → Int32 → Int32 → Int32 → gS → Prop
 | 0, _, _, _, _, _ => False
 | n + 1, y1, y2, y3, y4, M => ((y2 ≤ y4 → (∃ k49 : Nat, wX12_order_49  Q k49 y1 y2 y3 (-1 : Int32) (0 : Int32) M))
 ∧ (¬ y2 ≤ y4 → (∀ x2 : Int32, x2 = (y3 * y2) → (∀ x3 : Int32, x3 = y4 + (1 : Int32) → (wX12_order_27  Q n y1 y2 x2 x3 M)))))
def wX12_order (p1 : Int32) (M : gS) (Q : Int32 → gS → Prop) : Prop :=
 (wX12_in (Int32.toInt64 p1) (0 : Int64) (6 : Int64) M (fun (b3 : Bool) (M2 : gS) => (((bI b3) = 0 → (Q (-1 : Int32) M2))
 ∧ (¬ (bI b3) = 0 → (∀ x5 : Int32, x5 = (ma M2 25 10) → (∃ k27 : Nat, wX12_order_27  Q k27 p1 x5 (1 : Int32) (0 : Int32) M2))))))
def rmX12_order : Room := { frames := 1, cells := 0, slots := 0, locals := 25 }
set_option maxHeartbeats 4000000 in
set_option maxRecDepth 100000 in
theorem kX12_order (l : Launch) (dC : Nat → ClassId) (dI : Nat → Nat → Nat) (cB cI cJ cZ : ClassId) (h0 : Nat) (ad : Nat → Nat) (sz : Nat) (p1 : Int32) (M : gS) (Q : Int32 → gS → Prop) (h : wX12_order p1 M Q) : Met l yX12_order wsX12_order rmX12_order (va_Pc [.ref h0, .int p1] (mI dC dI cB cI cJ cZ h0 ad M sz)) (va_Qi (fun (r : Int32) (u : gS) => Q r u) (mB dC dI cB cI cJ cZ h0 ad (va_A (mW cB cI cJ cZ h0 ad M) sz)) (va_A (mW cB cI cJ cZ h0 ad M) sz)) 0 0 (va_A (mW cB cI cJ cZ h0 ad M) sz) := by
  refine Met.ofW (cc := cX12_order) (maxL := 9) (ret := (some .int)) (by decide) rfl ?_
  intro p e s m args below meth c s₁ B hml hv
  obtain ⟨rfl, hsz, hP, hK, hD0⟩ := hv
  have hx := B.exec
  have hb := B.bytes
  have hr := B.returns
  have hts := atoms_spec (ws := wsX12_order) B.pre
  have hown : s.vm.findClass RX12 = some m.cls := findClass_of_methodNamed B.named
  have hlocks := B.notSynchronized
  subst hsz
  have hD := hD0.self (sz := s.heap.size)
  generalize hAe : va_A (mW cB cI cJ cZ h0 ad M) s.heap.size = A at hD ⊢
  have hA : ∀ q : Nat, s.heap.size ≤ q → A q := fun q h => by rw [← hAe]; exact Or.inr h
  have hS : va_S A s.heap s.heap [] := va_S.rf
  have hin : ∀ w ∈ wsX120, w ∈ wsX12_order := fun w h => List.mem_cons_of_mem _ (List.mem_append_right _ h)
  have f1 := hts (.fieldLink RX12 63 "LastWordsModel" "bestRow" "[I") (by decide +kernel)
  have f2 := hts (.fieldLink RX12 60 "LastWordsModel" "place" "[I") (by decide +kernel)
  have f3 := hts (.fieldLink RX12 45 "LastWordsModel" "said" "[I") (by decide +kernel)
  have f4 := hts (.constantLong RX12 404 (6)) (by decide +kernel)
  have b186 : ∀ (B49 : Int32 → Int32 → Int32 → Int32 → Int32 → gS → Prop) (hB49 : ∀ (y1 : Int32) (y2 : Int32) (y3 : Int32) (y4 : Int32) (y5 : Int32) (M : gS) (H : Heap) (locs : List Loc) (ls : Array Slot), va_P (dC, dI) vwCl (mW cB cI cJ cZ h0 ad M) H → va_D A (mW cB cI cJ cZ h0 ad M) → va_S A s.heap H locs → lv_has ls 9 [(0, .ref h0), (1, .int y1), (2, .int y2), (3, .int y3), (4, .int y4), (5, .int y5)] → B49 y1 y2 y3 y4 y5 M → W p l e (headSpec wsX12_order rmX12_order).room s m ([.ref h0, .int p1] : List Value).toArray below meth c H locs 0 0 (MQ below (va_Qi (fun (r : Int32) (u : gS) => Q r u) (mB dC dI cB cI cJ cZ h0 ad A) A) ([.ref h0, .int p1] : List Value).toArray s 0 0 A) (F0 m 49 ls [])) (y1 : Int32) (y2 : Int32) (y3 : Int32) (y4 : Int32) (y5 : Int32) (M : gS) (H : Heap) (locs : List Loc) (ls : Array Slot), va_P (dC, dI) vwCl (mW cB cI cJ cZ h0 ad M) H → va_D A (mW cB cI cJ cZ h0 ad M) → va_S A s.heap H locs → lv_has ls 9 [(0, .ref h0), (1, .int y1), (2, .int y2), (3, .int y3), (4, .int y4), (5, .int y5)] → wX12_order_186 B49 Q y1 y2 y3 y4 y5 M → W p l e (headSpec wsX12_order rmX12_order).room s m ([.ref h0, .int p1] : List Value).toArray below meth c H locs 0 0 (MQ below (va_Qi (fun (r : Int32) (u : gS) => Q r u) (mB dC dI cB cI cJ cZ h0 ad A) A) ([.ref h0, .int p1] : List Value).toArray s 0 0 A) (F0 m 186 ls []) := by
    intro B49 hB49 y1 y2 y3 y4 y5 M H locs ls hP hD hS hl h
    unfold wX12_order_186 at h
    obtain ⟨x1, ex1⟩ : ∃ y : Int32, y = y5 + (1 : Int32) := ⟨_, rfl⟩
    have h := h x1 ex1
    refine lv_iinc (v := x1) (lv' := [(5, .int x1), (0, .ref h0), (1, .int y1), (2, .int y2), (3, .int y3), (4, .int y4)]) hx hb dX12_order_186 hl (k := 5) rfl (by rw [ex1]; rfl) (by decide) rfl (fun ls hl => ?_)
    refine lv_goto (tgt := 49) hx hb dX12_order_189 (by decide) ?_
    exact hB49 y1 y2 y3 y4 x1 M H locs ls hP hD hS (lv_sub hl [1, 2, 3, 4, 5, 0] rfl) h
  have b160 : ∀ (B49 : Int32 → Int32 → Int32 → Int32 → Int32 → gS → Prop) (hB49 : ∀ (y1 : Int32) (y2 : Int32) (y3 : Int32) (y4 : Int32) (y5 : Int32) (M : gS) (H : Heap) (locs : List Loc) (ls : Array Slot), va_P (dC, dI) vwCl (mW cB cI cJ cZ h0 ad M) H → va_D A (mW cB cI cJ cZ h0 ad M) → va_S A s.heap H locs → lv_has ls 9 [(0, .ref h0), (1, .int y1), (2, .int y2), (3, .int y3), (4, .int y4), (5, .int y5)] → B49 y1 y2 y3 y4 y5 M → W p l e (headSpec wsX12_order rmX12_order).room s m ([.ref h0, .int p1] : List Value).toArray below meth c H locs 0 0 (MQ below (va_Qi (fun (r : Int32) (u : gS) => Q r u) (mB dC dI cB cI cJ cZ h0 ad A) A) ([.ref h0, .int p1] : List Value).toArray s 0 0 A) (F0 m 49 ls [])) (n : Nat) (y1 : Int32) (y2 : Int32) (y3 : Int32) (y4 : Int32) (y5 : Int32) (y8 : Int32) (M : gS) (H : Heap) (locs : List Loc) (ls : Array Slot), va_P (dC, dI) vwCl (mW cB cI cJ cZ h0 ad M) H → va_D A (mW cB cI cJ cZ h0 ad M) → va_S A s.heap H locs → lv_has ls 9 [(0, .ref h0), (1, .int y1), (2, .int y2), (3, .int y3), (4, .int y4), (5, .int y5), (8, .int y8)] → wX12_order_160 B49 Q n y1 y2 y3 y4 y5 y8 M → W p l e (headSpec wsX12_order rmX12_order).room s m ([.ref h0, .int p1] : List Value).toArray below meth c H locs 0 0 (MQ below (va_Qi (fun (r : Int32) (u : gS) => Q r u) (mB dC dI cB cI cJ cZ h0 ad A) A) ([.ref h0, .int p1] : List Value).toArray s 0 0 A) (F0 m 160 ls []) := by
    intro B49 hB49 n
    induction n with
    | zero => intro y1 y2 y3 y4 y5 y8 M H locs ls hP hD hS hl h; exact absurd h (by simp [wX12_order_160])
    | succ n hB1600 =>
      intro y1 y2 y3 y4 y5 y8 M H locs ls hP hD hS hl h
      have hB160 := hB1600
      rw [wX12_order_160] at h
      refine lv_iload hx hb dX12_order_160 (lv_at hl 6 rfl) ?_
      refine lv_iload_n hx hb dX12_order_162 rfl (lv_at hl 2 rfl) ?_
      refine lv_icmp_ge (tgt := 186) hx hb dX12_order_163 (by decide) (fun c1 => ?_) (fun c1 => ?_)
      · have h := h.1 c1
        exact b186 _ hB49 y1 y2 y3 y4 y5 M H locs ls hP hD hS (lv_sub hl [0, 1, 2, 3, 4, 5] rfl) h
      · have h := h.2 c1
        refine lv_aload_n hx hb dX12_order_166 rfl (lv_at hl 0 rfl) ?_
        refine va_get (D := (dC, dI)) (ci := 12) (v := .ref (ad 32)) (C := RX12) (T := TX12) (N := 37) hx hb hts hin hown hK hP 0 rfl rfl 32 (by decide) f1 (fun _ h9 => h9) rfl dX12_order_167 ?_
        refine lv_iload hx hb dX12_order_170 (lv_at hl 6 rfl) ?_
        refine lv_aload_n hx hb dX12_order_172 rfl (lv_at hl 0 rfl) ?_
        refine va_get (D := (dC, dI)) (ci := 12) (v := .ref (ad 31)) (C := RX12) (T := TX12) (N := 37) hx hb hts hin hown hK hP 0 rfl rfl 31 (by decide) f2 (fun _ h9 => h9) rfl dX12_order_173 ?_
        refine lv_iload hx hb dX12_order_176 (lv_at hl 6 rfl) ?_
        refine va_iald hx hb hK hP 17 1 (f := ma M 31) rfl rfl h.1 dX12_order_178 ?_
        have h := h.2
        refine lv_topi (fun x2 ex2 => ?_)
        have h := h x2 ex2
        refine va_iast hx hb hK hP hD hS 18 1 (f := ma M 32) rfl rfl h.1 dX12_order_179 (fun H locs hP hD hS => ?_)
        have h := h.2
        have hP := mP_a32 hP
        have hD := mD_a32 hD
        have h := h _ rfl
        generalize sa M 32 (Int32.toNatClampNeg y8) x2 = M3 at hP hD h
        obtain ⟨x4, ex4⟩ : ∃ y : Int32, y = y8 + (1 : Int32) := ⟨_, rfl⟩
        have h := h x4 ex4
        refine lv_iinc (v := x4) (lv' := [(8, .int x4), (0, .ref h0), (1, .int y1), (2, .int y2), (3, .int y3), (4, .int y4), (5, .int y5)]) hx hb dX12_order_180 hl (k := 6) rfl (by rw [ex4]; rfl) (by decide) rfl (fun ls hl => ?_)
        refine lv_goto (tgt := 160) hx hb dX12_order_183 (by decide) ?_
        exact hB160 y1 y2 y3 y4 y5 x4 M3 H locs ls hP hD hS (lv_sub hl [1, 2, 3, 4, 5, 6, 0] rfl) h
  have b153 : ∀ (B49 : Int32 → Int32 → Int32 → Int32 → Int32 → gS → Prop) (hB49 : ∀ (y1 : Int32) (y2 : Int32) (y3 : Int32) (y4 : Int32) (y5 : Int32) (M : gS) (H : Heap) (locs : List Loc) (ls : Array Slot), va_P (dC, dI) vwCl (mW cB cI cJ cZ h0 ad M) H → va_D A (mW cB cI cJ cZ h0 ad M) → va_S A s.heap H locs → lv_has ls 9 [(0, .ref h0), (1, .int y1), (2, .int y2), (3, .int y3), (4, .int y4), (5, .int y5)] → B49 y1 y2 y3 y4 y5 M → W p l e (headSpec wsX12_order rmX12_order).room s m ([.ref h0, .int p1] : List Value).toArray below meth c H locs 0 0 (MQ below (va_Qi (fun (r : Int32) (u : gS) => Q r u) (mB dC dI cB cI cJ cZ h0 ad A) A) ([.ref h0, .int p1] : List Value).toArray s 0 0 A) (F0 m 49 ls [])) (y1 : Int32) (y2 : Int32) (y3 : Int32) (y5 : Int32) (y7 : Int32) (M : gS) (H : Heap) (locs : List Loc) (ls : Array Slot), va_P (dC, dI) vwCl (mW cB cI cJ cZ h0 ad M) H → va_D A (mW cB cI cJ cZ h0 ad M) → va_S A s.heap H locs → lv_has ls 9 [(0, .ref h0), (1, .int y1), (2, .int y2), (3, .int y3), (5, .int y5), (7, .int y7)] → wX12_order_153 B49 Q y1 y2 y3 y5 y7 M → W p l e (headSpec wsX12_order rmX12_order).room s m ([.ref h0, .int p1] : List Value).toArray below meth c H locs 0 0 (MQ below (va_Qi (fun (r : Int32) (u : gS) => Q r u) (mB dC dI cB cI cJ cZ h0 ad A) A) ([.ref h0, .int p1] : List Value).toArray s 0 0 A) (F0 m 153 ls []) := by
    intro B49 hB49 y1 y2 y3 y5 y7 M H locs ls hP hD hS hl h
    unfold wX12_order_153 at h
    refine lv_iload hx hb dX12_order_153 (lv_at hl 5 rfl) ?_
    refine lv_istore (lv' := [(4, .int y7), (0, .ref h0), (1, .int y1), (2, .int y2), (3, .int y3), (5, .int y5), (7, .int y7)]) hx hb dX12_order_155 hl (by decide) rfl (fun ls hl => ?_)
    refine lv_iconst (v := 0) hx hb dX12_order_157 (by decide) ?_
    refine lv_istore (lv' := [(8, .int (0 : Int32)), (4, .int y7), (0, .ref h0), (1, .int y1), (2, .int y2), (3, .int y3), (5, .int y5), (7, .int y7)]) hx hb dX12_order_158 hl (by decide) rfl (fun ls hl => ?_)
    obtain ⟨n9, h⟩ := h
    exact b160 _ hB49 n9 y1 y2 y3 y7 y5 (0 : Int32) M H locs ls hP hD hS (lv_sub hl [2, 3, 4, 5, 1, 6, 0] rfl) h
  have b77 : ∀ (B49 : Int32 → Int32 → Int32 → Int32 → Int32 → gS → Prop) (hB49 : ∀ (y1 : Int32) (y2 : Int32) (y3 : Int32) (y4 : Int32) (y5 : Int32) (M : gS) (H : Heap) (locs : List Loc) (ls : Array Slot), va_P (dC, dI) vwCl (mW cB cI cJ cZ h0 ad M) H → va_D A (mW cB cI cJ cZ h0 ad M) → va_S A s.heap H locs → lv_has ls 9 [(0, .ref h0), (1, .int y1), (2, .int y2), (3, .int y3), (4, .int y4), (5, .int y5)] → B49 y1 y2 y3 y4 y5 M → W p l e (headSpec wsX12_order rmX12_order).room s m ([.ref h0, .int p1] : List Value).toArray below meth c H locs 0 0 (MQ below (va_Qi (fun (r : Int32) (u : gS) => Q r u) (mB dC dI cB cI cJ cZ h0 ad A) A) ([.ref h0, .int p1] : List Value).toArray s 0 0 A) (F0 m 49 ls [])) (n : Nat) (y1 : Int32) (y2 : Int32) (y3 : Int32) (y4 : Int32) (y5 : Int32) (y6 : Int32) (y7 : Int32) (y8 : Int32) (M : gS) (H : Heap) (locs : List Loc) (ls : Array Slot), va_P (dC, dI) vwCl (mW cB cI cJ cZ h0 ad M) H → va_D A (mW cB cI cJ cZ h0 ad M) → va_S A s.heap H locs → lv_has ls 9 [(0, .ref h0), (1, .int y1), (2, .int y2), (3, .int y3), (4, .int y4), (5, .int y5), (6, .int y6), (7, .int y7), (8, .int y8)] → wX12_order_77 B49 Q n y1 y2 y3 y4 y5 y6 y7 y8 M → W p l e (headSpec wsX12_order rmX12_order).room s m ([.ref h0, .int p1] : List Value).toArray below meth c H locs 0 0 (MQ below (va_Qi (fun (r : Int32) (u : gS) => Q r u) (mB dC dI cB cI cJ cZ h0 ad A) A) ([.ref h0, .int p1] : List Value).toArray s 0 0 A) (F0 m 77 ls []) := by
    intro B49 hB49 n
    induction n with
    | zero => intro y1 y2 y3 y4 y5 y6 y7 y8 M H locs ls hP hD hS hl h; exact absurd h (by simp [wX12_order_77])
    | succ n hB770 =>
      intro y1 y2 y3 y4 y5 y6 y7 y8 M H locs ls hP hD hS hl h
      have hB77 := hB770
      rw [wX12_order_77] at h
      refine lv_iload hx hb dX12_order_77 (lv_at hl 8 rfl) ?_
      refine lv_iload_n hx hb dX12_order_79 rfl (lv_at hl 2 rfl) ?_
      refine lv_icmp_ge (tgt := 138) hx hb dX12_order_80 (by decide) (fun c1 => ?_) (fun c1 => ?_)
      · have h := h.1 c1
        refine lv_iload hx hb dX12_order_138 (lv_at hl 4 rfl) ?_
        refine lv_if_lt (tgt := 153) hx hb dX12_order_140 (by decide) (fun c2 => ?_) (fun c2 => ?_)
        · have h := h.1 c2
          exact b153 _ hB49 y1 y2 y3 y5 y7 M H locs ls hP hD hS (lv_sub hl [0, 1, 2, 3, 5, 7] rfl) h
        · have h := h.2 c2
          refine lv_iload hx hb dX12_order_143 (lv_at hl 7 rfl) ?_
          refine lv_iload hx hb dX12_order_145 (lv_at hl 4 rfl) ?_
          refine lv_icmp_lt (tgt := 153) hx hb dX12_order_147 (by decide) (fun c3 => ?_) (fun c3 => ?_)
          · have h := h.1 c3
            exact b153 _ hB49 y1 y2 y3 y5 y7 M H locs ls hP hD hS (lv_sub hl [0, 1, 2, 3, 5, 7] rfl) h
          · have h := h.2 c3
            refine lv_goto (tgt := 186) hx hb dX12_order_150 (by decide) ?_
            exact b186 _ hB49 y1 y2 y3 y4 y5 M H locs ls hP hD hS (lv_sub hl [0, 1, 2, 3, 4, 5] rfl) h
      · have h := h.2 c1
        refine lv_iload hx hb dX12_order_83 (lv_at hl 6 rfl) ?_
        refine lv_aload_n hx hb dX12_order_85 rfl (lv_at hl 0 rfl) ?_
        refine va_get (D := (dC, dI)) (ci := 12) (v := .ref (ad 25)) (C := RX12) (T := TX12) (N := 37) hx hb hts hin hown hK hP 0 rfl rfl 25 (by decide) f3 (fun _ h9 => h9) rfl dX12_order_86 ?_
        refine lv_bipush (v := (32)) hx hb dX12_order_89 (by decide) ?_
        refine lv_iconst (v := 2) hx hb dX12_order_91 (by decide) ?_
        refine lv_aload_n hx hb dX12_order_92 rfl (lv_at hl 0 rfl) ?_
        refine va_get (D := (dC, dI)) (ci := 12) (v := .ref (ad 31)) (C := RX12) (T := TX12) (N := 37) hx hb hts hin hown hK hP 0 rfl rfl 31 (by decide) f2 (fun _ h9 => h9) rfl dX12_order_93 ?_
        refine lv_iload hx hb dX12_order_96 (lv_at hl 8 rfl) ?_
        refine va_iald hx hb hK hP 17 1 (f := ma M 31) rfl rfl h.1 dX12_order_98 ?_
        have h := h.2
        refine lv_imul hx hb dX12_order_99 ?_
        refine lv_iadd hx hb dX12_order_100 ?_
        refine va_iald hx hb hK hP 12 1 (f := ma M 25) rfl rfl h.1 dX12_order_101 ?_
        have h := h.2
        refine lv_iadd hx hb dX12_order_102 ?_
        refine lv_topi (fun x4 ex4 => ?_)
        have h := h x4 ex4
        refine lv_istore (lv' := [(6, .int x4), (0, .ref h0), (1, .int y1), (2, .int y2), (3, .int y3), (4, .int y4), (5, .int y5), (7, .int y7), (8, .int y8)]) hx hb dX12_order_103 hl (by decide) rfl (fun ls hl => ?_)
        refine lv_iload hx hb dX12_order_105 (lv_at hl 7 rfl) ?_
        refine lv_iload hx hb dX12_order_107 (lv_at hl 0 rfl) ?_
        refine lv_aload_n hx hb dX12_order_109 rfl (lv_at hl 1 rfl) ?_
        refine va_get (D := (dC, dI)) (ci := 12) (v := .ref (ad 25)) (C := RX12) (T := TX12) (N := 37) hx hb hts hin hown hK hP 0 rfl rfl 25 (by decide) f3 (fun _ h9 => h9) rfl dX12_order_110 ?_
        refine lv_bipush (v := (32)) hx hb dX12_order_113 (by decide) ?_
        refine lv_iconst (v := 2) hx hb dX12_order_115 (by decide) ?_
        refine lv_aload_n hx hb dX12_order_116 rfl (lv_at hl 1 rfl) ?_
        refine va_get (D := (dC, dI)) (ci := 12) (v := .ref (ad 31)) (C := RX12) (T := TX12) (N := 37) hx hb hts hin hown hK hP 0 rfl rfl 31 (by decide) f2 (fun _ h9 => h9) rfl dX12_order_117 ?_
        refine lv_iload hx hb dX12_order_120 (lv_at hl 8 rfl) ?_
        refine va_iald hx hb hK hP 17 1 (f := ma M 31) rfl rfl h.1 dX12_order_122 ?_
        have h := h.2
        refine lv_imul hx hb dX12_order_123 ?_
        refine lv_iadd hx hb dX12_order_124 ?_
        refine lv_iconst (v := 1) hx hb dX12_order_125 (by decide) ?_
        refine lv_iadd hx hb dX12_order_126 ?_
        refine va_iald hx hb hK hP 12 1 (f := ma M 25) rfl rfl h.1 dX12_order_127 ?_
        have h := h.2
        refine lv_imul hx hb dX12_order_128 ?_
        refine lv_iadd hx hb dX12_order_129 ?_
        refine lv_topi (fun x5 ex5 => ?_)
        have h := h x5 ex5
        refine lv_istore (lv' := [(7, .int x5), (6, .int x4), (0, .ref h0), (1, .int y1), (2, .int y2), (3, .int y3), (4, .int y4), (5, .int y5), (8, .int y8)]) hx hb dX12_order_130 hl (by decide) rfl (fun ls hl => ?_)
        obtain ⟨x6, ex6⟩ : ∃ y : Int32, y = y8 + (1 : Int32) := ⟨_, rfl⟩
        have h := h x6 ex6
        refine lv_iinc (v := x6) (lv' := [(8, .int x6), (7, .int x5), (6, .int x4), (0, .ref h0), (1, .int y1), (2, .int y2), (3, .int y3), (4, .int y4), (5, .int y5)]) hx hb dX12_order_132 hl (k := 8) rfl (by rw [ex6]; rfl) (by decide) rfl (fun ls hl => ?_)
        refine lv_goto (tgt := 77) hx hb dX12_order_135 (by decide) ?_
        exact hB77 y1 y2 y3 y4 y5 x4 x5 x6 M H locs ls hP hD hS (lv_sub hl [3, 4, 5, 6, 7, 8, 2, 1, 0] rfl) h
  have b49 : ∀ (n : Nat) (y1 : Int32) (y2 : Int32) (y3 : Int32) (y4 : Int32) (y5 : Int32) (M : gS) (H : Heap) (locs : List Loc) (ls : Array Slot), va_P (dC, dI) vwCl (mW cB cI cJ cZ h0 ad M) H → va_D A (mW cB cI cJ cZ h0 ad M) → va_S A s.heap H locs → lv_has ls 9 [(0, .ref h0), (1, .int y1), (2, .int y2), (3, .int y3), (4, .int y4), (5, .int y5)] → wX12_order_49  Q n y1 y2 y3 y4 y5 M → W p l e (headSpec wsX12_order rmX12_order).room s m ([.ref h0, .int p1] : List Value).toArray below meth c H locs 0 0 (MQ below (va_Qi (fun (r : Int32) (u : gS) => Q r u) (mB dC dI cB cI cJ cZ h0 ad A) A) ([.ref h0, .int p1] : List Value).toArray s 0 0 A) (F0 m 49 ls []) := by
    intro  n
    induction n with
    | zero => intro y1 y2 y3 y4 y5 M H locs ls hP hD hS hl h; exact absurd h (by simp [wX12_order_49])
    | succ n hB490 =>
      intro y1 y2 y3 y4 y5 M H locs ls hP hD hS hl h
      have hB49 := hB490
      rw [wX12_order_49] at h
      refine lv_iload hx hb dX12_order_49 (lv_at hl 5 rfl) ?_
      refine lv_iload_n hx hb dX12_order_51 rfl (lv_at hl 3 rfl) ?_
      refine lv_icmp_ge (tgt := 192) hx hb dX12_order_52 (by decide) (fun c1 => ?_) (fun c1 => ?_)
      · have h := h.1 c1
        refine lv_iload_n hx hb dX12_order_192 rfl (lv_at hl 1 rfl) ?_
        refine lv_if_ne (tgt := 201) hx hb dX12_order_193 (by decide) (fun c2 => ?_) (fun c2 => ?_)
        · have h := h.2 c2
          refine lv_iload_n hx hb dX12_order_201 rfl (lv_at hl 1 rfl) ?_
          refine lv_iload_n hx hb dX12_order_202 rfl (lv_at hl 2 rfl) ?_
          refine lv_icmp_gt (tgt := 217) hx hb dX12_order_203 (by decide) (fun c3 => ?_) (fun c3 => ?_)
          · have h := h.1 c3
            refine lv_bipush (v := (-2)) hx hb dX12_order_217 (by decide) ?_
            exact W.iret (v := (-2 : Int32)) hx hb hr (fun t ht hW => ⟨⟨_, M, rfl, h, by rw [ht]; exact hP, va_K.moved hW.alike hK, hD⟩, hS.F ht⟩) hS.2.2 dX12_order_219
          · have h := h.2 c3
            refine lv_aload_n hx hb dX12_order_206 rfl (lv_at hl 0 rfl) ?_
            refine va_get (D := (dC, dI)) (ci := 12) (v := .ref (ad 32)) (C := RX12) (T := TX12) (N := 37) hx hb hts hin hown hK hP 0 rfl rfl 32 (by decide) f1 (fun _ h9 => h9) rfl dX12_order_207 ?_
            refine lv_iload_n hx hb dX12_order_210 rfl (lv_at hl 1 rfl) ?_
            refine lv_iconst (v := 1) hx hb dX12_order_211 (by decide) ?_
            refine lv_isub hx hb dX12_order_212 ?_
            refine va_iald hx hb hK hP 18 1 (f := ma M 32) rfl rfl h.1 dX12_order_213 ?_
            have h := h.2
            refine lv_goto (tgt := 219) hx hb dX12_order_214 (by decide) ?_
            exact W.iret (v := (ma M 32 (Int32.toNatClampNeg (y1 - (1 : Int32))))) hx hb hr (fun t ht hW => ⟨⟨_, M, rfl, h, by rw [ht]; exact hP, va_K.moved hW.alike hK, hD⟩, hS.F ht⟩) hS.2.2 dX12_order_219
        · have h := h.1 c2
          refine lv_iload hx hb dX12_order_196 (lv_at hl 4 rfl) ?_
          refine lv_goto (tgt := 219) hx hb dX12_order_198 (by decide) ?_
          exact W.iret (v := y4) hx hb hr (fun t ht hW => ⟨⟨_, M, rfl, h, by rw [ht]; exact hP, va_K.moved hW.alike hK, hD⟩, hS.F ht⟩) hS.2.2 dX12_order_219
      · have h := h.2 c1
        refine lv_aload_n hx hb dX12_order_55 rfl (lv_at hl 0 rfl) ?_
        refine lv_iload hx hb dX12_order_56 (lv_at hl 5 rfl) ?_
        refine lv_iload_n hx hb dX12_order_58 rfl (lv_at hl 2 rfl) ?_
        have hFc := gs_free hD hS hA
        refine va_calli (va_runV (As := [.int y5, .int y2]) (rest := []) ⟨hx, hb, hml, hown, hts⟩ (kX12_isRow l dC dI cB cI cJ cZ h0 ad H.size y5 y2 M _ h) (cwV 2 hts gX12_order_X12_isRow rfl rfl rfl (by decide +kernel) ⟨Nat.le_of_ble_eq_true rfl, Nat.le_of_ble_eq_true rfl⟩) (mpV hK hP hD) rfl rfl hl.1 rfl (lv_room (Nat.le_of_ble_eq_true rfl)) dX12_order_59 ⟨Nat.le_of_ble_eq_true rfl, Nat.le_of_ble_eq_true rfl⟩) hS (fun q _ z => hFc q z) hFc (fun r4 M5 t H1 locs ht hvm hw hB hz1 hk1 hS => ?_)
        obtain ⟨hP, hD⟩ := gs_back ht hFc hB
        generalize H1 = H at hP hS ⊢
        obtain ⟨b6, rfl, h⟩ := hw
        try dsimp only at h
        refine lv_if_ne (tgt := 68) hx hb dX12_order_62 (by decide) (fun c7 => ?_) (fun c7 => ?_)
        · have h := h.2 c7
          refine lv_iconst (v := 0) hx hb dX12_order_68 (by decide) ?_
          refine lv_istore (lv' := [(6, .int (0 : Int32)), (0, .ref h0), (1, .int y1), (2, .int y2), (3, .int y3), (4, .int y4), (5, .int y5)]) hx hb dX12_order_69 hl (by decide) rfl (fun ls hl => ?_)
          refine lv_iconst (v := 0) hx hb dX12_order_71 (by decide) ?_
          refine lv_istore (lv' := [(7, .int (0 : Int32)), (6, .int (0 : Int32)), (0, .ref h0), (1, .int y1), (2, .int y2), (3, .int y3), (4, .int y4), (5, .int y5)]) hx hb dX12_order_72 hl (by decide) rfl (fun ls hl => ?_)
          refine lv_iconst (v := 0) hx hb dX12_order_74 (by decide) ?_
          refine lv_istore (lv' := [(8, .int (0 : Int32)), (7, .int (0 : Int32)), (6, .int (0 : Int32)), (0, .ref h0), (1, .int y1), (2, .int y2), (3, .int y3), (4, .int y4), (5, .int y5)]) hx hb dX12_order_75 hl (by decide) rfl (fun ls hl => ?_)
          obtain ⟨n9, h⟩ := h
          exact b77 _ hB49 n9 y1 y2 y3 y4 y5 (0 : Int32) (0 : Int32) (0 : Int32) M5 H locs ls hP hD hS (lv_sub hl [3, 4, 5, 6, 7, 8, 2, 1, 0] rfl) h
        · have h := h.1 c7
          refine lv_goto (tgt := 186) hx hb dX12_order_65 (by decide) ?_
          exact b186 _ hB49 y1 y2 y3 y4 y5 M5 H locs ls hP hD hS (lv_sub hl [0, 1, 2, 3, 4, 5] rfl) h
  have b27 : ∀ (n : Nat) (y1 : Int32) (y2 : Int32) (y3 : Int32) (y4 : Int32) (M : gS) (H : Heap) (locs : List Loc) (ls : Array Slot), va_P (dC, dI) vwCl (mW cB cI cJ cZ h0 ad M) H → va_D A (mW cB cI cJ cZ h0 ad M) → va_S A s.heap H locs → lv_has ls 9 [(0, .ref h0), (1, .int y1), (2, .int y2), (3, .int y3), (4, .int y4)] → wX12_order_27  Q n y1 y2 y3 y4 M → W p l e (headSpec wsX12_order rmX12_order).room s m ([.ref h0, .int p1] : List Value).toArray below meth c H locs 0 0 (MQ below (va_Qi (fun (r : Int32) (u : gS) => Q r u) (mB dC dI cB cI cJ cZ h0 ad A) A) ([.ref h0, .int p1] : List Value).toArray s 0 0 A) (F0 m 27 ls []) := by
    intro  n
    induction n with
    | zero => intro y1 y2 y3 y4 M H locs ls hP hD hS hl h; exact absurd h (by simp [wX12_order_27])
    | succ n hB270 =>
      intro y1 y2 y3 y4 M H locs ls hP hD hS hl h
      have hB27 := hB270
      rw [wX12_order_27] at h
      refine lv_iload hx hb dX12_order_27 (lv_at hl 4 rfl) ?_
      refine lv_iload_n hx hb dX12_order_29 rfl (lv_at hl 2 rfl) ?_
      refine lv_icmp_ge (tgt := 43) hx hb dX12_order_30 (by decide) (fun c1 => ?_) (fun c1 => ?_)
      · have h := h.1 c1
        refine lv_iconst (v := (-1)) hx hb dX12_order_43 (by decide) ?_
        refine lv_istore (lv' := [(4, .int (-1 : Int32)), (0, .ref h0), (1, .int y1), (2, .int y2), (3, .int y3)]) hx hb dX12_order_44 hl (by decide) rfl (fun ls hl => ?_)
        refine lv_iconst (v := 0) hx hb dX12_order_46 (by decide) ?_
        refine lv_istore (lv' := [(5, .int (0 : Int32)), (4, .int (-1 : Int32)), (0, .ref h0), (1, .int y1), (2, .int y2), (3, .int y3)]) hx hb dX12_order_47 hl (by decide) rfl (fun ls hl => ?_)
        obtain ⟨n9, h⟩ := h
        exact b49  n9 y1 y2 y3 (-1 : Int32) (0 : Int32) M H locs ls hP hD hS (lv_sub hl [2, 3, 4, 5, 1, 0] rfl) h
      · have h := h.2 c1
        refine lv_iload_n hx hb dX12_order_33 rfl (lv_at hl 3 rfl) ?_
        refine lv_iload_n hx hb dX12_order_34 rfl (lv_at hl 2 rfl) ?_
        refine lv_imul hx hb dX12_order_35 ?_
        refine lv_topi (fun x2 ex2 => ?_)
        have h := h x2 ex2
        refine lv_istore_n (lv' := [(3, .int x2), (0, .ref h0), (1, .int y1), (2, .int y2), (4, .int y4)]) hx hb dX12_order_36 rfl hl (by decide) rfl (fun ls hl => ?_)
        obtain ⟨x3, ex3⟩ : ∃ y : Int32, y = y4 + (1 : Int32) := ⟨_, rfl⟩
        have h := h x3 ex3
        refine lv_iinc (v := x3) (lv' := [(4, .int x3), (3, .int x2), (0, .ref h0), (1, .int y1), (2, .int y2)]) hx hb dX12_order_37 hl (k := 4) rfl (by rw [ex3]; rfl) (by decide) rfl (fun ls hl => ?_)
        refine lv_goto (tgt := 27) hx hb dX12_order_40 (by decide) ?_
        exact hB27 y1 y2 x2 x3 M H locs ls hP hD hS (lv_sub hl [2, 3, 4, 1, 0] rfl) h
  have bE : ∀ (M : gS) (H : Heap) (locs : List Loc) (ls : Array Slot), va_P (dC, dI) vwCl (mW cB cI cJ cZ h0 ad M) H → va_D A (mW cB cI cJ cZ h0 ad M) → va_S A s.heap H locs → lv_has ls 9 [(0, .ref h0), (1, .int p1)] → wX12_order p1 M Q → W p l e (headSpec wsX12_order rmX12_order).room s m ([.ref h0, .int p1] : List Value).toArray below meth c H locs 0 0 (MQ below (va_Qi (fun (r : Int32) (u : gS) => Q r u) (mB dC dI cB cI cJ cZ h0 ad A) A) ([.ref h0, .int p1] : List Value).toArray s 0 0 A) (F0 m 0 ls []) := by
    intro M H locs ls hP hD hS hl h
    unfold wX12_order at h
    refine lv_iload_n hx hb dX12_order_0 rfl (lv_at hl 1 rfl) ?_
    refine lv_i2l hx hb dX12_order_1 rfl ?_
    refine lv_lconst (v := 0) hx hb dX12_order_2 (by decide) ?_
    refine lv_ldc2 (v := (6)) hx hb hown f4 dX12_order_3 ?_
    have hFc := gs_free hD hS hA
    refine va_calli (va_runS (As := [.long (Int32.toInt64 p1), .long (0 : Int64), .long (6 : Int64)]) (rest := []) ⟨hx, hb, hml, hown, hts⟩ (kX12_in l dC dI cB cI cJ cZ h0 ad H.size (Int32.toInt64 p1) (0 : Int64) (6 : Int64) M _ h) (cwS 3 hts gX12_order_X12_in rfl rfl rfl (by decide +kernel) ⟨Nat.le_of_ble_eq_true rfl, Nat.le_of_ble_eq_true rfl⟩) (mpS hK hP hD) rfl rfl hl.1 rfl (lv_room (Nat.le_of_ble_eq_true rfl)) dX12_order_6 ⟨Nat.le_of_ble_eq_true rfl, Nat.le_of_ble_eq_true rfl⟩) hS (fun q _ z => hFc q z) hFc (fun r1 M2 t H1 locs ht hvm hw hB hz1 hk1 hS => ?_)
    obtain ⟨hP, hD⟩ := gs_back ht hFc hB
    generalize H1 = H at hP hS ⊢
    obtain ⟨b3, rfl, h⟩ := hw
    try dsimp only at h
    refine lv_if_ne (tgt := 14) hx hb dX12_order_9 (by decide) (fun c4 => ?_) (fun c4 => ?_)
    · have h := h.2 c4
      refine lv_aload_n hx hb dX12_order_14 rfl (lv_at hl 0 rfl) ?_
      refine va_get (D := (dC, dI)) (ci := 12) (v := .ref (ad 25)) (C := RX12) (T := TX12) (N := 37) hx hb hts hin hown hK hP 0 rfl rfl 25 (by decide) f3 (fun _ h9 => h9) rfl dX12_order_15 ?_
      refine lv_bipush (v := (10)) hx hb dX12_order_18 (by decide) ?_
      refine wc_iald (j := 10) hx hb hK hP 12 1 (f := ma M2 25) rfl rfl (by decide) (by decide) (by decide) dX12_order_20 ?_
      refine lv_topi (fun x5 ex5 => ?_)
      have h := h x5 ex5
      refine lv_istore_n (lv' := [(2, .int x5), (0, .ref h0), (1, .int p1)]) hx hb dX12_order_21 rfl hl (by decide) rfl (fun ls hl => ?_)
      refine lv_iconst (v := 1) hx hb dX12_order_22 (by decide) ?_
      refine lv_istore_n (lv' := [(3, .int (1 : Int32)), (2, .int x5), (0, .ref h0), (1, .int p1)]) hx hb dX12_order_23 rfl hl (by decide) rfl (fun ls hl => ?_)
      refine lv_iconst (v := 0) hx hb dX12_order_24 (by decide) ?_
      refine lv_istore (lv' := [(4, .int (0 : Int32)), (3, .int (1 : Int32)), (2, .int x5), (0, .ref h0), (1, .int p1)]) hx hb dX12_order_25 hl (by decide) rfl (fun ls hl => ?_)
      obtain ⟨n9, h⟩ := h
      exact b27  n9 p1 x5 (1 : Int32) (0 : Int32) M2 H locs ls hP hD hS (lv_sub hl [3, 4, 2, 1, 0] rfl) h
    · have h := h.1 c4
      refine lv_iconst (v := (-1)) hx hb dX12_order_12 (by decide) ?_
      exact W.iret (v := (-1 : Int32)) hx hb hr (fun t ht hW => ⟨⟨_, M2, rfl, h, by rw [ht]; exact hP, va_K.moved hW.alike hK, hD⟩, hS.F ht⟩) hS.2.2 dX12_order_13
  have hl := lv_entry ([.ref h0, .int p1]) (n := 9) (Nat.le_of_ble_eq_true rfl)
  rw [lg_entry_eq]
  generalize (lg_sl ([.ref h0, .int p1]) ++ List.replicate (9 - (lg_sl ([.ref h0, .int p1])).length) Slot.unset).toArray = ls at hl ⊢
  have hl : lv_has ls 9 [(0, .ref h0), (1, .int p1)] := hl
  exact bE M s.heap [] ls hP hD hS hl h
