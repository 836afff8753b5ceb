abbrev iX7W (cB cI cJ cZ : ClassId) (h0 : Nat) (ta : Nat) (p2 : Int32) (M1 : gS) : va_W := [(h0, .inr (7, [.null, .int 0, .int 0, .int 0, .int 0, .int 0, .int 0, .int 0])), (ta, .inl (cI, 400, .inl (ma M1 0)))]
def rmX7_init : Room := { frames := 1, cells := 0, slots := 0, locals := 21 }
set_option maxHeartbeats 4000000 in
set_option maxRecDepth 100000 in
theorem kX7_init (l : Launch) (dC : Nat → ClassId) (dI : Nat → Nat → Nat) (cB cI cJ cZ : ClassId) (h0 : Nat) (ta : Nat) (p2 : Int32) (M1 : gS) (sz : Nat) : Met l yX7_init wsX7_init rmX7_init (va_Pc [.ref h0, .ref ta, .int p2] (fun U => (U.heap.size = sz ∧ va_P (dC, dI) vwCl [(h0, .inr (7, [.null, .int 0, .int 0, .int 0, .int 0, .int 0, .int 0, .int 0])), (ta, .inl (cI, 400, .inl (ma M1 0)))] U.heap ∧ va_K (dC, dI) vwCl (gT cB cI cJ cZ) U ∧ va_D (fun _ => True) [(h0, .inr (7, [.null, .int 0, .int 0, .int 0, .int 0, .int 0, .int 0, .int 0])), (ta, .inl (cI, 400, .inl (ma M1 0)))]))) (va_Qv (fun (_ : Unit) => True) (fun (_ : Unit) t => va_P (dC, dI) vwCl (rdW cB cI cJ cZ h0 (va_up (fun _ => 0) 0 ta) (sg zS 1 (if (400 : Int32) < p2 then 400 else p2)) M1) t.heap ∧ va_K (dC, dI) vwCl (gT cB cI cJ cZ) t ∧ va_D (va_A [(h0, .inr (7, [.null, .int 0, .int 0, .int 0, .int 0, .int 0, .int 0, .int 0])), (ta, .inl (cI, 400, .inl (ma M1 0)))] sz) (rdW cB cI cJ cZ h0 (va_up (fun _ => 0) 0 ta) (sg zS 1 (if (400 : Int32) < p2 then 400 else p2)) M1)) (va_A [(h0, .inr (7, [.null, .int 0, .int 0, .int 0, .int 0, .int 0, .int 0, .int 0])), (ta, .inl (cI, 400, .inl (ma M1 0)))] sz)) 0 0 (va_A [(h0, .inr (7, [.null, .int 0, .int 0, .int 0, .int 0, .int 0, .int 0, .int 0])), (ta, .inl (cI, 400, .inl (ma M1 0)))] sz) := by
  refine Met.ofW (cc := cX7_init) (maxL := 3) (ret := none) (by decide) rfl ?_
  intro p e s m args below meth c s₁ B hml hv
  obtain ⟨rfl, ⟨hsz, hP, hK, hD0⟩⟩ := hv
  have hx := B.exec
  have hb := B.bytes
  have hr := B.returns
  have hts := atoms_spec (ws := wsX7_init) B.pre
  have hown : s.vm.findClass RX7 = some m.cls := findClass_of_methodNamed B.named
  have hlocks := B.notSynchronized
  have hin0 : meth.name = "<init>" := (name_of_methodNamed B.named B.method).1
  subst hsz
  have hD := hD0.self (sz := s.heap.size)
  generalize hAe : va_A [(h0, .inr (7, [.null, .int 0, .int 0, .int 0, .int 0, .int 0, .int 0, .int 0])), (ta, .inl (cI, 400, .inl (ma M1 0)))] s.heap.size = A at hD ⊢
  have hA : ∀ q : Nat, s.heap.size ≤ q → A q := fun q h => by rw [← hAe]; exact Or.inr h
  have hS : va_S A s.heap s.heap [] := va_S.rf
  have hinX7 : ∀ w ∈ wsX70, w ∈ wsX7_init := by decide +kernel
  have f1 := hts (.methodLink RX7 3 objectInit) (by decide +kernel)
  have f2 := hts (.instanceMethod objectInit) (by decide +kernel)
  have f3 := hts (.code objectInit ⟨#[0xb1]⟩ 1 none) (by decide +kernel)
  have f4 := hts (.fieldLink RX7 9 "LastWords$Reader" "text" "[I") (by decide +kernel)
  have f5 := hts (.methodLink RX7 15 Lib.Math.min.name) (by decide +kernel)
  have f6 := hts (.static Lib.Math.min.name) (by decide +kernel)
  have f7 := hts (.initialized "java/lang/Math") (by decide +kernel)
  have f8 := hts (.code Lib.Math.min.name Lib.Math.min.code 2 (some .int)) (by decide +kernel)
  have f9 := hts (.fieldLink RX7 21 "LastWords$Reader" "length" "I") (by decide +kernel)
  have hl := lv_entry ([.ref h0, .ref ta, .int p2]) (n := 3) (Nat.le_of_ble_eq_true rfl)
  rw [lg_entry_eq]
  generalize (lg_sl ([.ref h0, .ref ta, .int p2]) ++ List.replicate (3 - (lg_sl ([.ref h0, .ref ta, .int p2])).length) Slot.unset).toArray = ls at hl ⊢
  have hl : lv_has ls 3 [(0, .ref h0), (1, .ref ta), (2, .int p2)] := hl
  skip
  refine lv_aload_n hx hb dX7_init_0 rfl (lv_at hl 0 rfl) ?_
  refine W.objInit hx hb hown f1 f2 f3 rfl (by rw [hml]; exact hl.1) rfl dX7_init_1 (Nat.le_of_ble_eq_true rfl) (Nat.le_of_ble_eq_true rfl) ?_
  refine W.eq (g2 := F0 m 4 ls []) rfl ?_
  refine lv_aload_n hx hb dX7_init_4 rfl (lv_at hl 0 rfl) ?_
  refine lv_aload_n hx hb dX7_init_5 rfl (lv_at hl 1 rfl) ?_
  refine va_putF (D := (dC, dI)) (ci := 7) (v := .ref ta) (ty := .array .int) (C := RX7) (T := TX7) (N := 8) hx hb hts hinX7 tyX7 tyX7_ok nmX7 hown hK hP hD hS 0 rfl rfl 0 (by decide) f4 (fun _ h9 => h9) rfl hin0 rfl (by decide +kernel) rfl rfl (Nat.le_of_ble_eq_true rfl) dX7_init_6 (fun H locs hP hD hS => ?_)
  have hP : va_P (dC, dI) vwCl [(h0, .inr (7, [.ref ta, .int 0, .int 0, .int 0, .int 0, .int 0, .int 0, .int 0])), (ta, .inl (cI, 400, .inl (ma M1 0)))] H := hP
  have hD : va_D A [(h0, .inr (7, [.ref ta, .int 0, .int 0, .int 0, .int 0, .int 0, .int 0, .int 0])), (ta, .inl (cI, 400, .inl (ma M1 0)))] := hD
  refine lv_aload_n hx hb dX7_init_9 rfl (lv_at hl 0 rfl) ?_
  refine lv_iload_n hx hb dX7_init_10 rfl (lv_at hl 2 rfl) ?_
  refine lv_aload_n hx hb dX7_init_11 rfl (lv_at hl 1 rfl) ?_
  refine va_alen (v := 400) hx hb hK hP 1 1 rfl rfl (by show Int32.ofNat 400 = 400; decide) dX7_init_12 ?_
  refine va_mmin hx hb (by rw [hml]; exact hl.1.symm) hown f5 f6 f7 f8 (Nat.le_of_ble_eq_true rfl) (Nat.le_of_ble_eq_true rfl) (Nat.le_of_ble_eq_true rfl) (Nat.le_of_ble_eq_true rfl) dX7_init_13 ?_
  refine va_putF (D := (dC, dI)) (ci := 7) (v := .int (if (400 : Int32) < p2 then 400 else p2)) (ty := .int) (C := RX7) (T := TX7) (N := 8) hx hb hts hinX7 tyX7 tyX7_ok nmX7 hown hK hP hD hS 0 rfl rfl 1 (by decide) f9 (fun _ h9 => h9) rfl hin0 rfl (by decide +kernel) rfl rfl (Nat.le_of_ble_eq_true rfl) dX7_init_16 (fun H locs hP hD hS => ?_)
  have hP : va_P (dC, dI) vwCl [(h0, .inr (7, [.ref ta, .int (if (400 : Int32) < p2 then 400 else p2), .int 0, .int 0, .int 0, .int 0, .int 0, .int 0])), (ta, .inl (cI, 400, .inl (ma M1 0)))] H := hP
  have hD : va_D A [(h0, .inr (7, [.ref ta, .int (if (400 : Int32) < p2 then 400 else p2), .int 0, .int 0, .int 0, .int 0, .int 0, .int 0])), (ta, .inl (cI, 400, .inl (ma M1 0)))] := hD
  exact W.vret hx hb hr (fun t ht hW => ⟨⟨(), rfl, trivial, by rw [ht]; exact hP, va_K.moved hW.alike hK, hD⟩, hS.F ht⟩) hS.2.2 dX7_init_19
abbrev iX2W (cB cI cJ cZ : ClassId) (h0 : Nat) (x1 x2 : Nat) : va_W := [(h0, .inr (2, [.null, .null]))]
def rmX2_init : Room := { frames := 1, cells := 0, slots := 0, locals := 12 }
set_option maxHeartbeats 4000000 in
set_option maxRecDepth 100000 in
theorem kX2_init (l : Launch) (dC : Nat → ClassId) (dI : Nat → Nat → Nat) (cB cI cJ cZ : ClassId) (h0 : Nat) (x1 x2 : Nat) (sz : Nat) : Met l yX2_init wsX2_init rmX2_init (va_Pc [.ref h0, .ref x1, .ref x2] (fun U => (U.heap.size = sz ∧ va_P (dC, dI) vwCl [(h0, .inr (2, [.null, .null]))] U.heap ∧ va_K (dC, dI) vwCl (gT cB cI cJ cZ) U ∧ va_D (fun _ => True) [(h0, .inr (2, [.null, .null]))]))) (va_Qv (fun (_ : Unit) => True) (fun (_ : Unit) t => va_P (dC, dI) vwCl [(h0, .inr (2, [.ref x1, .ref x2]))] t.heap ∧ va_K (dC, dI) vwCl (gT cB cI cJ cZ) t ∧ va_D (va_A [(h0, .inr (2, [.null, .null]))] sz) [(h0, .inr (2, [.ref x1, .ref x2]))]) (va_A [(h0, .inr (2, [.null, .null]))] sz)) 0 0 (va_A [(h0, .inr (2, [.null, .null]))] sz) := by
  refine Met.ofW (cc := cX2_init) (maxL := 3) (ret := none) (by decide) rfl ?_
  intro p e s m args below meth c s₁ B hml hv
  obtain ⟨rfl, ⟨hsz, hP, hK, hD0⟩⟩ := hv
  have hx := B.exec
  have hb := B.bytes
  have hr := B.returns
  have hts := atoms_spec (ws := wsX2_init) B.pre
  have hown : s.vm.findClass RX2 = some m.cls := findClass_of_methodNamed B.named
  have hlocks := B.notSynchronized
  have hin0 : meth.name = "<init>" := (name_of_methodNamed B.named B.method).1
  subst hsz
  have hD := hD0.self (sz := s.heap.size)
  generalize hAe : va_A [(h0, .inr (2, [.null, .null]))] s.heap.size = A at hD ⊢
  have hA : ∀ q : Nat, s.heap.size ≤ q → A q := fun q h => by rw [← hAe]; exact Or.inr h
  have hS : va_S A s.heap s.heap [] := va_S.rf
  have hinX2 : ∀ w ∈ wsX20, w ∈ wsX2_init := by decide +kernel
  have f1 := hts (.methodLink RX2 3 objectInit) (by decide +kernel)
  have f2 := hts (.instanceMethod objectInit) (by decide +kernel)
  have f3 := hts (.code objectInit ⟨#[0xb1]⟩ 1 none) (by decide +kernel)
  have f4 := hts (.fieldLink RX2 9 "LastWords$CornerReader" "in" "LLastWords$Reader;") (by decide +kernel)
  have f5 := hts (.fieldLink RX2 15 "LastWords$CornerReader" "corner" "LLastWords$Corner;") (by decide +kernel)
  have hl := lv_entry ([.ref h0, .ref x1, .ref x2]) (n := 3) (Nat.le_of_ble_eq_true rfl)
  rw [lg_entry_eq]
  generalize (lg_sl ([.ref h0, .ref x1, .ref x2]) ++ List.replicate (3 - (lg_sl ([.ref h0, .ref x1, .ref x2])).length) Slot.unset).toArray = ls at hl ⊢
  have hl : lv_has ls 3 [(0, .ref h0), (1, .ref x1), (2, .ref x2)] := hl
  skip
  refine lv_aload_n hx hb dX2_init_0 rfl (lv_at hl 0 rfl) ?_
  refine W.objInit hx hb hown f1 f2 f3 rfl (by rw [hml]; exact hl.1) rfl dX2_init_1 (Nat.le_of_ble_eq_true rfl) (Nat.le_of_ble_eq_true rfl) ?_
  refine W.eq (g2 := F0 m 4 ls []) rfl ?_
  refine lv_aload_n hx hb dX2_init_4 rfl (lv_at hl 0 rfl) ?_
  refine lv_aload_n hx hb dX2_init_5 rfl (lv_at hl 1 rfl) ?_
  refine va_putF (D := (dC, dI)) (ci := 2) (v := .ref x1) (ty := .object "LastWords$Reader") (C := RX2) (T := TX2) (N := 2) hx hb hts hinX2 tyX2 tyX2_ok nmX2 hown hK hP hD hS 0 rfl rfl 0 (by decide) f4 (fun _ h9 => h9) rfl hin0 rfl (by decide +kernel) rfl rfl (Nat.le_of_ble_eq_true rfl) dX2_init_6 (fun H locs hP hD hS => ?_)
  have hP : va_P (dC, dI) vwCl [(h0, .inr (2, [.ref x1, .null]))] H := hP
  have hD : va_D A [(h0, .inr (2, [.ref x1, .null]))] := hD
  refine lv_aload_n hx hb dX2_init_9 rfl (lv_at hl 0 rfl) ?_
  refine lv_aload_n hx hb dX2_init_10 rfl (lv_at hl 2 rfl) ?_
  refine va_putF (D := (dC, dI)) (ci := 2) (v := .ref x2) (ty := .object "LastWords$Corner") (C := RX2) (T := TX2) (N := 2) hx hb hts hinX2 tyX2 tyX2_ok nmX2 hown hK hP hD hS 0 rfl rfl 1 (by decide) f5 (fun _ h9 => h9) rfl hin0 rfl (by decide +kernel) rfl rfl (Nat.le_of_ble_eq_true rfl) dX2_init_11 (fun H locs hP hD hS => ?_)
  have hP : va_P (dC, dI) vwCl [(h0, .inr (2, [.ref x1, .ref x2]))] H := hP
  have hD : va_D A [(h0, .inr (2, [.ref x1, .ref x2]))] := hD
  exact W.vret hx hb hr (fun t ht hW => ⟨⟨(), rfl, trivial, by rw [ht]; exact hP, va_K.moved hW.alike hK, hD⟩, hS.F ht⟩) hS.2.2 dX2_init_14
abbrev iX9W (cB cI cJ cZ : ClassId) (h0 : Nat) (x1 x2 : Nat) : va_W := [(h0, .inr (9, [.null, .null, .int 0]))]
def rmX9_init : Room := { frames := 1, cells := 0, slots := 0, locals := 12 }
set_option maxHeartbeats 4000000 in
set_option maxRecDepth 100000 in
theorem kX9_init (l : Launch) (dC : Nat → ClassId) (dI : Nat → Nat → Nat) (cB cI cJ cZ : ClassId) (h0 : Nat) (x1 x2 : Nat) (sz : Nat) : Met l yX9_init wsX9_init rmX9_init (va_Pc [.ref h0, .ref x1, .ref x2] (fun U => (U.heap.size = sz ∧ va_P (dC, dI) vwCl [(h0, .inr (9, [.null, .null, .int 0]))] U.heap ∧ va_K (dC, dI) vwCl (gT cB cI cJ cZ) U ∧ va_D (fun _ => True) [(h0, .inr (9, [.null, .null, .int 0]))]))) (va_Qv (fun (_ : Unit) => True) (fun (_ : Unit) t => va_P (dC, dI) vwCl [(h0, .inr (9, [.ref x1, .ref x2, .int 0]))] t.heap ∧ va_K (dC, dI) vwCl (gT cB cI cJ cZ) t ∧ va_D (va_A [(h0, .inr (9, [.null, .null, .int 0]))] sz) [(h0, .inr (9, [.ref x1, .ref x2, .int 0]))]) (va_A [(h0, .inr (9, [.null, .null, .int 0]))] sz)) 0 0 (va_A [(h0, .inr (9, [.null, .null, .int 0]))] sz) := by
  refine Met.ofW (cc := cX9_init) (maxL := 3) (ret := none) (by decide) rfl ?_
  intro p e s m args below meth c s₁ B hml hv
  obtain ⟨rfl, ⟨hsz, hP, hK, hD0⟩⟩ := hv
  have hx := B.exec
  have hb := B.bytes
  have hr := B.returns
  have hts := atoms_spec (ws := wsX9_init) B.pre
  have hown : s.vm.findClass RX9 = some m.cls := findClass_of_methodNamed B.named
  have hlocks := B.notSynchronized
  have hin0 : meth.name = "<init>" := (name_of_methodNamed B.named B.method).1
  subst hsz
  have hD := hD0.self (sz := s.heap.size)
  generalize hAe : va_A [(h0, .inr (9, [.null, .null, .int 0]))] s.heap.size = A at hD ⊢
  have hA : ∀ q : Nat, s.heap.size ≤ q → A q := fun q h => by rw [← hAe]; exact Or.inr h
  have hS : va_S A s.heap s.heap [] := va_S.rf
  have hinX9 : ∀ w ∈ wsX90, w ∈ wsX9_init := by decide +kernel
  have f1 := hts (.methodLink RX9 3 objectInit) (by decide +kernel)
  have f2 := hts (.instanceMethod objectInit) (by decide +kernel)
  have f3 := hts (.code objectInit ⟨#[0xb1]⟩ 1 none) (by decide +kernel)
  have f4 := hts (.fieldLink RX9 9 "LastWords$RuleReader" "in" "LLastWords$Reader;") (by decide +kernel)
  have f5 := hts (.fieldLink RX9 15 "LastWords$RuleReader" "rule" "LLastWords$Rule;") (by decide +kernel)
  have hl := lv_entry ([.ref h0, .ref x1, .ref x2]) (n := 3) (Nat.le_of_ble_eq_true rfl)
  rw [lg_entry_eq]
  generalize (lg_sl ([.ref h0, .ref x1, .ref x2]) ++ List.replicate (3 - (lg_sl ([.ref h0, .ref x1, .ref x2])).length) Slot.unset).toArray = ls at hl ⊢
  have hl : lv_has ls 3 [(0, .ref h0), (1, .ref x1), (2, .ref x2)] := hl
  skip
  refine lv_aload_n hx hb dX9_init_0 rfl (lv_at hl 0 rfl) ?_
  refine W.objInit hx hb hown f1 f2 f3 rfl (by rw [hml]; exact hl.1) rfl dX9_init_1 (Nat.le_of_ble_eq_true rfl) (Nat.le_of_ble_eq_true rfl) ?_
  refine W.eq (g2 := F0 m 4 ls []) rfl ?_
  refine lv_aload_n hx hb dX9_init_4 rfl (lv_at hl 0 rfl) ?_
  refine lv_aload_n hx hb dX9_init_5 rfl (lv_at hl 1 rfl) ?_
  refine va_putF (D := (dC, dI)) (ci := 9) (v := .ref x1) (ty := .object "LastWords$Reader") (C := RX9) (T := TX9) (N := 3) hx hb hts hinX9 tyX9 tyX9_ok nmX9 hown hK hP hD hS 0 rfl rfl 0 (by decide) f4 (fun _ h9 => h9) rfl hin0 rfl (by decide +kernel) rfl rfl (Nat.le_of_ble_eq_true rfl) dX9_init_6 (fun H locs hP hD hS => ?_)
  have hP : va_P (dC, dI) vwCl [(h0, .inr (9, [.ref x1, .null, .int 0]))] H := hP
  have hD : va_D A [(h0, .inr (9, [.ref x1, .null, .int 0]))] := hD
  refine lv_aload_n hx hb dX9_init_9 rfl (lv_at hl 0 rfl) ?_
  refine lv_aload_n hx hb dX9_init_10 rfl (lv_at hl 2 rfl) ?_
  refine va_putF (D := (dC, dI)) (ci := 9) (v := .ref x2) (ty := .object "LastWords$Rule") (C := RX9) (T := TX9) (N := 3) hx hb hts hinX9 tyX9 tyX9_ok nmX9 hown hK hP hD hS 0 rfl rfl 1 (by decide) f5 (fun _ h9 => h9) rfl hin0 rfl (by decide +kernel) rfl rfl (Nat.le_of_ble_eq_true rfl) dX9_init_11 (fun H locs hP hD hS => ?_)
  have hP : va_P (dC, dI) vwCl [(h0, .inr (9, [.ref x1, .ref x2, .int 0]))] H := hP
  have hD : va_D A [(h0, .inr (9, [.ref x1, .ref x2, .int 0]))] := hD
  exact W.vret hx hb hr (fun t ht hW => ⟨⟨(), rfl, trivial, by rw [ht]; exact hP, va_K.moved hW.alike hK, hD⟩, hS.F ht⟩) hS.2.2 dX9_init_14
