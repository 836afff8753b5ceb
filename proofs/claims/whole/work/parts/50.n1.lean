def zS : gS := (fun _ => 0, fun _ => 0, fun _ _ => 0, fun _ _ => 0)
section
variable {p : Program} {l : Launch} {e : Env} {R : Room} {s : State} {m : MethodId} {args : Array Value} {below : List Frame} {meth : Method} {c : Code} {H H0 : Heap} {locs : List Loc} {cells slots : Nat} {Q : State → Prop} {cc : ByteArray} {D : va_G} {cl : List vw_C} {ws : va_W} {A : Nat → Prop} {pc : Nat} {ls : Array Slot} {rest : List Value} {cB cI cJ cZ : ClassId}
theorem wn_I (hexec : p.tables.exec = Jvm.exec) (hb : c.code = cc) (harr : (Cond.arrayClass .int).before args s = true) (hK : va_K D cl (gT cB cI cJ cZ) s) (hP : va_P D cl ws H) (hD : va_D A ws) (hS : va_S A H0 H locs) (hA : ∀ q, H0.size ≤ q → A q) {n : Int32} {N' : Nat} (hn : ¬ n < 0) (hN : n.toNatClampNeg = N') (hbytes : N' * componentBytes .int ≤ 536870912) (hcells : cells + 1 ≤ R.cells) (hslots : slots + N' ≤ R.slots) (hdg : decode cc pc = .ok (.newarray .int, 2))
    (kk : ∀ (q : Nat) (H1 : Heap), va_P D cl (ws ++ [(q, .inl (cI, N', .inl (fun _ => 0)))]) H1 → va_D A (ws ++ [(q, .inl (cI, N', .inl (fun _ => 0)))]) → va_S A H0 H1 locs → W p l e R s m args below meth c H1 locs (cells + 1) (slots + N') Q (F0 m (pc + 2) ls (.ref q :: rest))) : W p l e R s m args below meth c H locs cells slots Q (F0 m pc ls (.int n :: rest)) := by
  refine va_newa (atype := .int) (a0 := (N', .inl (fun _ => 0))) hexec hb harr rfl hK hP hD hS hA (fun _ => rfl) hn hN hbytes hcells hslots hdg (fun q cA H1 hK1 hP hD hS => ?_)
  have e1 := va_nm_int (hK1.2 4 (cA, .int) rfl).2
  have e2 := va_nm_int (hK.2 1 (cI, .int) rfl).2
  have e3 : cA = cI := Option.some.inj (e1.symm.trans e2)
  subst e3
  exact kk q H1 hP hD hS
theorem wn_B (hexec : p.tables.exec = Jvm.exec) (hb : c.code = cc) (harr : (Cond.arrayClass .byte).before args s = true) (hK : va_K D cl (gT cB cI cJ cZ) s) (hP : va_P D cl ws H) (hD : va_D A ws) (hS : va_S A H0 H locs) (hA : ∀ q, H0.size ≤ q → A q) {n : Int32} {N' : Nat} (hn : ¬ n < 0) (hN : n.toNatClampNeg = N') (hbytes : N' * componentBytes .byte ≤ 536870912) (hcells : cells + 1 ≤ R.cells) (hslots : slots + N' ≤ R.slots) (hdg : decode cc pc = .ok (.newarray .byte, 2))
    (kk : ∀ (q : Nat) (H1 : Heap), va_P D cl (ws ++ [(q, .inl (cB, N', .inl (fun _ => 0)))]) H1 → va_D A (ws ++ [(q, .inl (cB, N', .inl (fun _ => 0)))]) → va_S A H0 H1 locs → W p l e R s m args below meth c H1 locs (cells + 1) (slots + N') Q (F0 m (pc + 2) ls (.ref q :: rest))) : W p l e R s m args below meth c H locs cells slots Q (F0 m pc ls (.int n :: rest)) := by
  refine va_newa (atype := .byte) (a0 := (N', .inl (fun _ => 0))) hexec hb harr rfl hK hP hD hS hA (fun _ => rfl) hn hN hbytes hcells hslots hdg (fun q cA H1 hK1 hP hD hS => ?_)
  have e1 := va_nm_byte (hK1.2 4 (cA, .byte) rfl).2
  have e2 := va_nm_byte (hK.2 0 (cB, .byte) rfl).2
  have e3 : cA = cB := Option.some.inj (e1.symm.trans e2)
  subst e3
  exact kk q H1 hP hD hS
theorem wn_J (hexec : p.tables.exec = Jvm.exec) (hb : c.code = cc) (harr : (Cond.arrayClass .long).before args s = true) (hK : va_K D cl (gT cB cI cJ cZ) s) (hP : va_P D cl ws H) (hD : va_D A ws) (hS : va_S A H0 H locs) (hA : ∀ q, H0.size ≤ q → A q) {n : Int32} {N' : Nat} (hn : ¬ n < 0) (hN : n.toNatClampNeg = N') (hbytes : N' * componentBytes .long ≤ 536870912) (hcells : cells + 1 ≤ R.cells) (hslots : slots + N' ≤ R.slots) (hdg : decode cc pc = .ok (.newarray .long, 2))
    (kk : ∀ (q : Nat) (H1 : Heap), va_P D cl (ws ++ [(q, .inl (cJ, N', .inr (.inl (fun _ => 0))))]) H1 → va_D A (ws ++ [(q, .inl (cJ, N', .inr (.inl (fun _ => 0))))]) → va_S A H0 H1 locs → W p l e R s m args below meth c H1 locs (cells + 1) (slots + N') Q (F0 m (pc + 2) ls (.ref q :: rest))) : W p l e R s m args below meth c H locs cells slots Q (F0 m pc ls (.int n :: rest)) := by
  refine va_newa (atype := .long) (a0 := (N', .inr (.inl (fun _ => 0)))) hexec hb harr rfl hK hP hD hS hA (fun _ => rfl) hn hN hbytes hcells hslots hdg (fun q cA H1 hK1 hP hD hS => ?_)
  have e1 := va_nm_long (hK1.2 4 (cA, .long) rfl).2
  have e2 := va_nm_long (hK.2 2 (cJ, .long) rfl).2
  have e3 : cA = cJ := Option.some.inj (e1.symm.trans e2)
  subst e3
  exact kk q H1 hP hD hS
theorem wn_Z (hexec : p.tables.exec = Jvm.exec) (hb : c.code = cc) (harr : (Cond.arrayClass .boolean).before args s = true) (hK : va_K D cl (gT cB cI cJ cZ) s) (hP : va_P D cl ws H) (hD : va_D A ws) (hS : va_S A H0 H locs) (hA : ∀ q, H0.size ≤ q → A q) {n : Int32} {N' : Nat} (hn : ¬ n < 0) (hN : n.toNatClampNeg = N') (hbytes : N' * componentBytes .boolean ≤ 536870912) (hcells : cells + 1 ≤ R.cells) (hslots : slots + N' ≤ R.slots) (hdg : decode cc pc = .ok (.newarray .boolean, 2))
    (kk : ∀ (q : Nat) (H1 : Heap), va_P D cl (ws ++ [(q, .inl (cZ, N', .inl (fun _ => 0)))]) H1 → va_D A (ws ++ [(q, .inl (cZ, N', .inl (fun _ => 0)))]) → va_S A H0 H1 locs → W p l e R s m args below meth c H1 locs (cells + 1) (slots + N') Q (F0 m (pc + 2) ls (.ref q :: rest))) : W p l e R s m args below meth c H locs cells slots Q (F0 m pc ls (.int n :: rest)) := by
  refine va_newa (atype := .boolean) (a0 := (N', .inl (fun _ => 0))) hexec hb harr rfl hK hP hD hS hA (fun _ => rfl) hn hN hbytes hcells hslots hdg (fun q cA H1 hK1 hP hD hS => ?_)
  have e1 := va_nm_boolean (hK1.2 4 (cA, .boolean) rfl).2
  have e2 := va_nm_boolean (hK.2 3 (cZ, .boolean) rfl).2
  have e3 : cA = cZ := Option.some.inj (e1.symm.trans e2)
  subst e3
  exact kk q H1 hP hD hS
end

abbrev cnX (dC : Nat → ClassId) (dI : Nat → Nat → Nat) (cB cI cJ cZ : ClassId) (h0 : Nat) (A : Nat → Prop) (u : gS) (t : State) : Prop := match u with
  | (M0) => ∃ (a0 : Nat → Nat), va_P (dC, dI) vwCl (cnW cB cI cJ cZ h0 a0 M0) t.heap ∧ va_K (dC, dI) vwCl (gT cB cI cJ cZ) t ∧ va_D A (cnW cB cI cJ cZ h0 a0 M0)
def rmX1_init : Room := { frames := 1, cells := 3, slots := 10, locals := 12 }
set_option maxHeartbeats 4000000 in
set_option maxRecDepth 100000 in
theorem kX1_init (l : Launch) (dC : Nat → ClassId) (dI : Nat → Nat → Nat) (cB cI cJ cZ : ClassId) (h0 sz : Nat) : Met l yX1_init wsX1_init rmX1_init (va_Pc [.ref h0] (fun U => (U.heap.size = sz ∧ va_P (dC, dI) vwCl [(h0, .inr (1, [.int 0, .null, .int 0, .null, .int 0, .null]))] U.heap ∧ va_K (dC, dI) vwCl (gT cB cI cJ cZ) U ∧ va_D (fun _ => True) [(h0, .inr (1, [.int 0, .null, .int 0, .null, .int 0, .null]))]))) (va_Qv (fun (u : gS) => u = zS) (cnX dC dI cB cI cJ cZ h0 (va_A [(h0, .inr (1, [.int 0, .null, .int 0, .null, .int 0, .null]))] sz)) (va_A [(h0, .inr (1, [.int 0, .null, .int 0, .null, .int 0, .null]))] sz)) 3 10 (va_A [(h0, .inr (1, [.int 0, .null, .int 0, .null, .int 0, .null]))] sz) := by
  refine Met.ofW (cc := cX1_init) (maxL := 1) (ret := none) (by decide) rfl ?_
  intro p e s m args below meth c s₁ B hml hv
  obtain ⟨rfl, ⟨hsz, hP, hK, hD0⟩⟩ := hv
  have hx := B.exec
  have hb := B.bytes
  have hr := B.returns
  have hts := atoms_spec (ws := wsX1_init) B.pre
  have hown : s.vm.findClass RX1 = some m.cls := findClass_of_methodNamed B.named
  have hlocks := B.notSynchronized
  have hin0 : meth.name = "<init>" := (name_of_methodNamed B.named B.method).1
  subst hsz
  have hD := hD0.self (sz := s.heap.size)
  generalize hAe : va_A [(h0, .inr (1, [.int 0, .null, .int 0, .null, .int 0, .null]))] s.heap.size = A at hD ⊢
  have hA : ∀ q : Nat, s.heap.size ≤ q → A q := fun q h => by rw [← hAe]; exact Or.inr h
  have hS : va_S A s.heap s.heap [] := va_S.rf
  have hinX1 : ∀ w ∈ wsX10, w ∈ wsX1_init := by decide +kernel
  have f1 := hts (.methodLink RX1 3 objectInit) (by decide +kernel)
  have f2 := hts (.instanceMethod objectInit) (by decide +kernel)
  have f3 := hts (.code objectInit ⟨#[0xb1]⟩ 1 none) (by decide +kernel)
  have f4 := hts (.arrayClass .int) (by decide +kernel)
  have f5 := hts (.fieldLink RX1 9 "LastWords$Corner" "verses" "[I") (by decide +kernel)
  have f6 := hts (.fieldLink RX1 15 "LastWords$Corner" "beats" "[I") (by decide +kernel)
  have f7 := hts (.fieldLink RX1 18 "LastWords$Corner" "purses" "[I") (by decide +kernel)
  have hl := lv_entry ([.ref h0]) (n := 1) (Nat.le_of_ble_eq_true rfl)
  rw [lg_entry_eq]
  generalize (lg_sl ([.ref h0]) ++ List.replicate (1 - (lg_sl ([.ref h0])).length) Slot.unset).toArray = ls at hl ⊢
  have hl : lv_has ls 1 [(0, .ref h0)] := hl
  skip
  refine lv_aload_n hx hb dX1_init_0 rfl (lv_at hl 0 rfl) ?_
  refine W.objInit hx hb hown f1 f2 f3 rfl (by rw [hml]; exact hl.1) rfl dX1_init_1 (Nat.le_of_ble_eq_true rfl) (Nat.le_of_ble_eq_true rfl) ?_
  refine W.eq (g2 := F0 m 4 ls []) rfl ?_
  refine lv_aload_n hx hb dX1_init_4 rfl (lv_at hl 0 rfl) ?_
  refine lv_iconst (v := (4)) hx hb dX1_init_5 (by decide) ?_
  refine wn_I hx hb f4 hK hP hD hS hA (by decide) (by decide : Int32.toNatClampNeg 4 = 4) (Nat.le_of_ble_eq_true rfl) (Nat.le_of_ble_eq_true rfl) (Nat.le_of_ble_eq_true rfl) dX1_init_6 (fun q1 H hP hD hS => ?_)
  have hP : va_P (dC, dI) vwCl [(h0, .inr (1, [.int 0, .null, .int 0, .null, .int 0, .null])), (q1, .inl (cI, 4, .inl (fun _ => 0)))] H := hP
  have hD : va_D A [(h0, .inr (1, [.int 0, .null, .int 0, .null, .int 0, .null])), (q1, .inl (cI, 4, .inl (fun _ => 0)))] := hD
  refine va_putF (D := (dC, dI)) (ci := 1) (v := .ref q1) (ty := .array .int) (C := RX1) (T := TX1) (N := 6) hx hb hts hinX1 tyX1 tyX1_ok nmX1 hown hK hP hD hS 0 rfl rfl 1 (by decide) f5 (fun _ h9 => h9) rfl hin0 rfl (by decide +kernel) rfl rfl (Nat.le_of_ble_eq_true rfl) dX1_init_8 (fun H locs hP hD hS => ?_)
  have hP : va_P (dC, dI) vwCl [(h0, .inr (1, [.int 0, .ref q1, .int 0, .null, .int 0, .null])), (q1, .inl (cI, 4, .inl (fun _ => 0)))] H := hP
  have hD : va_D A [(h0, .inr (1, [.int 0, .ref q1, .int 0, .null, .int 0, .null])), (q1, .inl (cI, 4, .inl (fun _ => 0)))] := hD
  refine lv_aload_n hx hb dX1_init_11 rfl (lv_at hl 0 rfl) ?_
  refine lv_iconst (v := (4)) hx hb dX1_init_12 (by decide) ?_
  refine wn_I hx hb f4 hK hP hD hS hA (by decide) (by decide : Int32.toNatClampNeg 4 = 4) (Nat.le_of_ble_eq_true rfl) (Nat.le_of_ble_eq_true rfl) (Nat.le_of_ble_eq_true rfl) dX1_init_13 (fun q2 H hP hD hS => ?_)
  have hP : va_P (dC, dI) vwCl [(h0, .inr (1, [.int 0, .ref q1, .int 0, .null, .int 0, .null])), (q1, .inl (cI, 4, .inl (fun _ => 0))), (q2, .inl (cI, 4, .inl (fun _ => 0)))] H := hP
  have hD : va_D A [(h0, .inr (1, [.int 0, .ref q1, .int 0, .null, .int 0, .null])), (q1, .inl (cI, 4, .inl (fun _ => 0))), (q2, .inl (cI, 4, .inl (fun _ => 0)))] := hD
  refine va_putF (D := (dC, dI)) (ci := 1) (v := .ref q2) (ty := .array .int) (C := RX1) (T := TX1) (N := 6) hx hb hts hinX1 tyX1 tyX1_ok nmX1 hown hK hP hD hS 0 rfl rfl 3 (by decide) f6 (fun _ h9 => h9) rfl hin0 rfl (by decide +kernel) rfl rfl (Nat.le_of_ble_eq_true rfl) dX1_init_15 (fun H locs hP hD hS => ?_)
  have hP : va_P (dC, dI) vwCl [(h0, .inr (1, [.int 0, .ref q1, .int 0, .ref q2, .int 0, .null])), (q1, .inl (cI, 4, .inl (fun _ => 0))), (q2, .inl (cI, 4, .inl (fun _ => 0)))] H := hP
  have hD : va_D A [(h0, .inr (1, [.int 0, .ref q1, .int 0, .ref q2, .int 0, .null])), (q1, .inl (cI, 4, .inl (fun _ => 0))), (q2, .inl (cI, 4, .inl (fun _ => 0)))] := hD
  refine lv_aload_n hx hb dX1_init_18 rfl (lv_at hl 0 rfl) ?_
  refine lv_iconst (v := (2)) hx hb dX1_init_19 (by decide) ?_
  refine wn_I hx hb f4 hK hP hD hS hA (by decide) (by decide : Int32.toNatClampNeg 2 = 2) (Nat.le_of_ble_eq_true rfl) (Nat.le_of_ble_eq_true rfl) (Nat.le_of_ble_eq_true rfl) dX1_init_20 (fun q3 H hP hD hS => ?_)
  have hP : va_P (dC, dI) vwCl [(h0, .inr (1, [.int 0, .ref q1, .int 0, .ref q2, .int 0, .null])), (q1, .inl (cI, 4, .inl (fun _ => 0))), (q2, .inl (cI, 4, .inl (fun _ => 0))), (q3, .inl (cI, 2, .inl (fun _ => 0)))] H := hP
  have hD : va_D A [(h0, .inr (1, [.int 0, .ref q1, .int 0, .ref q2, .int 0, .null])), (q1, .inl (cI, 4, .inl (fun _ => 0))), (q2, .inl (cI, 4, .inl (fun _ => 0))), (q3, .inl (cI, 2, .inl (fun _ => 0)))] := hD
  refine va_putF (D := (dC, dI)) (ci := 1) (v := .ref q3) (ty := .array .int) (C := RX1) (T := TX1) (N := 6) hx hb hts hinX1 tyX1 tyX1_ok nmX1 hown hK hP hD hS 0 rfl rfl 5 (by decide) f7 (fun _ h9 => h9) rfl hin0 rfl (by decide +kernel) rfl rfl (Nat.le_of_ble_eq_true rfl) dX1_init_22 (fun H locs hP hD hS => ?_)
  have hP : va_P (dC, dI) vwCl [(h0, .inr (1, [.int 0, .ref q1, .int 0, .ref q2, .int 0, .ref q3])), (q1, .inl (cI, 4, .inl (fun _ => 0))), (q2, .inl (cI, 4, .inl (fun _ => 0))), (q3, .inl (cI, 2, .inl (fun _ => 0)))] H := hP
  have hD : va_D A [(h0, .inr (1, [.int 0, .ref q1, .int 0, .ref q2, .int 0, .ref q3])), (q1, .inl (cI, 4, .inl (fun _ => 0))), (q2, .inl (cI, 4, .inl (fun _ => 0))), (q3, .inl (cI, 2, .inl (fun _ => 0)))] := hD
  have hP := hP.sub (ws' := (cnW cB cI cJ cZ h0 (va_up (va_up (va_up (fun _ => 0) 1 q1) 3 q2) 5 q3) zS)) [0, 1, 2, 3] rfl
  have hD := hD.sub (ws' := (cnW cB cI cJ cZ h0 (va_up (va_up (va_up (fun _ => 0) 1 q1) 3 q2) 5 q3) zS)) [0, 1, 2, 3] (by decide) rfl
  exact W.vret hx hb hr (fun t ht hW => ⟨⟨(zS), rfl, rfl, (va_up (va_up (va_up (fun _ => 0) 1 q1) 3 q2) 5 q3), by rw [ht]; exact hP, va_K.moved hW.alike hK, hD⟩, hS.F ht⟩) hS.2.2 dX1_init_25
abbrev loX (dC : Nat → ClassId) (dI : Nat → Nat → Nat) (cB cI cJ cZ : ClassId) (h0 : Nat) (A : Nat → Prop) (u : gS) (t : State) : Prop := match u with
  | (M0) => ∃ (a0 : Nat → Nat), va_P (dC, dI) vwCl (loW cB cI cJ cZ h0 a0 M0) t.heap ∧ va_K (dC, dI) vwCl (gT cB cI cJ cZ) t ∧ va_D A (loW cB cI cJ cZ h0 a0 M0)
def rmX3_init : Room := { frames := 1, cells := 0, slots := 0, locals := 12 }
set_option maxHeartbeats 4000000 in
set_option maxRecDepth 100000 in
theorem kX3_init (l : Launch) (dC : Nat → ClassId) (dI : Nat → Nat → Nat) (cB cI cJ cZ : ClassId) (h0 sz : Nat) : Met l yX3_init wsX3_init rmX3_init (va_Pc [.ref h0] (fun U => (U.heap.size = sz ∧ va_P (dC, dI) vwCl [(h0, .inr (3, [.int 0, .int 0, .int 0, .int 0, .int 0]))] U.heap ∧ va_K (dC, dI) vwCl (gT cB cI cJ cZ) U ∧ va_D (fun _ => True) [(h0, .inr (3, [.int 0, .int 0, .int 0, .int 0, .int 0]))]))) (va_Qv (fun (u : gS) => u = zS) (loX dC dI cB cI cJ cZ h0 (va_A [(h0, .inr (3, [.int 0, .int 0, .int 0, .int 0, .int 0]))] sz)) (va_A [(h0, .inr (3, [.int 0, .int 0, .int 0, .int 0, .int 0]))] sz)) 0 0 (va_A [(h0, .inr (3, [.int 0, .int 0, .int 0, .int 0, .int 0]))] sz) := by
  refine Met.ofW (cc := cX3_init) (maxL := 1) (ret := none) (by decide) rfl ?_
  intro p e s m args below meth c s₁ B hml hv
  obtain ⟨rfl, ⟨hsz, hP, hK, hD0⟩⟩ := hv
  have hx := B.exec
  have hb := B.bytes
  have hr := B.returns
  have hts := atoms_spec (ws := wsX3_init) B.pre
  have hown : s.vm.findClass RX3 = some m.cls := findClass_of_methodNamed B.named
  have hlocks := B.notSynchronized
  have hin0 : meth.name = "<init>" := (name_of_methodNamed B.named B.method).1
  subst hsz
  have hD := hD0.self (sz := s.heap.size)
  generalize hAe : va_A [(h0, .inr (3, [.int 0, .int 0, .int 0, .int 0, .int 0]))] s.heap.size = A at hD ⊢
  have hA : ∀ q : Nat, s.heap.size ≤ q → A q := fun q h => by rw [← hAe]; exact Or.inr h
  have hS : va_S A s.heap s.heap [] := va_S.rf
  have f1 := hts (.methodLink RX3 1 objectInit) (by decide +kernel)
  have f2 := hts (.instanceMethod objectInit) (by decide +kernel)
  have f3 := hts (.code objectInit ⟨#[0xb1]⟩ 1 none) (by decide +kernel)
  have hl := lv_entry ([.ref h0]) (n := 1) (Nat.le_of_ble_eq_true rfl)
  rw [lg_entry_eq]
  generalize (lg_sl ([.ref h0]) ++ List.replicate (1 - (lg_sl ([.ref h0])).length) Slot.unset).toArray = ls at hl ⊢
  have hl : lv_has ls 1 [(0, .ref h0)] := hl
  skip
  refine lv_aload_n hx hb dX3_init_0 rfl (lv_at hl 0 rfl) ?_
  refine W.objInit hx hb hown f1 f2 f3 rfl (by rw [hml]; exact hl.1) rfl dX3_init_1 (Nat.le_of_ble_eq_true rfl) (Nat.le_of_ble_eq_true rfl) ?_
  refine W.eq (g2 := F0 m 4 ls []) rfl ?_
  have hP := hP.sub (ws' := (loW cB cI cJ cZ h0 (fun _ => 0) zS)) [0] rfl
  have hD := hD.sub (ws' := (loW cB cI cJ cZ h0 (fun _ => 0) zS)) [0] (by decide) rfl
  exact W.vret hx hb hr (fun t ht hW => ⟨⟨(zS), rfl, rfl, (fun _ => 0), by rw [ht]; exact hP, va_K.moved hW.alike hK, hD⟩, hS.F ht⟩) hS.2.2 dX3_init_4
abbrev ogX (dC : Nat → ClassId) (dI : Nat → Nat → Nat) (cB cI cJ cZ : ClassId) (h0 : Nat) (A : Nat → Prop) (u : gS) (t : State) : Prop := match u with
  | (M0) => ∃ (a0 : Nat → Nat), va_P (dC, dI) vwCl (ogW cB cI cJ cZ h0 a0 M0) t.heap ∧ va_K (dC, dI) vwCl (gT cB cI cJ cZ) t ∧ va_D A (ogW cB cI cJ cZ h0 a0 M0)
def rmX4_init : Room := { frames := 1, cells := 3, slots := 18, locals := 12 }
set_option maxHeartbeats 4000000 in
set_option maxRecDepth 100000 in
theorem kX4_init (l : Launch) (dC : Nat → ClassId) (dI : Nat → Nat → Nat) (cB cI cJ cZ : ClassId) (h0 sz : Nat) : Met l yX4_init wsX4_init rmX4_init (va_Pc [.ref h0] (fun U => (U.heap.size = sz ∧ va_P (dC, dI) vwCl [(h0, .inr (4, [.int 0, .null, .null, .null]))] U.heap ∧ va_K (dC, dI) vwCl (gT cB cI cJ cZ) U ∧ va_D (fun _ => True) [(h0, .inr (4, [.int 0, .null, .null, .null]))]))) (va_Qv (fun (u : gS) => u = zS) (ogX dC dI cB cI cJ cZ h0 (va_A [(h0, .inr (4, [.int 0, .null, .null, .null]))] sz)) (va_A [(h0, .inr (4, [.int 0, .null, .null, .null]))] sz)) 3 18 (va_A [(h0, .inr (4, [.int 0, .null, .null, .null]))] sz) := by
  refine Met.ofW (cc := cX4_init) (maxL := 1) (ret := none) (by decide) rfl ?_
  intro p e s m args below meth c s₁ B hml hv
  obtain ⟨rfl, ⟨hsz, hP, hK, hD0⟩⟩ := hv
  have hx := B.exec
  have hb := B.bytes
  have hr := B.returns
  have hts := atoms_spec (ws := wsX4_init) B.pre
  have hown : s.vm.findClass RX4 = some m.cls := findClass_of_methodNamed B.named
  have hlocks := B.notSynchronized
  have hin0 : meth.name = "<init>" := (name_of_methodNamed B.named B.method).1
  subst hsz
  have hD := hD0.self (sz := s.heap.size)
  generalize hAe : va_A [(h0, .inr (4, [.int 0, .null, .null, .null]))] s.heap.size = A at hD ⊢
  have hA : ∀ q : Nat, s.heap.size ≤ q → A q := fun q h => by rw [← hAe]; exact Or.inr h
  have hS : va_S A s.heap s.heap [] := va_S.rf
  have hinX4 : ∀ w ∈ wsX40, w ∈ wsX4_init := by decide +kernel
  have f1 := hts (.methodLink RX4 3 objectInit) (by decide +kernel)
  have f2 := hts (.instanceMethod objectInit) (by decide +kernel)
  have f3 := hts (.code objectInit ⟨#[0xb1]⟩ 1 none) (by decide +kernel)
  have f4 := hts (.arrayClass .int) (by decide +kernel)
  have f5 := hts (.fieldLink RX4 9 "LastWords$Organ" "beats" "[I") (by decide +kernel)
  have f6 := hts (.fieldLink RX4 15 "LastWords$Organ" "worth" "[I") (by decide +kernel)
  have f7 := hts (.fieldLink RX4 18 "LastWords$Organ" "places" "[I") (by decide +kernel)
  have hl := lv_entry ([.ref h0]) (n := 1) (Nat.le_of_ble_eq_true rfl)
  rw [lg_entry_eq]
  generalize (lg_sl ([.ref h0]) ++ List.replicate (1 - (lg_sl ([.ref h0])).length) Slot.unset).toArray = ls at hl ⊢
  have hl : lv_has ls 1 [(0, .ref h0)] := hl
  skip
  refine lv_aload_n hx hb dX4_init_0 rfl (lv_at hl 0 rfl) ?_
  refine W.objInit hx hb hown f1 f2 f3 rfl (by rw [hml]; exact hl.1) rfl dX4_init_1 (Nat.le_of_ble_eq_true rfl) (Nat.le_of_ble_eq_true rfl) ?_
  refine W.eq (g2 := F0 m 4 ls []) rfl ?_
  refine lv_aload_n hx hb dX4_init_4 rfl (lv_at hl 0 rfl) ?_
  refine lv_bipush (v := (6)) hx hb dX4_init_5 (by decide) ?_
  refine wn_I hx hb f4 hK hP hD hS hA (by decide) (by decide : Int32.toNatClampNeg 6 = 6) (Nat.le_of_ble_eq_true rfl) (Nat.le_of_ble_eq_true rfl) (Nat.le_of_ble_eq_true rfl) dX4_init_7 (fun q1 H hP hD hS => ?_)
  have hP : va_P (dC, dI) vwCl [(h0, .inr (4, [.int 0, .null, .null, .null])), (q1, .inl (cI, 6, .inl (fun _ => 0)))] H := hP
  have hD : va_D A [(h0, .inr (4, [.int 0, .null, .null, .null])), (q1, .inl (cI, 6, .inl (fun _ => 0)))] := hD
  refine va_putF (D := (dC, dI)) (ci := 4) (v := .ref q1) (ty := .array .int) (C := RX4) (T := TX4) (N := 4) hx hb hts hinX4 tyX4 tyX4_ok nmX4 hown hK hP hD hS 0 rfl rfl 1 (by decide) f5 (fun _ h9 => h9) rfl hin0 rfl (by decide +kernel) rfl rfl (Nat.le_of_ble_eq_true rfl) dX4_init_9 (fun H locs hP hD hS => ?_)
  have hP : va_P (dC, dI) vwCl [(h0, .inr (4, [.int 0, .ref q1, .null, .null])), (q1, .inl (cI, 6, .inl (fun _ => 0)))] H := hP
  have hD : va_D A [(h0, .inr (4, [.int 0, .ref q1, .null, .null])), (q1, .inl (cI, 6, .inl (fun _ => 0)))] := hD
  refine lv_aload_n hx hb dX4_init_12 rfl (lv_at hl 0 rfl) ?_
  refine lv_bipush (v := (6)) hx hb dX4_init_13 (by decide) ?_
  refine wn_I hx hb f4 hK hP hD hS hA (by decide) (by decide : Int32.toNatClampNeg 6 = 6) (Nat.le_of_ble_eq_true rfl) (Nat.le_of_ble_eq_true rfl) (Nat.le_of_ble_eq_true rfl) dX4_init_15 (fun q2 H hP hD hS => ?_)
  have hP : va_P (dC, dI) vwCl [(h0, .inr (4, [.int 0, .ref q1, .null, .null])), (q1, .inl (cI, 6, .inl (fun _ => 0))), (q2, .inl (cI, 6, .inl (fun _ => 0)))] H := hP
  have hD : va_D A [(h0, .inr (4, [.int 0, .ref q1, .null, .null])), (q1, .inl (cI, 6, .inl (fun _ => 0))), (q2, .inl (cI, 6, .inl (fun _ => 0)))] := hD
  refine va_putF (D := (dC, dI)) (ci := 4) (v := .ref q2) (ty := .array .int) (C := RX4) (T := TX4) (N := 4) hx hb hts hinX4 tyX4 tyX4_ok nmX4 hown hK hP hD hS 0 rfl rfl 2 (by decide) f6 (fun _ h9 => h9) rfl hin0 rfl (by decide +kernel) rfl rfl (Nat.le_of_ble_eq_true rfl) dX4_init_17 (fun H locs hP hD hS => ?_)
  have hP : va_P (dC, dI) vwCl [(h0, .inr (4, [.int 0, .ref q1, .ref q2, .null])), (q1, .inl (cI, 6, .inl (fun _ => 0))), (q2, .inl (cI, 6, .inl (fun _ => 0)))] H := hP
  have hD : va_D A [(h0, .inr (4, [.int 0, .ref q1, .ref q2, .null])), (q1, .inl (cI, 6, .inl (fun _ => 0))), (q2, .inl (cI, 6, .inl (fun _ => 0)))] := hD
  refine lv_aload_n hx hb dX4_init_20 rfl (lv_at hl 0 rfl) ?_
  refine lv_bipush (v := (6)) hx hb dX4_init_21 (by decide) ?_
  refine wn_I hx hb f4 hK hP hD hS hA (by decide) (by decide : Int32.toNatClampNeg 6 = 6) (Nat.le_of_ble_eq_true rfl) (Nat.le_of_ble_eq_true rfl) (Nat.le_of_ble_eq_true rfl) dX4_init_23 (fun q3 H hP hD hS => ?_)
  have hP : va_P (dC, dI) vwCl [(h0, .inr (4, [.int 0, .ref q1, .ref q2, .null])), (q1, .inl (cI, 6, .inl (fun _ => 0))), (q2, .inl (cI, 6, .inl (fun _ => 0))), (q3, .inl (cI, 6, .inl (fun _ => 0)))] H := hP
  have hD : va_D A [(h0, .inr (4, [.int 0, .ref q1, .ref q2, .null])), (q1, .inl (cI, 6, .inl (fun _ => 0))), (q2, .inl (cI, 6, .inl (fun _ => 0))), (q3, .inl (cI, 6, .inl (fun _ => 0)))] := hD
  refine va_putF (D := (dC, dI)) (ci := 4) (v := .ref q3) (ty := .array .int) (C := RX4) (T := TX4) (N := 4) hx hb hts hinX4 tyX4 tyX4_ok nmX4 hown hK hP hD hS 0 rfl rfl 3 (by decide) f7 (fun _ h9 => h9) rfl hin0 rfl (by decide +kernel) rfl rfl (Nat.le_of_ble_eq_true rfl) dX4_init_25 (fun H locs hP hD hS => ?_)
  have hP : va_P (dC, dI) vwCl [(h0, .inr (4, [.int 0, .ref q1, .ref q2, .ref q3])), (q1, .inl (cI, 6, .inl (fun _ => 0))), (q2, .inl (cI, 6, .inl (fun _ => 0))), (q3, .inl (cI, 6, .inl (fun _ => 0)))] H := hP
  have hD : va_D A [(h0, .inr (4, [.int 0, .ref q1, .ref q2, .ref q3])), (q1, .inl (cI, 6, .inl (fun _ => 0))), (q2, .inl (cI, 6, .inl (fun _ => 0))), (q3, .inl (cI, 6, .inl (fun _ => 0)))] := hD
  have hP := hP.sub (ws' := (ogW cB cI cJ cZ h0 (va_up (va_up (va_up (fun _ => 0) 1 q1) 2 q2) 3 q3) zS)) [0, 1, 2, 3] rfl
  have hD := hD.sub (ws' := (ogW cB cI cJ cZ h0 (va_up (va_up (va_up (fun _ => 0) 1 q1) 2 q2) 3 q3) zS)) [0, 1, 2, 3] (by decide) rfl
  exact W.vret hx hb hr (fun t ht hW => ⟨⟨(zS), rfl, rfl, (va_up (va_up (va_up (fun _ => 0) 1 q1) 2 q2) 3 q3), by rw [ht]; exact hP, va_K.moved hW.alike hK, hD⟩, hS.F ht⟩) hS.2.2 dX4_init_28
abbrev qrX (dC : Nat → ClassId) (dI : Nat → Nat → Nat) (cB cI cJ cZ : ClassId) (h0 : Nat) (A : Nat → Prop) (u : gS) (t : State) : Prop := match u with
  | (M0) => ∃ (a0 : Nat → Nat), va_P (dC, dI) vwCl (qrW cB cI cJ cZ h0 a0 M0) t.heap ∧ va_K (dC, dI) vwCl (gT cB cI cJ cZ) t ∧ va_D A (qrW cB cI cJ cZ h0 a0 M0)
def rmX6_init : Room := { frames := 1, cells := 3, slots := 6, locals := 12 }
set_option maxHeartbeats 4000000 in
set_option maxRecDepth 100000 in
theorem kX6_init (l : Launch) (dC : Nat → ClassId) (dI : Nat → Nat → Nat) (cB cI cJ cZ : ClassId) (h0 sz : Nat) : Met l yX6_init wsX6_init rmX6_init (va_Pc [.ref h0] (fun U => (U.heap.size = sz ∧ va_P (dC, dI) vwCl [(h0, .inr (6, [.int 0, .int 0, .int 0, .int 0, .int 0, .int 0, .int 0, .null, .null, .null]))] U.heap ∧ va_K (dC, dI) vwCl (gT cB cI cJ cZ) U ∧ va_D (fun _ => True) [(h0, .inr (6, [.int 0, .int 0, .int 0, .int 0, .int 0, .int 0, .int 0, .null, .null, .null]))]))) (va_Qv (fun (u : gS) => u = (sa (sa (sg (sg zS 1 (1)) 6 (-1)) 8 0 (-1)) 8 1 (-1))) (qrX dC dI cB cI cJ cZ h0 (va_A [(h0, .inr (6, [.int 0, .int 0, .int 0, .int 0, .int 0, .int 0, .int 0, .null, .null, .null]))] sz)) (va_A [(h0, .inr (6, [.int 0, .int 0, .int 0, .int 0, .int 0, .int 0, .int 0, .null, .null, .null]))] sz)) 3 6 (va_A [(h0, .inr (6, [.int 0, .int 0, .int 0, .int 0, .int 0, .int 0, .int 0, .null, .null, .null]))] sz) := by
  refine Met.ofW (cc := cX6_init) (maxL := 1) (ret := none) (by decide) rfl ?_
  intro p e s m args below meth c s₁ B hml hv
  obtain ⟨rfl, ⟨hsz, hP, hK, hD0⟩⟩ := hv
  have hx := B.exec
  have hb := B.bytes
  have hr := B.returns
  have hts := atoms_spec (ws := wsX6_init) B.pre
  have hown : s.vm.findClass RX6 = some m.cls := findClass_of_methodNamed B.named
  have hlocks := B.notSynchronized
  have hin0 : meth.name = "<init>" := (name_of_methodNamed B.named B.method).1
  subst hsz
  have hD := hD0.self (sz := s.heap.size)
  generalize hAe : va_A [(h0, .inr (6, [.int 0, .int 0, .int 0, .int 0, .int 0, .int 0, .int 0, .null, .null, .null]))] s.heap.size = A at hD ⊢
  have hA : ∀ q : Nat, s.heap.size ≤ q → A q := fun q h => by rw [← hAe]; exact Or.inr h
  have hS : va_S A s.heap s.heap [] := va_S.rf
  have hinX6 : ∀ w ∈ wsX60, w ∈ wsX6_init := by decide +kernel
  have f1 := hts (.methodLink RX6 3 objectInit) (by decide +kernel)
  have f2 := hts (.instanceMethod objectInit) (by decide +kernel)
  have f3 := hts (.code objectInit ⟨#[0xb1]⟩ 1 none) (by decide +kernel)
  have f4 := hts (.fieldLink RX6 9 "LastWords$Quarrel" "verse" "I") (by decide +kernel)
  have f5 := hts (.fieldLink RX6 15 "LastWords$Quarrel" "winner" "I") (by decide +kernel)
  have f6 := hts (.arrayClass .int) (by decide +kernel)
  have f7 := hts (.fieldLink RX6 18 "LastWords$Quarrel" "purse" "[I") (by decide +kernel)
  have f8 := hts (.fieldLink RX6 22 "LastWords$Quarrel" "last" "[I") (by decide +kernel)
  have f9 := hts (.fieldLink RX6 25 "LastWords$Quarrel" "said" "[I") (by decide +kernel)
  have hl := lv_entry ([.ref h0]) (n := 1) (Nat.le_of_ble_eq_true rfl)
  rw [lg_entry_eq]
  generalize (lg_sl ([.ref h0]) ++ List.replicate (1 - (lg_sl ([.ref h0])).length) Slot.unset).toArray = ls at hl ⊢
  have hl : lv_has ls 1 [(0, .ref h0)] := hl
  skip
  refine lv_aload_n hx hb dX6_init_0 rfl (lv_at hl 0 rfl) ?_
  refine W.objInit hx hb hown f1 f2 f3 rfl (by rw [hml]; exact hl.1) rfl dX6_init_1 (Nat.le_of_ble_eq_true rfl) (Nat.le_of_ble_eq_true rfl) ?_
  refine W.eq (g2 := F0 m 4 ls []) rfl ?_
  refine lv_aload_n hx hb dX6_init_4 rfl (lv_at hl 0 rfl) ?_
  refine lv_iconst (v := (1)) hx hb dX6_init_5 (by decide) ?_
  refine va_put (D := (dC, dI)) (ci := 6) (v := .int (1)) (ty := .int) (C := RX6) (T := TX6) (N := 10) hx hb hts hinX6 tyX6 tyX6_ok nmX6 hown hK hP hD hS 0 rfl rfl 1 (by decide) f4 (fun _ h9 => h9) rfl (by decide +kernel) rfl rfl (Nat.le_of_ble_eq_true rfl) dX6_init_6 (fun H locs hP hD hS => ?_)
  have hP : va_P (dC, dI) vwCl [(h0, .inr (6, [.int 0, .int (1), .int 0, .int 0, .int 0, .int 0, .int 0, .null, .null, .null]))] H := hP
  have hD : va_D A [(h0, .inr (6, [.int 0, .int (1), .int 0, .int 0, .int 0, .int 0, .int 0, .null, .null, .null]))] := hD
  refine lv_aload_n hx hb dX6_init_9 rfl (lv_at hl 0 rfl) ?_
  refine lv_iconst (v := (-1)) hx hb dX6_init_10 (by decide) ?_
  refine va_put (D := (dC, dI)) (ci := 6) (v := .int (-1)) (ty := .int) (C := RX6) (T := TX6) (N := 10) hx hb hts hinX6 tyX6 tyX6_ok nmX6 hown hK hP hD hS 0 rfl rfl 6 (by decide) f5 (fun _ h9 => h9) rfl (by decide +kernel) rfl rfl (Nat.le_of_ble_eq_true rfl) dX6_init_11 (fun H locs hP hD hS => ?_)
  have hP : va_P (dC, dI) vwCl [(h0, .inr (6, [.int 0, .int (1), .int 0, .int 0, .int 0, .int 0, .int (-1), .null, .null, .null]))] H := hP
  have hD : va_D A [(h0, .inr (6, [.int 0, .int (1), .int 0, .int 0, .int 0, .int 0, .int (-1), .null, .null, .null]))] := hD
  refine lv_aload_n hx hb dX6_init_14 rfl (lv_at hl 0 rfl) ?_
  refine lv_iconst (v := (2)) hx hb dX6_init_15 (by decide) ?_
  refine wn_I hx hb f6 hK hP hD hS hA (by decide) (by decide : Int32.toNatClampNeg 2 = 2) (Nat.le_of_ble_eq_true rfl) (Nat.le_of_ble_eq_true rfl) (Nat.le_of_ble_eq_true rfl) dX6_init_16 (fun q1 H hP hD hS => ?_)
  have hP : va_P (dC, dI) vwCl [(h0, .inr (6, [.int 0, .int (1), .int 0, .int 0, .int 0, .int 0, .int (-1), .null, .null, .null])), (q1, .inl (cI, 2, .inl (fun _ => 0)))] H := hP
  have hD : va_D A [(h0, .inr (6, [.int 0, .int (1), .int 0, .int 0, .int 0, .int 0, .int (-1), .null, .null, .null])), (q1, .inl (cI, 2, .inl (fun _ => 0)))] := hD
  refine va_putF (D := (dC, dI)) (ci := 6) (v := .ref q1) (ty := .array .int) (C := RX6) (T := TX6) (N := 10) hx hb hts hinX6 tyX6 tyX6_ok nmX6 hown hK hP hD hS 0 rfl rfl 7 (by decide) f7 (fun _ h9 => h9) rfl hin0 rfl (by decide +kernel) rfl rfl (Nat.le_of_ble_eq_true rfl) dX6_init_18 (fun H locs hP hD hS => ?_)
  have hP : va_P (dC, dI) vwCl [(h0, .inr (6, [.int 0, .int (1), .int 0, .int 0, .int 0, .int 0, .int (-1), .ref q1, .null, .null])), (q1, .inl (cI, 2, .inl (fun _ => 0)))] H := hP
  have hD : va_D A [(h0, .inr (6, [.int 0, .int (1), .int 0, .int 0, .int 0, .int 0, .int (-1), .ref q1, .null, .null])), (q1, .inl (cI, 2, .inl (fun _ => 0)))] := hD
  refine lv_aload_n hx hb dX6_init_21 rfl (lv_at hl 0 rfl) ?_
  refine lv_iconst (v := (2)) hx hb dX6_init_22 (by decide) ?_
  refine wn_I hx hb f6 hK hP hD hS hA (by decide) (by decide : Int32.toNatClampNeg 2 = 2) (Nat.le_of_ble_eq_true rfl) (Nat.le_of_ble_eq_true rfl) (Nat.le_of_ble_eq_true rfl) dX6_init_23 (fun q2 H hP hD hS => ?_)
  have hP : va_P (dC, dI) vwCl [(h0, .inr (6, [.int 0, .int (1), .int 0, .int 0, .int 0, .int 0, .int (-1), .ref q1, .null, .null])), (q1, .inl (cI, 2, .inl (fun _ => 0))), (q2, .inl (cI, 2, .inl (fun _ => 0)))] H := hP
  have hD : va_D A [(h0, .inr (6, [.int 0, .int (1), .int 0, .int 0, .int 0, .int 0, .int (-1), .ref q1, .null, .null])), (q1, .inl (cI, 2, .inl (fun _ => 0))), (q2, .inl (cI, 2, .inl (fun _ => 0)))] := hD
  refine lv_dup hx hb dX6_init_25 rfl ?_
  refine lv_iconst (v := (0)) hx hb dX6_init_26 (by decide) ?_
  refine lv_iconst (v := (-1)) hx hb dX6_init_27 (by decide) ?_
  refine wc_iast (j := 0) hx hb hK hP hD hS 2 1 (f := (fun _ => 0)) rfl rfl (by decide) (by decide) (by decide) dX6_init_28 (fun H locs hP hD hS => ?_)
  have hP : va_P (dC, dI) vwCl [(h0, .inr (6, [.int 0, .int (1), .int 0, .int 0, .int 0, .int 0, .int (-1), .ref q1, .null, .null])), (q1, .inl (cI, 2, .inl (fun _ => 0))), (q2, .inl (cI, 2, .inl (upd (fun _ => 0) 0 (-1))))] H := hP
  have hD : va_D A [(h0, .inr (6, [.int 0, .int (1), .int 0, .int 0, .int 0, .int 0, .int (-1), .ref q1, .null, .null])), (q1, .inl (cI, 2, .inl (fun _ => 0))), (q2, .inl (cI, 2, .inl (upd (fun _ => 0) 0 (-1))))] := hD
  refine lv_dup hx hb dX6_init_29 rfl ?_
  refine lv_iconst (v := (1)) hx hb dX6_init_30 (by decide) ?_
  refine lv_iconst (v := (-1)) hx hb dX6_init_31 (by decide) ?_
  refine wc_iast (j := 1) hx hb hK hP hD hS 2 1 (f := (upd (fun _ => 0) 0 (-1))) rfl rfl (by decide) (by decide) (by decide) dX6_init_32 (fun H locs hP hD hS => ?_)
  have hP : va_P (dC, dI) vwCl [(h0, .inr (6, [.int 0, .int (1), .int 0, .int 0, .int 0, .int 0, .int (-1), .ref q1, .null, .null])), (q1, .inl (cI, 2, .inl (fun _ => 0))), (q2, .inl (cI, 2, .inl (upd (upd (fun _ => 0) 0 (-1)) 1 (-1))))] H := hP
  have hD : va_D A [(h0, .inr (6, [.int 0, .int (1), .int 0, .int 0, .int 0, .int 0, .int (-1), .ref q1, .null, .null])), (q1, .inl (cI, 2, .inl (fun _ => 0))), (q2, .inl (cI, 2, .inl (upd (upd (fun _ => 0) 0 (-1)) 1 (-1))))] := hD
  refine va_putF (D := (dC, dI)) (ci := 6) (v := .ref q2) (ty := .array .int) (C := RX6) (T := TX6) (N := 10) hx hb hts hinX6 tyX6 tyX6_ok nmX6 hown hK hP hD hS 0 rfl rfl 8 (by decide) f8 (fun _ h9 => h9) rfl hin0 rfl (by decide +kernel) rfl rfl (Nat.le_of_ble_eq_true rfl) dX6_init_33 (fun H locs hP hD hS => ?_)
  have hP : va_P (dC, dI) vwCl [(h0, .inr (6, [.int 0, .int (1), .int 0, .int 0, .int 0, .int 0, .int (-1), .ref q1, .ref q2, .null])), (q1, .inl (cI, 2, .inl (fun _ => 0))), (q2, .inl (cI, 2, .inl (upd (upd (fun _ => 0) 0 (-1)) 1 (-1))))] H := hP
  have hD : va_D A [(h0, .inr (6, [.int 0, .int (1), .int 0, .int 0, .int 0, .int 0, .int (-1), .ref q1, .ref q2, .null])), (q1, .inl (cI, 2, .inl (fun _ => 0))), (q2, .inl (cI, 2, .inl (upd (upd (fun _ => 0) 0 (-1)) 1 (-1))))] := hD
  refine lv_aload_n hx hb dX6_init_36 rfl (lv_at hl 0 rfl) ?_
  refine lv_iconst (v := (2)) hx hb dX6_init_37 (by decide) ?_
  refine wn_I hx hb f6 hK hP hD hS hA (by decide) (by decide : Int32.toNatClampNeg 2 = 2) (Nat.le_of_ble_eq_true rfl) (Nat.le_of_ble_eq_true rfl) (Nat.le_of_ble_eq_true rfl) dX6_init_38 (fun q3 H hP hD hS => ?_)
  have hP : va_P (dC, dI) vwCl [(h0, .inr (6, [.int 0, .int (1), .int 0, .int 0, .int 0, .int 0, .int (-1), .ref q1, .ref q2, .null])), (q1, .inl (cI, 2, .inl (fun _ => 0))), (q2, .inl (cI, 2, .inl (upd (upd (fun _ => 0) 0 (-1)) 1 (-1)))), (q3, .inl (cI, 2, .inl (fun _ => 0)))] H := hP
  have hD : va_D A [(h0, .inr (6, [.int 0, .int (1), .int 0, .int 0, .int 0, .int 0, .int (-1), .ref q1, .ref q2, .null])), (q1, .inl (cI, 2, .inl (fun _ => 0))), (q2, .inl (cI, 2, .inl (upd (upd (fun _ => 0) 0 (-1)) 1 (-1)))), (q3, .inl (cI, 2, .inl (fun _ => 0)))] := hD
  refine va_putF (D := (dC, dI)) (ci := 6) (v := .ref q3) (ty := .array .int) (C := RX6) (T := TX6) (N := 10) hx hb hts hinX6 tyX6 tyX6_ok nmX6 hown hK hP hD hS 0 rfl rfl 9 (by decide) f9 (fun _ h9 => h9) rfl hin0 rfl (by decide +kernel) rfl rfl (Nat.le_of_ble_eq_true rfl) dX6_init_40 (fun H locs hP hD hS => ?_)
  have hP : va_P (dC, dI) vwCl [(h0, .inr (6, [.int 0, .int (1), .int 0, .int 0, .int 0, .int 0, .int (-1), .ref q1, .ref q2, .ref q3])), (q1, .inl (cI, 2, .inl (fun _ => 0))), (q2, .inl (cI, 2, .inl (upd (upd (fun _ => 0) 0 (-1)) 1 (-1)))), (q3, .inl (cI, 2, .inl (fun _ => 0)))] H := hP
  have hD : va_D A [(h0, .inr (6, [.int 0, .int (1), .int 0, .int 0, .int 0, .int 0, .int (-1), .ref q1, .ref q2, .ref q3])), (q1, .inl (cI, 2, .inl (fun _ => 0))), (q2, .inl (cI, 2, .inl (upd (upd (fun _ => 0) 0 (-1)) 1 (-1)))), (q3, .inl (cI, 2, .inl (fun _ => 0)))] := hD
  have hP := hP.sub (ws' := (qrW cB cI cJ cZ h0 (va_up (va_up (va_up (fun _ => 0) 7 q1) 8 q2) 9 q3) (sa (sa (sg (sg zS 1 (1)) 6 (-1)) 8 0 (-1)) 8 1 (-1)))) [0, 1, 2, 3] rfl
  have hD := hD.sub (ws' := (qrW cB cI cJ cZ h0 (va_up (va_up (va_up (fun _ => 0) 7 q1) 8 q2) 9 q3) (sa (sa (sg (sg zS 1 (1)) 6 (-1)) 8 0 (-1)) 8 1 (-1)))) [0, 1, 2, 3] (by decide) rfl
  exact W.vret hx hb hr (fun t ht hW => ⟨⟨((sa (sa (sg (sg zS 1 (1)) 6 (-1)) 8 0 (-1)) 8 1 (-1))), rfl, rfl, (va_up (va_up (va_up (fun _ => 0) 7 q1) 8 q2) 9 q3), by rw [ht]; exact hP, va_K.moved hW.alike hK, hD⟩, hS.F ht⟩) hS.2.2 dX6_init_43
abbrev ruX (dC : Nat → ClassId) (dI : Nat → Nat → Nat) (cB cI cJ cZ : ClassId) (h0 : Nat) (A : Nat → Prop) (u : gS) (t : State) : Prop := match u with
  | (M0) => ∃ (a0 : Nat → Nat), va_P (dC, dI) vwCl (ruW cB cI cJ cZ h0 a0 M0) t.heap ∧ va_K (dC, dI) vwCl (gT cB cI cJ cZ) t ∧ va_D A (ruW cB cI cJ cZ h0 a0 M0)
def rmX8_init : Room := { frames := 1, cells := 4, slots := 484, locals := 12 }
set_option maxHeartbeats 4000000 in
set_option maxRecDepth 100000 in
theorem kX8_init (l : Launch) (dC : Nat → ClassId) (dI : Nat → Nat → Nat) (cB cI cJ cZ : ClassId) (h0 sz : Nat) : Met l yX8_init wsX8_init rmX8_init (va_Pc [.ref h0] (fun U => (U.heap.size = sz ∧ va_P (dC, dI) vwCl [(h0, .inr (8, [.int 0, .null, .null, .null, .int 0, .null]))] U.heap ∧ va_K (dC, dI) vwCl (gT cB cI cJ cZ) U ∧ va_D (fun _ => True) [(h0, .inr (8, [.int 0, .null, .null, .null, .int 0, .null]))]))) (va_Qv (fun (u : gS) => u = zS) (ruX dC dI cB cI cJ cZ h0 (va_A [(h0, .inr (8, [.int 0, .null, .null, .null, .int 0, .null]))] sz)) (va_A [(h0, .inr (8, [.int 0, .null, .null, .null, .int 0, .null]))] sz)) 4 484 (va_A [(h0, .inr (8, [.int 0, .null, .null, .null, .int 0, .null]))] sz) := by
  refine Met.ofW (cc := cX8_init) (maxL := 1) (ret := none) (by decide) rfl ?_
  intro p e s m args below meth c s₁ B hml hv
  obtain ⟨rfl, ⟨hsz, hP, hK, hD0⟩⟩ := hv
  have hx := B.exec
  have hb := B.bytes
  have hr := B.returns
  have hts := atoms_spec (ws := wsX8_init) B.pre
  have hown : s.vm.findClass RX8 = some m.cls := findClass_of_methodNamed B.named
  have hlocks := B.notSynchronized
  have hin0 : meth.name = "<init>" := (name_of_methodNamed B.named B.method).1
  subst hsz
  have hD := hD0.self (sz := s.heap.size)
  generalize hAe : va_A [(h0, .inr (8, [.int 0, .null, .null, .null, .int 0, .null]))] s.heap.size = A at hD ⊢
  have hA : ∀ q : Nat, s.heap.size ≤ q → A q := fun q h => by rw [← hAe]; exact Or.inr h
  have hS : va_S A s.heap s.heap [] := va_S.rf
  have hinX8 : ∀ w ∈ wsX80, w ∈ wsX8_init := by decide +kernel
  have f1 := hts (.methodLink RX8 3 objectInit) (by decide +kernel)
  have f2 := hts (.instanceMethod objectInit) (by decide +kernel)
  have f3 := hts (.code objectInit ⟨#[0xb1]⟩ 1 none) (by decide +kernel)
  have f4 := hts (.arrayClass .int) (by decide +kernel)
  have f5 := hts (.fieldLink RX8 11 "LastWords$Rule" "does" "[I") (by decide +kernel)
  have f6 := hts (.fieldLink RX8 15 "LastWords$Rule" "testStops" "[I") (by decide +kernel)
  have f7 := hts (.fieldLink RX8 18 "LastWords$Rule" "codes" "[I") (by decide +kernel)
  have f8 := hts (.arrayClass .long) (by decide +kernel)
  have f9 := hts (.fieldLink RX8 21 "LastWords$Rule" "stack" "[J") (by decide +kernel)
  have hl := lv_entry ([.ref h0]) (n := 1) (Nat.le_of_ble_eq_true rfl)
  rw [lg_entry_eq]
  generalize (lg_sl ([.ref h0]) ++ List.replicate (1 - (lg_sl ([.ref h0])).length) Slot.unset).toArray = ls at hl ⊢
  have hl : lv_has ls 1 [(0, .ref h0)] := hl
  skip
  refine lv_aload_n hx hb dX8_init_0 rfl (lv_at hl 0 rfl) ?_
  refine W.objInit hx hb hown f1 f2 f3 rfl (by rw [hml]; exact hl.1) rfl dX8_init_1 (Nat.le_of_ble_eq_true rfl) (Nat.le_of_ble_eq_true rfl) ?_
  refine W.eq (g2 := F0 m 4 ls []) rfl ?_
  refine lv_aload_n hx hb dX8_init_4 rfl (lv_at hl 0 rfl) ?_
  refine lv_bipush (v := (12)) hx hb dX8_init_5 (by decide) ?_
  refine wn_I hx hb f4 hK hP hD hS hA (by decide) (by decide : Int32.toNatClampNeg 12 = 12) (Nat.le_of_ble_eq_true rfl) (Nat.le_of_ble_eq_true rfl) (Nat.le_of_ble_eq_true rfl) dX8_init_7 (fun q1 H hP hD hS => ?_)
  have hP : va_P (dC, dI) vwCl [(h0, .inr (8, [.int 0, .null, .null, .null, .int 0, .null])), (q1, .inl (cI, 12, .inl (fun _ => 0)))] H := hP
  have hD : va_D A [(h0, .inr (8, [.int 0, .null, .null, .null, .int 0, .null])), (q1, .inl (cI, 12, .inl (fun _ => 0)))] := hD
  refine va_putF (D := (dC, dI)) (ci := 8) (v := .ref q1) (ty := .array .int) (C := RX8) (T := TX8) (N := 6) hx hb hts hinX8 tyX8 tyX8_ok nmX8 hown hK hP hD hS 0 rfl rfl 1 (by decide) f5 (fun _ h9 => h9) rfl hin0 rfl (by decide +kernel) rfl rfl (Nat.le_of_ble_eq_true rfl) dX8_init_9 (fun H locs hP hD hS => ?_)
  have hP : va_P (dC, dI) vwCl [(h0, .inr (8, [.int 0, .ref q1, .null, .null, .int 0, .null])), (q1, .inl (cI, 12, .inl (fun _ => 0)))] H := hP
  have hD : va_D A [(h0, .inr (8, [.int 0, .ref q1, .null, .null, .int 0, .null])), (q1, .inl (cI, 12, .inl (fun _ => 0)))] := hD
  refine lv_aload_n hx hb dX8_init_12 rfl (lv_at hl 0 rfl) ?_
  refine lv_bipush (v := (12)) hx hb dX8_init_13 (by decide) ?_
  refine wn_I hx hb f4 hK hP hD hS hA (by decide) (by decide : Int32.toNatClampNeg 12 = 12) (Nat.le_of_ble_eq_true rfl) (Nat.le_of_ble_eq_true rfl) (Nat.le_of_ble_eq_true rfl) dX8_init_15 (fun q2 H hP hD hS => ?_)
  have hP : va_P (dC, dI) vwCl [(h0, .inr (8, [.int 0, .ref q1, .null, .null, .int 0, .null])), (q1, .inl (cI, 12, .inl (fun _ => 0))), (q2, .inl (cI, 12, .inl (fun _ => 0)))] H := hP
  have hD : va_D A [(h0, .inr (8, [.int 0, .ref q1, .null, .null, .int 0, .null])), (q1, .inl (cI, 12, .inl (fun _ => 0))), (q2, .inl (cI, 12, .inl (fun _ => 0)))] := hD
  refine va_putF (D := (dC, dI)) (ci := 8) (v := .ref q2) (ty := .array .int) (C := RX8) (T := TX8) (N := 6) hx hb hts hinX8 tyX8 tyX8_ok nmX8 hown hK hP hD hS 0 rfl rfl 2 (by decide) f6 (fun _ h9 => h9) rfl hin0 rfl (by decide +kernel) rfl rfl (Nat.le_of_ble_eq_true rfl) dX8_init_17 (fun H locs hP hD hS => ?_)
  have hP : va_P (dC, dI) vwCl [(h0, .inr (8, [.int 0, .ref q1, .ref q2, .null, .int 0, .null])), (q1, .inl (cI, 12, .inl (fun _ => 0))), (q2, .inl (cI, 12, .inl (fun _ => 0)))] H := hP
  have hD : va_D A [(h0, .inr (8, [.int 0, .ref q1, .ref q2, .null, .int 0, .null])), (q1, .inl (cI, 12, .inl (fun _ => 0))), (q2, .inl (cI, 12, .inl (fun _ => 0)))] := hD
  refine lv_aload_n hx hb dX8_init_20 rfl (lv_at hl 0 rfl) ?_
  refine lv_sipush (v := (400)) hx hb dX8_init_21 (by decide) ?_
  refine wn_I hx hb f4 hK hP hD hS hA (by decide) (by decide : Int32.toNatClampNeg 400 = 400) (Nat.le_of_ble_eq_true rfl) (Nat.le_of_ble_eq_true rfl) (Nat.le_of_ble_eq_true rfl) dX8_init_24 (fun q3 H hP hD hS => ?_)
  have hP : va_P (dC, dI) vwCl [(h0, .inr (8, [.int 0, .ref q1, .ref q2, .null, .int 0, .null])), (q1, .inl (cI, 12, .inl (fun _ => 0))), (q2, .inl (cI, 12, .inl (fun _ => 0))), (q3, .inl (cI, 400, .inl (fun _ => 0)))] H := hP
  have hD : va_D A [(h0, .inr (8, [.int 0, .ref q1, .ref q2, .null, .int 0, .null])), (q1, .inl (cI, 12, .inl (fun _ => 0))), (q2, .inl (cI, 12, .inl (fun _ => 0))), (q3, .inl (cI, 400, .inl (fun _ => 0)))] := hD
  refine va_putF (D := (dC, dI)) (ci := 8) (v := .ref q3) (ty := .array .int) (C := RX8) (T := TX8) (N := 6) hx hb hts hinX8 tyX8 tyX8_ok nmX8 hown hK hP hD hS 0 rfl rfl 3 (by decide) f7 (fun _ h9 => h9) rfl hin0 rfl (by decide +kernel) rfl rfl (Nat.le_of_ble_eq_true rfl) dX8_init_26 (fun H locs hP hD hS => ?_)
  have hP : va_P (dC, dI) vwCl [(h0, .inr (8, [.int 0, .ref q1, .ref q2, .ref q3, .int 0, .null])), (q1, .inl (cI, 12, .inl (fun _ => 0))), (q2, .inl (cI, 12, .inl (fun _ => 0))), (q3, .inl (cI, 400, .inl (fun _ => 0)))] H := hP
  have hD : va_D A [(h0, .inr (8, [.int 0, .ref q1, .ref q2, .ref q3, .int 0, .null])), (q1, .inl (cI, 12, .inl (fun _ => 0))), (q2, .inl (cI, 12, .inl (fun _ => 0))), (q3, .inl (cI, 400, .inl (fun _ => 0)))] := hD
  refine lv_aload_n hx hb dX8_init_29 rfl (lv_at hl 0 rfl) ?_
  refine lv_bipush (v := (60)) hx hb dX8_init_30 (by decide) ?_
  refine wn_J hx hb f8 hK hP hD hS hA (by decide) (by decide : Int32.toNatClampNeg 60 = 60) (Nat.le_of_ble_eq_true rfl) (Nat.le_of_ble_eq_true rfl) (Nat.le_of_ble_eq_true rfl) dX8_init_32 (fun q4 H hP hD hS => ?_)
  have hP : va_P (dC, dI) vwCl [(h0, .inr (8, [.int 0, .ref q1, .ref q2, .ref q3, .int 0, .null])), (q1, .inl (cI, 12, .inl (fun _ => 0))), (q2, .inl (cI, 12, .inl (fun _ => 0))), (q3, .inl (cI, 400, .inl (fun _ => 0))), (q4, .inl (cJ, 60, .inr (.inl (fun _ => 0))))] H := hP
  have hD : va_D A [(h0, .inr (8, [.int 0, .ref q1, .ref q2, .ref q3, .int 0, .null])), (q1, .inl (cI, 12, .inl (fun _ => 0))), (q2, .inl (cI, 12, .inl (fun _ => 0))), (q3, .inl (cI, 400, .inl (fun _ => 0))), (q4, .inl (cJ, 60, .inr (.inl (fun _ => 0))))] := hD
  refine va_putF (D := (dC, dI)) (ci := 8) (v := .ref q4) (ty := .array .long) (C := RX8) (T := TX8) (N := 6) hx hb hts hinX8 tyX8 tyX8_ok nmX8 hown hK hP hD hS 0 rfl rfl 5 (by decide) f9 (fun _ h9 => h9) rfl hin0 rfl (by decide +kernel) rfl rfl (Nat.le_of_ble_eq_true rfl) dX8_init_34 (fun H locs hP hD hS => ?_)
  have hP : va_P (dC, dI) vwCl [(h0, .inr (8, [.int 0, .ref q1, .ref q2, .ref q3, .int 0, .ref q4])), (q1, .inl (cI, 12, .inl (fun _ => 0))), (q2, .inl (cI, 12, .inl (fun _ => 0))), (q3, .inl (cI, 400, .inl (fun _ => 0))), (q4, .inl (cJ, 60, .inr (.inl (fun _ => 0))))] H := hP
  have hD : va_D A [(h0, .inr (8, [.int 0, .ref q1, .ref q2, .ref q3, .int 0, .ref q4])), (q1, .inl (cI, 12, .inl (fun _ => 0))), (q2, .inl (cI, 12, .inl (fun _ => 0))), (q3, .inl (cI, 400, .inl (fun _ => 0))), (q4, .inl (cJ, 60, .inr (.inl (fun _ => 0))))] := hD
  have hP := hP.sub (ws' := (ruW cB cI cJ cZ h0 (va_up (va_up (va_up (va_up (fun _ => 0) 1 q1) 2 q2) 3 q3) 5 q4) zS)) [0, 1, 2, 3, 4] rfl
  have hD := hD.sub (ws' := (ruW cB cI cJ cZ h0 (va_up (va_up (va_up (va_up (fun _ => 0) 1 q1) 2 q2) 3 q3) 5 q4) zS)) [0, 1, 2, 3, 4] (by decide) rfl
  exact W.vret hx hb hr (fun t ht hW => ⟨⟨(zS), rfl, rfl, (va_up (va_up (va_up (va_up (fun _ => 0) 1 q1) 2 q2) 3 q3) 5 q4), by rw [ht]; exact hP, va_K.moved hW.alike hK, hD⟩, hS.F ht⟩) hS.2.2 dX8_init_37
abbrev pnW (cB cI cJ cZ : ClassId) (h0 : Nat) (a0 : Nat → Nat) (o0 : Option Nat) (M0 : gS) : va_W := [(h0, .inr (5, [.ref (a0 0), .ref (a0 1), va_rf o0, .int (mg M0 3)])), (a0 0, .inl (cI, 2048, .inl (ma M0 0))), (a0 1, .inl (cI, 2048, .inl (ma M0 1)))]
abbrev pnI (dC : Nat → ClassId) (dI : Nat → Nat → Nat) (cB cI cJ cZ : ClassId) (h0 : Nat) (a0 : Nat → Nat) (o0 : Option Nat) (M0 : gS) (sz : Nat) : State → Prop := fun U => U.heap.size = sz ∧ va_P (dC, dI) vwCl (pnW cB cI cJ cZ h0 a0 o0 M0) U.heap ∧ va_K (dC, dI) vwCl (gT cB cI cJ cZ) U ∧ va_D (fun _ => True) (pnW cB cI cJ cZ h0 a0 o0 M0)
abbrev pnB (dC : Nat → ClassId) (dI : Nat → Nat → Nat) (cB cI cJ cZ : ClassId) (h0 : Nat) (a0 : Nat → Nat) (o0 : Option Nat) (A : Nat → Prop) (u : gS) (t : State) : Prop := match u with
  | (M0) => va_P (dC, dI) vwCl (pnW cB cI cJ cZ h0 a0 o0 M0) t.heap ∧ va_K (dC, dI) vwCl (gT cB cI cJ cZ) t ∧ va_D A (pnW cB cI cJ cZ h0 a0 o0 M0)
theorem pnP_0_f2 {D : va_G} {H : Heap} {cB cI cJ cZ : ClassId} {h0 : Nat} {a0 : Nat → Nat} {o0 : Option Nat} {M0 : gS} {v : Nat} (h : va_P D vwCl ((pnW cB cI cJ cZ h0 a0 o0 M0).set 0 (h0, .inr (5, ([.ref (a0 0), .ref (a0 1), va_rf o0, .int (mg M0 3)]).set 2 (.ref v)))) H) : va_P D vwCl (pnW cB cI cJ cZ h0 a0 (some v) M0) H := h
theorem pnD_0_f2 {A : Nat → Prop} {cB cI cJ cZ : ClassId} {h0 : Nat} {a0 : Nat → Nat} {o0 : Option Nat} {M0 : gS} {v : Nat} (h : va_D A ((pnW cB cI cJ cZ h0 a0 o0 M0).set 0 (h0, .inr (5, ([.ref (a0 0), .ref (a0 1), va_rf o0, .int (mg M0 3)]).set 2 (.ref v))))) : va_D A (pnW cB cI cJ cZ h0 a0 (some v) M0) := h
theorem pnP_0_f3 {D : va_G} {H : Heap} {cB cI cJ cZ : ClassId} {h0 : Nat} {a0 : Nat → Nat} {o0 : Option Nat} {M0 : gS} {v : Int32} (h : va_P D vwCl ((pnW cB cI cJ cZ h0 a0 o0 M0).set 0 (h0, .inr (5, ([.ref (a0 0), .ref (a0 1), va_rf o0, .int (mg M0 3)]).set 3 (.int v)))) H) : va_P D vwCl (pnW cB cI cJ cZ h0 a0 o0 (sg M0 3 v)) H := h
theorem pnD_0_f3 {A : Nat → Prop} {cB cI cJ cZ : ClassId} {h0 : Nat} {a0 : Nat → Nat} {o0 : Option Nat} {M0 : gS} {v : Int32} (h : va_D A ((pnW cB cI cJ cZ h0 a0 o0 M0).set 0 (h0, .inr (5, ([.ref (a0 0), .ref (a0 1), va_rf o0, .int (mg M0 3)]).set 3 (.int v))))) : va_D A (pnW cB cI cJ cZ h0 a0 o0 (sg M0 3 v)) := h
theorem pnP_0_a0 {D : va_G} {H : Heap} {cB cI cJ cZ : ClassId} {h0 : Nat} {a0 : Nat → Nat} {o0 : Option Nat} {M0 : gS} {j : Nat} {v : Int32} (h : va_P D vwCl ((pnW cB cI cJ cZ h0 a0 o0 M0).set 1 (a0 0, .inl (cI, 2048, .inl (upd (ma M0 0) j v)))) H) : va_P D vwCl (pnW cB cI cJ cZ h0 a0 o0 (sa M0 0 j v)) H := h
theorem pnD_0_a0 {A : Nat → Prop} {cB cI cJ cZ : ClassId} {h0 : Nat} {a0 : Nat → Nat} {o0 : Option Nat} {M0 : gS} {j : Nat} {v : Int32} (h : va_D A ((pnW cB cI cJ cZ h0 a0 o0 M0).set 1 (a0 0, .inl (cI, 2048, .inl (upd (ma M0 0) j v))))) : va_D A (pnW cB cI cJ cZ h0 a0 o0 (sa M0 0 j v)) := h
theorem pnP_0_c0 {D : va_G} {H : Heap} {cB cI cJ cZ : ClassId} {h0 : Nat} {a0 : Nat → Nat} {o0 : Option Nat} {M0 : gS} {f : Nat → Int32} (h : va_P D vwCl ((pnW cB cI cJ cZ h0 a0 o0 M0).set 1 (a0 0, .inl (cI, 2048, .inl f))) H) : va_P D vwCl (pnW cB cI cJ cZ h0 a0 o0 (sF M0 0 f)) H := h
theorem pnD_0_c0 {A : Nat → Prop} {cB cI cJ cZ : ClassId} {h0 : Nat} {a0 : Nat → Nat} {o0 : Option Nat} {M0 : gS} {f : Nat → Int32} (h : va_D A ((pnW cB cI cJ cZ h0 a0 o0 M0).set 1 (a0 0, .inl (cI, 2048, .inl f)))) : va_D A (pnW cB cI cJ cZ h0 a0 o0 (sF M0 0 f)) := h
theorem pnP_0_a1 {D : va_G} {H : Heap} {cB cI cJ cZ : ClassId} {h0 : Nat} {a0 : Nat → Nat} {o0 : Option Nat} {M0 : gS} {j : Nat} {v : Int32} (h : va_P D vwCl ((pnW cB cI cJ cZ h0 a0 o0 M0).set 2 (a0 1, .inl (cI, 2048, .inl (upd (ma M0 1) j v)))) H) : va_P D vwCl (pnW cB cI cJ cZ h0 a0 o0 (sa M0 1 j v)) H := h
theorem pnD_0_a1 {A : Nat → Prop} {cB cI cJ cZ : ClassId} {h0 : Nat} {a0 : Nat → Nat} {o0 : Option Nat} {M0 : gS} {j : Nat} {v : Int32} (h : va_D A ((pnW cB cI cJ cZ h0 a0 o0 M0).set 2 (a0 1, .inl (cI, 2048, .inl (upd (ma M0 1) j v))))) : va_D A (pnW cB cI cJ cZ h0 a0 o0 (sa M0 1 j v)) := h
theorem pnP_0_c1 {D : va_G} {H : Heap} {cB cI cJ cZ : ClassId} {h0 : Nat} {a0 : Nat → Nat} {o0 : Option Nat} {M0 : gS} {f : Nat → Int32} (h : va_P D vwCl ((pnW cB cI cJ cZ h0 a0 o0 M0).set 2 (a0 1, .inl (cI, 2048, .inl f))) H) : va_P D vwCl (pnW cB cI cJ cZ h0 a0 o0 (sF M0 1 f)) H := h
theorem pnD_0_c1 {A : Nat → Prop} {cB cI cJ cZ : ClassId} {h0 : Nat} {a0 : Nat → Nat} {o0 : Option Nat} {M0 : gS} {f : Nat → Int32} (h : va_D A ((pnW cB cI cJ cZ h0 a0 o0 M0).set 2 (a0 1, .inl (cI, 2048, .inl f)))) : va_D A (pnW cB cI cJ cZ h0 a0 o0 (sF M0 1 f)) := h
theorem pnpV {s : State} {dC : Nat → ClassId} {dI : Nat → Nat → Nat} {A : Nat → Prop} {cB cI cJ cZ : ClassId} {h0 : Nat} {a0 : Nat → Nat} {o0 : Option Nat} {M0 : gS} {H : Heap} {As : List Value} (hK : va_K (dC, dI) vwCl (gT cB cI cJ cZ) s) (hP : va_P (dC, dI) vwCl (pnW cB cI cJ cZ h0 a0 o0 M0) H) (hD : va_D A (pnW cB cI cJ cZ h0 a0 o0 M0)) : PreV s H RX5 h0 (va_Pc (.ref h0 :: As) (pnI dC dI cB cI cJ cZ h0 a0 o0 M0 H.size)) As := ⟨fun a U g mk q => by obtain ⟨q0, q1, qP, qK, qD⟩ := q; exact ⟨q0, q1, qP, va_K.moved (u := U) (U := U.calling g mk a) (Vm.Alike.refl U.vm) qK, qD⟩, va_recv hK hP (ci := 5) (q0 := 0) rfl rfl, fun U hU hW => ⟨rfl, by rw [hU], by rw [hU]; exact hP, va_K.moved hW.alike hK, hD.weaken (fun _ _ _ _ => trivial)⟩⟩
theorem pnpS {s : State} {dC : Nat → ClassId} {dI : Nat → Nat → Nat} {A : Nat → Prop} {cB cI cJ cZ : ClassId} {h0 : Nat} {a0 : Nat → Nat} {o0 : Option Nat} {M0 : gS} {H : Heap} {As : List Value} (hK : va_K (dC, dI) vwCl (gT cB cI cJ cZ) s) (hP : va_P (dC, dI) vwCl (pnW cB cI cJ cZ h0 a0 o0 M0) H) (hD : va_D A (pnW cB cI cJ cZ h0 a0 o0 M0)) : PreS s H (va_Pc As (pnI dC dI cB cI cJ cZ h0 a0 o0 M0 H.size)) As := ⟨fun a U g mk q => by obtain ⟨q0, q1, qP, qK, qD⟩ := q; exact ⟨q0, q1, qP, va_K.moved (u := U) (U := U.calling g mk a) (Vm.Alike.refl U.vm) qK, qD⟩, fun U hU hW => ⟨rfl, by rw [hU], by rw [hU]; exact hP, va_K.moved hW.alike hK, hD.weaken (fun _ _ _ _ => trivial)⟩⟩

abbrev pnX (dC : Nat → ClassId) (dI : Nat → Nat → Nat) (cB cI cJ cZ : ClassId) (h0 : Nat) (A : Nat → Prop) (u : gS) (t : State) : Prop := match u with
  | (M0) => ∃ (a0 : Nat → Nat), va_P (dC, dI) vwCl (pnW cB cI cJ cZ h0 a0 none M0) t.heap ∧ va_K (dC, dI) vwCl (gT cB cI cJ cZ) t ∧ va_D A (pnW cB cI cJ cZ h0 a0 none M0)
def rmX5_init : Room := { frames := 1, cells := 2, slots := 4096, locals := 12 }
set_option maxHeartbeats 4000000 in
set_option maxRecDepth 100000 in
theorem kX5_init (l : Launch) (dC : Nat → ClassId) (dI : Nat → Nat → Nat) (cB cI cJ cZ : ClassId) (h0 sz : Nat) : Met l yX5_init wsX5_init rmX5_init (va_Pc [.ref h0] (fun U => (U.heap.size = sz ∧ va_P (dC, dI) vwCl [(h0, .inr (5, [.null, .null, .null, .int 0]))] U.heap ∧ va_K (dC, dI) vwCl (gT cB cI cJ cZ) U ∧ va_D (fun _ => True) [(h0, .inr (5, [.null, .null, .null, .int 0]))]))) (va_Qv (fun (u : gS) => u = zS) (pnX dC dI cB cI cJ cZ h0 (va_A [(h0, .inr (5, [.null, .null, .null, .int 0]))] sz)) (va_A [(h0, .inr (5, [.null, .null, .null, .int 0]))] sz)) 2 4096 (va_A [(h0, .inr (5, [.null, .null, .null, .int 0]))] sz) := by
  refine Met.ofW (cc := cX5_init) (maxL := 1) (ret := none) (by decide) rfl ?_
  intro p e s m args below meth c s₁ B hml hv
  obtain ⟨rfl, ⟨hsz, hP, hK, hD0⟩⟩ := hv
  have hx := B.exec
  have hb := B.bytes
  have hr := B.returns
  have hts := atoms_spec (ws := wsX5_init) B.pre
  have hown : s.vm.findClass RX5 = some m.cls := findClass_of_methodNamed B.named
  have hlocks := B.notSynchronized
  have hin0 : meth.name = "<init>" := (name_of_methodNamed B.named B.method).1
  subst hsz
  have hD := hD0.self (sz := s.heap.size)
  generalize hAe : va_A [(h0, .inr (5, [.null, .null, .null, .int 0]))] s.heap.size = A at hD ⊢
  have hA : ∀ q : Nat, s.heap.size ≤ q → A q := fun q h => by rw [← hAe]; exact Or.inr h
  have hS : va_S A s.heap s.heap [] := va_S.rf
  have hinX5 : ∀ w ∈ wsX50, w ∈ wsX5_init := by decide +kernel
  have f1 := hts (.methodLink RX5 3 objectInit) (by decide +kernel)
  have f2 := hts (.instanceMethod objectInit) (by decide +kernel)
  have f3 := hts (.code objectInit ⟨#[0xb1]⟩ 1 none) (by decide +kernel)
  have f4 := hts (.arrayClass .int) (by decide +kernel)
  have f5 := hts (.fieldLink RX5 11 "LastWords$PlayCounter" "keys" "[I") (by decide +kernel)
  have f6 := hts (.fieldLink RX5 15 "LastWords$PlayCounter" "totals" "[I") (by decide +kernel)
  have hl := lv_entry ([.ref h0]) (n := 1) (Nat.le_of_ble_eq_true rfl)
  rw [lg_entry_eq]
  generalize (lg_sl ([.ref h0]) ++ List.replicate (1 - (lg_sl ([.ref h0])).length) Slot.unset).toArray = ls at hl ⊢
  have hl : lv_has ls 1 [(0, .ref h0)] := hl
  skip
  refine lv_aload_n hx hb dX5_init_0 rfl (lv_at hl 0 rfl) ?_
  refine W.objInit hx hb hown f1 f2 f3 rfl (by rw [hml]; exact hl.1) rfl dX5_init_1 (Nat.le_of_ble_eq_true rfl) (Nat.le_of_ble_eq_true rfl) ?_
  refine W.eq (g2 := F0 m 4 ls []) rfl ?_
  refine lv_aload_n hx hb dX5_init_4 rfl (lv_at hl 0 rfl) ?_
  refine lv_sipush (v := (2048)) hx hb dX5_init_5 (by decide) ?_
  refine wn_I hx hb f4 hK hP hD hS hA (by decide) (by decide : Int32.toNatClampNeg 2048 = 2048) (Nat.le_of_ble_eq_true rfl) (Nat.le_of_ble_eq_true rfl) (Nat.le_of_ble_eq_true rfl) dX5_init_8 (fun q1 H hP hD hS => ?_)
  have hP : va_P (dC, dI) vwCl [(h0, .inr (5, [.null, .null, .null, .int 0])), (q1, .inl (cI, 2048, .inl (fun _ => 0)))] H := hP
  have hD : va_D A [(h0, .inr (5, [.null, .null, .null, .int 0])), (q1, .inl (cI, 2048, .inl (fun _ => 0)))] := hD
  refine va_putF (D := (dC, dI)) (ci := 5) (v := .ref q1) (ty := .array .int) (C := RX5) (T := TX5) (N := 4) hx hb hts hinX5 tyX5 tyX5_ok nmX5 hown hK hP hD hS 0 rfl rfl 0 (by decide) f5 (fun _ h9 => h9) rfl hin0 rfl (by decide +kernel) rfl rfl (Nat.le_of_ble_eq_true rfl) dX5_init_10 (fun H locs hP hD hS => ?_)
  have hP : va_P (dC, dI) vwCl [(h0, .inr (5, [.ref q1, .null, .null, .int 0])), (q1, .inl (cI, 2048, .inl (fun _ => 0)))] H := hP
  have hD : va_D A [(h0, .inr (5, [.ref q1, .null, .null, .int 0])), (q1, .inl (cI, 2048, .inl (fun _ => 0)))] := hD
  refine lv_aload_n hx hb dX5_init_13 rfl (lv_at hl 0 rfl) ?_
  refine lv_sipush (v := (2048)) hx hb dX5_init_14 (by decide) ?_
  refine wn_I hx hb f4 hK hP hD hS hA (by decide) (by decide : Int32.toNatClampNeg 2048 = 2048) (Nat.le_of_ble_eq_true rfl) (Nat.le_of_ble_eq_true rfl) (Nat.le_of_ble_eq_true rfl) dX5_init_17 (fun q2 H hP hD hS => ?_)
  have hP : va_P (dC, dI) vwCl [(h0, .inr (5, [.ref q1, .null, .null, .int 0])), (q1, .inl (cI, 2048, .inl (fun _ => 0))), (q2, .inl (cI, 2048, .inl (fun _ => 0)))] H := hP
  have hD : va_D A [(h0, .inr (5, [.ref q1, .null, .null, .int 0])), (q1, .inl (cI, 2048, .inl (fun _ => 0))), (q2, .inl (cI, 2048, .inl (fun _ => 0)))] := hD
  refine va_putF (D := (dC, dI)) (ci := 5) (v := .ref q2) (ty := .array .int) (C := RX5) (T := TX5) (N := 4) hx hb hts hinX5 tyX5 tyX5_ok nmX5 hown hK hP hD hS 0 rfl rfl 1 (by decide) f6 (fun _ h9 => h9) rfl hin0 rfl (by decide +kernel) rfl rfl (Nat.le_of_ble_eq_true rfl) dX5_init_19 (fun H locs hP hD hS => ?_)
  have hP : va_P (dC, dI) vwCl [(h0, .inr (5, [.ref q1, .ref q2, .null, .int 0])), (q1, .inl (cI, 2048, .inl (fun _ => 0))), (q2, .inl (cI, 2048, .inl (fun _ => 0)))] H := hP
  have hD : va_D A [(h0, .inr (5, [.ref q1, .ref q2, .null, .int 0])), (q1, .inl (cI, 2048, .inl (fun _ => 0))), (q2, .inl (cI, 2048, .inl (fun _ => 0)))] := hD
  have hP := hP.sub (ws' := (pnW cB cI cJ cZ h0 (va_up (va_up (fun _ => 0) 0 q1) 1 q2) none zS)) [0, 1, 2] rfl
  have hD := hD.sub (ws' := (pnW cB cI cJ cZ h0 (va_up (va_up (fun _ => 0) 0 q1) 1 q2) none zS)) [0, 1, 2] (by decide) rfl
  exact W.vret hx hb hr (fun t ht hW => ⟨⟨(zS), rfl, rfl, (va_up (va_up (fun _ => 0) 0 q1) 1 q2), by rw [ht]; exact hP, va_K.moved hW.alike hK, hD⟩, hS.F ht⟩) hS.2.2 dX5_init_22
abbrev stX (dC : Nat → ClassId) (dI : Nat → Nat → Nat) (cB cI cJ cZ : ClassId) (h0 : Nat) (A : Nat → Prop) (u : gS × gS × gS × gS) (t : State) : Prop := match u with
  | (M0, M1, M2, M3) => ∃ (a0 a1 a2 a3 : Nat → Nat), va_P (dC, dI) vwCl (stW cB cI cJ cZ h0 a0 a1 a2 a3 M0 M1 M2 M3) t.heap ∧ va_K (dC, dI) vwCl (gT cB cI cJ cZ) t ∧ va_D A (stW cB cI cJ cZ h0 a0 a1 a2 a3 M0 M1 M2 M3)
def rmX10_init : Room := { frames := 2, cells := 13, slots := 56, locals := 32 }
set_option maxHeartbeats 4000000 in
set_option maxRecDepth 100000 in
theorem kX10_init (l : Launch) (dC : Nat → ClassId) (dI : Nat → Nat → Nat) (cB cI cJ cZ : ClassId) (adK : Nat → Nat) (h0 sz : Nat) : Met l yX10_init wsX10_init rmX10_init (va_Pc [.ref h0] (fun U => (U.heap.size = sz ∧ va_P (dC, dI) vwCl [(h0, .inr (10, [.null, .null, .null, .null, .int 0]))] U.heap ∧ va_K (dC, dI) vwCl (gT cB cI cJ cZ) U ∧ va_D (fun _ => True) [(h0, .inr (10, [.null, .null, .null, .null, .int 0]))]) ∧ sR adK U)) (va_Qv (fun (u : gS × gS × gS × gS) => u.1 = zS ∧ u.2.1 = zS ∧ u.2.2.1 = (sa (sa (sg (sg zS 1 (1)) 6 (-1)) 8 0 (-1)) 8 1 (-1)) ∧ u.2.2.2 = zS) (stX dC dI cB cI cJ cZ h0 (va_A [(h0, .inr (10, [.null, .null, .null, .null, .int 0]))] sz)) (va_A [(h0, .inr (10, [.null, .null, .null, .null, .int 0]))] sz)) 13 56 (va_A [(h0, .inr (10, [.null, .null, .null, .null, .int 0]))] sz) := by
  refine Met.ofW (cc := cX10_init) (maxL := 1) (ret := none) (by decide) rfl ?_
  intro p e s m args below meth c s₁ B hml hv
  obtain ⟨rfl, ⟨hsz, hP, hK, hD0⟩, hR⟩ := hv
  have hx := B.exec
  have hb := B.bytes
  have hr := B.returns
  have hts := atoms_spec (ws := wsX10_init) B.pre
  have hown : s.vm.findClass RX10 = some m.cls := findClass_of_methodNamed B.named
  have hlocks := B.notSynchronized
  have hin0 : meth.name = "<init>" := (name_of_methodNamed B.named B.method).1
  subst hsz
  have hD := hD0.self (sz := s.heap.size)
  generalize hAe : va_A [(h0, .inr (10, [.null, .null, .null, .null, .int 0]))] s.heap.size = A at hD ⊢
  have hA : ∀ q : Nat, s.heap.size ≤ q → A q := fun q h => by rw [← hAe]; exact Or.inr h
  have hS : va_S A s.heap s.heap [] := va_S.rf
  have hinX1 : ∀ w ∈ wsX10, w ∈ wsX10_init := by decide +kernel
  have hinX10 : ∀ w ∈ wsX100, w ∈ wsX10_init := by decide +kernel
  have hinX4 : ∀ w ∈ wsX40, w ∈ wsX10_init := by decide +kernel
  have hinX6 : ∀ w ∈ wsX60, w ∈ wsX10_init := by decide +kernel
  have f1 := hts (.methodLink RX10 1 objectInit) (by decide +kernel)
  have f2 := hts (.instanceMethod objectInit) (by decide +kernel)
  have f3 := hts (.code objectInit ⟨#[0xb1]⟩ 1 none) (by decide +kernel)
  have f4 := hts (.classLink RX10 7 RX1) (by decide +kernel)
  have f5 := hts (.instantiable RX1 6) (by decide +kernel)
  have f6 := hts (.initialized RX1) (by decide +kernel)
  have f7 := hts (.instanceMethod yX1_init) (by decide +kernel)
  have f8 := hts (.fieldLink RX10 10 "LastWords$State" "corner" "LLastWords$Corner;") (by decide +kernel)
  have f9 := hts (.classLink RX10 16 RX6) (by decide +kernel)
  have f10 := hts (.instantiable RX6 10) (by decide +kernel)
  have f11 := hts (.initialized RX6) (by decide +kernel)
  have f12 := hts (.instanceMethod yX6_init) (by decide +kernel)
  have f13 := hts (.fieldLink RX10 19 "LastWords$State" "quarrel" "LLastWords$Quarrel;") (by decide +kernel)
  have f14 := hts (.classLink RX10 23 RX4) (by decide +kernel)
  have f15 := hts (.instantiable RX4 4) (by decide +kernel)
  have f16 := hts (.initialized RX4) (by decide +kernel)
  have f17 := hts (.instanceMethod yX4_init) (by decide +kernel)
  have f18 := hts (.fieldLink RX10 26 "LastWords$State" "organ" "LLastWords$Organ;") (by decide +kernel)
  have f19 := hts (.arrayClass .int) (by decide +kernel)
  have f20 := hts (.fieldLink RX10 30 "LastWords$State" "won" "[I") (by decide +kernel)
  have hl := lv_entry ([.ref h0]) (n := 1) (Nat.le_of_ble_eq_true rfl)
  rw [lg_entry_eq]
  generalize (lg_sl ([.ref h0]) ++ List.replicate (1 - (lg_sl ([.ref h0])).length) Slot.unset).toArray = ls at hl ⊢
  have hl : lv_has ls 1 [(0, .ref h0)] := hl
  skip
  refine lv_aload_n hx hb dX10_init_0 rfl (lv_at hl 0 rfl) ?_
  refine W.objInit hx hb hown f1 f2 f3 rfl (by rw [hml]; exact hl.1) rfl dX10_init_1 (Nat.le_of_ble_eq_true rfl) (Nat.le_of_ble_eq_true rfl) ?_
  refine W.eq (g2 := F0 m 4 ls []) rfl ?_
  refine lv_aload_n hx hb dX10_init_4 rfl (lv_at hl 0 rfl) ?_
  refine va_new (ci := 1) (fs := [.int 0, .null, .int 0, .null, .int 0, .null]) (C := RX1) (T := TX1) (N := 6) hx hb hts hinX1 tyX1 tyX1_ok hown f4 f5 f6 hK hP hD hS hA rfl (fun j hj => by rcases (show j = 0 ∨ j = 1 ∨ j = 2 ∨ j = 3 ∨ j = 4 ∨ j = 5 by omega) with rfl | rfl | rfl | rfl | rfl | rfl <;> rfl) (Nat.le_of_ble_eq_true rfl) (Nat.le_of_ble_eq_true rfl) dX10_init_5 (fun q1 H hP hD hS => ?_)
  have hP : va_P (dC, dI) vwCl [(h0, .inr (10, [.null, .null, .null, .null, .int 0])), (q1, .inr (1, [.int 0, .null, .int 0, .null, .int 0, .null]))] H := hP
  have hD : va_D A [(h0, .inr (10, [.null, .null, .null, .null, .int 0])), (q1, .inr (1, [.int 0, .null, .int 0, .null, .int 0, .null]))] := hD
  refine lv_dup hx hb dX10_init_8 rfl ?_
  have hPc := hP.sub (ws' := [(q1, .inr (1, [.int 0, .null, .int 0, .null, .int 0, .null]))]) [1] rfl
  have hDc := hD.sub (ws' := [(q1, .inr (1, [.int 0, .null, .int 0, .null, .int 0, .null]))]) [1] (by decide) rfl
  have hFc := va_free (wc := [(q1, .inr (1, [.int 0, .null, .int 0, .null, .int 0, .null]))]) hD hS hA [1] rfl
  refine va_callv (va_runIN (As := []) (rest := [.ref q1, .ref h0]) ⟨hx, hb, hml, hown, hts⟩ (kX1_init l dC dI cB cI cJ cZ q1 H.size) ⟨va_cnB 0 hts gX10_init_X1_init_n9 rfl rfl rfl hR.n_RX10_9 f6 (by decide +kernel) ⟨Nat.le_of_ble_eq_true rfl, Nat.le_of_ble_eq_true rfl⟩, rfl, f7⟩ ⟨fun a U g mk q => by obtain ⟨q0, ⟨q1, qP, qK, qD⟩⟩ := q; exact ⟨q0, ⟨q1, qP, va_K.moved (u := U) (U := U.calling g mk a) (Vm.Alike.refl U.vm) qK, qD⟩⟩, fun U hU hW => ⟨rfl, ⟨by rw [hU], by rw [hU]; exact hPc, va_K.moved hW.alike hK, hDc.weaken (fun _ _ _ _ => trivial)⟩⟩⟩ rfl rfl hl.1 rfl (lv_room (Nat.le_of_ble_eq_true rfl)) dX10_init_9 ⟨Nat.le_of_ble_eq_true rfl, Nat.le_of_ble_eq_true rfl⟩) hS (fun q _ z => hFc q z) hFc (fun u t H1 locs ht hvm hw hB hz1 hk1 hS => ?_)
  obtain ⟨U3, rfl⟩ : ∃ z, z = u := ⟨_, rfl⟩
  obtain ⟨b2, hP1, hK1, hD1⟩ := hB
  rw [ht] at hP1
  obtain ⟨hP, hD⟩ := va_join (wr := [(h0, .inr (10, [.null, .null, .null, .null, .int 0]))]) (w1 := (cnW cB cI cJ cZ q1 b2 U3)) hP hD [1] [0] rfl rfl (by decide) (by decide) hk1 hFc hP1 hD1
  generalize H1 = H at hP hS ⊢
  have hP : va_P (dC, dI) vwCl [(h0, .inr (10, [.null, .null, .null, .null, .int 0])), (q1, .inr (1, [.int (mg U3 0), .ref (b2 1), .int (mg U3 2), .ref (b2 3), .int (mg U3 4), .ref (b2 5)])), (b2 1, .inl (cI, 4, .inl (ma U3 1))), (b2 3, .inl (cI, 4, .inl (ma U3 3))), (b2 5, .inl (cI, 2, .inl (ma U3 5)))] H := hP
  have hD : va_D A [(h0, .inr (10, [.null, .null, .null, .null, .int 0])), (q1, .inr (1, [.int (mg U3 0), .ref (b2 1), .int (mg U3 2), .ref (b2 3), .int (mg U3 4), .ref (b2 5)])), (b2 1, .inl (cI, 4, .inl (ma U3 1))), (b2 3, .inl (cI, 4, .inl (ma U3 3))), (b2 5, .inl (cI, 2, .inl (ma U3 5)))] := hD
  have w4 : U3 = zS := hw
  refine va_putF (D := (dC, dI)) (ci := 10) (v := .ref q1) (ty := .object "LastWords$Corner") (C := RX10) (T := TX10) (N := 5) hx hb hts hinX10 tyX10 tyX10_ok nmX10 hown hK hP hD hS 0 rfl rfl 0 (by decide) f8 (fun _ h9 => h9) rfl hin0 rfl (by decide +kernel) rfl rfl (Nat.le_of_ble_eq_true rfl) dX10_init_12 (fun H locs hP hD hS => ?_)
  have hP : va_P (dC, dI) vwCl [(h0, .inr (10, [.ref q1, .null, .null, .null, .int 0])), (q1, .inr (1, [.int (mg U3 0), .ref (b2 1), .int (mg U3 2), .ref (b2 3), .int (mg U3 4), .ref (b2 5)])), (b2 1, .inl (cI, 4, .inl (ma U3 1))), (b2 3, .inl (cI, 4, .inl (ma U3 3))), (b2 5, .inl (cI, 2, .inl (ma U3 5)))] H := hP
  have hD : va_D A [(h0, .inr (10, [.ref q1, .null, .null, .null, .int 0])), (q1, .inr (1, [.int (mg U3 0), .ref (b2 1), .int (mg U3 2), .ref (b2 3), .int (mg U3 4), .ref (b2 5)])), (b2 1, .inl (cI, 4, .inl (ma U3 1))), (b2 3, .inl (cI, 4, .inl (ma U3 3))), (b2 5, .inl (cI, 2, .inl (ma U3 5)))] := hD
  refine lv_aload_n hx hb dX10_init_15 rfl (lv_at hl 0 rfl) ?_
  refine va_new (ci := 6) (fs := [.int 0, .int 0, .int 0, .int 0, .int 0, .int 0, .int 0, .null, .null, .null]) (C := RX6) (T := TX6) (N := 10) hx hb hts hinX6 tyX6 tyX6_ok hown f9 f10 f11 hK hP hD hS hA rfl (fun j hj => by rcases (show j = 0 ∨ j = 1 ∨ j = 2 ∨ j = 3 ∨ j = 4 ∨ j = 5 ∨ j = 6 ∨ j = 7 ∨ j = 8 ∨ j = 9 by omega) with rfl | rfl | rfl | rfl | rfl | rfl | rfl | rfl | rfl | rfl <;> rfl) (Nat.le_of_ble_eq_true rfl) (Nat.le_of_ble_eq_true rfl) dX10_init_16 (fun q5 H hP hD hS => ?_)
  have hP : va_P (dC, dI) vwCl [(h0, .inr (10, [.ref q1, .null, .null, .null, .int 0])), (q1, .inr (1, [.int (mg U3 0), .ref (b2 1), .int (mg U3 2), .ref (b2 3), .int (mg U3 4), .ref (b2 5)])), (b2 1, .inl (cI, 4, .inl (ma U3 1))), (b2 3, .inl (cI, 4, .inl (ma U3 3))), (b2 5, .inl (cI, 2, .inl (ma U3 5))), (q5, .inr (6, [.int 0, .int 0, .int 0, .int 0, .int 0, .int 0, .int 0, .null, .null, .null]))] H := hP
  have hD : va_D A [(h0, .inr (10, [.ref q1, .null, .null, .null, .int 0])), (q1, .inr (1, [.int (mg U3 0), .ref (b2 1), .int (mg U3 2), .ref (b2 3), .int (mg U3 4), .ref (b2 5)])), (b2 1, .inl (cI, 4, .inl (ma U3 1))), (b2 3, .inl (cI, 4, .inl (ma U3 3))), (b2 5, .inl (cI, 2, .inl (ma U3 5))), (q5, .inr (6, [.int 0, .int 0, .int 0, .int 0, .int 0, .int 0, .int 0, .null, .null, .null]))] := hD
  refine lv_dup hx hb dX10_init_19 rfl ?_
  have hPc := hP.sub (ws' := [(q5, .inr (6, [.int 0, .int 0, .int 0, .int 0, .int 0, .int 0, .int 0, .null, .null, .null]))]) [5] rfl
  have hDc := hD.sub (ws' := [(q5, .inr (6, [.int 0, .int 0, .int 0, .int 0, .int 0, .int 0, .int 0, .null, .null, .null]))]) [5] (by decide) rfl
  have hFc := va_free (wc := [(q5, .inr (6, [.int 0, .int 0, .int 0, .int 0, .int 0, .int 0, .int 0, .null, .null, .null]))]) hD hS hA [5] rfl
  refine va_callv (va_runIN (As := []) (rest := [.ref q5, .ref h0]) ⟨hx, hb, hml, hown, hts⟩ (kX6_init l dC dI cB cI cJ cZ q5 H.size) ⟨va_cnB 0 hts gX10_init_X6_init_n18 rfl rfl rfl hR.n_RX10_18 f11 (by decide +kernel) ⟨Nat.le_of_ble_eq_true rfl, Nat.le_of_ble_eq_true rfl⟩, rfl, f12⟩ ⟨fun a U g mk q => by obtain ⟨q0, ⟨q1, qP, qK, qD⟩⟩ := q; exact ⟨q0, ⟨q1, qP, va_K.moved (u := U) (U := U.calling g mk a) (Vm.Alike.refl U.vm) qK, qD⟩⟩, fun U hU hW => ⟨rfl, ⟨by rw [hU], by rw [hU]; exact hPc, va_K.moved hW.alike hK, hDc.weaken (fun _ _ _ _ => trivial)⟩⟩⟩ rfl rfl hl.1 rfl (lv_room (Nat.le_of_ble_eq_true rfl)) dX10_init_20 ⟨Nat.le_of_ble_eq_true rfl, Nat.le_of_ble_eq_true rfl⟩) hS (fun q _ z => hFc q z) hFc (fun u t H1 locs ht hvm hw hB hz1 hk1 hS => ?_)
  obtain ⟨U7, rfl⟩ : ∃ z, z = u := ⟨_, rfl⟩
  obtain ⟨b6, hP1, hK1, hD1⟩ := hB
  rw [ht] at hP1
  obtain ⟨hP, hD⟩ := va_join (wr := [(h0, .inr (10, [.ref q1, .null, .null, .null, .int 0])), (q1, .inr (1, [.int (mg U3 0), .ref (b2 1), .int (mg U3 2), .ref (b2 3), .int (mg U3 4), .ref (b2 5)])), (b2 1, .inl (cI, 4, .inl (ma U3 1))), (b2 3, .inl (cI, 4, .inl (ma U3 3))), (b2 5, .inl (cI, 2, .inl (ma U3 5)))]) (w1 := (qrW cB cI cJ cZ q5 b6 U7)) hP hD [5] [0, 1, 2, 3, 4] rfl rfl (by decide) (by decide) hk1 hFc hP1 hD1
  generalize H1 = H at hP hS ⊢
  have hP : va_P (dC, dI) vwCl [(h0, .inr (10, [.ref q1, .null, .null, .null, .int 0])), (q1, .inr (1, [.int (mg U3 0), .ref (b2 1), .int (mg U3 2), .ref (b2 3), .int (mg U3 4), .ref (b2 5)])), (b2 1, .inl (cI, 4, .inl (ma U3 1))), (b2 3, .inl (cI, 4, .inl (ma U3 3))), (b2 5, .inl (cI, 2, .inl (ma U3 5))), (q5, .inr (6, [.int (mg U7 0), .int (mg U7 1), .int (mg U7 2), .int (mg U7 3), .int (mg U7 4), .int (mg U7 5), .int (mg U7 6), .ref (b6 7), .ref (b6 8), .ref (b6 9)])), (b6 7, .inl (cI, 2, .inl (ma U7 7))), (b6 8, .inl (cI, 2, .inl (ma U7 8))), (b6 9, .inl (cI, 2, .inl (ma U7 9)))] H := hP
  have hD : va_D A [(h0, .inr (10, [.ref q1, .null, .null, .null, .int 0])), (q1, .inr (1, [.int (mg U3 0), .ref (b2 1), .int (mg U3 2), .ref (b2 3), .int (mg U3 4), .ref (b2 5)])), (b2 1, .inl (cI, 4, .inl (ma U3 1))), (b2 3, .inl (cI, 4, .inl (ma U3 3))), (b2 5, .inl (cI, 2, .inl (ma U3 5))), (q5, .inr (6, [.int (mg U7 0), .int (mg U7 1), .int (mg U7 2), .int (mg U7 3), .int (mg U7 4), .int (mg U7 5), .int (mg U7 6), .ref (b6 7), .ref (b6 8), .ref (b6 9)])), (b6 7, .inl (cI, 2, .inl (ma U7 7))), (b6 8, .inl (cI, 2, .inl (ma U7 8))), (b6 9, .inl (cI, 2, .inl (ma U7 9)))] := hD
  have w8 : U7 = (sa (sa (sg (sg zS 1 (1)) 6 (-1)) 8 0 (-1)) 8 1 (-1)) := hw
  refine va_putF (D := (dC, dI)) (ci := 10) (v := .ref q5) (ty := .object "LastWords$Quarrel") (C := RX10) (T := TX10) (N := 5) hx hb hts hinX10 tyX10 tyX10_ok nmX10 hown hK hP hD hS 0 rfl rfl 1 (by decide) f13 (fun _ h9 => h9) rfl hin0 rfl (by decide +kernel) rfl rfl (Nat.le_of_ble_eq_true rfl) dX10_init_23 (fun H locs hP hD hS => ?_)
  have hP : va_P (dC, dI) vwCl [(h0, .inr (10, [.ref q1, .ref q5, .null, .null, .int 0])), (q1, .inr (1, [.int (mg U3 0), .ref (b2 1), .int (mg U3 2), .ref (b2 3), .int (mg U3 4), .ref (b2 5)])), (b2 1, .inl (cI, 4, .inl (ma U3 1))), (b2 3, .inl (cI, 4, .inl (ma U3 3))), (b2 5, .inl (cI, 2, .inl (ma U3 5))), (q5, .inr (6, [.int (mg U7 0), .int (mg U7 1), .int (mg U7 2), .int (mg U7 3), .int (mg U7 4), .int (mg U7 5), .int (mg U7 6), .ref (b6 7), .ref (b6 8), .ref (b6 9)])), (b6 7, .inl (cI, 2, .inl (ma U7 7))), (b6 8, .inl (cI, 2, .inl (ma U7 8))), (b6 9, .inl (cI, 2, .inl (ma U7 9)))] H := hP
  have hD : va_D A [(h0, .inr (10, [.ref q1, .ref q5, .null, .null, .int 0])), (q1, .inr (1, [.int (mg U3 0), .ref (b2 1), .int (mg U3 2), .ref (b2 3), .int (mg U3 4), .ref (b2 5)])), (b2 1, .inl (cI, 4, .inl (ma U3 1))), (b2 3, .inl (cI, 4, .inl (ma U3 3))), (b2 5, .inl (cI, 2, .inl (ma U3 5))), (q5, .inr (6, [.int (mg U7 0), .int (mg U7 1), .int (mg U7 2), .int (mg U7 3), .int (mg U7 4), .int (mg U7 5), .int (mg U7 6), .ref (b6 7), .ref (b6 8), .ref (b6 9)])), (b6 7, .inl (cI, 2, .inl (ma U7 7))), (b6 8, .inl (cI, 2, .inl (ma U7 8))), (b6 9, .inl (cI, 2, .inl (ma U7 9)))] := hD
  refine lv_aload_n hx hb dX10_init_26 rfl (lv_at hl 0 rfl) ?_
  refine va_new (ci := 4) (fs := [.int 0, .null, .null, .null]) (C := RX4) (T := TX4) (N := 4) hx hb hts hinX4 tyX4 tyX4_ok hown f14 f15 f16 hK hP hD hS hA rfl (fun j hj => by rcases (show j = 0 ∨ j = 1 ∨ j = 2 ∨ j = 3 by omega) with rfl | rfl | rfl | rfl <;> rfl) (Nat.le_of_ble_eq_true rfl) (Nat.le_of_ble_eq_true rfl) dX10_init_27 (fun q9 H hP hD hS => ?_)
  have hP : va_P (dC, dI) vwCl [(h0, .inr (10, [.ref q1, .ref q5, .null, .null, .int 0])), (q1, .inr (1, [.int (mg U3 0), .ref (b2 1), .int (mg U3 2), .ref (b2 3), .int (mg U3 4), .ref (b2 5)])), (b2 1, .inl (cI, 4, .inl (ma U3 1))), (b2 3, .inl (cI, 4, .inl (ma U3 3))), (b2 5, .inl (cI, 2, .inl (ma U3 5))), (q5, .inr (6, [.int (mg U7 0), .int (mg U7 1), .int (mg U7 2), .int (mg U7 3), .int (mg U7 4), .int (mg U7 5), .int (mg U7 6), .ref (b6 7), .ref (b6 8), .ref (b6 9)])), (b6 7, .inl (cI, 2, .inl (ma U7 7))), (b6 8, .inl (cI, 2, .inl (ma U7 8))), (b6 9, .inl (cI, 2, .inl (ma U7 9))), (q9, .inr (4, [.int 0, .null, .null, .null]))] H := hP
  have hD : va_D A [(h0, .inr (10, [.ref q1, .ref q5, .null, .null, .int 0])), (q1, .inr (1, [.int (mg U3 0), .ref (b2 1), .int (mg U3 2), .ref (b2 3), .int (mg U3 4), .ref (b2 5)])), (b2 1, .inl (cI, 4, .inl (ma U3 1))), (b2 3, .inl (cI, 4, .inl (ma U3 3))), (b2 5, .inl (cI, 2, .inl (ma U3 5))), (q5, .inr (6, [.int (mg U7 0), .int (mg U7 1), .int (mg U7 2), .int (mg U7 3), .int (mg U7 4), .int (mg U7 5), .int (mg U7 6), .ref (b6 7), .ref (b6 8), .ref (b6 9)])), (b6 7, .inl (cI, 2, .inl (ma U7 7))), (b6 8, .inl (cI, 2, .inl (ma U7 8))), (b6 9, .inl (cI, 2, .inl (ma U7 9))), (q9, .inr (4, [.int 0, .null, .null, .null]))] := hD
  refine lv_dup hx hb dX10_init_30 rfl ?_
  have hPc := hP.sub (ws' := [(q9, .inr (4, [.int 0, .null, .null, .null]))]) [9] rfl
  have hDc := hD.sub (ws' := [(q9, .inr (4, [.int 0, .null, .null, .null]))]) [9] (by decide) rfl
  have hFc := va_free (wc := [(q9, .inr (4, [.int 0, .null, .null, .null]))]) hD hS hA [9] rfl
  refine va_callv (va_runIN (As := []) (rest := [.ref q9, .ref h0]) ⟨hx, hb, hml, hown, hts⟩ (kX4_init l dC dI cB cI cJ cZ q9 H.size) ⟨va_cnB 0 hts gX10_init_X4_init_n25 rfl rfl rfl hR.n_RX10_25 f16 (by decide +kernel) ⟨Nat.le_of_ble_eq_true rfl, Nat.le_of_ble_eq_true rfl⟩, rfl, f17⟩ ⟨fun a U g mk q => by obtain ⟨q0, ⟨q1, qP, qK, qD⟩⟩ := q; exact ⟨q0, ⟨q1, qP, va_K.moved (u := U) (U := U.calling g mk a) (Vm.Alike.refl U.vm) qK, qD⟩⟩, fun U hU hW => ⟨rfl, ⟨by rw [hU], by rw [hU]; exact hPc, va_K.moved hW.alike hK, hDc.weaken (fun _ _ _ _ => trivial)⟩⟩⟩ rfl rfl hl.1 rfl (lv_room (Nat.le_of_ble_eq_true rfl)) dX10_init_31 ⟨Nat.le_of_ble_eq_true rfl, Nat.le_of_ble_eq_true rfl⟩) hS (fun q _ z => hFc q z) hFc (fun u t H1 locs ht hvm hw hB hz1 hk1 hS => ?_)
  obtain ⟨U11, rfl⟩ : ∃ z, z = u := ⟨_, rfl⟩
  obtain ⟨b10, hP1, hK1, hD1⟩ := hB
  rw [ht] at hP1
  obtain ⟨hP, hD⟩ := va_join (wr := [(h0, .inr (10, [.ref q1, .ref q5, .null, .null, .int 0])), (q1, .inr (1, [.int (mg U3 0), .ref (b2 1), .int (mg U3 2), .ref (b2 3), .int (mg U3 4), .ref (b2 5)])), (b2 1, .inl (cI, 4, .inl (ma U3 1))), (b2 3, .inl (cI, 4, .inl (ma U3 3))), (b2 5, .inl (cI, 2, .inl (ma U3 5))), (q5, .inr (6, [.int (mg U7 0), .int (mg U7 1), .int (mg U7 2), .int (mg U7 3), .int (mg U7 4), .int (mg U7 5), .int (mg U7 6), .ref (b6 7), .ref (b6 8), .ref (b6 9)])), (b6 7, .inl (cI, 2, .inl (ma U7 7))), (b6 8, .inl (cI, 2, .inl (ma U7 8))), (b6 9, .inl (cI, 2, .inl (ma U7 9)))]) (w1 := (ogW cB cI cJ cZ q9 b10 U11)) hP hD [9] [0, 1, 2, 3, 4, 5, 6, 7, 8] rfl rfl (by decide) (by decide) hk1 hFc hP1 hD1
  generalize H1 = H at hP hS ⊢
  have hP : va_P (dC, dI) vwCl [(h0, .inr (10, [.ref q1, .ref q5, .null, .null, .int 0])), (q1, .inr (1, [.int (mg U3 0), .ref (b2 1), .int (mg U3 2), .ref (b2 3), .int (mg U3 4), .ref (b2 5)])), (b2 1, .inl (cI, 4, .inl (ma U3 1))), (b2 3, .inl (cI, 4, .inl (ma U3 3))), (b2 5, .inl (cI, 2, .inl (ma U3 5))), (q5, .inr (6, [.int (mg U7 0), .int (mg U7 1), .int (mg U7 2), .int (mg U7 3), .int (mg U7 4), .int (mg U7 5), .int (mg U7 6), .ref (b6 7), .ref (b6 8), .ref (b6 9)])), (b6 7, .inl (cI, 2, .inl (ma U7 7))), (b6 8, .inl (cI, 2, .inl (ma U7 8))), (b6 9, .inl (cI, 2, .inl (ma U7 9))), (q9, .inr (4, [.int (mg U11 0), .ref (b10 1), .ref (b10 2), .ref (b10 3)])), (b10 1, .inl (cI, 6, .inl (ma U11 1))), (b10 2, .inl (cI, 6, .inl (ma U11 2))), (b10 3, .inl (cI, 6, .inl (ma U11 3)))] H := hP
  have hD : va_D A [(h0, .inr (10, [.ref q1, .ref q5, .null, .null, .int 0])), (q1, .inr (1, [.int (mg U3 0), .ref (b2 1), .int (mg U3 2), .ref (b2 3), .int (mg U3 4), .ref (b2 5)])), (b2 1, .inl (cI, 4, .inl (ma U3 1))), (b2 3, .inl (cI, 4, .inl (ma U3 3))), (b2 5, .inl (cI, 2, .inl (ma U3 5))), (q5, .inr (6, [.int (mg U7 0), .int (mg U7 1), .int (mg U7 2), .int (mg U7 3), .int (mg U7 4), .int (mg U7 5), .int (mg U7 6), .ref (b6 7), .ref (b6 8), .ref (b6 9)])), (b6 7, .inl (cI, 2, .inl (ma U7 7))), (b6 8, .inl (cI, 2, .inl (ma U7 8))), (b6 9, .inl (cI, 2, .inl (ma U7 9))), (q9, .inr (4, [.int (mg U11 0), .ref (b10 1), .ref (b10 2), .ref (b10 3)])), (b10 1, .inl (cI, 6, .inl (ma U11 1))), (b10 2, .inl (cI, 6, .inl (ma U11 2))), (b10 3, .inl (cI, 6, .inl (ma U11 3)))] := hD
  have w12 : U11 = zS := hw
  refine va_putF (D := (dC, dI)) (ci := 10) (v := .ref q9) (ty := .object "LastWords$Organ") (C := RX10) (T := TX10) (N := 5) hx hb hts hinX10 tyX10 tyX10_ok nmX10 hown hK hP hD hS 0 rfl rfl 2 (by decide) f18 (fun _ h9 => h9) rfl hin0 rfl (by decide +kernel) rfl rfl (Nat.le_of_ble_eq_true rfl) dX10_init_34 (fun H locs hP hD hS => ?_)
  have hP : va_P (dC, dI) vwCl [(h0, .inr (10, [.ref q1, .ref q5, .ref q9, .null, .int 0])), (q1, .inr (1, [.int (mg U3 0), .ref (b2 1), .int (mg U3 2), .ref (b2 3), .int (mg U3 4), .ref (b2 5)])), (b2 1, .inl (cI, 4, .inl (ma U3 1))), (b2 3, .inl (cI, 4, .inl (ma U3 3))), (b2 5, .inl (cI, 2, .inl (ma U3 5))), (q5, .inr (6, [.int (mg U7 0), .int (mg U7 1), .int (mg U7 2), .int (mg U7 3), .int (mg U7 4), .int (mg U7 5), .int (mg U7 6), .ref (b6 7), .ref (b6 8), .ref (b6 9)])), (b6 7, .inl (cI, 2, .inl (ma U7 7))), (b6 8, .inl (cI, 2, .inl (ma U7 8))), (b6 9, .inl (cI, 2, .inl (ma U7 9))), (q9, .inr (4, [.int (mg U11 0), .ref (b10 1), .ref (b10 2), .ref (b10 3)])), (b10 1, .inl (cI, 6, .inl (ma U11 1))), (b10 2, .inl (cI, 6, .inl (ma U11 2))), (b10 3, .inl (cI, 6, .inl (ma U11 3)))] H := hP
  have hD : va_D A [(h0, .inr (10, [.ref q1, .ref q5, .ref q9, .null, .int 0])), (q1, .inr (1, [.int (mg U3 0), .ref (b2 1), .int (mg U3 2), .ref (b2 3), .int (mg U3 4), .ref (b2 5)])), (b2 1, .inl (cI, 4, .inl (ma U3 1))), (b2 3, .inl (cI, 4, .inl (ma U3 3))), (b2 5, .inl (cI, 2, .inl (ma U3 5))), (q5, .inr (6, [.int (mg U7 0), .int (mg U7 1), .int (mg U7 2), .int (mg U7 3), .int (mg U7 4), .int (mg U7 5), .int (mg U7 6), .ref (b6 7), .ref (b6 8), .ref (b6 9)])), (b6 7, .inl (cI, 2, .inl (ma U7 7))), (b6 8, .inl (cI, 2, .inl (ma U7 8))), (b6 9, .inl (cI, 2, .inl (ma U7 9))), (q9, .inr (4, [.int (mg U11 0), .ref (b10 1), .ref (b10 2), .ref (b10 3)])), (b10 1, .inl (cI, 6, .inl (ma U11 1))), (b10 2, .inl (cI, 6, .inl (ma U11 2))), (b10 3, .inl (cI, 6, .inl (ma U11 3)))] := hD
  refine lv_aload_n hx hb dX10_init_37 rfl (lv_at hl 0 rfl) ?_
  refine lv_iconst (v := (2)) hx hb dX10_init_38 (by decide) ?_
  refine wn_I hx hb f19 hK hP hD hS hA (by decide) (by decide : Int32.toNatClampNeg 2 = 2) (Nat.le_of_ble_eq_true rfl) (Nat.le_of_ble_eq_true rfl) (Nat.le_of_ble_eq_true rfl) dX10_init_39 (fun q13 H hP hD hS => ?_)
  have hP : va_P (dC, dI) vwCl [(h0, .inr (10, [.ref q1, .ref q5, .ref q9, .null, .int 0])), (q1, .inr (1, [.int (mg U3 0), .ref (b2 1), .int (mg U3 2), .ref (b2 3), .int (mg U3 4), .ref (b2 5)])), (b2 1, .inl (cI, 4, .inl (ma U3 1))), (b2 3, .inl (cI, 4, .inl (ma U3 3))), (b2 5, .inl (cI, 2, .inl (ma U3 5))), (q5, .inr (6, [.int (mg U7 0), .int (mg U7 1), .int (mg U7 2), .int (mg U7 3), .int (mg U7 4), .int (mg U7 5), .int (mg U7 6), .ref (b6 7), .ref (b6 8), .ref (b6 9)])), (b6 7, .inl (cI, 2, .inl (ma U7 7))), (b6 8, .inl (cI, 2, .inl (ma U7 8))), (b6 9, .inl (cI, 2, .inl (ma U7 9))), (q9, .inr (4, [.int (mg U11 0), .ref (b10 1), .ref (b10 2), .ref (b10 3)])), (b10 1, .inl (cI, 6, .inl (ma U11 1))), (b10 2, .inl (cI, 6, .inl (ma U11 2))), (b10 3, .inl (cI, 6, .inl (ma U11 3))), (q13, .inl (cI, 2, .inl (fun _ => 0)))] H := hP
  have hD : va_D A [(h0, .inr (10, [.ref q1, .ref q5, .ref q9, .null, .int 0])), (q1, .inr (1, [.int (mg U3 0), .ref (b2 1), .int (mg U3 2), .ref (b2 3), .int (mg U3 4), .ref (b2 5)])), (b2 1, .inl (cI, 4, .inl (ma U3 1))), (b2 3, .inl (cI, 4, .inl (ma U3 3))), (b2 5, .inl (cI, 2, .inl (ma U3 5))), (q5, .inr (6, [.int (mg U7 0), .int (mg U7 1), .int (mg U7 2), .int (mg U7 3), .int (mg U7 4), .int (mg U7 5), .int (mg U7 6), .ref (b6 7), .ref (b6 8), .ref (b6 9)])), (b6 7, .inl (cI, 2, .inl (ma U7 7))), (b6 8, .inl (cI, 2, .inl (ma U7 8))), (b6 9, .inl (cI, 2, .inl (ma U7 9))), (q9, .inr (4, [.int (mg U11 0), .ref (b10 1), .ref (b10 2), .ref (b10 3)])), (b10 1, .inl (cI, 6, .inl (ma U11 1))), (b10 2, .inl (cI, 6, .inl (ma U11 2))), (b10 3, .inl (cI, 6, .inl (ma U11 3))), (q13, .inl (cI, 2, .inl (fun _ => 0)))] := hD
  refine va_putF (D := (dC, dI)) (ci := 10) (v := .ref q13) (ty := .array .int) (C := RX10) (T := TX10) (N := 5) hx hb hts hinX10 tyX10 tyX10_ok nmX10 hown hK hP hD hS 0 rfl rfl 3 (by decide) f20 (fun _ h9 => h9) rfl hin0 rfl (by decide +kernel) rfl rfl (Nat.le_of_ble_eq_true rfl) dX10_init_41 (fun H locs hP hD hS => ?_)
  have hP : va_P (dC, dI) vwCl [(h0, .inr (10, [.ref q1, .ref q5, .ref q9, .ref q13, .int 0])), (q1, .inr (1, [.int (mg U3 0), .ref (b2 1), .int (mg U3 2), .ref (b2 3), .int (mg U3 4), .ref (b2 5)])), (b2 1, .inl (cI, 4, .inl (ma U3 1))), (b2 3, .inl (cI, 4, .inl (ma U3 3))), (b2 5, .inl (cI, 2, .inl (ma U3 5))), (q5, .inr (6, [.int (mg U7 0), .int (mg U7 1), .int (mg U7 2), .int (mg U7 3), .int (mg U7 4), .int (mg U7 5), .int (mg U7 6), .ref (b6 7), .ref (b6 8), .ref (b6 9)])), (b6 7, .inl (cI, 2, .inl (ma U7 7))), (b6 8, .inl (cI, 2, .inl (ma U7 8))), (b6 9, .inl (cI, 2, .inl (ma U7 9))), (q9, .inr (4, [.int (mg U11 0), .ref (b10 1), .ref (b10 2), .ref (b10 3)])), (b10 1, .inl (cI, 6, .inl (ma U11 1))), (b10 2, .inl (cI, 6, .inl (ma U11 2))), (b10 3, .inl (cI, 6, .inl (ma U11 3))), (q13, .inl (cI, 2, .inl (fun _ => 0)))] H := hP
  have hD : va_D A [(h0, .inr (10, [.ref q1, .ref q5, .ref q9, .ref q13, .int 0])), (q1, .inr (1, [.int (mg U3 0), .ref (b2 1), .int (mg U3 2), .ref (b2 3), .int (mg U3 4), .ref (b2 5)])), (b2 1, .inl (cI, 4, .inl (ma U3 1))), (b2 3, .inl (cI, 4, .inl (ma U3 3))), (b2 5, .inl (cI, 2, .inl (ma U3 5))), (q5, .inr (6, [.int (mg U7 0), .int (mg U7 1), .int (mg U7 2), .int (mg U7 3), .int (mg U7 4), .int (mg U7 5), .int (mg U7 6), .ref (b6 7), .ref (b6 8), .ref (b6 9)])), (b6 7, .inl (cI, 2, .inl (ma U7 7))), (b6 8, .inl (cI, 2, .inl (ma U7 8))), (b6 9, .inl (cI, 2, .inl (ma U7 9))), (q9, .inr (4, [.int (mg U11 0), .ref (b10 1), .ref (b10 2), .ref (b10 3)])), (b10 1, .inl (cI, 6, .inl (ma U11 1))), (b10 2, .inl (cI, 6, .inl (ma U11 2))), (b10 3, .inl (cI, 6, .inl (ma U11 3))), (q13, .inl (cI, 2, .inl (fun _ => 0)))] := hD
  have hP := hP.sub (ws' := (stW cB cI cJ cZ h0 (va_up (va_up (va_up (va_up (fun _ => 0) 0 q1) 1 q5) 2 q9) 3 q13) b2 b6 b10 zS U3 U7 U11)) [0, 13, 1, 2, 3, 4, 5, 6, 7, 8, 9, 10, 11, 12] rfl
  have hD := hD.sub (ws' := (stW cB cI cJ cZ h0 (va_up (va_up (va_up (va_up (fun _ => 0) 0 q1) 1 q5) 2 q9) 3 q13) b2 b6 b10 zS U3 U7 U11)) [0, 13, 1, 2, 3, 4, 5, 6, 7, 8, 9, 10, 11, 12] (by decide) rfl
  exact W.vret hx hb hr (fun t ht hW => ⟨⟨(zS, U3, U7, U11), rfl, ⟨rfl, w4, w8, w12⟩, (va_up (va_up (va_up (va_up (fun _ => 0) 0 q1) 1 q5) 2 q9) 3 q13), b2, b6, b10, by rw [ht]; exact hP, va_K.moved hW.alike hK, hD⟩, hS.F ht⟩) hS.2.2 dX10_init_44
