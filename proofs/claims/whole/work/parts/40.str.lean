def sLen : List Nat := [21, 15, 2, 6, 3, 49]
def sByt : List (List Int32) := [[116, 117, 110, 101, 32, 119, 111, 114, 100, 32, 112, 117, 114, 115, 101, 32, 97, 103, 97, 105, 110], [115, 97, 121, 32, 116, 104, 114, 111, 119, 32, 115, 116, 105, 108, 108], [105, 102], [97, 110, 100, 32, 111, 114], [110, 111, 116], [115, 105, 100, 101, 32, 108, 101, 102, 116, 32, 118, 101, 114, 115, 101, 32, 109, 105, 110, 101, 32, 116, 104, 101, 105, 114, 115, 32, 108, 97, 115, 116, 32, 104, 101, 97, 114, 100, 32, 115, 97, 105, 100, 32, 109, 111, 118, 101, 115]]
/-- the char at place k of literal i -/
def sCh (i k : Nat) : Int32 := (sByt.getD i []).getD k 0
/-- the literals where the machine finds them; String's own two statics -/
def sE (adK adV : Nat → Nat) (A : Nat → Prop) (U : State) (H : Heap) : Prop := vk_S 6 sLen sByt adK adV A U H ∧ va_Z "java/lang/String" "COMPACT_STRINGS" "Z" (.int 1) A U H ∧ va_Zq "jdk/internal/util/Preconditions" "SIOOBE_FORMATTER" "Ljava/util/function/BiFunction;" A U H
theorem sE.moved {adK adV : Nat → Nat} {A : Nat → Prop} {u U : State} {H : Heap} (hvm : u.vm.Alike U.vm) (h : sE adK adV A u H) : sE adK adV A U H := ⟨h.1.moved hvm, h.2.1.moved hvm, h.2.2.moved hvm⟩
theorem sE.kept {adK adV : Nat → Nat} {A : Nat → Prop} {U : State} {H H1 : Heap} (h : sE adK adV A U H) (hq : ∀ a : Nat, a < H.size → ¬ A a → H1[a]? = H[a]?) : sE adK adV A U H1 := ⟨h.1.kept hq, h.2.1.kept hq, h.2.2.kept hq⟩
theorem sE.narrow {adK adV : Nat → Nat} {A B : Nat → Prop} {U : State} {H : Heap} (h : sE adK adV A U H) (hAB : ∀ q, B q → A q) : sE adK adV B U H := ⟨h.1.narrow hAB, h.2.1.narrow hAB, h.2.2.narrow hAB⟩
def sR (adK : Nat → Nat) (U : State) : Prop := vk_R RX2 61 "tune word purse again" (adK 0) U ∧ vk_R RX9 41 "say throw still" (adK 1) U ∧ vk_R RX9 55 "if" (adK 2) U ∧ vk_R RX9 69 "and or" (adK 3) U ∧ vk_R RX9 71 "not" (adK 4) U ∧ vk_R RX9 104 "side left verse mine theirs last heard said moves" (adK 5) U ∧ va_Nw (.methodLinkNest RX2 88 yX11_isSide RX11) U ∧ va_Nw (.methodLinkNest RX10 9 yX1_init RX11) U ∧ va_Nw (.methodLinkNest RX10 18 yX6_init RX11) U ∧ va_Nw (.methodLinkNest RX10 25 yX4_init RX11) U ∧ va_Nw (.methodLinkNest RX11 21 yX10_init RX11) U ∧ va_Nw (.methodLinkNest RX11 32 yX1_init RX11) U ∧ va_Nw (.methodLinkNest RX11 39 yX6_init RX11) U ∧ va_Nw (.methodLinkNest RX11 53 yX5_init RX11) U ∧ va_Nw (.methodLinkNest RX11 60 yX3_init RX11) U ∧ va_Nw (.methodLinkNest RX11 101 yX8_init RX11) U ∧ va_AO RX8 U ∧ va_AO RX10 U
theorem sR.same {adK : Nat → Nat} {u U : State} (hv : U.vm = u.vm) (h : sR adK u) : sR adK U := by
  obtain ⟨h0, h1, h2, h3, h4, h5, h6, h7, h8, h9, h10, h11, h12, h13, h14, h15, h16, h17⟩ := h
  exact ⟨h0.same hv, h1.same hv, h2.same hv, h3.same hv, h4.same hv, h5.same hv, h6.same rfl hv.symm, h7.same rfl hv.symm, h8.same rfl hv.symm, h9.same rfl hv.symm, h10.same rfl hv.symm, h11.same rfl hv.symm, h12.same rfl hv.symm, h13.same rfl hv.symm, h14.same rfl hv.symm, h15.same rfl hv.symm, h16.moved (by rw [hv]; exact Vm.Alike.refl _), h17.moved (by rw [hv]; exact Vm.Alike.refl _)⟩
theorem sR.warm {adK : Nat → Nat} {s U : State} (hW : s.WarmedH U.vm) (h : sR adK s) : sR adK U := by
  obtain ⟨h0, h1, h2, h3, h4, h5, h6, h7, h8, h9, h10, h11, h12, h13, h14, h15, h16, h17⟩ := h
  exact ⟨h0.warm hW, h1.warm hW, h2.warm hW, h3.warm hW, h4.warm hW, h5.warm hW, h6.warmM hW, h7.warmM hW, h8.warmM hW, h9.warmM hW, h10.warmM hW, h11.warmM hW, h12.warmM hW, h13.warmM hW, h14.warmM hW, h15.warmM hW, h16.moved hW.alike, h17.moved hW.alike⟩
theorem sR.l0 {adK : Nat → Nat} {U : State} (h : sR adK U) : vk_R RX2 61 "tune word purse again" (adK 0) U := h.1
theorem sR.l1 {adK : Nat → Nat} {U : State} (h : sR adK U) : vk_R RX9 41 "say throw still" (adK 1) U := h.2.1
theorem sR.l2 {adK : Nat → Nat} {U : State} (h : sR adK U) : vk_R RX9 55 "if" (adK 2) U := h.2.2.1
theorem sR.l3 {adK : Nat → Nat} {U : State} (h : sR adK U) : vk_R RX9 69 "and or" (adK 3) U := h.2.2.2.1
theorem sR.l4 {adK : Nat → Nat} {U : State} (h : sR adK U) : vk_R RX9 71 "not" (adK 4) U := h.2.2.2.2.1
theorem sR.l5 {adK : Nat → Nat} {U : State} (h : sR adK U) : vk_R RX9 104 "side left verse mine theirs last heard said moves" (adK 5) U := h.2.2.2.2.2.1
theorem sR.n_RX2_88 {adK : Nat → Nat} {U : State} (h : sR adK U) : va_Nw (.methodLinkNest RX2 88 yX11_isSide RX11) U := h.2.2.2.2.2.2.1
theorem sR.n_RX10_9 {adK : Nat → Nat} {U : State} (h : sR adK U) : va_Nw (.methodLinkNest RX10 9 yX1_init RX11) U := h.2.2.2.2.2.2.2.1
theorem sR.n_RX10_18 {adK : Nat → Nat} {U : State} (h : sR adK U) : va_Nw (.methodLinkNest RX10 18 yX6_init RX11) U := h.2.2.2.2.2.2.2.2.1
theorem sR.n_RX10_25 {adK : Nat → Nat} {U : State} (h : sR adK U) : va_Nw (.methodLinkNest RX10 25 yX4_init RX11) U := h.2.2.2.2.2.2.2.2.2.1
theorem sR.n_RX11_21 {adK : Nat → Nat} {U : State} (h : sR adK U) : va_Nw (.methodLinkNest RX11 21 yX10_init RX11) U := h.2.2.2.2.2.2.2.2.2.2.1
theorem sR.n_RX11_32 {adK : Nat → Nat} {U : State} (h : sR adK U) : va_Nw (.methodLinkNest RX11 32 yX1_init RX11) U := h.2.2.2.2.2.2.2.2.2.2.2.1
theorem sR.n_RX11_39 {adK : Nat → Nat} {U : State} (h : sR adK U) : va_Nw (.methodLinkNest RX11 39 yX6_init RX11) U := h.2.2.2.2.2.2.2.2.2.2.2.2.1
theorem sR.n_RX11_53 {adK : Nat → Nat} {U : State} (h : sR adK U) : va_Nw (.methodLinkNest RX11 53 yX5_init RX11) U := h.2.2.2.2.2.2.2.2.2.2.2.2.2.1
theorem sR.n_RX11_60 {adK : Nat → Nat} {U : State} (h : sR adK U) : va_Nw (.methodLinkNest RX11 60 yX3_init RX11) U := h.2.2.2.2.2.2.2.2.2.2.2.2.2.2.1
theorem sR.n_RX11_101 {adK : Nat → Nat} {U : State} (h : sR adK U) : va_Nw (.methodLinkNest RX11 101 yX8_init RX11) U := h.2.2.2.2.2.2.2.2.2.2.2.2.2.2.2.1
theorem sR.o_RX8 {adK : Nat → Nat} {U : State} (h : sR adK U) : va_AO RX8 U := h.2.2.2.2.2.2.2.2.2.2.2.2.2.2.2.2.1
theorem sR.o_RX10 {adK : Nat → Nat} {U : State} (h : sR adK U) : va_AO RX10 U := h.2.2.2.2.2.2.2.2.2.2.2.2.2.2.2.2.2
theorem sCh_ok : ∀ i, i < 6 → ∀ k, k < sLen.getD i 0 → ((sCh i k &&& 255).toUInt32 % 65536).toInt32 = sCh i k := by decide +kernel
theorem sLen_lt : ∀ i, i < 6 → sLen.getD i 0 < 2 ^ 31 := by decide +kernel
abbrev zI (dC : Nat → ClassId) (dI : Nat → Nat → Nat) (cB cI cJ cZ : ClassId) (adK adV : Nat → Nat) (sz : Nat) : State → Prop := fun U => (U.heap.size = sz ∧ va_P (dC, dI) vwCl (e0W cB cI cJ cZ) U.heap ∧ va_K (dC, dI) vwCl (gT cB cI cJ cZ) U ∧ va_D (fun _ => True) (e0W cB cI cJ cZ)) ∧ sE adK adV (va_A (e0W cB cI cJ cZ) sz) U U.heap
theorem zpS {s : State} {dC : Nat → ClassId} {dI : Nat → Nat → Nat} {A : Nat → Prop} {cB cI cJ cZ : ClassId} {adK adV : Nat → Nat} {H : Heap} {locs : List Loc} {As : List Value} (hK : va_K (dC, dI) vwCl (gT cB cI cJ cZ) s) (hE : sE adK adV A s s.heap) (hS : va_S A s.heap H locs) (hA : ∀ q : Nat, s.heap.size ≤ q → A q) : PreS s H (va_Pc As (zI dC dI cB cI cJ cZ adK adV H.size)) As :=
  ⟨fun a U g mk q => by obtain ⟨q0, ⟨q1, qP, qK, qD⟩, qE⟩ := q; exact ⟨q0, ⟨q1, qP, va_K.moved (u := U) (U := U.calling g mk a) (Vm.Alike.refl U.vm) qK, qD⟩, sE.moved (u := U) (U := U.calling g mk a) (Vm.Alike.refl U.vm) qE⟩, fun U hU hW => ⟨rfl, ⟨by rw [hU], by rw [hU]; exact fun k q h => by simp at h, va_K.moved hW.alike hK, ⟨fun i j p q h => by simp at h, fun k q h => by simp at h⟩⟩, by rw [hU]; exact sE.narrow (sE.kept (sE.moved hW.alike hE) hS.2.1) (fun q h => by
    rcases h with ⟨k, e, h⟩ | h
    · simp at h
    · exact hA q (Nat.le_trans hS.1 h))⟩⟩
theorem zpV {s : State} {dC : Nat → ClassId} {dI : Nat → Nat → Nat} {A : Nat → Prop} {cB cI cJ cZ : ClassId} {adK adV : Nat → Nat} {H : Heap} {locs : List Loc} {As : List Value} {i : Nat} (hi : i < 6) (hK : va_K (dC, dI) vwCl (gT cB cI cJ cZ) s) (hE : sE adK adV A s s.heap) (hS : va_S A s.heap H locs) (hA : ∀ q : Nat, s.heap.size ≤ q → A q) : PreV s H RJ0 (adK i) (va_Pc (.ref (adK i) :: As) (zI dC dI cB cI cJ cZ adK adV H.size)) As :=
  ⟨(zpS (As := .ref (adK i) :: As) hK hE hS hA).1, vk_recv hE.1 hi hS, (zpS (As := .ref (adK i) :: As) hK hE hS hA).2⟩
theorem zFree {A : Nat → Prop} {cB cI cJ cZ : ClassId} {H0 H : Heap} {locs : List Loc} (hS : va_S A H0 H locs) (hA : ∀ q : Nat, H0.size ≤ q → A q) : ∀ q : Nat, va_A (e0W cB cI cJ cZ) H.size q → A q := by
  intro q h
  rcases h with ⟨k, e, h⟩ | h
  · simp at h
  · exact hA q (Nat.le_trans hS.1 h)
def rmJ0_coder : Room := { frames := 0, cells := 0, slots := 0, locals := 0 }
set_option maxHeartbeats 4000000 in
set_option maxRecDepth 100000 in
theorem kJ0_coder (l : Launch) (dC : Nat → ClassId) (dI : Nat → Nat → Nat) (cB cI cJ cZ : ClassId) (adK adV : Nat → Nat) (sz : Nat) (i : Nat) (hi : i < 6) : Met l yJ0_coder_7d493 wsJ0_coder_7d493 rmJ0_coder (va_Pc [.ref (adK i)] (zI dC dI cB cI cJ cZ adK adV sz)) (va_Qi (fun (r : Int32) (u : Unit) => r = 0) (e0B dC dI cB cI cJ cZ (va_A (e0W cB cI cJ cZ) sz)) (va_A (e0W cB cI cJ cZ) sz)) 0 0 (va_A (e0W cB cI cJ cZ) sz) := by
  refine Met.ofW (cc := cJ0_coder_7d493) (maxL := 1) (ret := (some .byte)) (by decide) rfl ?_
  intro p e s m args below meth c s₁ B hml hv
  obtain ⟨rfl, ⟨hsz, hP, hK, hD0⟩, hE⟩ := hv
  have hx := B.exec
  have hb := B.bytes
  have hr := B.returns
  have hts := atoms_spec (ws := wsJ0_coder_7d493) B.pre
  have hown : s.vm.findClass RJ0 = some m.cls := findClass_of_methodNamed B.named
  have hlocks := B.notSynchronized
  subst hsz
  have hD := hD0.self (sz := s.heap.size)
  generalize hAe : va_A (e0W cB cI cJ cZ) s.heap.size = A at hD hE ⊢
  have hA : ∀ q : Nat, s.heap.size ≤ q → A q := fun q h => by rw [← hAe]; exact Or.inr h
  have hS : va_S A s.heap s.heap [] := va_S.rf
  have f1 := hts (.fieldLink RJ0 38 "java/lang/String" "COMPACT_STRINGS" "Z") (by decide +kernel)
  have f2 := hts (.fieldLink RJ0 15 "java/lang/String" "coder" "B") (by decide +kernel)
  have hl := lv_entry ([.ref (adK i)]) (n := 1) (Nat.le_of_ble_eq_true rfl)
  rw [lg_entry_eq]
  generalize (lg_sl ([.ref (adK i)]) ++ List.replicate (1 - (lg_sl ([.ref (adK i)])).length) Slot.unset).toArray = ls at hl ⊢
  have hl : lv_has ls 1 [(0, .ref (adK i))] := hl
  refine va_gets (v := .int 1) hx hb hE.2.1 hS hown f1 (fun _ h9 => h9) dJ0_coder_7d493_0 ?_
  refine lv_if_eq (tgt := 13) hx hb dJ0_coder_7d493_3 (by decide) (fun c1 => absurd c1 (by decide)) (fun c1 => ?_)
  refine lv_aload_n hx hb dJ0_coder_7d493_6 rfl (lv_at hl 0 rfl) ?_
  refine vk_getf (v := .int 0) hx hb (hE.1.1 i hi).2.1 hS hown f2 (fun _ h9 => h9) dJ0_coder_7d493_7 ?_
  refine lv_goto (tgt := 14) hx hb dJ0_coder_7d493_10 (by decide) ?_
  exact W.zret (v := 0) hx hb hr (by decide) (fun t ht hW => ⟨⟨_, (), rfl, rfl, by rw [ht]; exact hP, va_K.moved hW.alike hK, hD⟩, hS.F ht⟩) hS.2.2 dJ0_coder_7d493_14
def rmJ0_isLatin1 : Room := { frames := 0, cells := 0, slots := 0, locals := 0 }
set_option maxHeartbeats 4000000 in
set_option maxRecDepth 100000 in
theorem kJ0_isLatin1 (l : Launch) (dC : Nat → ClassId) (dI : Nat → Nat → Nat) (cB cI cJ cZ : ClassId) (adK adV : Nat → Nat) (sz : Nat) (i : Nat) (hi : i < 6) : Met l yJ0_isLatin1_aae02 wsJ0_isLatin1_aae02 rmJ0_isLatin1 (va_Pc [.ref (adK i)] (zI dC dI cB cI cJ cZ adK adV sz)) (va_Qi (fun (r : Int32) (u : Unit) => r = 1) (e0B dC dI cB cI cJ cZ (va_A (e0W cB cI cJ cZ) sz)) (va_A (e0W cB cI cJ cZ) sz)) 0 0 (va_A (e0W cB cI cJ cZ) sz) := by
  refine Met.ofW (cc := cJ0_isLatin1_aae02) (maxL := 1) (ret := (some .boolean)) (by decide) rfl ?_
  intro p e s m args below meth c s₁ B hml hv
  obtain ⟨rfl, ⟨hsz, hP, hK, hD0⟩, hE⟩ := hv
  have hx := B.exec
  have hb := B.bytes
  have hr := B.returns
  have hts := atoms_spec (ws := wsJ0_isLatin1_aae02) B.pre
  have hown : s.vm.findClass RJ0 = some m.cls := findClass_of_methodNamed B.named
  have hlocks := B.notSynchronized
  subst hsz
  have hD := hD0.self (sz := s.heap.size)
  generalize hAe : va_A (e0W cB cI cJ cZ) s.heap.size = A at hD hE ⊢
  have hA : ∀ q : Nat, s.heap.size ≤ q → A q := fun q h => by rw [← hAe]; exact Or.inr h
  have hS : va_S A s.heap s.heap [] := va_S.rf
  have f1 := hts (.fieldLink RJ0 38 "java/lang/String" "COMPACT_STRINGS" "Z") (by decide +kernel)
  have f2 := hts (.fieldLink RJ0 15 "java/lang/String" "coder" "B") (by decide +kernel)
  have hl := lv_entry ([.ref (adK i)]) (n := 1) (Nat.le_of_ble_eq_true rfl)
  rw [lg_entry_eq]
  generalize (lg_sl ([.ref (adK i)]) ++ List.replicate (1 - (lg_sl ([.ref (adK i)])).length) Slot.unset).toArray = ls at hl ⊢
  have hl : lv_has ls 1 [(0, .ref (adK i))] := hl
  refine va_gets (v := .int 1) hx hb hE.2.1 hS hown f1 (fun _ h9 => h9) dJ0_isLatin1_aae02_0 ?_
  refine lv_if_eq (tgt := 17) hx hb dJ0_isLatin1_aae02_3 (by decide) (fun c1 => absurd c1 (by decide)) (fun c1 => ?_)
  refine lv_aload_n hx hb dJ0_isLatin1_aae02_6 rfl (lv_at hl 0 rfl) ?_
  refine vk_getf (v := .int 0) hx hb (hE.1.1 i hi).2.1 hS hown f2 (fun _ h9 => h9) dJ0_isLatin1_aae02_7 ?_
  refine lv_if_ne (tgt := 17) hx hb dJ0_isLatin1_aae02_10 (by decide) (fun c1 => absurd rfl c1) (fun c1 => ?_)
  refine lv_iconst (v := 1) hx hb dJ0_isLatin1_aae02_13 (by decide) ?_
  refine lv_goto (tgt := 18) hx hb dJ0_isLatin1_aae02_14 (by decide) ?_
  exact W.zret (v := 1) hx hb hr (by decide) (fun t ht hW => ⟨⟨_, (), rfl, rfl, by rw [ht]; exact hP, va_K.moved hW.alike hK, hD⟩, hS.F ht⟩) hS.2.2 dJ0_isLatin1_aae02_18
def rmJ0_length : Room := { frames := 1, cells := 0, slots := 0, locals := 20 }
set_option maxHeartbeats 4000000 in
set_option maxRecDepth 100000 in
theorem kJ0_length (l : Launch) (dC : Nat → ClassId) (dI : Nat → Nat → Nat) (cB cI cJ cZ : ClassId) (adK adV : Nat → Nat) (sz : Nat) (i : Nat) (hi : i < 6) : Met l yJ0_length_8abf5 wsJ0_length_8abf5 rmJ0_length (va_Pc [.ref (adK i)] (zI dC dI cB cI cJ cZ adK adV sz)) (va_Qi (fun (r : Int32) (u : Unit) => r = nI (sLen.getD i 0)) (e0B dC dI cB cI cJ cZ (va_A (e0W cB cI cJ cZ) sz)) (va_A (e0W cB cI cJ cZ) sz)) 0 0 (va_A (e0W cB cI cJ cZ) sz) := by
  refine Met.ofW (cc := cJ0_length_8abf5) (maxL := 1) (ret := (some .int)) (by decide) rfl ?_
  intro p e s m args below meth c s₁ B hml hv
  obtain ⟨rfl, ⟨hsz, hP, hK, hD0⟩, hE⟩ := hv
  have hx := B.exec
  have hb := B.bytes
  have hr := B.returns
  have hts := atoms_spec (ws := wsJ0_length_8abf5) B.pre
  have hown : s.vm.findClass RJ0 = some m.cls := findClass_of_methodNamed B.named
  have hlocks := B.notSynchronized
  subst hsz
  have hD := hD0.self (sz := s.heap.size)
  generalize hAe : va_A (e0W cB cI cJ cZ) s.heap.size = A at hD hE ⊢
  have hA : ∀ q : Nat, s.heap.size ≤ q → A q := fun q h => by rw [← hAe]; exact Or.inr h
  have hS : va_S A s.heap s.heap [] := va_S.rf
  have f1 := hts (.fieldLink RJ0 9 "java/lang/String" "value" "[B") (by decide +kernel)
  have hl := lv_entry ([.ref (adK i)]) (n := 1) (Nat.le_of_ble_eq_true rfl)
  rw [lg_entry_eq]
  generalize (lg_sl ([.ref (adK i)]) ++ List.replicate (1 - (lg_sl ([.ref (adK i)])).length) Slot.unset).toArray = ls at hl ⊢
  have hl : lv_has ls 1 [(0, .ref (adK i))] := hl
  refine lv_aload_n hx hb dJ0_length_8abf5_0 rfl (lv_at hl 0 rfl) ?_
  refine vk_getf (v := .ref (adV i)) hx hb (hE.1.1 i hi).2.2.1 hS hown f1 (fun _ h9 => h9) dJ0_length_8abf5_1 ?_
  refine va_tlen (v := nI (sLen.getD i 0)) hx hb (hE.1.1 i hi).2.2.2 hS rfl dJ0_length_8abf5_4 ?_
  refine lv_aload_n hx hb dJ0_length_8abf5_5 rfl (lv_at hl 0 rfl) ?_
  have hFc := zFree (cB := cB) (cI := cI) (cJ := cJ) (cZ := cZ) hS hA
  refine va_calli (va_runV (As := []) (rest := [.int (nI (sLen.getD i 0))]) ⟨hx, hb, hml, hown, hts⟩ (kJ0_coder l dC dI cB cI cJ cZ adK adV s.heap.size i hi) (cwV 0 hts gJ0_length_8abf5_J0_coder_7d493 rfl rfl rfl (by decide +kernel) ⟨Nat.le_of_ble_eq_true rfl, Nat.le_of_ble_eq_true rfl⟩) (zpV hi hK hE hS hA) rfl rfl hl.1 rfl (lv_room (Nat.le_of_ble_eq_true rfl)) dJ0_length_8abf5_6 ⟨Nat.le_of_ble_eq_true rfl, Nat.le_of_ble_eq_true rfl⟩) hS (fun q _ z => hFc q z) hFc (fun r u t H locs ht hvm hw hB hz1 hk1 hS => ?_)
  have hP : va_P (dC, dI) vwCl (e0W cB cI cJ cZ) H := fun k q h => by simp at h
  have hw : r = 0 := hw
  subst hw
  refine lv_ishr hx hb dJ0_length_8abf5_9 ?_
  refine lv_topi (fun x ex => ?_)
  have ex : x = nI (sLen.getD i 0) := by rw [ex, pk_shrN (sLen_lt i hi) _ 0 (by decide)]; rw [Nat.pow_zero, Nat.div_one]
  exact W.iret (v := x) hx hb hr (fun t ht hW => ⟨⟨_, (), rfl, ex, by rw [ht]; exact hP, va_K.moved hW.alike hK, hD⟩, hS.F ht⟩) hS.2.2 dJ0_length_8abf5_10
def rmJ3_checkIndexN : Room := { frames := 0, cells := 0, slots := 0, locals := 0 }
set_option maxHeartbeats 4000000 in
set_option maxRecDepth 100000 in
theorem kJ3_checkIndexN (l : Launch) (dC : Nat → ClassId) (dI : Nat → Nat → Nat) (cB cI cJ cZ : ClassId) (adK adV : Nat → Nat) (sz : Nat) (q : Nat) (x y : Int32) (h0 : ¬ x < 0) (h1 : x < y) : Met l yJ3_checkIndex_8e157 wsJ3_checkIndex_8e157 rmJ3_checkIndexN (va_Pc [.int x, .int y, .null] (zI dC dI cB cI cJ cZ adK adV sz)) (va_Qi (fun (r : Int32) (u : Unit) => r = x) (e0B dC dI cB cI cJ cZ (va_A (e0W cB cI cJ cZ) sz)) (va_A (e0W cB cI cJ cZ) sz)) 0 0 (va_A (e0W cB cI cJ cZ) sz) := by
  refine Met.ofW (cc := cJ3_checkIndex_8e157) (maxL := 3) (ret := (some .int)) (by decide) rfl ?_
  intro p e s m args below meth c s₁ B hml hv
  obtain ⟨rfl, ⟨hsz, hP, hK, hD0⟩, hE⟩ := hv
  have hx := B.exec
  have hb := B.bytes
  have hr := B.returns
  have hts := atoms_spec (ws := wsJ3_checkIndex_8e157) B.pre
  have hown : s.vm.findClass RJ3 = some m.cls := findClass_of_methodNamed B.named
  have hlocks := B.notSynchronized
  subst hsz
  have hD := hD0.self (sz := s.heap.size)
  generalize hAe : va_A (e0W cB cI cJ cZ) s.heap.size = A at hD hE ⊢
  have hA : ∀ q : Nat, s.heap.size ≤ q → A q := fun q h => by rw [← hAe]; exact Or.inr h
  have hS : va_S A s.heap s.heap [] := va_S.rf
  have hl := lv_entry ([.int x, .int y, .null]) (n := 3) (Nat.le_of_ble_eq_true rfl)
  rw [lg_entry_eq]
  generalize (lg_sl ([.int x, .int y, .null]) ++ List.replicate (3 - (lg_sl ([.int x, .int y, .null])).length) Slot.unset).toArray = ls at hl ⊢
  have hl : lv_has ls 3 [(0, .int x), (1, .int y), (2, .null)] := hl
  refine lv_iload_n hx hb dJ3_checkIndex_8e157_0 rfl (lv_at hl 0 rfl) ?_
  refine lv_if_lt (tgt := 9) hx hb dJ3_checkIndex_8e157_1 (by decide) (fun c1 => absurd c1 h0) (fun c1 => ?_)
  refine lv_iload_n hx hb dJ3_checkIndex_8e157_4 rfl (lv_at hl 0 rfl) ?_
  refine lv_iload_n hx hb dJ3_checkIndex_8e157_5 rfl (lv_at hl 1 rfl) ?_
  refine lv_icmp_lt (tgt := 16) hx hb dJ3_checkIndex_8e157_6 (by decide) (fun c2 => ?_) (fun c2 => absurd h1 c2)
  refine lv_iload_n hx hb dJ3_checkIndex_8e157_16 rfl (lv_at hl 0 rfl) ?_
  exact W.iret (v := x) hx hb hr (fun t ht hW => ⟨⟨_, (), rfl, rfl, by rw [ht]; exact hP, va_K.moved hW.alike hK, hD⟩, hS.F ht⟩) hS.2.2 dJ3_checkIndex_8e157_17
def rmJ3_checkIndexR : Room := { frames := 0, cells := 0, slots := 0, locals := 0 }
set_option maxHeartbeats 4000000 in
set_option maxRecDepth 100000 in
theorem kJ3_checkIndexR (l : Launch) (dC : Nat → ClassId) (dI : Nat → Nat → Nat) (cB cI cJ cZ : ClassId) (adK adV : Nat → Nat) (sz : Nat) (q : Nat) (x y : Int32) (h0 : ¬ x < 0) (h1 : x < y) : Met l yJ3_checkIndex_8e157 wsJ3_checkIndex_8e157 rmJ3_checkIndexR (va_Pc [.int x, .int y, .ref q] (zI dC dI cB cI cJ cZ adK adV sz)) (va_Qi (fun (r : Int32) (u : Unit) => r = x) (e0B dC dI cB cI cJ cZ (va_A (e0W cB cI cJ cZ) sz)) (va_A (e0W cB cI cJ cZ) sz)) 0 0 (va_A (e0W cB cI cJ cZ) sz) := by
  refine Met.ofW (cc := cJ3_checkIndex_8e157) (maxL := 3) (ret := (some .int)) (by decide) rfl ?_
  intro p e s m args below meth c s₁ B hml hv
  obtain ⟨rfl, ⟨hsz, hP, hK, hD0⟩, hE⟩ := hv
  have hx := B.exec
  have hb := B.bytes
  have hr := B.returns
  have hts := atoms_spec (ws := wsJ3_checkIndex_8e157) B.pre
  have hown : s.vm.findClass RJ3 = some m.cls := findClass_of_methodNamed B.named
  have hlocks := B.notSynchronized
  subst hsz
  have hD := hD0.self (sz := s.heap.size)
  generalize hAe : va_A (e0W cB cI cJ cZ) s.heap.size = A at hD hE ⊢
  have hA : ∀ q : Nat, s.heap.size ≤ q → A q := fun q h => by rw [← hAe]; exact Or.inr h
  have hS : va_S A s.heap s.heap [] := va_S.rf
  have hl := lv_entry ([.int x, .int y, .ref q]) (n := 3) (Nat.le_of_ble_eq_true rfl)
  rw [lg_entry_eq]
  generalize (lg_sl ([.int x, .int y, .ref q]) ++ List.replicate (3 - (lg_sl ([.int x, .int y, .ref q])).length) Slot.unset).toArray = ls at hl ⊢
  have hl : lv_has ls 3 [(0, .int x), (1, .int y), (2, .ref q)] := hl
  refine lv_iload_n hx hb dJ3_checkIndex_8e157_0 rfl (lv_at hl 0 rfl) ?_
  refine lv_if_lt (tgt := 9) hx hb dJ3_checkIndex_8e157_1 (by decide) (fun c1 => absurd c1 h0) (fun c1 => ?_)
  refine lv_iload_n hx hb dJ3_checkIndex_8e157_4 rfl (lv_at hl 0 rfl) ?_
  refine lv_iload_n hx hb dJ3_checkIndex_8e157_5 rfl (lv_at hl 1 rfl) ?_
  refine lv_icmp_lt (tgt := 16) hx hb dJ3_checkIndex_8e157_6 (by decide) (fun c2 => ?_) (fun c2 => absurd h1 c2)
  refine lv_iload_n hx hb dJ3_checkIndex_8e157_16 rfl (lv_at hl 0 rfl) ?_
  exact W.iret (v := x) hx hb hr (fun t ht hW => ⟨⟨_, (), rfl, rfl, by rw [ht]; exact hP, va_K.moved hW.alike hK, hD⟩, hS.F ht⟩) hS.2.2 dJ3_checkIndex_8e157_17
def rmJ0_checkIndex : Room := { frames := 1, cells := 0, slots := 0, locals := 22 }
set_option maxHeartbeats 4000000 in
set_option maxRecDepth 100000 in
theorem kJ0_checkIndex (l : Launch) (dC : Nat → ClassId) (dI : Nat → Nat → Nat) (cB cI cJ cZ : ClassId) (adK adV : Nat → Nat) (sz : Nat) (x y : Int32) (h0 : ¬ x < 0) (h1 : x < y) : Met l yJ0_checkIndex_df160 wsJ0_checkIndex_df160 rmJ0_checkIndex (va_Pc [.int x, .int y] (zI dC dI cB cI cJ cZ adK adV sz)) (va_Qv (fun (u : Unit) => True) (e0B dC dI cB cI cJ cZ (va_A (e0W cB cI cJ cZ) sz)) (va_A (e0W cB cI cJ cZ) sz)) 0 0 (va_A (e0W cB cI cJ cZ) sz) := by
  refine Met.ofW (cc := cJ0_checkIndex_df160) (maxL := 2) (ret := none) (by decide) rfl ?_
  intro p e s m args below meth c s₁ B hml hv
  obtain ⟨rfl, ⟨hsz, hP, hK, hD0⟩, hE⟩ := hv
  have hx := B.exec
  have hb := B.bytes
  have hr := B.returns
  have hts := atoms_spec (ws := wsJ0_checkIndex_df160) B.pre
  have hown : s.vm.findClass RJ0 = some m.cls := findClass_of_methodNamed B.named
  have hlocks := B.notSynchronized
  subst hsz
  have hD := hD0.self (sz := s.heap.size)
  generalize hAe : va_A (e0W cB cI cJ cZ) s.heap.size = A at hD hE ⊢
  have hA : ∀ q : Nat, s.heap.size ≤ q → A q := fun q h => by rw [← hAe]; exact Or.inr h
  have hS : va_S A s.heap s.heap [] := va_S.rf
  have f1 := hts (.fieldLink RJ0 1053 "jdk/internal/util/Preconditions" "SIOOBE_FORMATTER" "Ljava/util/function/BiFunction;") (by decide +kernel)
  have hl := lv_entry ([.int x, .int y]) (n := 2) (Nat.le_of_ble_eq_true rfl)
  rw [lg_entry_eq]
  generalize (lg_sl ([.int x, .int y]) ++ List.replicate (2 - (lg_sl ([.int x, .int y])).length) Slot.unset).toArray = ls at hl ⊢
  have hl : lv_has ls 2 [(0, .int x), (1, .int y)] := hl
  refine lv_iload_n hx hb dJ0_checkIndex_df160_0 rfl (lv_at hl 0 rfl) ?_
  refine lv_iload_n hx hb dJ0_checkIndex_df160_1 rfl (lv_at hl 1 rfl) ?_
  rcases hE.2.2 with hZ | ⟨q, hZ⟩
  · refine va_gets (v := .null) hx hb hZ hS hown f1 (fun _ h9 => h9) dJ0_checkIndex_df160_2 ?_
    have hFc := zFree (cB := cB) (cI := cI) (cJ := cJ) (cZ := cZ) hS hA
    refine va_calli (va_runS (As := [.int x, .int y, .null]) (rest := []) ⟨hx, hb, hml, hown, hts⟩ (kJ3_checkIndexN l dC dI cB cI cJ cZ adK adV s.heap.size 0 x y h0 h1) (va_cwS 3 hts gJ0_checkIndex_df160_J3_checkIndex_8e157 rfl rfl rfl (by decide +kernel) ⟨Nat.le_of_ble_eq_true rfl, Nat.le_of_ble_eq_true rfl⟩) (zpS hK hE hS hA) rfl rfl hl.1 rfl (lv_room (Nat.le_of_ble_eq_true rfl)) dJ0_checkIndex_df160_5 ⟨Nat.le_of_ble_eq_true rfl, Nat.le_of_ble_eq_true rfl⟩) hS (fun q _ z => hFc q z) hFc (fun r u t H locs ht hvm hw hB hz1 hk1 hS => ?_)
    have hP : va_P (dC, dI) vwCl (e0W cB cI cJ cZ) H := fun k q h => by simp at h
    refine lv_pop hx hb dJ0_checkIndex_df160_8 rfl ?_
    exact W.vret hx hb hr (fun t ht hW => ⟨⟨(), rfl, trivial, by rw [ht]; exact hP, va_K.moved hW.alike hK, hD⟩, hS.F ht⟩) hS.2.2 dJ0_checkIndex_df160_9
  · refine va_gets (v := .ref q) hx hb hZ hS hown f1 (fun _ h9 => h9) dJ0_checkIndex_df160_2 ?_
    have hFc := zFree (cB := cB) (cI := cI) (cJ := cJ) (cZ := cZ) hS hA
    refine va_calli (va_runS (As := [.int x, .int y, .ref q]) (rest := []) ⟨hx, hb, hml, hown, hts⟩ (kJ3_checkIndexR l dC dI cB cI cJ cZ adK adV s.heap.size q x y h0 h1) (va_cwS 3 hts gJ0_checkIndex_df160_J3_checkIndex_8e157 rfl rfl rfl (by decide +kernel) ⟨Nat.le_of_ble_eq_true rfl, Nat.le_of_ble_eq_true rfl⟩) (zpS hK hE hS hA) rfl rfl hl.1 rfl (lv_room (Nat.le_of_ble_eq_true rfl)) dJ0_checkIndex_df160_5 ⟨Nat.le_of_ble_eq_true rfl, Nat.le_of_ble_eq_true rfl⟩) hS (fun q _ z => hFc q z) hFc (fun r u t H locs ht hvm hw hB hz1 hk1 hS => ?_)
    have hP : va_P (dC, dI) vwCl (e0W cB cI cJ cZ) H := fun k q h => by simp at h
    refine lv_pop hx hb dJ0_checkIndex_df160_8 rfl ?_
    exact W.vret hx hb hr (fun t ht hW => ⟨⟨(), rfl, trivial, by rw [ht]; exact hP, va_K.moved hW.alike hK, hD⟩, hS.F ht⟩) hS.2.2 dJ0_checkIndex_df160_9
def rmJ1_charAt : Room := { frames := 2, cells := 0, slots := 0, locals := 43 }
set_option maxHeartbeats 4000000 in
set_option maxRecDepth 100000 in
theorem kJ1_charAt (l : Launch) (dC : Nat → ClassId) (dI : Nat → Nat → Nat) (cB cI cJ cZ : ClassId) (adK adV : Nat → Nat) (sz : Nat) (i k : Nat) (hi : i < 6) (hk : k < sLen.getD i 0) : Met l yJ1_charAt_3b067 wsJ1_charAt_3b067 rmJ1_charAt (va_Pc [.ref (adV i), .int (nI k)] (zI dC dI cB cI cJ cZ adK adV sz)) (va_Qi (fun (r : Int32) (u : Unit) => r = sCh i k) (e0B dC dI cB cI cJ cZ (va_A (e0W cB cI cJ cZ) sz)) (va_A (e0W cB cI cJ cZ) sz)) 0 0 (va_A (e0W cB cI cJ cZ) sz) := by
  refine Met.ofW (cc := cJ1_charAt_3b067) (maxL := 2) (ret := (some .char)) (by decide) rfl ?_
  intro p e s m args below meth c s₁ B hml hv
  obtain ⟨rfl, ⟨hsz, hP, hK, hD0⟩, hE⟩ := hv
  have hx := B.exec
  have hb := B.bytes
  have hr := B.returns
  have hts := atoms_spec (ws := wsJ1_charAt_3b067) B.pre
  have hown : s.vm.findClass RJ1 = some m.cls := findClass_of_methodNamed B.named
  have hlocks := B.notSynchronized
  subst hsz
  have hD := hD0.self (sz := s.heap.size)
  generalize hAe : va_A (e0W cB cI cJ cZ) s.heap.size = A at hD hE ⊢
  have hA : ∀ q : Nat, s.heap.size ≤ q → A q := fun q h => by rw [← hAe]; exact Or.inr h
  have hS : va_S A s.heap s.heap [] := va_S.rf
  have hl := lv_entry ([.ref (adV i), .int (nI k)]) (n := 2) (Nat.le_of_ble_eq_true rfl)
  rw [lg_entry_eq]
  generalize (lg_sl ([.ref (adV i), .int (nI k)]) ++ List.replicate (2 - (lg_sl ([.ref (adV i), .int (nI k)])).length) Slot.unset).toArray = ls at hl ⊢
  have hl : lv_has ls 2 [(0, .ref (adV i)), (1, .int (nI k))] := hl
  have hL := sLen_lt i hi
  refine lv_iload_n hx hb dJ1_charAt_3b067_0 rfl (lv_at hl 1 rfl) ?_
  refine lv_aload_n hx hb dJ1_charAt_3b067_1 rfl (lv_at hl 0 rfl) ?_
  refine va_tlen (v := nI (sLen.getD i 0)) hx hb (hE.1.1 i hi).2.2.2 hS rfl dJ1_charAt_3b067_2 ?_
  have hFc := zFree (cB := cB) (cI := cI) (cJ := cJ) (cZ := cZ) hS hA
  refine va_callv (va_runS (As := [.int (nI k), .int (nI (sLen.getD i 0))]) (rest := []) ⟨hx, hb, hml, hown, hts⟩ (kJ0_checkIndex l dC dI cB cI cJ cZ adK adV s.heap.size (nI k) (nI (sLen.getD i 0)) (nI_pos (by omega)) (nI_lt hk hL)) (va_cwS 2 hts gJ1_charAt_3b067_J0_checkIndex_df160 rfl rfl rfl (by decide +kernel) ⟨Nat.le_of_ble_eq_true rfl, Nat.le_of_ble_eq_true rfl⟩) (zpS hK hE hS hA) rfl rfl hl.1 rfl (lv_room (Nat.le_of_ble_eq_true rfl)) dJ1_charAt_3b067_3 ⟨Nat.le_of_ble_eq_true rfl, Nat.le_of_ble_eq_true rfl⟩) hS (fun q _ z => hFc q z) hFc (fun u t H locs ht hvm hw hB hz1 hk1 hS => ?_)
  have hP : va_P (dC, dI) vwCl (e0W cB cI cJ cZ) H := fun k q h => by simp at h
  refine lv_aload_n hx hb dJ1_charAt_3b067_6 rfl (lv_at hl 0 rfl) ?_
  refine lv_iload_n hx hb dJ1_charAt_3b067_7 rfl (lv_at hl 1 rfl) ?_
  refine va_tb (v := .int (sCh i k)) hx hb (hE.1.1 i hi).2.2.2 hS (vp_in_nI hk hL) (by rw [nI_clamp (by omega)]; rfl) dJ1_charAt_3b067_8 ?_
  refine lv_sipush (v := 255) hx hb dJ1_charAt_3b067_9 (by decide) ?_
  refine lv_iand hx hb dJ1_charAt_3b067_12 ?_
  refine lv_i2c hx hb dJ1_charAt_3b067_13 rfl ?_
  refine lv_topi (fun x ex => ?_)
  have ex2 : x = sCh i k := ex.trans (sCh_ok i hi k hk)
  exact W.zret (v := x) hx hb hr (by rw [ex]; exact pk_nc _) (fun t ht hW => ⟨⟨_, (), rfl, ex2, by rw [ht]; exact hP, va_K.moved hW.alike hK, hD⟩, hS.F ht⟩) hS.2.2 dJ1_charAt_3b067_14
def rmJ0_charAt : Room := { frames := 3, cells := 0, slots := 0, locals := 64 }
set_option maxHeartbeats 4000000 in
set_option maxRecDepth 100000 in
theorem kJ0_charAt (l : Launch) (dC : Nat → ClassId) (dI : Nat → Nat → Nat) (cB cI cJ cZ : ClassId) (adK adV : Nat → Nat) (sz : Nat) (i k : Nat) (hi : i < 6) (hk : k < sLen.getD i 0) : Met l yJ0_charAt_5068e wsJ0_charAt_5068e rmJ0_charAt (va_Pc [.ref (adK i), .int (nI k)] (zI dC dI cB cI cJ cZ adK adV sz)) (va_Qi (fun (r : Int32) (u : Unit) => r = sCh i k) (e0B dC dI cB cI cJ cZ (va_A (e0W cB cI cJ cZ) sz)) (va_A (e0W cB cI cJ cZ) sz)) 0 0 (va_A (e0W cB cI cJ cZ) sz) := by
  refine Met.ofW (cc := cJ0_charAt_5068e) (maxL := 2) (ret := (some .char)) (by decide) rfl ?_
  intro p e s m args below meth c s₁ B hml hv
  obtain ⟨rfl, ⟨hsz, hP, hK, hD0⟩, hE⟩ := hv
  have hx := B.exec
  have hb := B.bytes
  have hr := B.returns
  have hts := atoms_spec (ws := wsJ0_charAt_5068e) B.pre
  have hown : s.vm.findClass RJ0 = some m.cls := findClass_of_methodNamed B.named
  have hlocks := B.notSynchronized
  subst hsz
  have hD := hD0.self (sz := s.heap.size)
  generalize hAe : va_A (e0W cB cI cJ cZ) s.heap.size = A at hD hE ⊢
  have hA : ∀ q : Nat, s.heap.size ≤ q → A q := fun q h => by rw [← hAe]; exact Or.inr h
  have hS : va_S A s.heap s.heap [] := va_S.rf
  have f1 := hts (.fieldLink RJ0 9 "java/lang/String" "value" "[B") (by decide +kernel)
  have hl := lv_entry ([.ref (adK i), .int (nI k)]) (n := 2) (Nat.le_of_ble_eq_true rfl)
  rw [lg_entry_eq]
  generalize (lg_sl ([.ref (adK i), .int (nI k)]) ++ List.replicate (2 - (lg_sl ([.ref (adK i), .int (nI k)])).length) Slot.unset).toArray = ls at hl ⊢
  have hl : lv_has ls 2 [(0, .ref (adK i)), (1, .int (nI k))] := hl
  refine lv_aload_n hx hb dJ0_charAt_5068e_0 rfl (lv_at hl 0 rfl) ?_
  have hFc := zFree (cB := cB) (cI := cI) (cJ := cJ) (cZ := cZ) hS hA
  refine va_calli (va_runV (As := []) (rest := []) ⟨hx, hb, hml, hown, hts⟩ (kJ0_isLatin1 l dC dI cB cI cJ cZ adK adV s.heap.size i hi) (cwV 0 hts gJ0_charAt_5068e_J0_isLatin1_aae02 rfl rfl rfl (by decide +kernel) ⟨Nat.le_of_ble_eq_true rfl, Nat.le_of_ble_eq_true rfl⟩) (zpV hi hK hE hS hA) rfl rfl hl.1 rfl (lv_room (Nat.le_of_ble_eq_true rfl)) dJ0_charAt_5068e_1 ⟨Nat.le_of_ble_eq_true rfl, Nat.le_of_ble_eq_true rfl⟩) hS (fun q _ z => hFc q z) hFc (fun r u t H locs ht hvm hw hB hz1 hk1 hS => ?_)
  have hP : va_P (dC, dI) vwCl (e0W cB cI cJ cZ) H := fun k q h => by simp at h
  have hw : r = 1 := hw
  subst hw
  refine lv_if_eq (tgt := 16) hx hb dJ0_charAt_5068e_4 (by decide) (fun c1 => absurd c1 (by decide)) (fun c1 => ?_)
  refine lv_aload_n hx hb dJ0_charAt_5068e_7 rfl (lv_at hl 0 rfl) ?_
  refine vk_getf (v := .ref (adV i)) hx hb (hE.1.1 i hi).2.2.1 hS hown f1 (fun _ h9 => h9) dJ0_charAt_5068e_8 ?_
  refine lv_iload_n hx hb dJ0_charAt_5068e_11 rfl (lv_at hl 1 rfl) ?_
  have hFc := zFree (cB := cB) (cI := cI) (cJ := cJ) (cZ := cZ) hS hA
  refine va_calli (va_runS (As := [.ref (adV i), .int (nI k)]) (rest := []) ⟨hx, hb, hml, hown, hts⟩ (kJ1_charAt l dC dI cB cI cJ cZ adK adV H.size i k hi hk) (va_cwS 2 hts gJ0_charAt_5068e_J1_charAt_3b067 rfl rfl rfl (by decide +kernel) ⟨Nat.le_of_ble_eq_true rfl, Nat.le_of_ble_eq_true rfl⟩) (zpS hK hE hS hA) rfl rfl hl.1 rfl (lv_room (Nat.le_of_ble_eq_true rfl)) dJ0_charAt_5068e_12 ⟨Nat.le_of_ble_eq_true rfl, Nat.le_of_ble_eq_true rfl⟩) hS (fun q _ z => hFc q z) hFc (fun r u t H locs ht hvm hw hB hz1 hk1 hS => ?_)
  have hP : va_P (dC, dI) vwCl (e0W cB cI cJ cZ) H := fun k q h => by simp at h
  have hw : r = sCh i k := hw
  have nr : narrow .char (.int r) = .int r := by rw [hw, ← sCh_ok i hi k hk]; exact pk_nc _
  exact W.zret (v := r) hx hb hr nr (fun t ht hW => ⟨⟨_, (), rfl, hw, by rw [ht]; exact hP, va_K.moved hW.alike hK, hD⟩, hS.F ht⟩) hS.2.2 dJ0_charAt_5068e_15
theorem kJ0_charAtX (l : Launch) (dC : Nat → ClassId) (dI : Nat → Nat → Nat) (cB cI cJ cZ : ClassId) (adK adV : Nat → Nat) (sz : Nat) (i k : Nat) (x : Int32) (ex : x = nI k) (hi : i < 6) (hk : k < sLen.getD i 0) : Met l yJ0_charAt_5068e wsJ0_charAt_5068e rmJ0_charAt (va_Pc [.ref (adK i), .int x] (zI dC dI cB cI cJ cZ adK adV sz)) (va_Qi (fun (r : Int32) (u : Unit) => r = sCh i k) (e0B dC dI cB cI cJ cZ (va_A (e0W cB cI cJ cZ) sz)) (va_A (e0W cB cI cJ cZ) sz)) 0 0 (va_A (e0W cB cI cJ cZ) sz) := by
  subst ex
  exact kJ0_charAt l dC dI cB cI cJ cZ adK adV sz i k hi hk
