def wX11_hasCorner  (M0 : gS) (M1 : gS) (M2 : gS) (M3 : gS) (M4 : gS) (M5 : gS) (M6 : gS) (M7 : gS) (M8 : gS) (M9 : gS) (Q : Bool → gS → gS → gS → gS → gS → gS → gS → gS → gS → gS → Prop) : Prop :=
 (((mg M2 0) ≤ 0 → (Q false M0 M1 M2 M3 M4 M5 M6 M7 M8 M9))
 ∧ (¬ (mg M2 0) ≤ 0 → (Q true M0 M1 M2 M3 M4 M5 M6 M7 M8 M9)))
def rmX11_hasCorner : Room := { frames := 0, cells := 0, slots := 0, locals := 0 }
set_option maxHeartbeats 4000000 in
set_option maxRecDepth 100000 in
theorem kX11_hasCorner (l : Launch) (dC : Nat → ClassId) (dI : Nat → Nat → Nat) (cB cI cJ cZ : ClassId) (h0 : Nat) (a0 : Nat → Nat) (a1 : Nat → Nat) (a2 : Nat → Nat) (a3 : Nat → Nat) (a4 : Nat → Nat) (a5 : Nat → Nat) (a6 : Nat → Nat) (a7 : Nat → Nat) (o7 : Option Nat) (a8 : Nat → Nat) (o8 : Option Nat) (a9 : Nat → Nat) (sz : Nat)  (M0 : gS) (M1 : gS) (M2 : gS) (M3 : gS) (M4 : gS) (M5 : gS) (M6 : gS) (M7 : gS) (M8 : gS) (M9 : gS) (Q : Bool → gS → gS → gS → gS → gS → gS → gS → gS → gS → gS → Prop) (h : wX11_hasCorner  M0 M1 M2 M3 M4 M5 M6 M7 M8 M9 Q) : Met l yX11_hasCorner wsX11_hasCorner rmX11_hasCorner (va_Pc [.ref h0] (lwI dC dI cB cI cJ cZ h0 a0 a1 a2 a3 a4 a5 a6 a7 o7 a8 o8 a9 M0 M1 M2 M3 M4 M5 M6 M7 M8 M9 sz)) (va_Qi (fun (r : Int32) (u : gS × gS × gS × gS × gS × gS × gS × gS × gS × gS) => ∃ b : Bool, r = bI b ∧ Q b u.1 u.2.1 u.2.2.1 u.2.2.2.1 u.2.2.2.2.1 u.2.2.2.2.2.1 u.2.2.2.2.2.2.1 u.2.2.2.2.2.2.2.1 u.2.2.2.2.2.2.2.2.1 u.2.2.2.2.2.2.2.2.2) (lwB dC dI cB cI cJ cZ h0 a0 a1 a2 a3 a4 a5 a6 a7 a8 a9 (va_A (lwW cB cI cJ cZ h0 a0 a1 a2 a3 a4 a5 a6 a7 o7 a8 o8 a9 M0 M1 M2 M3 M4 M5 M6 M7 M8 M9) sz)) (va_A (lwW cB cI cJ cZ h0 a0 a1 a2 a3 a4 a5 a6 a7 o7 a8 o8 a9 M0 M1 M2 M3 M4 M5 M6 M7 M8 M9) sz)) 0 0 (va_A (lwW cB cI cJ cZ h0 a0 a1 a2 a3 a4 a5 a6 a7 o7 a8 o8 a9 M0 M1 M2 M3 M4 M5 M6 M7 M8 M9) sz) := by
  refine Met.ofW (cc := cX11_hasCorner) (maxL := 1) (ret := (some .boolean)) (by decide) rfl ?_
  intro p e s m args below meth c s₁ B hml hv
  obtain ⟨rfl, hsz, hP, hK, hD0⟩ := hv
  have hx := B.exec
  have hb := B.bytes
  have hr := B.returns
  have hts := atoms_spec (ws := wsX11_hasCorner) B.pre
  have hown : s.vm.findClass RX11 = some m.cls := findClass_of_methodNamed B.named
  have hlocks := B.notSynchronized
  subst hsz
  have hD := hD0.self (sz := s.heap.size)
  generalize hAe : va_A (lwW cB cI cJ cZ h0 a0 a1 a2 a3 a4 a5 a6 a7 o7 a8 o8 a9 M0 M1 M2 M3 M4 M5 M6 M7 M8 M9) s.heap.size = A at hD ⊢
  have hA : ∀ q : Nat, s.heap.size ≤ q → A q := fun q h => by rw [← hAe]; exact Or.inr h
  have hS : va_S A s.heap s.heap [] := va_S.rf
  have hinX1 : ∀ w ∈ wsX10, w ∈ wsX11_hasCorner := by decide +kernel
  have hinX10 : ∀ w ∈ wsX100, w ∈ wsX11_hasCorner := by decide +kernel
  have hinX11 : ∀ w ∈ wsX110, w ∈ wsX11_hasCorner := by decide +kernel
  have f1 := hts (.fieldLink RX11 22 "LastWords" "now" "LLastWords$State;") (by decide +kernel)
  have f2 := hts (.fieldLink RX11 108 "LastWords$State" "corner" "LLastWords$Corner;") (by decide +kernel)
  have f3 := hts (.fieldLink RX11 95 "LastWords$Corner" "tunes" "I") (by decide +kernel)
  have bE : ∀ (M0 : gS) (M1 : gS) (M2 : gS) (M3 : gS) (M4 : gS) (M5 : gS) (M6 : gS) (M7 : gS) (M8 : gS) (M9 : gS) (H : Heap) (locs : List Loc) (ls : Array Slot), va_P (dC, dI) vwCl (lwW cB cI cJ cZ h0 a0 a1 a2 a3 a4 a5 a6 a7 o7 a8 o8 a9 M0 M1 M2 M3 M4 M5 M6 M7 M8 M9) H → va_D A (lwW cB cI cJ cZ h0 a0 a1 a2 a3 a4 a5 a6 a7 o7 a8 o8 a9 M0 M1 M2 M3 M4 M5 M6 M7 M8 M9) → va_S A s.heap H locs → lv_has ls 1 [(0, .ref h0)] → wX11_hasCorner  M0 M1 M2 M3 M4 M5 M6 M7 M8 M9 Q → W p l e (headSpec wsX11_hasCorner rmX11_hasCorner).room s m ([.ref h0] : List Value).toArray below meth c H locs 0 0 (MQ below (va_Qi (fun (r : Int32) (u : gS × gS × gS × gS × gS × gS × gS × gS × gS × gS) => ∃ b : Bool, r = bI b ∧ Q b u.1 u.2.1 u.2.2.1 u.2.2.2.1 u.2.2.2.2.1 u.2.2.2.2.2.1 u.2.2.2.2.2.2.1 u.2.2.2.2.2.2.2.1 u.2.2.2.2.2.2.2.2.1 u.2.2.2.2.2.2.2.2.2) (lwB dC dI cB cI cJ cZ h0 a0 a1 a2 a3 a4 a5 a6 a7 a8 a9 A) A) ([.ref h0] : List Value).toArray s 0 0 A) (F0 m 0 ls []) := by
    intro M0 M1 M2 M3 M4 M5 M6 M7 M8 M9 H locs ls hP hD hS hl h
    unfold wX11_hasCorner at h
    refine lv_aload_n hx hb dX11_hasCorner_0 rfl (lv_at hl 0 rfl) ?_
    refine va_get (D := (dC, dI)) (ci := 11) (v := .ref (a0 4)) (C := RX11) (T := TX11) (N := 12) hx hb hts hinX11 hown hK hP 0 rfl rfl 4 (by decide) f1 (fun _ h9 => h9) rfl dX11_hasCorner_1 ?_
    refine va_get (D := (dC, dI)) (ci := 10) (v := .ref (a1 0)) (C := RX10) (T := TX10) (N := 5) hx hb hts hinX10 hown hK hP 3 rfl rfl 0 (by decide) f2 (fun _ h9 => h9) rfl dX11_hasCorner_4 ?_
    refine va_get (D := (dC, dI)) (ci := 1) (v := .int (mg M2 0)) (C := RX1) (T := TX1) (N := 6) hx hb hts hinX1 hown hK hP 5 rfl rfl 0 (by decide) f3 (fun _ h9 => h9) rfl dX11_hasCorner_7 ?_
    refine lv_if_le (tgt := 17) hx hb dX11_hasCorner_10 (by decide) (fun c1 => ?_) (fun c1 => ?_)
    · have h := h.1 c1
      refine lv_iconst (v := 0) hx hb dX11_hasCorner_17 (by decide) ?_
      exact W.zret (v := (bI false)) hx hb hr (nar_bI false) (fun t ht hW => ⟨⟨_, (M0, M1, M2, M3, M4, M5, M6, M7, M8, M9), rfl, ⟨false, rfl, h⟩, o7, o8, by rw [ht]; exact hP, va_K.moved hW.alike hK, hD⟩, hS.F ht⟩) hS.2.2 dX11_hasCorner_18
    · have h := h.2 c1
      refine lv_iconst (v := 1) hx hb dX11_hasCorner_13 (by decide) ?_
      refine lv_goto (tgt := 18) hx hb dX11_hasCorner_14 (by decide) ?_
      exact W.zret (v := (bI true)) hx hb hr (nar_bI true) (fun t ht hW => ⟨⟨_, (M0, M1, M2, M3, M4, M5, M6, M7, M8, M9), rfl, ⟨true, rfl, h⟩, o7, o8, by rw [ht]; exact hP, va_K.moved hW.alike hK, hD⟩, hS.F ht⟩) hS.2.2 dX11_hasCorner_18
  have hl := lv_entry ([.ref h0]) (n := 1) (Nat.le_of_ble_eq_true rfl)
  rw [lg_entry_eq]
  generalize (lg_sl ([.ref h0]) ++ List.replicate (1 - (lg_sl ([.ref h0])).length) Slot.unset).toArray = ls at hl ⊢
  have hl : lv_has ls 1 [(0, .ref h0)] := hl
  exact bE M0 M1 M2 M3 M4 M5 M6 M7 M8 M9 s.heap [] ls hP hD hS hl h
def wX11_putBytes_43 (B3 : Int32 → Int32 → gS → gS → gS → gS → gS → gS → gS → gS → gS → gS → Prop) (Q : gS → gS → gS → gS → gS → gS → gS → gS → gS → gS → Prop) (y1 : Int32) (y2 : Int32) (M0 : gS) (M1 : gS) (M2 : gS) (M3 : gS) (M4 : gS) (M5 : gS) (M6 : gS) (M7 : gS) (M8 : gS) (M9 : gS) : Prop :=
 (∀ x1 : Int32, x1 = y2 + (-8 : Int32) → (B3 y1 x1 M0 M1 M2 M3 M4 M5 M6 M7 M8 M9))
def wX11_putBytes_3  (Q : gS → gS → gS → gS → gS → gS → gS → gS → gS → gS → Prop) : Nat → Int32 → Int32 → gS → gS → gS → gS → gS → gS → gS → gS → gS → gS → Prop
 | 0, _, _, _, _, _, _, _, _, _, _, _, _ => False
 | n + 1, y1, y2, M0, M1, M2, M3, M4, M5, M6, M7, M8, M9 => ((y2 < 0 → (Q M0 M1 M2 M3 M4 M5 M6 M7 M8 M9))
 ∧ (¬ y2 < 0 → (((400 : Int32) ≤ (mg M0 1) → (wX11_putBytes_43 (fun (y1 : Int32) (y2 : Int32) (M0 : gS) (M1 : gS) (M2 : gS) (M3 : gS) (M4 : gS) (M5 : gS) (M6 : gS) (M7 : gS) (M8 : gS) (M9 : gS) => wX11_putBytes_3  Q n y1 y2 M0 M1 M2 M3 M4 M5 M6 M7 M8 M9) Q y1 y2 M0 M1 M2 M3 M4 M5 M6 M7 M8 M9))
 ∧ (¬ (400 : Int32) ≤ (mg M0 1) → (∀ x3 : Int32, x3 = (((Int32.toUInt32 y1 >>> (Int32.toUInt32 y2 &&& Int32.toUInt32 31)).toInt32) &&& (255 : Int32)) → (vp_in (mg M0 1) 400 ∧ (∀ N4 : gS, N4 = sa M0 0 (Int32.toNatClampNeg (mg M0 1)) x3 → (∀ x5 : Int32, x5 = ((mg N4 1) + (1 : Int32)) → (∀ N6 : gS, N6 = sg N4 1 x5 → (wX11_putBytes_43 (fun (y1 : Int32) (y2 : Int32) (M0 : gS) (M1 : gS) (M2 : gS) (M3 : gS) (M4 : gS) (M5 : gS) (M6 : gS) (M7 : gS) (M8 : gS) (M9 : gS) => wX11_putBytes_3  Q n y1 y2 M0 M1 M2 M3 M4 M5 M6 M7 M8 M9) Q y1 y2 N6 M1 M2 M3 M4 M5 M6 M7 M8 M9))))))))))
def wX11_putBytes (p1 : Int32) (M0 : gS) (M1 : gS) (M2 : gS) (M3 : gS) (M4 : gS) (M5 : gS) (M6 : gS) (M7 : gS) (M8 : gS) (M9 : gS) (Q : gS → gS → gS → gS → gS → gS → gS → gS → gS → gS → Prop) : Prop :=
 (∃ k3 : Nat, wX11_putBytes_3  Q k3 p1 (24 : Int32) M0 M1 M2 M3 M4 M5 M6 M7 M8 M9)
def rmX11_putBytes : Room := { frames := 0, cells := 0, slots := 0, locals := 0 }
set_option maxHeartbeats 4000000 in
set_option maxRecDepth 100000 in
theorem kX11_putBytes (l : Launch) (dC : Nat → ClassId) (dI : Nat → Nat → Nat) (cB cI cJ cZ : ClassId) (h0 : Nat) (a0 : Nat → Nat) (a1 : Nat → Nat) (a2 : Nat → Nat) (a3 : Nat → Nat) (a4 : Nat → Nat) (a5 : Nat → Nat) (a6 : Nat → Nat) (a7 : Nat → Nat) (o7 : Option Nat) (a8 : Nat → Nat) (o8 : Option Nat) (a9 : Nat → Nat) (sz : Nat) (p1 : Int32) (M0 : gS) (M1 : gS) (M2 : gS) (M3 : gS) (M4 : gS) (M5 : gS) (M6 : gS) (M7 : gS) (M8 : gS) (M9 : gS) (Q : gS → gS → gS → gS → gS → gS → gS → gS → gS → gS → Prop) (h : wX11_putBytes p1 M0 M1 M2 M3 M4 M5 M6 M7 M8 M9 Q) : Met l yX11_putBytes wsX11_putBytes rmX11_putBytes (va_Pc [.ref h0, .int p1] (lwI dC dI cB cI cJ cZ h0 a0 a1 a2 a3 a4 a5 a6 a7 o7 a8 o8 a9 M0 M1 M2 M3 M4 M5 M6 M7 M8 M9 sz)) (va_Qv (fun (u : gS × gS × gS × gS × gS × gS × gS × gS × gS × gS) => Q u.1 u.2.1 u.2.2.1 u.2.2.2.1 u.2.2.2.2.1 u.2.2.2.2.2.1 u.2.2.2.2.2.2.1 u.2.2.2.2.2.2.2.1 u.2.2.2.2.2.2.2.2.1 u.2.2.2.2.2.2.2.2.2) (lwB dC dI cB cI cJ cZ h0 a0 a1 a2 a3 a4 a5 a6 a7 a8 a9 (va_A (lwW cB cI cJ cZ h0 a0 a1 a2 a3 a4 a5 a6 a7 o7 a8 o8 a9 M0 M1 M2 M3 M4 M5 M6 M7 M8 M9) sz)) (va_A (lwW cB cI cJ cZ h0 a0 a1 a2 a3 a4 a5 a6 a7 o7 a8 o8 a9 M0 M1 M2 M3 M4 M5 M6 M7 M8 M9) sz)) 0 0 (va_A (lwW cB cI cJ cZ h0 a0 a1 a2 a3 a4 a5 a6 a7 o7 a8 o8 a9 M0 M1 M2 M3 M4 M5 M6 M7 M8 M9) sz) := by
  refine Met.ofW (cc := cX11_putBytes) (maxL := 3) (ret := none) (by decide) rfl ?_
  intro p e s m args below meth c s₁ B hml hv
  obtain ⟨rfl, hsz, hP, hK, hD0⟩ := hv
  have hx := B.exec
  have hb := B.bytes
  have hr := B.returns
  have hts := atoms_spec (ws := wsX11_putBytes) B.pre
  have hown : s.vm.findClass RX11 = some m.cls := findClass_of_methodNamed B.named
  have hlocks := B.notSynchronized
  subst hsz
  have hD := hD0.self (sz := s.heap.size)
  generalize hAe : va_A (lwW cB cI cJ cZ h0 a0 a1 a2 a3 a4 a5 a6 a7 o7 a8 o8 a9 M0 M1 M2 M3 M4 M5 M6 M7 M8 M9) s.heap.size = A at hD ⊢
  have hA : ∀ q : Nat, s.heap.size ≤ q → A q := fun q h => by rw [← hAe]; exact Or.inr h
  have hS : va_S A s.heap s.heap [] := va_S.rf
  have hinX11 : ∀ w ∈ wsX110, w ∈ wsX11_putBytes := by decide +kernel
  have f1 := hts (.fieldLink RX11 69 "LastWords" "tapeLength" "I") (by decide +kernel)
  have f2 := hts (.fieldLink RX11 9 "LastWords" "tape" "[I") (by decide +kernel)
  have b43 : ∀ (B3 : Int32 → Int32 → gS → gS → gS → gS → gS → gS → gS → gS → gS → gS → Prop) (hB3 : ∀ (y1 : Int32) (y2 : Int32) (o7 o8 : Option Nat) (M0 : gS) (M1 : gS) (M2 : gS) (M3 : gS) (M4 : gS) (M5 : gS) (M6 : gS) (M7 : gS) (M8 : gS) (M9 : gS) (H : Heap) (locs : List Loc) (ls : Array Slot), va_P (dC, dI) vwCl (lwW cB cI cJ cZ h0 a0 a1 a2 a3 a4 a5 a6 a7 o7 a8 o8 a9 M0 M1 M2 M3 M4 M5 M6 M7 M8 M9) H → va_D A (lwW cB cI cJ cZ h0 a0 a1 a2 a3 a4 a5 a6 a7 o7 a8 o8 a9 M0 M1 M2 M3 M4 M5 M6 M7 M8 M9) → va_S A s.heap H locs → lv_has ls 3 [(0, .ref h0), (1, .int y1), (2, .int y2)] → B3 y1 y2 M0 M1 M2 M3 M4 M5 M6 M7 M8 M9 → W p l e (headSpec wsX11_putBytes rmX11_putBytes).room s m ([.ref h0, .int p1] : List Value).toArray below meth c H locs 0 0 (MQ below (va_Qv (fun (u : gS × gS × gS × gS × gS × gS × gS × gS × gS × gS) => Q u.1 u.2.1 u.2.2.1 u.2.2.2.1 u.2.2.2.2.1 u.2.2.2.2.2.1 u.2.2.2.2.2.2.1 u.2.2.2.2.2.2.2.1 u.2.2.2.2.2.2.2.2.1 u.2.2.2.2.2.2.2.2.2) (lwB dC dI cB cI cJ cZ h0 a0 a1 a2 a3 a4 a5 a6 a7 a8 a9 A) A) ([.ref h0, .int p1] : List Value).toArray s 0 0 A) (F0 m 3 ls [])) (y1 : Int32) (y2 : Int32) (o7 o8 : Option Nat) (M0 : gS) (M1 : gS) (M2 : gS) (M3 : gS) (M4 : gS) (M5 : gS) (M6 : gS) (M7 : gS) (M8 : gS) (M9 : gS) (H : Heap) (locs : List Loc) (ls : Array Slot), va_P (dC, dI) vwCl (lwW cB cI cJ cZ h0 a0 a1 a2 a3 a4 a5 a6 a7 o7 a8 o8 a9 M0 M1 M2 M3 M4 M5 M6 M7 M8 M9) H → va_D A (lwW cB cI cJ cZ h0 a0 a1 a2 a3 a4 a5 a6 a7 o7 a8 o8 a9 M0 M1 M2 M3 M4 M5 M6 M7 M8 M9) → va_S A s.heap H locs → lv_has ls 3 [(0, .ref h0), (1, .int y1), (2, .int y2)] → wX11_putBytes_43 B3 Q y1 y2 M0 M1 M2 M3 M4 M5 M6 M7 M8 M9 → W p l e (headSpec wsX11_putBytes rmX11_putBytes).room s m ([.ref h0, .int p1] : List Value).toArray below meth c H locs 0 0 (MQ below (va_Qv (fun (u : gS × gS × gS × gS × gS × gS × gS × gS × gS × gS) => Q u.1 u.2.1 u.2.2.1 u.2.2.2.1 u.2.2.2.2.1 u.2.2.2.2.2.1 u.2.2.2.2.2.2.1 u.2.2.2.2.2.2.2.1 u.2.2.2.2.2.2.2.2.1 u.2.2.2.2.2.2.2.2.2) (lwB dC dI cB cI cJ cZ h0 a0 a1 a2 a3 a4 a5 a6 a7 a8 a9 A) A) ([.ref h0, .int p1] : List Value).toArray s 0 0 A) (F0 m 43 ls []) := by
    intro B3 hB3 y1 y2 o7 o8  M0 M1 M2 M3 M4 M5 M6 M7 M8 M9 H locs ls hP hD hS hl h
    unfold wX11_putBytes_43 at h
    obtain ⟨x1, ex1⟩ : ∃ y : Int32, y = y2 + (-8 : Int32) := ⟨_, rfl⟩
    have h := h x1 ex1
    refine lv_iinc (v := x1) (lv' := [(2, .int x1), (0, .ref h0), (1, .int y1)]) hx hb dX11_putBytes_43 hl (k := 2) rfl (by rw [ex1]; rfl) (by decide) rfl (fun ls hl => ?_)
    refine lv_goto (tgt := 3) hx hb dX11_putBytes_46 (by decide) ?_
    exact hB3 y1 x1 o7 o8 M0 M1 M2 M3 M4 M5 M6 M7 M8 M9 H locs ls hP hD hS (lv_sub hl [1, 2, 0] rfl) h
  have b3 : ∀ (n : Nat) (y1 : Int32) (y2 : Int32) (o7 o8 : Option Nat) (M0 : gS) (M1 : gS) (M2 : gS) (M3 : gS) (M4 : gS) (M5 : gS) (M6 : gS) (M7 : gS) (M8 : gS) (M9 : gS) (H : Heap) (locs : List Loc) (ls : Array Slot), va_P (dC, dI) vwCl (lwW cB cI cJ cZ h0 a0 a1 a2 a3 a4 a5 a6 a7 o7 a8 o8 a9 M0 M1 M2 M3 M4 M5 M6 M7 M8 M9) H → va_D A (lwW cB cI cJ cZ h0 a0 a1 a2 a3 a4 a5 a6 a7 o7 a8 o8 a9 M0 M1 M2 M3 M4 M5 M6 M7 M8 M9) → va_S A s.heap H locs → lv_has ls 3 [(0, .ref h0), (1, .int y1), (2, .int y2)] → wX11_putBytes_3  Q n y1 y2 M0 M1 M2 M3 M4 M5 M6 M7 M8 M9 → W p l e (headSpec wsX11_putBytes rmX11_putBytes).room s m ([.ref h0, .int p1] : List Value).toArray below meth c H locs 0 0 (MQ below (va_Qv (fun (u : gS × gS × gS × gS × gS × gS × gS × gS × gS × gS) => Q u.1 u.2.1 u.2.2.1 u.2.2.2.1 u.2.2.2.2.1 u.2.2.2.2.2.1 u.2.2.2.2.2.2.1 u.2.2.2.2.2.2.2.1 u.2.2.2.2.2.2.2.2.1 u.2.2.2.2.2.2.2.2.2) (lwB dC dI cB cI cJ cZ h0 a0 a1 a2 a3 a4 a5 a6 a7 a8 a9 A) A) ([.ref h0, .int p1] : List Value).toArray s 0 0 A) (F0 m 3 ls []) := by
    intro  n
    induction n with
    | zero => intro y1 y2 o7 o8  M0 M1 M2 M3 M4 M5 M6 M7 M8 M9 H locs ls hP hD hS hl h; exact absurd h (by simp [wX11_putBytes_3])
    | succ n hB30 =>
      intro y1 y2 o7 o8  M0 M1 M2 M3 M4 M5 M6 M7 M8 M9 H locs ls hP hD hS hl h
      have hB3 := hB30
      rw [wX11_putBytes_3] at h
      refine lv_iload_n hx hb dX11_putBytes_3 rfl (lv_at hl 2 rfl) ?_
      refine lv_if_lt (tgt := 49) hx hb dX11_putBytes_4 (by decide) (fun c1 => ?_) (fun c1 => ?_)
      · have h := h.1 c1
        exact W.vret hx hb hr (fun t ht hW => ⟨⟨(M0, M1, M2, M3, M4, M5, M6, M7, M8, M9), rfl, h, o7, o8, by rw [ht]; exact hP, va_K.moved hW.alike hK, hD⟩, hS.F ht⟩) hS.2.2 dX11_putBytes_49
      · have h := h.2 c1
        refine lv_aload_n hx hb dX11_putBytes_7 rfl (lv_at hl 0 rfl) ?_
        refine va_get (D := (dC, dI)) (ci := 11) (v := .int (mg M0 1)) (C := RX11) (T := TX11) (N := 12) hx hb hts hinX11 hown hK hP 0 rfl rfl 1 (by decide) f1 (fun _ h9 => h9) rfl dX11_putBytes_8 ?_
        refine lv_sipush (v := (400)) hx hb dX11_putBytes_11 (by decide) ?_
        refine lv_icmp_ge (tgt := 43) hx hb dX11_putBytes_14 (by decide) (fun c2 => ?_) (fun c2 => ?_)
        · have h := h.1 c2
          exact b43 _ hB3 y1 y2 o7 o8 M0 M1 M2 M3 M4 M5 M6 M7 M8 M9 H locs ls hP hD hS (lv_sub hl [0, 1, 2] rfl) h
        · have h := h.2 c2
          refine lv_aload_n hx hb dX11_putBytes_17 rfl (lv_at hl 0 rfl) ?_
          refine va_get (D := (dC, dI)) (ci := 11) (v := .ref (a0 0)) (C := RX11) (T := TX11) (N := 12) hx hb hts hinX11 hown hK hP 0 rfl rfl 0 (by decide) f2 (fun _ h9 => h9) rfl dX11_putBytes_18 ?_
          refine lv_aload_n hx hb dX11_putBytes_21 rfl (lv_at hl 0 rfl) ?_
          refine va_get (D := (dC, dI)) (ci := 11) (v := .int (mg M0 1)) (C := RX11) (T := TX11) (N := 12) hx hb hts hinX11 hown hK hP 0 rfl rfl 1 (by decide) f1 (fun _ h9 => h9) rfl dX11_putBytes_22 ?_
          refine lv_iload_n hx hb dX11_putBytes_25 rfl (lv_at hl 1 rfl) ?_
          refine lv_iload_n hx hb dX11_putBytes_26 rfl (lv_at hl 2 rfl) ?_
          refine lv_iushr hx hb dX11_putBytes_27 rfl ?_
          refine lv_sipush (v := (255)) hx hb dX11_putBytes_28 (by decide) ?_
          refine lv_iand hx hb dX11_putBytes_31 ?_
          refine lv_topi (fun x3 ex3 => ?_)
          have h := h x3 ex3
          refine va_iast hx hb hK hP hD hS 1 1 (f := ma M0 0) rfl rfl h.1 dX11_putBytes_32 (fun H locs hP hD hS => ?_)
          have h := h.2
          have hP := lwP_0_a0 hP
          have hD := lwD_0_a0 hD
          have h := h _ rfl
          generalize sa M0 0 (Int32.toNatClampNeg (mg M0 1)) x3 = N4 at hP hD h
          refine lv_aload_n hx hb dX11_putBytes_33 rfl (lv_at hl 0 rfl) ?_
          refine lv_dup hx hb dX11_putBytes_34 rfl ?_
          refine va_get (D := (dC, dI)) (ci := 11) (v := .int (mg N4 1)) (C := RX11) (T := TX11) (N := 12) hx hb hts hinX11 hown hK hP 0 rfl rfl 1 (by decide) f1 (fun _ h9 => h9) rfl dX11_putBytes_35 ?_
          refine lv_iconst (v := 1) hx hb dX11_putBytes_38 (by decide) ?_
          refine lv_iadd hx hb dX11_putBytes_39 ?_
          refine lv_topi (fun x5 ex5 => ?_)
          have h := h x5 ex5
          refine va_put (D := (dC, dI)) (ci := 11) (v := .int x5) (ty := .int) (C := RX11) (T := TX11) (N := 12) hx hb hts hinX11 tyX11 tyX11_ok nmX11 hown hK hP hD hS 0 rfl rfl 1 (by decide) f1 (fun _ h9 => h9) rfl (by decide +kernel) rfl rfl (Nat.le_of_ble_eq_true rfl) dX11_putBytes_40 (fun H locs hP hD hS => ?_)
          have hP := lwP_0_f1 hP
          have hD := lwD_0_f1 hD
          have h := h _ rfl
          generalize sg N4 1 x5 = N6 at hP hD h
          exact b43 _ hB3 y1 y2 o7 o8 N6 M1 M2 M3 M4 M5 M6 M7 M8 M9 H locs ls hP hD hS (lv_sub hl [0, 1, 2] rfl) h
  have bE : ∀ (M0 : gS) (M1 : gS) (M2 : gS) (M3 : gS) (M4 : gS) (M5 : gS) (M6 : gS) (M7 : gS) (M8 : gS) (M9 : gS) (H : Heap) (locs : List Loc) (ls : Array Slot), va_P (dC, dI) vwCl (lwW cB cI cJ cZ h0 a0 a1 a2 a3 a4 a5 a6 a7 o7 a8 o8 a9 M0 M1 M2 M3 M4 M5 M6 M7 M8 M9) H → va_D A (lwW cB cI cJ cZ h0 a0 a1 a2 a3 a4 a5 a6 a7 o7 a8 o8 a9 M0 M1 M2 M3 M4 M5 M6 M7 M8 M9) → va_S A s.heap H locs → lv_has ls 3 [(0, .ref h0), (1, .int p1)] → wX11_putBytes p1 M0 M1 M2 M3 M4 M5 M6 M7 M8 M9 Q → W p l e (headSpec wsX11_putBytes rmX11_putBytes).room s m ([.ref h0, .int p1] : List Value).toArray below meth c H locs 0 0 (MQ below (va_Qv (fun (u : gS × gS × gS × gS × gS × gS × gS × gS × gS × gS) => Q u.1 u.2.1 u.2.2.1 u.2.2.2.1 u.2.2.2.2.1 u.2.2.2.2.2.1 u.2.2.2.2.2.2.1 u.2.2.2.2.2.2.2.1 u.2.2.2.2.2.2.2.2.1 u.2.2.2.2.2.2.2.2.2) (lwB dC dI cB cI cJ cZ h0 a0 a1 a2 a3 a4 a5 a6 a7 a8 a9 A) A) ([.ref h0, .int p1] : List Value).toArray s 0 0 A) (F0 m 0 ls []) := by
    intro M0 M1 M2 M3 M4 M5 M6 M7 M8 M9 H locs ls hP hD hS hl h
    unfold wX11_putBytes at h
    refine lv_bipush (v := (24)) hx hb dX11_putBytes_0 (by decide) ?_
    refine lv_istore_n (lv' := [(2, .int (24 : Int32)), (0, .ref h0), (1, .int p1)]) hx hb dX11_putBytes_2 rfl hl (by decide) rfl (fun ls hl => ?_)
    obtain ⟨n9, h⟩ := h
    exact b3  n9 p1 (24 : Int32) o7 o8 M0 M1 M2 M3 M4 M5 M6 M7 M8 M9 H locs ls hP hD hS (lv_sub hl [1, 2, 0] rfl) h
  have hl := lv_entry ([.ref h0, .int p1]) (n := 3) (Nat.le_of_ble_eq_true rfl)
  rw [lg_entry_eq]
  generalize (lg_sl ([.ref h0, .int p1]) ++ List.replicate (3 - (lg_sl ([.ref h0, .int p1])).length) Slot.unset).toArray = ls at hl ⊢
  have hl : lv_has ls 3 [(0, .ref h0), (1, .int p1)] := hl
  exact bE M0 M1 M2 M3 M4 M5 M6 M7 M8 M9 s.heap [] ls hP hD hS hl h
def wX11_feed (p1 : Int32) (p2 : Int32) (p3 : Int32) (p4 : Int32) (p5 : Int32) (M0 : gS) (M1 : gS) (M2 : gS) (M3 : gS) (M4 : gS) (M5 : gS) (M6 : gS) (M7 : gS) (M8 : gS) (M9 : gS) (Q : Int32 → gS → gS → gS → gS → gS → gS → gS → gS → gS → gS → Prop) : Prop :=
 ((((mg M0 1) + (20 : Int32)) ≤ (400 : Int32) → (wX11_putBytes p1 M0 M1 M2 M3 M4 M5 M6 M7 M8 M9 (fun (N3 : gS) (N4 : gS) (N5 : gS) (N6 : gS) (N7 : gS) (N8 : gS) (N9 : gS) (N10 : gS) (N11 : gS) (N12 : gS) => (wX11_putBytes p2 N3 N4 N5 N6 N7 N8 N9 N10 N11 N12 (fun (N16 : gS) (N17 : gS) (N18 : gS) (N19 : gS) (N20 : gS) (N21 : gS) (N22 : gS) (N23 : gS) (N24 : gS) (N25 : gS) => (wX11_putBytes p3 N16 N17 N18 N19 N20 N21 N22 N23 N24 N25 (fun (N29 : gS) (N30 : gS) (N31 : gS) (N32 : gS) (N33 : gS) (N34 : gS) (N35 : gS) (N36 : gS) (N37 : gS) (N38 : gS) => (wX11_putBytes p4 N29 N30 N31 N32 N33 N34 N35 N36 N37 N38 (fun (N42 : gS) (N43 : gS) (N44 : gS) (N45 : gS) (N46 : gS) (N47 : gS) (N48 : gS) (N49 : gS) (N50 : gS) (N51 : gS) => (wX11_putBytes p5 N42 N43 N44 N45 N46 N47 N48 N49 N50 N51 (fun (N55 : gS) (N56 : gS) (N57 : gS) (N58 : gS) (N59 : gS) (N60 : gS) (N61 : gS) (N62 : gS) (N63 : gS) (N64 : gS) => (Q (mg N55 1) N55 N56 N57 N58 N59 N60 N61 N62 N63 N64))))))))))))
 ∧ (¬ ((mg M0 1) + (20 : Int32)) ≤ (400 : Int32) → (Q (-1 : Int32) M0 M1 M2 M3 M4 M5 M6 M7 M8 M9)))
def rmX11_feed : Room := { frames := 1, cells := 0, slots := 0, locals := 22 }
set_option maxHeartbeats 4000000 in
set_option maxRecDepth 100000 in
theorem kX11_feed (l : Launch) (dC : Nat → ClassId) (dI : Nat → Nat → Nat) (cB cI cJ cZ : ClassId) (h0 : Nat) (a0 : Nat → Nat) (a1 : Nat → Nat) (a2 : Nat → Nat) (a3 : Nat → Nat) (a4 : Nat → Nat) (a5 : Nat → Nat) (a6 : Nat → Nat) (a7 : Nat → Nat) (o7 : Option Nat) (a8 : Nat → Nat) (o8 : Option Nat) (a9 : Nat → Nat) (sz : Nat) (p1 : Int32) (p2 : Int32) (p3 : Int32) (p4 : Int32) (p5 : Int32) (M0 : gS) (M1 : gS) (M2 : gS) (M3 : gS) (M4 : gS) (M5 : gS) (M6 : gS) (M7 : gS) (M8 : gS) (M9 : gS) (Q : Int32 → gS → gS → gS → gS → gS → gS → gS → gS → gS → gS → Prop) (h : wX11_feed p1 p2 p3 p4 p5 M0 M1 M2 M3 M4 M5 M6 M7 M8 M9 Q) : Met l yX11_feed wsX11_feed rmX11_feed (va_Pc [.ref h0, .int p1, .int p2, .int p3, .int p4, .int p5] (lwI dC dI cB cI cJ cZ h0 a0 a1 a2 a3 a4 a5 a6 a7 o7 a8 o8 a9 M0 M1 M2 M3 M4 M5 M6 M7 M8 M9 sz)) (va_Qi (fun (r : Int32) (u : gS × gS × gS × gS × gS × gS × gS × gS × gS × gS) => Q r u.1 u.2.1 u.2.2.1 u.2.2.2.1 u.2.2.2.2.1 u.2.2.2.2.2.1 u.2.2.2.2.2.2.1 u.2.2.2.2.2.2.2.1 u.2.2.2.2.2.2.2.2.1 u.2.2.2.2.2.2.2.2.2) (lwB dC dI cB cI cJ cZ h0 a0 a1 a2 a3 a4 a5 a6 a7 a8 a9 (va_A (lwW cB cI cJ cZ h0 a0 a1 a2 a3 a4 a5 a6 a7 o7 a8 o8 a9 M0 M1 M2 M3 M4 M5 M6 M7 M8 M9) sz)) (va_A (lwW cB cI cJ cZ h0 a0 a1 a2 a3 a4 a5 a6 a7 o7 a8 o8 a9 M0 M1 M2 M3 M4 M5 M6 M7 M8 M9) sz)) 0 0 (va_A (lwW cB cI cJ cZ h0 a0 a1 a2 a3 a4 a5 a6 a7 o7 a8 o8 a9 M0 M1 M2 M3 M4 M5 M6 M7 M8 M9) sz) := by
  refine Met.ofW (cc := cX11_feed) (maxL := 6) (ret := (some .int)) (by decide) rfl ?_
  intro p e s m args below meth c s₁ B hml hv
  obtain ⟨rfl, hsz, hP, hK, hD0⟩ := hv
  have hx := B.exec
  have hb := B.bytes
  have hr := B.returns
  have hts := atoms_spec (ws := wsX11_feed) B.pre
  have hown : s.vm.findClass RX11 = some m.cls := findClass_of_methodNamed B.named
  have hlocks := B.notSynchronized
  subst hsz
  have hD := hD0.self (sz := s.heap.size)
  generalize hAe : va_A (lwW cB cI cJ cZ h0 a0 a1 a2 a3 a4 a5 a6 a7 o7 a8 o8 a9 M0 M1 M2 M3 M4 M5 M6 M7 M8 M9) s.heap.size = A at hD ⊢
  have hA : ∀ q : Nat, s.heap.size ≤ q → A q := fun q h => by rw [← hAe]; exact Or.inr h
  have hS : va_S A s.heap s.heap [] := va_S.rf
  have hinX11 : ∀ w ∈ wsX110, w ∈ wsX11_feed := by decide +kernel
  have f1 := hts (.fieldLink RX11 69 "LastWords" "tapeLength" "I") (by decide +kernel)
  have bE : ∀ (M0 : gS) (M1 : gS) (M2 : gS) (M3 : gS) (M4 : gS) (M5 : gS) (M6 : gS) (M7 : gS) (M8 : gS) (M9 : gS) (H : Heap) (locs : List Loc) (ls : Array Slot), va_P (dC, dI) vwCl (lwW cB cI cJ cZ h0 a0 a1 a2 a3 a4 a5 a6 a7 o7 a8 o8 a9 M0 M1 M2 M3 M4 M5 M6 M7 M8 M9) H → va_D A (lwW cB cI cJ cZ h0 a0 a1 a2 a3 a4 a5 a6 a7 o7 a8 o8 a9 M0 M1 M2 M3 M4 M5 M6 M7 M8 M9) → va_S A s.heap H locs → lv_has ls 6 [(0, .ref h0), (1, .int p1), (2, .int p2), (3, .int p3), (4, .int p4), (5, .int p5)] → wX11_feed p1 p2 p3 p4 p5 M0 M1 M2 M3 M4 M5 M6 M7 M8 M9 Q → W p l e (headSpec wsX11_feed rmX11_feed).room s m ([.ref h0, .int p1, .int p2, .int p3, .int p4, .int p5] : List Value).toArray below meth c H locs 0 0 (MQ below (va_Qi (fun (r : Int32) (u : gS × gS × gS × gS × gS × gS × gS × gS × gS × gS) => Q r u.1 u.2.1 u.2.2.1 u.2.2.2.1 u.2.2.2.2.1 u.2.2.2.2.2.1 u.2.2.2.2.2.2.1 u.2.2.2.2.2.2.2.1 u.2.2.2.2.2.2.2.2.1 u.2.2.2.2.2.2.2.2.2) (lwB dC dI cB cI cJ cZ h0 a0 a1 a2 a3 a4 a5 a6 a7 a8 a9 A) A) ([.ref h0, .int p1, .int p2, .int p3, .int p4, .int p5] : List Value).toArray s 0 0 A) (F0 m 0 ls []) := by
    intro M0 M1 M2 M3 M4 M5 M6 M7 M8 M9 H locs ls hP hD hS hl h
    unfold wX11_feed at h
    refine lv_aload_n hx hb dX11_feed_0 rfl (lv_at hl 0 rfl) ?_
    refine va_get (D := (dC, dI)) (ci := 11) (v := .int (mg M0 1)) (C := RX11) (T := TX11) (N := 12) hx hb hts hinX11 hown hK hP 0 rfl rfl 1 (by decide) f1 (fun _ h9 => h9) rfl dX11_feed_1 ?_
    refine lv_bipush (v := (20)) hx hb dX11_feed_4 (by decide) ?_
    refine lv_iadd hx hb dX11_feed_6 ?_
    refine lv_sipush (v := (400)) hx hb dX11_feed_7 (by decide) ?_
    refine lv_icmp_le (tgt := 15) hx hb dX11_feed_10 (by decide) (fun c1 => ?_) (fun c1 => ?_)
    · have h := h.1 c1
      refine lv_aload_n hx hb dX11_feed_15 rfl (lv_at hl 0 rfl) ?_
      refine lv_iload_n hx hb dX11_feed_16 rfl (lv_at hl 1 rfl) ?_
      have hFc := gs_free hD hS hA
      refine va_callv (va_runV (As := [.int p1]) (rest := []) ⟨hx, hb, hml, hown, hts⟩ (kX11_putBytes l dC dI cB cI cJ cZ h0 a0 a1 a2 a3 a4 a5 a6 a7 o7 a8 o8 a9 H.size p1 M0 M1 M2 M3 M4 M5 M6 M7 M8 M9 _ h) (cwV 1 hts gX11_feed_X11_putBytes rfl rfl rfl (by decide +kernel) ⟨Nat.le_of_ble_eq_true rfl, Nat.le_of_ble_eq_true rfl⟩) (lwpV hK hP hD) rfl rfl hl.1 rfl (lv_room (Nat.le_of_ble_eq_true rfl)) dX11_feed_17 ⟨Nat.le_of_ble_eq_true rfl, Nat.le_of_ble_eq_true rfl⟩) hS (fun q _ z => hFc q z) hFc (fun u t H1 locs ht hvm hw hB hz1 hk1 hS => ?_)
      obtain ⟨N3, N4, N5, N6, N7, N8, N9, N10, N11, N12⟩ := u
      obtain ⟨v13, v14, hP, hK1, hD1⟩ := hB
      rw [ht] at hP
      have hD := hD1.weaken (fun _ _ _ z => hFc _ z)
      generalize H1 = H at hP hS ⊢
      have h := hw
      try dsimp only at h
      refine lv_aload_n hx hb dX11_feed_20 rfl (lv_at hl 0 rfl) ?_
      refine lv_iload_n hx hb dX11_feed_21 rfl (lv_at hl 2 rfl) ?_
      have hFc := gs_free hD hS hA
      refine va_callv (va_runV (As := [.int p2]) (rest := []) ⟨hx, hb, hml, hown, hts⟩ (kX11_putBytes l dC dI cB cI cJ cZ h0 a0 a1 a2 a3 a4 a5 a6 a7 v13 a8 v14 a9 H.size p2 N3 N4 N5 N6 N7 N8 N9 N10 N11 N12 _ h) (cwV 1 hts gX11_feed_X11_putBytes rfl rfl rfl (by decide +kernel) ⟨Nat.le_of_ble_eq_true rfl, Nat.le_of_ble_eq_true rfl⟩) (lwpV hK hP hD) rfl rfl hl.1 rfl (lv_room (Nat.le_of_ble_eq_true rfl)) dX11_feed_22 ⟨Nat.le_of_ble_eq_true rfl, Nat.le_of_ble_eq_true rfl⟩) hS (fun q _ z => hFc q z) hFc (fun u t H1 locs ht hvm hw hB hz1 hk1 hS => ?_)
      obtain ⟨N16, N17, N18, N19, N20, N21, N22, N23, N24, N25⟩ := u
      obtain ⟨v26, v27, hP, hK1, hD1⟩ := hB
      rw [ht] at hP
      have hD := hD1.weaken (fun _ _ _ z => hFc _ z)
      generalize H1 = H at hP hS ⊢
      have h := hw
      try dsimp only at h
      refine lv_aload_n hx hb dX11_feed_25 rfl (lv_at hl 0 rfl) ?_
      refine lv_iload_n hx hb dX11_feed_26 rfl (lv_at hl 3 rfl) ?_
      have hFc := gs_free hD hS hA
      refine va_callv (va_runV (As := [.int p3]) (rest := []) ⟨hx, hb, hml, hown, hts⟩ (kX11_putBytes l dC dI cB cI cJ cZ h0 a0 a1 a2 a3 a4 a5 a6 a7 v26 a8 v27 a9 H.size p3 N16 N17 N18 N19 N20 N21 N22 N23 N24 N25 _ h) (cwV 1 hts gX11_feed_X11_putBytes rfl rfl rfl (by decide +kernel) ⟨Nat.le_of_ble_eq_true rfl, Nat.le_of_ble_eq_true rfl⟩) (lwpV hK hP hD) rfl rfl hl.1 rfl (lv_room (Nat.le_of_ble_eq_true rfl)) dX11_feed_27 ⟨Nat.le_of_ble_eq_true rfl, Nat.le_of_ble_eq_true rfl⟩) hS (fun q _ z => hFc q z) hFc (fun u t H1 locs ht hvm hw hB hz1 hk1 hS => ?_)
      obtain ⟨N29, N30, N31, N32, N33, N34, N35, N36, N37, N38⟩ := u
      obtain ⟨v39, v40, hP, hK1, hD1⟩ := hB
      rw [ht] at hP
      have hD := hD1.weaken (fun _ _ _ z => hFc _ z)
      generalize H1 = H at hP hS ⊢
      have h := hw
      try dsimp only at h
      refine lv_aload_n hx hb dX11_feed_30 rfl (lv_at hl 0 rfl) ?_
      refine lv_iload hx hb dX11_feed_31 (lv_at hl 4 rfl) ?_
      have hFc := gs_free hD hS hA
      refine va_callv (va_runV (As := [.int p4]) (rest := []) ⟨hx, hb, hml, hown, hts⟩ (kX11_putBytes l dC dI cB cI cJ cZ h0 a0 a1 a2 a3 a4 a5 a6 a7 v39 a8 v40 a9 H.size p4 N29 N30 N31 N32 N33 N34 N35 N36 N37 N38 _ h) (cwV 1 hts gX11_feed_X11_putBytes rfl rfl rfl (by decide +kernel) ⟨Nat.le_of_ble_eq_true rfl, Nat.le_of_ble_eq_true rfl⟩) (lwpV hK hP hD) rfl rfl hl.1 rfl (lv_room (Nat.le_of_ble_eq_true rfl)) dX11_feed_33 ⟨Nat.le_of_ble_eq_true rfl, Nat.le_of_ble_eq_true rfl⟩) hS (fun q _ z => hFc q z) hFc (fun u t H1 locs ht hvm hw hB hz1 hk1 hS => ?_)
      obtain ⟨N42, N43, N44, N45, N46, N47, N48, N49, N50, N51⟩ := u
      obtain ⟨v52, v53, hP, hK1, hD1⟩ := hB
      rw [ht] at hP
      have hD := hD1.weaken (fun _ _ _ z => hFc _ z)
      generalize H1 = H at hP hS ⊢
      have h := hw
      try dsimp only at h
      refine lv_aload_n hx hb dX11_feed_36 rfl (lv_at hl 0 rfl) ?_
      refine lv_iload hx hb dX11_feed_37 (lv_at hl 5 rfl) ?_
      have hFc := gs_free hD hS hA
      refine va_callv (va_runV (As := [.int p5]) (rest := []) ⟨hx, hb, hml, hown, hts⟩ (kX11_putBytes l dC dI cB cI cJ cZ h0 a0 a1 a2 a3 a4 a5 a6 a7 v52 a8 v53 a9 H.size p5 N42 N43 N44 N45 N46 N47 N48 N49 N50 N51 _ h) (cwV 1 hts gX11_feed_X11_putBytes rfl rfl rfl (by decide +kernel) ⟨Nat.le_of_ble_eq_true rfl, Nat.le_of_ble_eq_true rfl⟩) (lwpV hK hP hD) rfl rfl hl.1 rfl (lv_room (Nat.le_of_ble_eq_true rfl)) dX11_feed_39 ⟨Nat.le_of_ble_eq_true rfl, Nat.le_of_ble_eq_true rfl⟩) hS (fun q _ z => hFc q z) hFc (fun u t H1 locs ht hvm hw hB hz1 hk1 hS => ?_)
      obtain ⟨N55, N56, N57, N58, N59, N60, N61, N62, N63, N64⟩ := u
      obtain ⟨v65, v66, hP, hK1, hD1⟩ := hB
      rw [ht] at hP
      have hD := hD1.weaken (fun _ _ _ z => hFc _ z)
      generalize H1 = H at hP hS ⊢
      have h := hw
      try dsimp only at h
      refine lv_aload_n hx hb dX11_feed_42 rfl (lv_at hl 0 rfl) ?_
      refine va_get (D := (dC, dI)) (ci := 11) (v := .int (mg N55 1)) (C := RX11) (T := TX11) (N := 12) hx hb hts hinX11 hown hK hP 0 rfl rfl 1 (by decide) f1 (fun _ h9 => h9) rfl dX11_feed_43 ?_
      exact W.iret (v := (mg N55 1)) hx hb hr (fun t ht hW => ⟨⟨_, (N55, N56, N57, N58, N59, N60, N61, N62, N63, N64), rfl, h, v65, v66, by rw [ht]; exact hP, va_K.moved hW.alike hK, hD⟩, hS.F ht⟩) hS.2.2 dX11_feed_46
    · have h := h.2 c1
      refine lv_iconst (v := (-1)) hx hb dX11_feed_13 (by decide) ?_
      exact W.iret (v := (-1 : Int32)) hx hb hr (fun t ht hW => ⟨⟨_, (M0, M1, M2, M3, M4, M5, M6, M7, M8, M9), rfl, h, o7, o8, by rw [ht]; exact hP, va_K.moved hW.alike hK, hD⟩, hS.F ht⟩) hS.2.2 dX11_feed_14
  have hl := lv_entry ([.ref h0, .int p1, .int p2, .int p3, .int p4, .int p5]) (n := 6) (Nat.le_of_ble_eq_true rfl)
  rw [lg_entry_eq]
  generalize (lg_sl ([.ref h0, .int p1, .int p2, .int p3, .int p4, .int p5]) ++ List.replicate (6 - (lg_sl ([.ref h0, .int p1, .int p2, .int p3, .int p4, .int p5])).length) Slot.unset).toArray = ls at hl ⊢
  have hl : lv_has ls 6 [(0, .ref h0), (1, .int p1), (2, .int p2), (3, .int p3), (4, .int p4), (5, .int p5)] := hl
  exact bE M0 M1 M2 M3 M4 M5 M6 M7 M8 M9 s.heap [] ls hP hD hS hl h
def wX11_end (p1 : Int32) (M0 : gS) (M1 : gS) (M2 : gS) (M3 : gS) (M4 : gS) (M5 : gS) (M6 : gS) (M7 : gS) (M8 : gS) (M9 : gS) (Q : Int32 → gS → gS → gS → gS → gS → gS → gS → gS → gS → gS → Prop) : Prop :=
 ((p1 < 0 → (Q (-1 : Int32) M0 M1 M2 M3 M4 M5 M6 M7 M8 M9))
 ∧ (¬ p1 < 0 → ((p1 ≤ (mg M0 1) → (∀ N3 : gS, N3 = sg M0 1 p1 → (Q p1 N3 M1 M2 M3 M4 M5 M6 M7 M8 M9)))
 ∧ (¬ p1 ≤ (mg M0 1) → (Q (-1 : Int32) M0 M1 M2 M3 M4 M5 M6 M7 M8 M9)))))
def rmX11_end : Room := { frames := 0, cells := 0, slots := 0, locals := 0 }
set_option maxHeartbeats 4000000 in
set_option maxRecDepth 100000 in
theorem kX11_end (l : Launch) (dC : Nat → ClassId) (dI : Nat → Nat → Nat) (cB cI cJ cZ : ClassId) (h0 : Nat) (a0 : Nat → Nat) (a1 : Nat → Nat) (a2 : Nat → Nat) (a3 : Nat → Nat) (a4 : Nat → Nat) (a5 : Nat → Nat) (a6 : Nat → Nat) (a7 : Nat → Nat) (o7 : Option Nat) (a8 : Nat → Nat) (o8 : Option Nat) (a9 : Nat → Nat) (sz : Nat) (p1 : Int32) (M0 : gS) (M1 : gS) (M2 : gS) (M3 : gS) (M4 : gS) (M5 : gS) (M6 : gS) (M7 : gS) (M8 : gS) (M9 : gS) (Q : Int32 → gS → gS → gS → gS → gS → gS → gS → gS → gS → gS → Prop) (h : wX11_end p1 M0 M1 M2 M3 M4 M5 M6 M7 M8 M9 Q) : Met l yX11_end wsX11_end rmX11_end (va_Pc [.ref h0, .int p1] (lwI dC dI cB cI cJ cZ h0 a0 a1 a2 a3 a4 a5 a6 a7 o7 a8 o8 a9 M0 M1 M2 M3 M4 M5 M6 M7 M8 M9 sz)) (va_Qi (fun (r : Int32) (u : gS × gS × gS × gS × gS × gS × gS × gS × gS × gS) => Q r u.1 u.2.1 u.2.2.1 u.2.2.2.1 u.2.2.2.2.1 u.2.2.2.2.2.1 u.2.2.2.2.2.2.1 u.2.2.2.2.2.2.2.1 u.2.2.2.2.2.2.2.2.1 u.2.2.2.2.2.2.2.2.2) (lwB dC dI cB cI cJ cZ h0 a0 a1 a2 a3 a4 a5 a6 a7 a8 a9 (va_A (lwW cB cI cJ cZ h0 a0 a1 a2 a3 a4 a5 a6 a7 o7 a8 o8 a9 M0 M1 M2 M3 M4 M5 M6 M7 M8 M9) sz)) (va_A (lwW cB cI cJ cZ h0 a0 a1 a2 a3 a4 a5 a6 a7 o7 a8 o8 a9 M0 M1 M2 M3 M4 M5 M6 M7 M8 M9) sz)) 0 0 (va_A (lwW cB cI cJ cZ h0 a0 a1 a2 a3 a4 a5 a6 a7 o7 a8 o8 a9 M0 M1 M2 M3 M4 M5 M6 M7 M8 M9) sz) := by
  refine Met.ofW (cc := cX11_end) (maxL := 2) (ret := (some .int)) (by decide) rfl ?_
  intro p e s m args below meth c s₁ B hml hv
  obtain ⟨rfl, hsz, hP, hK, hD0⟩ := hv
  have hx := B.exec
  have hb := B.bytes
  have hr := B.returns
  have hts := atoms_spec (ws := wsX11_end) B.pre
  have hown : s.vm.findClass RX11 = some m.cls := findClass_of_methodNamed B.named
  have hlocks := B.notSynchronized
  subst hsz
  have hD := hD0.self (sz := s.heap.size)
  generalize hAe : va_A (lwW cB cI cJ cZ h0 a0 a1 a2 a3 a4 a5 a6 a7 o7 a8 o8 a9 M0 M1 M2 M3 M4 M5 M6 M7 M8 M9) s.heap.size = A at hD ⊢
  have hA : ∀ q : Nat, s.heap.size ≤ q → A q := fun q h => by rw [← hAe]; exact Or.inr h
  have hS : va_S A s.heap s.heap [] := va_S.rf
  have hinX11 : ∀ w ∈ wsX110, w ∈ wsX11_end := by decide +kernel
  have f1 := hts (.fieldLink RX11 69 "LastWords" "tapeLength" "I") (by decide +kernel)
  have bE : ∀ (M0 : gS) (M1 : gS) (M2 : gS) (M3 : gS) (M4 : gS) (M5 : gS) (M6 : gS) (M7 : gS) (M8 : gS) (M9 : gS) (H : Heap) (locs : List Loc) (ls : Array Slot), va_P (dC, dI) vwCl (lwW cB cI cJ cZ h0 a0 a1 a2 a3 a4 a5 a6 a7 o7 a8 o8 a9 M0 M1 M2 M3 M4 M5 M6 M7 M8 M9) H → va_D A (lwW cB cI cJ cZ h0 a0 a1 a2 a3 a4 a5 a6 a7 o7 a8 o8 a9 M0 M1 M2 M3 M4 M5 M6 M7 M8 M9) → va_S A s.heap H locs → lv_has ls 2 [(0, .ref h0), (1, .int p1)] → wX11_end p1 M0 M1 M2 M3 M4 M5 M6 M7 M8 M9 Q → W p l e (headSpec wsX11_end rmX11_end).room s m ([.ref h0, .int p1] : List Value).toArray below meth c H locs 0 0 (MQ below (va_Qi (fun (r : Int32) (u : gS × gS × gS × gS × gS × gS × gS × gS × gS × gS) => Q r u.1 u.2.1 u.2.2.1 u.2.2.2.1 u.2.2.2.2.1 u.2.2.2.2.2.1 u.2.2.2.2.2.2.1 u.2.2.2.2.2.2.2.1 u.2.2.2.2.2.2.2.2.1 u.2.2.2.2.2.2.2.2.2) (lwB dC dI cB cI cJ cZ h0 a0 a1 a2 a3 a4 a5 a6 a7 a8 a9 A) A) ([.ref h0, .int p1] : List Value).toArray s 0 0 A) (F0 m 0 ls []) := by
    intro M0 M1 M2 M3 M4 M5 M6 M7 M8 M9 H locs ls hP hD hS hl h
    unfold wX11_end at h
    refine lv_iload_n hx hb dX11_end_0 rfl (lv_at hl 1 rfl) ?_
    refine lv_if_lt (tgt := 12) hx hb dX11_end_1 (by decide) (fun c1 => ?_) (fun c1 => ?_)
    · have h := h.1 c1
      refine lv_iconst (v := (-1)) hx hb dX11_end_12 (by decide) ?_
      exact W.iret (v := (-1 : Int32)) hx hb hr (fun t ht hW => ⟨⟨_, (M0, M1, M2, M3, M4, M5, M6, M7, M8, M9), rfl, h, o7, o8, by rw [ht]; exact hP, va_K.moved hW.alike hK, hD⟩, hS.F ht⟩) hS.2.2 dX11_end_13
    · have h := h.2 c1
      refine lv_iload_n hx hb dX11_end_4 rfl (lv_at hl 1 rfl) ?_
      refine lv_aload_n hx hb dX11_end_5 rfl (lv_at hl 0 rfl) ?_
      refine va_get (D := (dC, dI)) (ci := 11) (v := .int (mg M0 1)) (C := RX11) (T := TX11) (N := 12) hx hb hts hinX11 hown hK hP 0 rfl rfl 1 (by decide) f1 (fun _ h9 => h9) rfl dX11_end_6 ?_
      refine lv_icmp_le (tgt := 14) hx hb dX11_end_9 (by decide) (fun c2 => ?_) (fun c2 => ?_)
      · have h := h.1 c2
        refine lv_aload_n hx hb dX11_end_14 rfl (lv_at hl 0 rfl) ?_
        refine lv_iload_n hx hb dX11_end_15 rfl (lv_at hl 1 rfl) ?_
        refine va_put (D := (dC, dI)) (ci := 11) (v := .int p1) (ty := .int) (C := RX11) (T := TX11) (N := 12) hx hb hts hinX11 tyX11 tyX11_ok nmX11 hown hK hP hD hS 0 rfl rfl 1 (by decide) f1 (fun _ h9 => h9) rfl (by decide +kernel) rfl rfl (Nat.le_of_ble_eq_true rfl) dX11_end_16 (fun H locs hP hD hS => ?_)
        have hP := lwP_0_f1 hP
        have hD := lwD_0_f1 hD
        have h := h _ rfl
        generalize sg M0 1 p1 = N3 at hP hD h
        refine lv_iload_n hx hb dX11_end_19 rfl (lv_at hl 1 rfl) ?_
        exact W.iret (v := p1) hx hb hr (fun t ht hW => ⟨⟨_, (N3, M1, M2, M3, M4, M5, M6, M7, M8, M9), rfl, h, o7, o8, by rw [ht]; exact hP, va_K.moved hW.alike hK, hD⟩, hS.F ht⟩) hS.2.2 dX11_end_20
      · have h := h.2 c2
        refine lv_iconst (v := (-1)) hx hb dX11_end_12 (by decide) ?_
        exact W.iret (v := (-1 : Int32)) hx hb hr (fun t ht hW => ⟨⟨_, (M0, M1, M2, M3, M4, M5, M6, M7, M8, M9), rfl, h, o7, o8, by rw [ht]; exact hP, va_K.moved hW.alike hK, hD⟩, hS.F ht⟩) hS.2.2 dX11_end_13
  have hl := lv_entry ([.ref h0, .int p1]) (n := 2) (Nat.le_of_ble_eq_true rfl)
  rw [lg_entry_eq]
  generalize (lg_sl ([.ref h0, .int p1]) ++ List.replicate (2 - (lg_sl ([.ref h0, .int p1])).length) Slot.unset).toArray = ls at hl ⊢
  have hl : lv_has ls 2 [(0, .ref h0), (1, .int p1)] := hl
  exact bE M0 M1 M2 M3 M4 M5 M6 M7 M8 M9 s.heap [] ls hP hD hS hl h
def wX11_begin (p1 : Int32) (p2 : Int32) (M0 : gS) (M1 : gS) (M2 : gS) (M3 : gS) (M4 : gS) (M5 : gS) (M6 : gS) (M7 : gS) (M8 : gS) (M9 : gS) (Q : Int32 → gS → gS → gS → gS → gS → gS → gS → gS → gS → gS → Prop) : Prop :=
 (wX1_hasTune p1 M2 (fun (b3 : Bool) (N2 : gS) => (((bI b3) = 0 → (Q (-1 : Int32) M0 M1 N2 M3 M4 M5 M6 M7 M8 M9))
 ∧ (¬ (bI b3) = 0 → (wX11_isSide p2  (fun (b6 : Bool)  => (((bI b6) = 0 → (Q (-1 : Int32) M0 M1 N2 M3 M4 M5 M6 M7 M8 M9))
 ∧ (¬ (bI b6) = 0 → (wX6_start p1 p2 M3 N2 (fun (N9 : gS) (N10 : gS) => (wX10_noteWinner  M1 N10 N9 M4 (fun (N12 : gS) (N13 : gS) (N14 : gS) (N15 : gS) => (Q (mg N14 2) M0 N12 N13 N14 N15 M5 M6 M7 M8 M9)))))))))))))
def rmX11_begin : Room := { frames := 4, cells := 0, slots := 0, locals := 89 }
set_option maxHeartbeats 4000000 in
set_option maxRecDepth 100000 in
theorem kX11_begin (l : Launch) (dC : Nat → ClassId) (dI : Nat → Nat → Nat) (cB cI cJ cZ : ClassId) (h0 : Nat) (a0 : Nat → Nat) (a1 : Nat → Nat) (a2 : Nat → Nat) (a3 : Nat → Nat) (a4 : Nat → Nat) (a5 : Nat → Nat) (a6 : Nat → Nat) (a7 : Nat → Nat) (o7 : Option Nat) (a8 : Nat → Nat) (o8 : Option Nat) (a9 : Nat → Nat) (sz : Nat) (p1 : Int32) (p2 : Int32) (M0 : gS) (M1 : gS) (M2 : gS) (M3 : gS) (M4 : gS) (M5 : gS) (M6 : gS) (M7 : gS) (M8 : gS) (M9 : gS) (Q : Int32 → gS → gS → gS → gS → gS → gS → gS → gS → gS → gS → Prop) (h : wX11_begin p1 p2 M0 M1 M2 M3 M4 M5 M6 M7 M8 M9 Q) : Met l yX11_begin wsX11_begin rmX11_begin (va_Pc [.ref h0, .int p1, .int p2] (lwI dC dI cB cI cJ cZ h0 a0 a1 a2 a3 a4 a5 a6 a7 o7 a8 o8 a9 M0 M1 M2 M3 M4 M5 M6 M7 M8 M9 sz)) (va_Qi (fun (r : Int32) (u : gS × gS × gS × gS × gS × gS × gS × gS × gS × gS) => Q r u.1 u.2.1 u.2.2.1 u.2.2.2.1 u.2.2.2.2.1 u.2.2.2.2.2.1 u.2.2.2.2.2.2.1 u.2.2.2.2.2.2.2.1 u.2.2.2.2.2.2.2.2.1 u.2.2.2.2.2.2.2.2.2) (lwB dC dI cB cI cJ cZ h0 a0 a1 a2 a3 a4 a5 a6 a7 a8 a9 (va_A (lwW cB cI cJ cZ h0 a0 a1 a2 a3 a4 a5 a6 a7 o7 a8 o8 a9 M0 M1 M2 M3 M4 M5 M6 M7 M8 M9) sz)) (va_A (lwW cB cI cJ cZ h0 a0 a1 a2 a3 a4 a5 a6 a7 o7 a8 o8 a9 M0 M1 M2 M3 M4 M5 M6 M7 M8 M9) sz)) 0 0 (va_A (lwW cB cI cJ cZ h0 a0 a1 a2 a3 a4 a5 a6 a7 o7 a8 o8 a9 M0 M1 M2 M3 M4 M5 M6 M7 M8 M9) sz) := by
  refine Met.ofW (cc := cX11_begin) (maxL := 3) (ret := (some .int)) (by decide) rfl ?_
  intro p e s m args below meth c s₁ B hml hv
  obtain ⟨rfl, hsz, hP, hK, hD0⟩ := hv
  have hx := B.exec
  have hb := B.bytes
  have hr := B.returns
  have hts := atoms_spec (ws := wsX11_begin) B.pre
  have hown : s.vm.findClass RX11 = some m.cls := findClass_of_methodNamed B.named
  have hlocks := B.notSynchronized
  subst hsz
  have hD := hD0.self (sz := s.heap.size)
  generalize hAe : va_A (lwW cB cI cJ cZ h0 a0 a1 a2 a3 a4 a5 a6 a7 o7 a8 o8 a9 M0 M1 M2 M3 M4 M5 M6 M7 M8 M9) s.heap.size = A at hD ⊢
  have hA : ∀ q : Nat, s.heap.size ≤ q → A q := fun q h => by rw [← hAe]; exact Or.inr h
  have hS : va_S A s.heap s.heap [] := va_S.rf
  have hinX10 : ∀ w ∈ wsX100, w ∈ wsX11_begin := by decide +kernel
  have hinX11 : ∀ w ∈ wsX110, w ∈ wsX11_begin := by decide +kernel
  have hinX6 : ∀ w ∈ wsX60, w ∈ wsX11_begin := by decide +kernel
  have f1 := hts (.fieldLink RX11 22 "LastWords" "now" "LLastWords$State;") (by decide +kernel)
  have f2 := hts (.fieldLink RX11 108 "LastWords$State" "corner" "LLastWords$Corner;") (by decide +kernel)
  have f3 := hts (.fieldLink RX11 118 "LastWords$State" "quarrel" "LLastWords$Quarrel;") (by decide +kernel)
  have f4 := hts (.fieldLink RX11 128 "LastWords$Quarrel" "left" "I") (by decide +kernel)
  have bE : ∀ (M0 : gS) (M1 : gS) (M2 : gS) (M3 : gS) (M4 : gS) (M5 : gS) (M6 : gS) (M7 : gS) (M8 : gS) (M9 : gS) (H : Heap) (locs : List Loc) (ls : Array Slot), va_P (dC, dI) vwCl (lwW cB cI cJ cZ h0 a0 a1 a2 a3 a4 a5 a6 a7 o7 a8 o8 a9 M0 M1 M2 M3 M4 M5 M6 M7 M8 M9) H → va_D A (lwW cB cI cJ cZ h0 a0 a1 a2 a3 a4 a5 a6 a7 o7 a8 o8 a9 M0 M1 M2 M3 M4 M5 M6 M7 M8 M9) → va_S A s.heap H locs → lv_has ls 3 [(0, .ref h0), (1, .int p1), (2, .int p2)] → wX11_begin p1 p2 M0 M1 M2 M3 M4 M5 M6 M7 M8 M9 Q → W p l e (headSpec wsX11_begin rmX11_begin).room s m ([.ref h0, .int p1, .int p2] : List Value).toArray below meth c H locs 0 0 (MQ below (va_Qi (fun (r : Int32) (u : gS × gS × gS × gS × gS × gS × gS × gS × gS × gS) => Q r u.1 u.2.1 u.2.2.1 u.2.2.2.1 u.2.2.2.2.1 u.2.2.2.2.2.1 u.2.2.2.2.2.2.1 u.2.2.2.2.2.2.2.1 u.2.2.2.2.2.2.2.2.1 u.2.2.2.2.2.2.2.2.2) (lwB dC dI cB cI cJ cZ h0 a0 a1 a2 a3 a4 a5 a6 a7 a8 a9 A) A) ([.ref h0, .int p1, .int p2] : List Value).toArray s 0 0 A) (F0 m 0 ls []) := by
    intro M0 M1 M2 M3 M4 M5 M6 M7 M8 M9 H locs ls hP hD hS hl h
    unfold wX11_begin at h
    refine lv_aload_n hx hb dX11_begin_0 rfl (lv_at hl 0 rfl) ?_
    refine va_get (D := (dC, dI)) (ci := 11) (v := .ref (a0 4)) (C := RX11) (T := TX11) (N := 12) hx hb hts hinX11 hown hK hP 0 rfl rfl 4 (by decide) f1 (fun _ h9 => h9) rfl dX11_begin_1 ?_
    refine va_get (D := (dC, dI)) (ci := 10) (v := .ref (a1 0)) (C := RX10) (T := TX10) (N := 5) hx hb hts hinX10 hown hK hP 3 rfl rfl 0 (by decide) f2 (fun _ h9 => h9) rfl dX11_begin_4 ?_
    refine lv_iload_n hx hb dX11_begin_7 rfl (lv_at hl 1 rfl) ?_
    have hPc := hP.sub (ws' := (cnW cB cI cJ cZ (a1 0) a2 M2)) [5, 6, 7, 8] rfl
    have hDc := hD.sub (ws' := (cnW cB cI cJ cZ (a1 0) a2 M2)) [5, 6, 7, 8] (by decide) rfl
    have hFc := va_free (wc := (cnW cB cI cJ cZ (a1 0) a2 M2)) hD hS hA [5, 6, 7, 8] rfl
    refine va_calli (va_runV (As := [.int p1]) (rest := []) ⟨hx, hb, hml, hown, hts⟩ (kX1_hasTune l dC dI cB cI cJ cZ (a1 0) a2 H.size p1 M2 _ h) (cwV 1 hts gX11_begin_X1_hasTune rfl rfl rfl (by decide +kernel) ⟨Nat.le_of_ble_eq_true rfl, Nat.le_of_ble_eq_true rfl⟩) (cnpV hK hPc hDc) rfl rfl hl.1 rfl (lv_room (Nat.le_of_ble_eq_true rfl)) dX11_begin_8 ⟨Nat.le_of_ble_eq_true rfl, Nat.le_of_ble_eq_true rfl⟩) hS (fun q _ z => hFc q z) hFc (fun r1 u t H1 locs ht hvm hw hB hz1 hk1 hS => ?_)
    obtain ⟨N2, rfl⟩ : ∃ z, z = u := ⟨_, rfl⟩
    obtain ⟨hP1, hK1, hD1⟩ := hB
    rw [ht] at hP1
    obtain ⟨hP, hD⟩ := va_join (wr := [(h0, .inr (11, [.ref (a0 0), .int (mg M0 1), .ref (a0 2), .int (mg M0 3), .ref (a0 4), .ref (a0 5), .ref (a0 6), .ref (a0 7), .ref (a0 8), .ref (a0 9), .ref (a0 10), .ref (a0 11)])), (a0 0, .inl (cI, 400, .inl (ma M0 0))), (a0 11, .inl (cJ, 4, .inr (.inl (ml M0 11)))), (a0 4, .inr (10, [.ref (a1 0), .ref (a1 1), .ref (a1 2), .ref (a1 3), .int (mg M1 4)])), (a1 3, .inl (cI, 2, .inl (ma M1 3))), (a1 1, .inr (6, [.int (mg M3 0), .int (mg M3 1), .int (mg M3 2), .int (mg M3 3), .int (mg M3 4), .int (mg M3 5), .int (mg M3 6), .ref (a3 7), .ref (a3 8), .ref (a3 9)])), (a3 7, .inl (cI, 2, .inl (ma M3 7))), (a3 8, .inl (cI, 2, .inl (ma M3 8))), (a3 9, .inl (cI, 2, .inl (ma M3 9))), (a1 2, .inr (4, [.int (mg M4 0), .ref (a4 1), .ref (a4 2), .ref (a4 3)])), (a4 1, .inl (cI, 6, .inl (ma M4 1))), (a4 2, .inl (cI, 6, .inl (ma M4 2))), (a4 3, .inl (cI, 6, .inl (ma M4 3))), (a0 6, .inr (1, [.int (mg M5 0), .ref (a5 1), .int (mg M5 2), .ref (a5 3), .int (mg M5 4), .ref (a5 5)])), (a5 1, .inl (cI, 4, .inl (ma M5 1))), (a5 3, .inl (cI, 4, .inl (ma M5 3))), (a5 5, .inl (cI, 2, .inl (ma M5 5))), (a0 7, .inr (6, [.int (mg M6 0), .int (mg M6 1), .int (mg M6 2), .int (mg M6 3), .int (mg M6 4), .int (mg M6 5), .int (mg M6 6), .ref (a6 7), .ref (a6 8), .ref (a6 9)])), (a6 7, .inl (cI, 2, .inl (ma M6 7))), (a6 8, .inl (cI, 2, .inl (ma M6 8))), (a6 9, .inl (cI, 2, .inl (ma M6 9))), (a0 8, .inr (0, [.ref (a7 0), .ref (a7 1), .ref (a7 2), .ref (a7 3), .int (mg M7 4), va_rf o7, .int (mg M7 6), .int (mg M7 7), .int (mg M7 8), .int (mg M7 9), .int (mg M7 10)])), (a7 0, .inl (cJ, 15, .inr (.inl (ml M7 0)))), (a7 1, .inl (cJ, 800, .inr (.inl (ml M7 1)))), (a7 2, .inl (cI, 4, .inl (ma M7 2))), (a7 3, .inl (cJ, 4, .inr (.inl (ml M7 3)))), (a0 9, .inr (5, [.ref (a8 0), .ref (a8 1), va_rf o8, .int (mg M8 3)])), (a8 0, .inl (cI, 2048, .inl (ma M8 0))), (a8 1, .inl (cI, 2048, .inl (ma M8 1))), (a0 10, .inr (3, [.int (mg M9 0), .int (mg M9 1), .int (mg M9 2), .int (mg M9 3), .int (mg M9 4)]))]) (w1 := (cnW cB cI cJ cZ (a1 0) a2 N2)) hP hD [5, 6, 7, 8] [0, 1, 2, 3, 4, 9, 10, 11, 12, 13, 14, 15, 16, 17, 18, 19, 20, 21, 22, 23, 24, 25, 26, 27, 28, 29, 30, 31, 32, 33] rfl rfl (by decide) (by decide) hk1 hFc hP1 hD1
    have hP := hP.sub (ws' := (lwW cB cI cJ cZ h0 a0 a1 a2 a3 a4 a5 a6 a7 o7 a8 o8 a9 M0 M1 N2 M3 M4 M5 M6 M7 M8 M9)) [0, 1, 2, 3, 4, 30, 31, 32, 33, 5, 6, 7, 8, 9, 10, 11, 12, 13, 14, 15, 16, 17, 18, 19, 20, 21, 22, 23, 24, 25, 26, 27, 28, 29] rfl
    have hD := hD.sub (ws' := (lwW cB cI cJ cZ h0 a0 a1 a2 a3 a4 a5 a6 a7 o7 a8 o8 a9 M0 M1 N2 M3 M4 M5 M6 M7 M8 M9)) [0, 1, 2, 3, 4, 30, 31, 32, 33, 5, 6, 7, 8, 9, 10, 11, 12, 13, 14, 15, 16, 17, 18, 19, 20, 21, 22, 23, 24, 25, 26, 27, 28, 29] (by decide) rfl
    generalize H1 = H at hP hS ⊢
    obtain ⟨b3, rfl, h⟩ := hw
    try dsimp only at h
    refine lv_if_eq (tgt := 21) hx hb dX11_begin_11 (by decide) (fun c4 => ?_) (fun c4 => ?_)
    · have h := h.1 c4
      refine lv_iconst (v := (-1)) hx hb dX11_begin_21 (by decide) ?_
      exact W.iret (v := (-1 : Int32)) hx hb hr (fun t ht hW => ⟨⟨_, (M0, M1, N2, M3, M4, M5, M6, M7, M8, M9), rfl, h, o7, o8, by rw [ht]; exact hP, va_K.moved hW.alike hK, hD⟩, hS.F ht⟩) hS.2.2 dX11_begin_22
    · have h := h.2 c4
      refine lv_iload_n hx hb dX11_begin_14 rfl (lv_at hl 2 rfl) ?_
      have hPc := hP.sub (ws' := (e0W cB cI cJ cZ  )) [] rfl
      have hDc := hD.sub (ws' := (e0W cB cI cJ cZ  )) [] (by decide) rfl
      have hFc := va_free (wc := (e0W cB cI cJ cZ  )) hD hS hA [] rfl
      refine va_calli (va_runS (As := [.int p2]) (rest := []) ⟨hx, hb, hml, hown, hts⟩ (kX11_isSide l dC dI cB cI cJ cZ  H.size p2  _ h) (cwS 1 hts gX11_begin_X11_isSide rfl rfl rfl (by decide +kernel) ⟨Nat.le_of_ble_eq_true rfl, Nat.le_of_ble_eq_true rfl⟩) (e0pS hK hPc hDc) rfl rfl hl.1 rfl (lv_room (Nat.le_of_ble_eq_true rfl)) dX11_begin_15 ⟨Nat.le_of_ble_eq_true rfl, Nat.le_of_ble_eq_true rfl⟩) hS (fun q _ z => hFc q z) hFc (fun r5 u t H1 locs ht hvm hw hB hz1 hk1 hS => ?_)
      obtain ⟨hP1, hK1, hD1⟩ := hB
      rw [ht] at hP1
      obtain ⟨hP, hD⟩ := va_join (wr := [(h0, .inr (11, [.ref (a0 0), .int (mg M0 1), .ref (a0 2), .int (mg M0 3), .ref (a0 4), .ref (a0 5), .ref (a0 6), .ref (a0 7), .ref (a0 8), .ref (a0 9), .ref (a0 10), .ref (a0 11)])), (a0 0, .inl (cI, 400, .inl (ma M0 0))), (a0 11, .inl (cJ, 4, .inr (.inl (ml M0 11)))), (a0 4, .inr (10, [.ref (a1 0), .ref (a1 1), .ref (a1 2), .ref (a1 3), .int (mg M1 4)])), (a1 3, .inl (cI, 2, .inl (ma M1 3))), (a1 0, .inr (1, [.int (mg N2 0), .ref (a2 1), .int (mg N2 2), .ref (a2 3), .int (mg N2 4), .ref (a2 5)])), (a2 1, .inl (cI, 4, .inl (ma N2 1))), (a2 3, .inl (cI, 4, .inl (ma N2 3))), (a2 5, .inl (cI, 2, .inl (ma N2 5))), (a1 1, .inr (6, [.int (mg M3 0), .int (mg M3 1), .int (mg M3 2), .int (mg M3 3), .int (mg M3 4), .int (mg M3 5), .int (mg M3 6), .ref (a3 7), .ref (a3 8), .ref (a3 9)])), (a3 7, .inl (cI, 2, .inl (ma M3 7))), (a3 8, .inl (cI, 2, .inl (ma M3 8))), (a3 9, .inl (cI, 2, .inl (ma M3 9))), (a1 2, .inr (4, [.int (mg M4 0), .ref (a4 1), .ref (a4 2), .ref (a4 3)])), (a4 1, .inl (cI, 6, .inl (ma M4 1))), (a4 2, .inl (cI, 6, .inl (ma M4 2))), (a4 3, .inl (cI, 6, .inl (ma M4 3))), (a0 6, .inr (1, [.int (mg M5 0), .ref (a5 1), .int (mg M5 2), .ref (a5 3), .int (mg M5 4), .ref (a5 5)])), (a5 1, .inl (cI, 4, .inl (ma M5 1))), (a5 3, .inl (cI, 4, .inl (ma M5 3))), (a5 5, .inl (cI, 2, .inl (ma M5 5))), (a0 7, .inr (6, [.int (mg M6 0), .int (mg M6 1), .int (mg M6 2), .int (mg M6 3), .int (mg M6 4), .int (mg M6 5), .int (mg M6 6), .ref (a6 7), .ref (a6 8), .ref (a6 9)])), (a6 7, .inl (cI, 2, .inl (ma M6 7))), (a6 8, .inl (cI, 2, .inl (ma M6 8))), (a6 9, .inl (cI, 2, .inl (ma M6 9))), (a0 8, .inr (0, [.ref (a7 0), .ref (a7 1), .ref (a7 2), .ref (a7 3), .int (mg M7 4), va_rf o7, .int (mg M7 6), .int (mg M7 7), .int (mg M7 8), .int (mg M7 9), .int (mg M7 10)])), (a7 0, .inl (cJ, 15, .inr (.inl (ml M7 0)))), (a7 1, .inl (cJ, 800, .inr (.inl (ml M7 1)))), (a7 2, .inl (cI, 4, .inl (ma M7 2))), (a7 3, .inl (cJ, 4, .inr (.inl (ml M7 3)))), (a0 9, .inr (5, [.ref (a8 0), .ref (a8 1), va_rf o8, .int (mg M8 3)])), (a8 0, .inl (cI, 2048, .inl (ma M8 0))), (a8 1, .inl (cI, 2048, .inl (ma M8 1))), (a0 10, .inr (3, [.int (mg M9 0), .int (mg M9 1), .int (mg M9 2), .int (mg M9 3), .int (mg M9 4)]))]) (w1 := (e0W cB cI cJ cZ  )) hP hD [] [0, 1, 2, 3, 4, 5, 6, 7, 8, 9, 10, 11, 12, 13, 14, 15, 16, 17, 18, 19, 20, 21, 22, 23, 24, 25, 26, 27, 28, 29, 30, 31, 32, 33] rfl rfl (by decide) (by decide) hk1 hFc hP1 hD1
      have hP := hP.sub (ws' := (lwW cB cI cJ cZ h0 a0 a1 a2 a3 a4 a5 a6 a7 o7 a8 o8 a9 M0 M1 N2 M3 M4 M5 M6 M7 M8 M9)) [0, 1, 2, 3, 4, 5, 6, 7, 8, 9, 10, 11, 12, 13, 14, 15, 16, 17, 18, 19, 20, 21, 22, 23, 24, 25, 26, 27, 28, 29, 30, 31, 32, 33] rfl
      have hD := hD.sub (ws' := (lwW cB cI cJ cZ h0 a0 a1 a2 a3 a4 a5 a6 a7 o7 a8 o8 a9 M0 M1 N2 M3 M4 M5 M6 M7 M8 M9)) [0, 1, 2, 3, 4, 5, 6, 7, 8, 9, 10, 11, 12, 13, 14, 15, 16, 17, 18, 19, 20, 21, 22, 23, 24, 25, 26, 27, 28, 29, 30, 31, 32, 33] (by decide) rfl
      generalize H1 = H at hP hS ⊢
      obtain ⟨b6, rfl, h⟩ := hw
      try dsimp only at h
      refine lv_if_ne (tgt := 23) hx hb dX11_begin_18 (by decide) (fun c7 => ?_) (fun c7 => ?_)
      · have h := h.2 c7
        refine lv_aload_n hx hb dX11_begin_23 rfl (lv_at hl 0 rfl) ?_
        refine va_get (D := (dC, dI)) (ci := 11) (v := .ref (a0 4)) (C := RX11) (T := TX11) (N := 12) hx hb hts hinX11 hown hK hP 0 rfl rfl 4 (by decide) f1 (fun _ h9 => h9) rfl dX11_begin_24 ?_
        refine va_get (D := (dC, dI)) (ci := 10) (v := .ref (a1 1)) (C := RX10) (T := TX10) (N := 5) hx hb hts hinX10 hown hK hP 3 rfl rfl 1 (by decide) f3 (fun _ h9 => h9) rfl dX11_begin_27 ?_
        refine lv_aload_n hx hb dX11_begin_30 rfl (lv_at hl 0 rfl) ?_
        refine va_get (D := (dC, dI)) (ci := 11) (v := .ref (a0 4)) (C := RX11) (T := TX11) (N := 12) hx hb hts hinX11 hown hK hP 0 rfl rfl 4 (by decide) f1 (fun _ h9 => h9) rfl dX11_begin_31 ?_
        refine va_get (D := (dC, dI)) (ci := 10) (v := .ref (a1 0)) (C := RX10) (T := TX10) (N := 5) hx hb hts hinX10 hown hK hP 3 rfl rfl 0 (by decide) f2 (fun _ h9 => h9) rfl dX11_begin_34 ?_
        refine lv_iload_n hx hb dX11_begin_37 rfl (lv_at hl 1 rfl) ?_
        refine lv_iload_n hx hb dX11_begin_38 rfl (lv_at hl 2 rfl) ?_
        have hPc := hP.sub (ws' := (qcW cB cI cJ cZ (a1 1) a3 (a1 0) a2 M3 N2)) [9, 10, 11, 12, 5, 6, 7, 8] rfl
        have hDc := hD.sub (ws' := (qcW cB cI cJ cZ (a1 1) a3 (a1 0) a2 M3 N2)) [9, 10, 11, 12, 5, 6, 7, 8] (by decide) rfl
        have hFc := va_free (wc := (qcW cB cI cJ cZ (a1 1) a3 (a1 0) a2 M3 N2)) hD hS hA [9, 10, 11, 12, 5, 6, 7, 8] rfl
        refine va_callv (va_runV (As := [.ref (a1 0), .int p1, .int p2]) (rest := []) ⟨hx, hb, hml, hown, hts⟩ (kX6_start l dC dI cB cI cJ cZ (a1 1) a3 (a1 0) a2 H.size p1 p2 M3 N2 _ h) (cwV 3 hts gX11_begin_X6_start rfl rfl rfl (by decide +kernel) ⟨Nat.le_of_ble_eq_true rfl, Nat.le_of_ble_eq_true rfl⟩) (qcpV hK hPc hDc) rfl rfl hl.1 rfl (lv_room (Nat.le_of_ble_eq_true rfl)) dX11_begin_39 ⟨Nat.le_of_ble_eq_true rfl, Nat.le_of_ble_eq_true rfl⟩) hS (fun q _ z => hFc q z) hFc (fun u t H1 locs ht hvm hw hB hz1 hk1 hS => ?_)
        obtain ⟨N9, N10⟩ := u
        obtain ⟨hP1, hK1, hD1⟩ := hB
        rw [ht] at hP1
        obtain ⟨hP, hD⟩ := va_join (wr := [(h0, .inr (11, [.ref (a0 0), .int (mg M0 1), .ref (a0 2), .int (mg M0 3), .ref (a0 4), .ref (a0 5), .ref (a0 6), .ref (a0 7), .ref (a0 8), .ref (a0 9), .ref (a0 10), .ref (a0 11)])), (a0 0, .inl (cI, 400, .inl (ma M0 0))), (a0 11, .inl (cJ, 4, .inr (.inl (ml M0 11)))), (a0 4, .inr (10, [.ref (a1 0), .ref (a1 1), .ref (a1 2), .ref (a1 3), .int (mg M1 4)])), (a1 3, .inl (cI, 2, .inl (ma M1 3))), (a1 2, .inr (4, [.int (mg M4 0), .ref (a4 1), .ref (a4 2), .ref (a4 3)])), (a4 1, .inl (cI, 6, .inl (ma M4 1))), (a4 2, .inl (cI, 6, .inl (ma M4 2))), (a4 3, .inl (cI, 6, .inl (ma M4 3))), (a0 6, .inr (1, [.int (mg M5 0), .ref (a5 1), .int (mg M5 2), .ref (a5 3), .int (mg M5 4), .ref (a5 5)])), (a5 1, .inl (cI, 4, .inl (ma M5 1))), (a5 3, .inl (cI, 4, .inl (ma M5 3))), (a5 5, .inl (cI, 2, .inl (ma M5 5))), (a0 7, .inr (6, [.int (mg M6 0), .int (mg M6 1), .int (mg M6 2), .int (mg M6 3), .int (mg M6 4), .int (mg M6 5), .int (mg M6 6), .ref (a6 7), .ref (a6 8), .ref (a6 9)])), (a6 7, .inl (cI, 2, .inl (ma M6 7))), (a6 8, .inl (cI, 2, .inl (ma M6 8))), (a6 9, .inl (cI, 2, .inl (ma M6 9))), (a0 8, .inr (0, [.ref (a7 0), .ref (a7 1), .ref (a7 2), .ref (a7 3), .int (mg M7 4), va_rf o7, .int (mg M7 6), .int (mg M7 7), .int (mg M7 8), .int (mg M7 9), .int (mg M7 10)])), (a7 0, .inl (cJ, 15, .inr (.inl (ml M7 0)))), (a7 1, .inl (cJ, 800, .inr (.inl (ml M7 1)))), (a7 2, .inl (cI, 4, .inl (ma M7 2))), (a7 3, .inl (cJ, 4, .inr (.inl (ml M7 3)))), (a0 9, .inr (5, [.ref (a8 0), .ref (a8 1), va_rf o8, .int (mg M8 3)])), (a8 0, .inl (cI, 2048, .inl (ma M8 0))), (a8 1, .inl (cI, 2048, .inl (ma M8 1))), (a0 10, .inr (3, [.int (mg M9 0), .int (mg M9 1), .int (mg M9 2), .int (mg M9 3), .int (mg M9 4)]))]) (w1 := (qcW cB cI cJ cZ (a1 1) a3 (a1 0) a2 N9 N10)) hP hD [9, 10, 11, 12, 5, 6, 7, 8] [0, 1, 2, 3, 4, 13, 14, 15, 16, 17, 18, 19, 20, 21, 22, 23, 24, 25, 26, 27, 28, 29, 30, 31, 32, 33] rfl rfl (by decide) (by decide) hk1 hFc hP1 hD1
        have hP := hP.sub (ws' := (lwW cB cI cJ cZ h0 a0 a1 a2 a3 a4 a5 a6 a7 o7 a8 o8 a9 M0 M1 N10 N9 M4 M5 M6 M7 M8 M9)) [0, 1, 2, 3, 4, 30, 31, 32, 33, 26, 27, 28, 29, 5, 6, 7, 8, 9, 10, 11, 12, 13, 14, 15, 16, 17, 18, 19, 20, 21, 22, 23, 24, 25] rfl
        have hD := hD.sub (ws' := (lwW cB cI cJ cZ h0 a0 a1 a2 a3 a4 a5 a6 a7 o7 a8 o8 a9 M0 M1 N10 N9 M4 M5 M6 M7 M8 M9)) [0, 1, 2, 3, 4, 30, 31, 32, 33, 26, 27, 28, 29, 5, 6, 7, 8, 9, 10, 11, 12, 13, 14, 15, 16, 17, 18, 19, 20, 21, 22, 23, 24, 25] (by decide) rfl
        generalize H1 = H at hP hS ⊢
        have h := hw
        try dsimp only at h
        refine lv_aload_n hx hb dX11_begin_42 rfl (lv_at hl 0 rfl) ?_
        refine va_get (D := (dC, dI)) (ci := 11) (v := .ref (a0 4)) (C := RX11) (T := TX11) (N := 12) hx hb hts hinX11 hown hK hP 0 rfl rfl 4 (by decide) f1 (fun _ h9 => h9) rfl dX11_begin_43 ?_
        have hPc := hP.sub (ws' := (stW cB cI cJ cZ (a0 4) a1 a2 a3 a4 M1 N10 N9 M4)) [3, 4, 5, 6, 7, 8, 9, 10, 11, 12, 13, 14, 15, 16] rfl
        have hDc := hD.sub (ws' := (stW cB cI cJ cZ (a0 4) a1 a2 a3 a4 M1 N10 N9 M4)) [3, 4, 5, 6, 7, 8, 9, 10, 11, 12, 13, 14, 15, 16] (by decide) rfl
        have hFc := va_free (wc := (stW cB cI cJ cZ (a0 4) a1 a2 a3 a4 M1 N10 N9 M4)) hD hS hA [3, 4, 5, 6, 7, 8, 9, 10, 11, 12, 13, 14, 15, 16] rfl
        refine va_callv (va_runV (As := []) (rest := []) ⟨hx, hb, hml, hown, hts⟩ (kX10_noteWinner l dC dI cB cI cJ cZ (a0 4) a1 a2 a3 a4 H.size  M1 N10 N9 M4 _ h) (cwV 0 hts gX11_begin_X10_noteWinner rfl rfl rfl (by decide +kernel) ⟨Nat.le_of_ble_eq_true rfl, Nat.le_of_ble_eq_true rfl⟩) (stpV hK hPc hDc) rfl rfl hl.1 rfl (lv_room (Nat.le_of_ble_eq_true rfl)) dX11_begin_46 ⟨Nat.le_of_ble_eq_true rfl, Nat.le_of_ble_eq_true rfl⟩) hS (fun q _ z => hFc q z) hFc (fun u t H1 locs ht hvm hw hB hz1 hk1 hS => ?_)
        obtain ⟨N12, N13, N14, N15⟩ := u
        obtain ⟨hP1, hK1, hD1⟩ := hB
        rw [ht] at hP1
        obtain ⟨hP, hD⟩ := va_join (wr := [(h0, .inr (11, [.ref (a0 0), .int (mg M0 1), .ref (a0 2), .int (mg M0 3), .ref (a0 4), .ref (a0 5), .ref (a0 6), .ref (a0 7), .ref (a0 8), .ref (a0 9), .ref (a0 10), .ref (a0 11)])), (a0 0, .inl (cI, 400, .inl (ma M0 0))), (a0 11, .inl (cJ, 4, .inr (.inl (ml M0 11)))), (a0 6, .inr (1, [.int (mg M5 0), .ref (a5 1), .int (mg M5 2), .ref (a5 3), .int (mg M5 4), .ref (a5 5)])), (a5 1, .inl (cI, 4, .inl (ma M5 1))), (a5 3, .inl (cI, 4, .inl (ma M5 3))), (a5 5, .inl (cI, 2, .inl (ma M5 5))), (a0 7, .inr (6, [.int (mg M6 0), .int (mg M6 1), .int (mg M6 2), .int (mg M6 3), .int (mg M6 4), .int (mg M6 5), .int (mg M6 6), .ref (a6 7), .ref (a6 8), .ref (a6 9)])), (a6 7, .inl (cI, 2, .inl (ma M6 7))), (a6 8, .inl (cI, 2, .inl (ma M6 8))), (a6 9, .inl (cI, 2, .inl (ma M6 9))), (a0 8, .inr (0, [.ref (a7 0), .ref (a7 1), .ref (a7 2), .ref (a7 3), .int (mg M7 4), va_rf o7, .int (mg M7 6), .int (mg M7 7), .int (mg M7 8), .int (mg M7 9), .int (mg M7 10)])), (a7 0, .inl (cJ, 15, .inr (.inl (ml M7 0)))), (a7 1, .inl (cJ, 800, .inr (.inl (ml M7 1)))), (a7 2, .inl (cI, 4, .inl (ma M7 2))), (a7 3, .inl (cJ, 4, .inr (.inl (ml M7 3)))), (a0 9, .inr (5, [.ref (a8 0), .ref (a8 1), va_rf o8, .int (mg M8 3)])), (a8 0, .inl (cI, 2048, .inl (ma M8 0))), (a8 1, .inl (cI, 2048, .inl (ma M8 1))), (a0 10, .inr (3, [.int (mg M9 0), .int (mg M9 1), .int (mg M9 2), .int (mg M9 3), .int (mg M9 4)]))]) (w1 := (stW cB cI cJ cZ (a0 4) a1 a2 a3 a4 N12 N13 N14 N15)) hP hD [3, 4, 5, 6, 7, 8, 9, 10, 11, 12, 13, 14, 15, 16] [0, 1, 2, 17, 18, 19, 20, 21, 22, 23, 24, 25, 26, 27, 28, 29, 30, 31, 32, 33] rfl rfl (by decide) (by decide) hk1 hFc hP1 hD1
        have hP := hP.sub (ws' := (lwW cB cI cJ cZ h0 a0 a1 a2 a3 a4 a5 a6 a7 o7 a8 o8 a9 M0 N12 N13 N14 N15 M5 M6 M7 M8 M9)) [0, 1, 2, 20, 21, 22, 23, 24, 25, 26, 27, 28, 29, 30, 31, 32, 33, 3, 4, 5, 6, 7, 8, 9, 10, 11, 12, 13, 14, 15, 16, 17, 18, 19] rfl
        have hD := hD.sub (ws' := (lwW cB cI cJ cZ h0 a0 a1 a2 a3 a4 a5 a6 a7 o7 a8 o8 a9 M0 N12 N13 N14 N15 M5 M6 M7 M8 M9)) [0, 1, 2, 20, 21, 22, 23, 24, 25, 26, 27, 28, 29, 30, 31, 32, 33, 3, 4, 5, 6, 7, 8, 9, 10, 11, 12, 13, 14, 15, 16, 17, 18, 19] (by decide) rfl
        generalize H1 = H at hP hS ⊢
        have h := hw
        try dsimp only at h
        refine lv_aload_n hx hb dX11_begin_49 rfl (lv_at hl 0 rfl) ?_
        refine va_get (D := (dC, dI)) (ci := 11) (v := .ref (a0 4)) (C := RX11) (T := TX11) (N := 12) hx hb hts hinX11 hown hK hP 0 rfl rfl 4 (by decide) f1 (fun _ h9 => h9) rfl dX11_begin_50 ?_
        refine va_get (D := (dC, dI)) (ci := 10) (v := .ref (a1 1)) (C := RX10) (T := TX10) (N := 5) hx hb hts hinX10 hown hK hP 3 rfl rfl 1 (by decide) f3 (fun _ h9 => h9) rfl dX11_begin_53 ?_
        refine va_get (D := (dC, dI)) (ci := 6) (v := .int (mg N14 2)) (C := RX6) (T := TX6) (N := 10) hx hb hts hinX6 hown hK hP 9 rfl rfl 2 (by decide) f4 (fun _ h9 => h9) rfl dX11_begin_56 ?_
        exact W.iret (v := (mg N14 2)) hx hb hr (fun t ht hW => ⟨⟨_, (M0, N12, N13, N14, N15, M5, M6, M7, M8, M9), rfl, h, o7, o8, by rw [ht]; exact hP, va_K.moved hW.alike hK, hD⟩, hS.F ht⟩) hS.2.2 dX11_begin_59
      · have h := h.1 c7
        refine lv_iconst (v := (-1)) hx hb dX11_begin_21 (by decide) ?_
        exact W.iret (v := (-1 : Int32)) hx hb hr (fun t ht hW => ⟨⟨_, (M0, M1, N2, M3, M4, M5, M6, M7, M8, M9), rfl, h, o7, o8, by rw [ht]; exact hP, va_K.moved hW.alike hK, hD⟩, hS.F ht⟩) hS.2.2 dX11_begin_22
  have hl := lv_entry ([.ref h0, .int p1, .int p2]) (n := 3) (Nat.le_of_ble_eq_true rfl)
  rw [lg_entry_eq]
  generalize (lg_sl ([.ref h0, .int p1, .int p2]) ++ List.replicate (3 - (lg_sl ([.ref h0, .int p1, .int p2])).length) Slot.unset).toArray = ls at hl ⊢
  have hl : lv_has ls 3 [(0, .ref h0), (1, .int p1), (2, .int p2)] := hl
  exact bE M0 M1 M2 M3 M4 M5 M6 M7 M8 M9 s.heap [] ls hP hD hS hl h
def wX11_speak (p1 : Int32) (M0 : gS) (M1 : gS) (M2 : gS) (M3 : gS) (M4 : gS) (M5 : gS) (M6 : gS) (M7 : gS) (M8 : gS) (M9 : gS) (Q : Int32 → gS → gS → gS → gS → gS → gS → gS → gS → gS → gS → Prop) : Prop :=
 (wX1_hasWord p1 M2 (fun (b3 : Bool) (N2 : gS) => (((bI b3) = 0 → (Q (-1 : Int32) M0 M1 N2 M3 M4 M5 M6 M7 M8 M9))
 ∧ (¬ (bI b3) = 0 → (wX6_maySay p1 M3 N2 (fun (b8 : Bool) (N6 : gS) (N7 : gS) => (((bI b8) = 0 → (Q (-2 : Int32) M0 M1 N7 N6 M4 M5 M6 M7 M8 M9))
 ∧ (¬ (bI b8) = 0 → (wX6_say p1 N6 N7 (fun (N11 : gS) (N12 : gS) => (wX10_noteWinner  M1 N12 N11 M4 (fun (N14 : gS) (N15 : gS) (N16 : gS) (N17 : gS) => (Q (mg N16 2) M0 N14 N15 N16 N17 M5 M6 M7 M8 M9)))))))))))))
def rmX11_speak : Room := { frames := 4, cells := 0, slots := 0, locals := 88 }
set_option maxHeartbeats 4000000 in
set_option maxRecDepth 100000 in
theorem kX11_speak (l : Launch) (dC : Nat → ClassId) (dI : Nat → Nat → Nat) (cB cI cJ cZ : ClassId) (h0 : Nat) (a0 : Nat → Nat) (a1 : Nat → Nat) (a2 : Nat → Nat) (a3 : Nat → Nat) (a4 : Nat → Nat) (a5 : Nat → Nat) (a6 : Nat → Nat) (a7 : Nat → Nat) (o7 : Option Nat) (a8 : Nat → Nat) (o8 : Option Nat) (a9 : Nat → Nat) (sz : Nat) (p1 : Int32) (M0 : gS) (M1 : gS) (M2 : gS) (M3 : gS) (M4 : gS) (M5 : gS) (M6 : gS) (M7 : gS) (M8 : gS) (M9 : gS) (Q : Int32 → gS → gS → gS → gS → gS → gS → gS → gS → gS → gS → Prop) (h : wX11_speak p1 M0 M1 M2 M3 M4 M5 M6 M7 M8 M9 Q) : Met l yX11_speak wsX11_speak rmX11_speak (va_Pc [.ref h0, .int p1] (lwI dC dI cB cI cJ cZ h0 a0 a1 a2 a3 a4 a5 a6 a7 o7 a8 o8 a9 M0 M1 M2 M3 M4 M5 M6 M7 M8 M9 sz)) (va_Qi (fun (r : Int32) (u : gS × gS × gS × gS × gS × gS × gS × gS × gS × gS) => Q r u.1 u.2.1 u.2.2.1 u.2.2.2.1 u.2.2.2.2.1 u.2.2.2.2.2.1 u.2.2.2.2.2.2.1 u.2.2.2.2.2.2.2.1 u.2.2.2.2.2.2.2.2.1 u.2.2.2.2.2.2.2.2.2) (lwB dC dI cB cI cJ cZ h0 a0 a1 a2 a3 a4 a5 a6 a7 a8 a9 (va_A (lwW cB cI cJ cZ h0 a0 a1 a2 a3 a4 a5 a6 a7 o7 a8 o8 a9 M0 M1 M2 M3 M4 M5 M6 M7 M8 M9) sz)) (va_A (lwW cB cI cJ cZ h0 a0 a1 a2 a3 a4 a5 a6 a7 o7 a8 o8 a9 M0 M1 M2 M3 M4 M5 M6 M7 M8 M9) sz)) 0 0 (va_A (lwW cB cI cJ cZ h0 a0 a1 a2 a3 a4 a5 a6 a7 o7 a8 o8 a9 M0 M1 M2 M3 M4 M5 M6 M7 M8 M9) sz) := by
  refine Met.ofW (cc := cX11_speak) (maxL := 2) (ret := (some .int)) (by decide) rfl ?_
  intro p e s m args below meth c s₁ B hml hv
  obtain ⟨rfl, hsz, hP, hK, hD0⟩ := hv
  have hx := B.exec
  have hb := B.bytes
  have hr := B.returns
  have hts := atoms_spec (ws := wsX11_speak) B.pre
  have hown : s.vm.findClass RX11 = some m.cls := findClass_of_methodNamed B.named
  have hlocks := B.notSynchronized
  subst hsz
  have hD := hD0.self (sz := s.heap.size)
  generalize hAe : va_A (lwW cB cI cJ cZ h0 a0 a1 a2 a3 a4 a5 a6 a7 o7 a8 o8 a9 M0 M1 M2 M3 M4 M5 M6 M7 M8 M9) s.heap.size = A at hD ⊢
  have hA : ∀ q : Nat, s.heap.size ≤ q → A q := fun q h => by rw [← hAe]; exact Or.inr h
  have hS : va_S A s.heap s.heap [] := va_S.rf
  have hinX10 : ∀ w ∈ wsX100, w ∈ wsX11_speak := by decide +kernel
  have hinX11 : ∀ w ∈ wsX110, w ∈ wsX11_speak := by decide +kernel
  have hinX6 : ∀ w ∈ wsX60, w ∈ wsX11_speak := by decide +kernel
  have f1 := hts (.fieldLink RX11 22 "LastWords" "now" "LLastWords$State;") (by decide +kernel)
  have f2 := hts (.fieldLink RX11 108 "LastWords$State" "corner" "LLastWords$Corner;") (by decide +kernel)
  have f3 := hts (.fieldLink RX11 118 "LastWords$State" "quarrel" "LLastWords$Quarrel;") (by decide +kernel)
  have f4 := hts (.fieldLink RX11 128 "LastWords$Quarrel" "left" "I") (by decide +kernel)
  have bE : ∀ (M0 : gS) (M1 : gS) (M2 : gS) (M3 : gS) (M4 : gS) (M5 : gS) (M6 : gS) (M7 : gS) (M8 : gS) (M9 : gS) (H : Heap) (locs : List Loc) (ls : Array Slot), va_P (dC, dI) vwCl (lwW cB cI cJ cZ h0 a0 a1 a2 a3 a4 a5 a6 a7 o7 a8 o8 a9 M0 M1 M2 M3 M4 M5 M6 M7 M8 M9) H → va_D A (lwW cB cI cJ cZ h0 a0 a1 a2 a3 a4 a5 a6 a7 o7 a8 o8 a9 M0 M1 M2 M3 M4 M5 M6 M7 M8 M9) → va_S A s.heap H locs → lv_has ls 2 [(0, .ref h0), (1, .int p1)] → wX11_speak p1 M0 M1 M2 M3 M4 M5 M6 M7 M8 M9 Q → W p l e (headSpec wsX11_speak rmX11_speak).room s m ([.ref h0, .int p1] : List Value).toArray below meth c H locs 0 0 (MQ below (va_Qi (fun (r : Int32) (u : gS × gS × gS × gS × gS × gS × gS × gS × gS × gS) => Q r u.1 u.2.1 u.2.2.1 u.2.2.2.1 u.2.2.2.2.1 u.2.2.2.2.2.1 u.2.2.2.2.2.2.1 u.2.2.2.2.2.2.2.1 u.2.2.2.2.2.2.2.2.1 u.2.2.2.2.2.2.2.2.2) (lwB dC dI cB cI cJ cZ h0 a0 a1 a2 a3 a4 a5 a6 a7 a8 a9 A) A) ([.ref h0, .int p1] : List Value).toArray s 0 0 A) (F0 m 0 ls []) := by
    intro M0 M1 M2 M3 M4 M5 M6 M7 M8 M9 H locs ls hP hD hS hl h
    unfold wX11_speak at h
    refine lv_aload_n hx hb dX11_speak_0 rfl (lv_at hl 0 rfl) ?_
    refine va_get (D := (dC, dI)) (ci := 11) (v := .ref (a0 4)) (C := RX11) (T := TX11) (N := 12) hx hb hts hinX11 hown hK hP 0 rfl rfl 4 (by decide) f1 (fun _ h9 => h9) rfl dX11_speak_1 ?_
    refine va_get (D := (dC, dI)) (ci := 10) (v := .ref (a1 0)) (C := RX10) (T := TX10) (N := 5) hx hb hts hinX10 hown hK hP 3 rfl rfl 0 (by decide) f2 (fun _ h9 => h9) rfl dX11_speak_4 ?_
    refine lv_iload_n hx hb dX11_speak_7 rfl (lv_at hl 1 rfl) ?_
    have hPc := hP.sub (ws' := (cnW cB cI cJ cZ (a1 0) a2 M2)) [5, 6, 7, 8] rfl
    have hDc := hD.sub (ws' := (cnW cB cI cJ cZ (a1 0) a2 M2)) [5, 6, 7, 8] (by decide) rfl
    have hFc := va_free (wc := (cnW cB cI cJ cZ (a1 0) a2 M2)) hD hS hA [5, 6, 7, 8] rfl
    refine va_calli (va_runV (As := [.int p1]) (rest := []) ⟨hx, hb, hml, hown, hts⟩ (kX1_hasWord l dC dI cB cI cJ cZ (a1 0) a2 H.size p1 M2 _ h) (cwV 1 hts gX11_speak_X1_hasWord rfl rfl rfl (by decide +kernel) ⟨Nat.le_of_ble_eq_true rfl, Nat.le_of_ble_eq_true rfl⟩) (cnpV hK hPc hDc) rfl rfl hl.1 rfl (lv_room (Nat.le_of_ble_eq_true rfl)) dX11_speak_8 ⟨Nat.le_of_ble_eq_true rfl, Nat.le_of_ble_eq_true rfl⟩) hS (fun q _ z => hFc q z) hFc (fun r1 u t H1 locs ht hvm hw hB hz1 hk1 hS => ?_)
    obtain ⟨N2, rfl⟩ : ∃ z, z = u := ⟨_, rfl⟩
    obtain ⟨hP1, hK1, hD1⟩ := hB
    rw [ht] at hP1
    obtain ⟨hP, hD⟩ := va_join (wr := [(h0, .inr (11, [.ref (a0 0), .int (mg M0 1), .ref (a0 2), .int (mg M0 3), .ref (a0 4), .ref (a0 5), .ref (a0 6), .ref (a0 7), .ref (a0 8), .ref (a0 9), .ref (a0 10), .ref (a0 11)])), (a0 0, .inl (cI, 400, .inl (ma M0 0))), (a0 11, .inl (cJ, 4, .inr (.inl (ml M0 11)))), (a0 4, .inr (10, [.ref (a1 0), .ref (a1 1), .ref (a1 2), .ref (a1 3), .int (mg M1 4)])), (a1 3, .inl (cI, 2, .inl (ma M1 3))), (a1 1, .inr (6, [.int (mg M3 0), .int (mg M3 1), .int (mg M3 2), .int (mg M3 3), .int (mg M3 4), .int (mg M3 5), .int (mg M3 6), .ref (a3 7), .ref (a3 8), .ref (a3 9)])), (a3 7, .inl (cI, 2, .inl (ma M3 7))), (a3 8, .inl (cI, 2, .inl (ma M3 8))), (a3 9, .inl (cI, 2, .inl (ma M3 9))), (a1 2, .inr (4, [.int (mg M4 0), .ref (a4 1), .ref (a4 2), .ref (a4 3)])), (a4 1, .inl (cI, 6, .inl (ma M4 1))), (a4 2, .inl (cI, 6, .inl (ma M4 2))), (a4 3, .inl (cI, 6, .inl (ma M4 3))), (a0 6, .inr (1, [.int (mg M5 0), .ref (a5 1), .int (mg M5 2), .ref (a5 3), .int (mg M5 4), .ref (a5 5)])), (a5 1, .inl (cI, 4, .inl (ma M5 1))), (a5 3, .inl (cI, 4, .inl (ma M5 3))), (a5 5, .inl (cI, 2, .inl (ma M5 5))), (a0 7, .inr (6, [.int (mg M6 0), .int (mg M6 1), .int (mg M6 2), .int (mg M6 3), .int (mg M6 4), .int (mg M6 5), .int (mg M6 6), .ref (a6 7), .ref (a6 8), .ref (a6 9)])), (a6 7, .inl (cI, 2, .inl (ma M6 7))), (a6 8, .inl (cI, 2, .inl (ma M6 8))), (a6 9, .inl (cI, 2, .inl (ma M6 9))), (a0 8, .inr (0, [.ref (a7 0), .ref (a7 1), .ref (a7 2), .ref (a7 3), .int (mg M7 4), va_rf o7, .int (mg M7 6), .int (mg M7 7), .int (mg M7 8), .int (mg M7 9), .int (mg M7 10)])), (a7 0, .inl (cJ, 15, .inr (.inl (ml M7 0)))), (a7 1, .inl (cJ, 800, .inr (.inl (ml M7 1)))), (a7 2, .inl (cI, 4, .inl (ma M7 2))), (a7 3, .inl (cJ, 4, .inr (.inl (ml M7 3)))), (a0 9, .inr (5, [.ref (a8 0), .ref (a8 1), va_rf o8, .int (mg M8 3)])), (a8 0, .inl (cI, 2048, .inl (ma M8 0))), (a8 1, .inl (cI, 2048, .inl (ma M8 1))), (a0 10, .inr (3, [.int (mg M9 0), .int (mg M9 1), .int (mg M9 2), .int (mg M9 3), .int (mg M9 4)]))]) (w1 := (cnW cB cI cJ cZ (a1 0) a2 N2)) hP hD [5, 6, 7, 8] [0, 1, 2, 3, 4, 9, 10, 11, 12, 13, 14, 15, 16, 17, 18, 19, 20, 21, 22, 23, 24, 25, 26, 27, 28, 29, 30, 31, 32, 33] rfl rfl (by decide) (by decide) hk1 hFc hP1 hD1
    have hP := hP.sub (ws' := (lwW cB cI cJ cZ h0 a0 a1 a2 a3 a4 a5 a6 a7 o7 a8 o8 a9 M0 M1 N2 M3 M4 M5 M6 M7 M8 M9)) [0, 1, 2, 3, 4, 30, 31, 32, 33, 5, 6, 7, 8, 9, 10, 11, 12, 13, 14, 15, 16, 17, 18, 19, 20, 21, 22, 23, 24, 25, 26, 27, 28, 29] rfl
    have hD := hD.sub (ws' := (lwW cB cI cJ cZ h0 a0 a1 a2 a3 a4 a5 a6 a7 o7 a8 o8 a9 M0 M1 N2 M3 M4 M5 M6 M7 M8 M9)) [0, 1, 2, 3, 4, 30, 31, 32, 33, 5, 6, 7, 8, 9, 10, 11, 12, 13, 14, 15, 16, 17, 18, 19, 20, 21, 22, 23, 24, 25, 26, 27, 28, 29] (by decide) rfl
    generalize H1 = H at hP hS ⊢
    obtain ⟨b3, rfl, h⟩ := hw
    try dsimp only at h
    refine lv_if_ne (tgt := 16) hx hb dX11_speak_11 (by decide) (fun c4 => ?_) (fun c4 => ?_)
    · have h := h.2 c4
      refine lv_aload_n hx hb dX11_speak_16 rfl (lv_at hl 0 rfl) ?_
      refine va_get (D := (dC, dI)) (ci := 11) (v := .ref (a0 4)) (C := RX11) (T := TX11) (N := 12) hx hb hts hinX11 hown hK hP 0 rfl rfl 4 (by decide) f1 (fun _ h9 => h9) rfl dX11_speak_17 ?_
      refine va_get (D := (dC, dI)) (ci := 10) (v := .ref (a1 1)) (C := RX10) (T := TX10) (N := 5) hx hb hts hinX10 hown hK hP 3 rfl rfl 1 (by decide) f3 (fun _ h9 => h9) rfl dX11_speak_20 ?_
      refine lv_aload_n hx hb dX11_speak_23 rfl (lv_at hl 0 rfl) ?_
      refine va_get (D := (dC, dI)) (ci := 11) (v := .ref (a0 4)) (C := RX11) (T := TX11) (N := 12) hx hb hts hinX11 hown hK hP 0 rfl rfl 4 (by decide) f1 (fun _ h9 => h9) rfl dX11_speak_24 ?_
      refine va_get (D := (dC, dI)) (ci := 10) (v := .ref (a1 0)) (C := RX10) (T := TX10) (N := 5) hx hb hts hinX10 hown hK hP 3 rfl rfl 0 (by decide) f2 (fun _ h9 => h9) rfl dX11_speak_27 ?_
      refine lv_iload_n hx hb dX11_speak_30 rfl (lv_at hl 1 rfl) ?_
      have hPc := hP.sub (ws' := (qcW cB cI cJ cZ (a1 1) a3 (a1 0) a2 M3 N2)) [9, 10, 11, 12, 5, 6, 7, 8] rfl
      have hDc := hD.sub (ws' := (qcW cB cI cJ cZ (a1 1) a3 (a1 0) a2 M3 N2)) [9, 10, 11, 12, 5, 6, 7, 8] (by decide) rfl
      have hFc := va_free (wc := (qcW cB cI cJ cZ (a1 1) a3 (a1 0) a2 M3 N2)) hD hS hA [9, 10, 11, 12, 5, 6, 7, 8] rfl
      refine va_calli (va_runV (As := [.ref (a1 0), .int p1]) (rest := []) ⟨hx, hb, hml, hown, hts⟩ (kX6_maySay l dC dI cB cI cJ cZ (a1 1) a3 (a1 0) a2 H.size p1 M3 N2 _ h) (cwV 2 hts gX11_speak_X6_maySay rfl rfl rfl (by decide +kernel) ⟨Nat.le_of_ble_eq_true rfl, Nat.le_of_ble_eq_true rfl⟩) (qcpV hK hPc hDc) rfl rfl hl.1 rfl (lv_room (Nat.le_of_ble_eq_true rfl)) dX11_speak_31 ⟨Nat.le_of_ble_eq_true rfl, Nat.le_of_ble_eq_true rfl⟩) hS (fun q _ z => hFc q z) hFc (fun r5 u t H1 locs ht hvm hw hB hz1 hk1 hS => ?_)
      obtain ⟨N6, N7⟩ := u
      obtain ⟨hP1, hK1, hD1⟩ := hB
      rw [ht] at hP1
      obtain ⟨hP, hD⟩ := va_join (wr := [(h0, .inr (11, [.ref (a0 0), .int (mg M0 1), .ref (a0 2), .int (mg M0 3), .ref (a0 4), .ref (a0 5), .ref (a0 6), .ref (a0 7), .ref (a0 8), .ref (a0 9), .ref (a0 10), .ref (a0 11)])), (a0 0, .inl (cI, 400, .inl (ma M0 0))), (a0 11, .inl (cJ, 4, .inr (.inl (ml M0 11)))), (a0 4, .inr (10, [.ref (a1 0), .ref (a1 1), .ref (a1 2), .ref (a1 3), .int (mg M1 4)])), (a1 3, .inl (cI, 2, .inl (ma M1 3))), (a1 2, .inr (4, [.int (mg M4 0), .ref (a4 1), .ref (a4 2), .ref (a4 3)])), (a4 1, .inl (cI, 6, .inl (ma M4 1))), (a4 2, .inl (cI, 6, .inl (ma M4 2))), (a4 3, .inl (cI, 6, .inl (ma M4 3))), (a0 6, .inr (1, [.int (mg M5 0), .ref (a5 1), .int (mg M5 2), .ref (a5 3), .int (mg M5 4), .ref (a5 5)])), (a5 1, .inl (cI, 4, .inl (ma M5 1))), (a5 3, .inl (cI, 4, .inl (ma M5 3))), (a5 5, .inl (cI, 2, .inl (ma M5 5))), (a0 7, .inr (6, [.int (mg M6 0), .int (mg M6 1), .int (mg M6 2), .int (mg M6 3), .int (mg M6 4), .int (mg M6 5), .int (mg M6 6), .ref (a6 7), .ref (a6 8), .ref (a6 9)])), (a6 7, .inl (cI, 2, .inl (ma M6 7))), (a6 8, .inl (cI, 2, .inl (ma M6 8))), (a6 9, .inl (cI, 2, .inl (ma M6 9))), (a0 8, .inr (0, [.ref (a7 0), .ref (a7 1), .ref (a7 2), .ref (a7 3), .int (mg M7 4), va_rf o7, .int (mg M7 6), .int (mg M7 7), .int (mg M7 8), .int (mg M7 9), .int (mg M7 10)])), (a7 0, .inl (cJ, 15, .inr (.inl (ml M7 0)))), (a7 1, .inl (cJ, 800, .inr (.inl (ml M7 1)))), (a7 2, .inl (cI, 4, .inl (ma M7 2))), (a7 3, .inl (cJ, 4, .inr (.inl (ml M7 3)))), (a0 9, .inr (5, [.ref (a8 0), .ref (a8 1), va_rf o8, .int (mg M8 3)])), (a8 0, .inl (cI, 2048, .inl (ma M8 0))), (a8 1, .inl (cI, 2048, .inl (ma M8 1))), (a0 10, .inr (3, [.int (mg M9 0), .int (mg M9 1), .int (mg M9 2), .int (mg M9 3), .int (mg M9 4)]))]) (w1 := (qcW cB cI cJ cZ (a1 1) a3 (a1 0) a2 N6 N7)) hP hD [9, 10, 11, 12, 5, 6, 7, 8] [0, 1, 2, 3, 4, 13, 14, 15, 16, 17, 18, 19, 20, 21, 22, 23, 24, 25, 26, 27, 28, 29, 30, 31, 32, 33] rfl rfl (by decide) (by decide) hk1 hFc hP1 hD1
      have hP := hP.sub (ws' := (lwW cB cI cJ cZ h0 a0 a1 a2 a3 a4 a5 a6 a7 o7 a8 o8 a9 M0 M1 N7 N6 M4 M5 M6 M7 M8 M9)) [0, 1, 2, 3, 4, 30, 31, 32, 33, 26, 27, 28, 29, 5, 6, 7, 8, 9, 10, 11, 12, 13, 14, 15, 16, 17, 18, 19, 20, 21, 22, 23, 24, 25] rfl
      have hD := hD.sub (ws' := (lwW cB cI cJ cZ h0 a0 a1 a2 a3 a4 a5 a6 a7 o7 a8 o8 a9 M0 M1 N7 N6 M4 M5 M6 M7 M8 M9)) [0, 1, 2, 3, 4, 30, 31, 32, 33, 26, 27, 28, 29, 5, 6, 7, 8, 9, 10, 11, 12, 13, 14, 15, 16, 17, 18, 19, 20, 21, 22, 23, 24, 25] (by decide) rfl
      generalize H1 = H at hP hS ⊢
      obtain ⟨b8, rfl, h⟩ := hw
      try dsimp only at h
      refine lv_if_ne (tgt := 40) hx hb dX11_speak_34 (by decide) (fun c9 => ?_) (fun c9 => ?_)
      · have h := h.2 c9
        refine lv_aload_n hx hb dX11_speak_40 rfl (lv_at hl 0 rfl) ?_
        refine va_get (D := (dC, dI)) (ci := 11) (v := .ref (a0 4)) (C := RX11) (T := TX11) (N := 12) hx hb hts hinX11 hown hK hP 0 rfl rfl 4 (by decide) f1 (fun _ h9 => h9) rfl dX11_speak_41 ?_
        refine va_get (D := (dC, dI)) (ci := 10) (v := .ref (a1 1)) (C := RX10) (T := TX10) (N := 5) hx hb hts hinX10 hown hK hP 3 rfl rfl 1 (by decide) f3 (fun _ h9 => h9) rfl dX11_speak_44 ?_
        refine lv_aload_n hx hb dX11_speak_47 rfl (lv_at hl 0 rfl) ?_
        refine va_get (D := (dC, dI)) (ci := 11) (v := .ref (a0 4)) (C := RX11) (T := TX11) (N := 12) hx hb hts hinX11 hown hK hP 0 rfl rfl 4 (by decide) f1 (fun _ h9 => h9) rfl dX11_speak_48 ?_
        refine va_get (D := (dC, dI)) (ci := 10) (v := .ref (a1 0)) (C := RX10) (T := TX10) (N := 5) hx hb hts hinX10 hown hK hP 3 rfl rfl 0 (by decide) f2 (fun _ h9 => h9) rfl dX11_speak_51 ?_
        refine lv_iload_n hx hb dX11_speak_54 rfl (lv_at hl 1 rfl) ?_
        have hPc := hP.sub (ws' := (qcW cB cI cJ cZ (a1 1) a3 (a1 0) a2 N6 N7)) [9, 10, 11, 12, 5, 6, 7, 8] rfl
        have hDc := hD.sub (ws' := (qcW cB cI cJ cZ (a1 1) a3 (a1 0) a2 N6 N7)) [9, 10, 11, 12, 5, 6, 7, 8] (by decide) rfl
        have hFc := va_free (wc := (qcW cB cI cJ cZ (a1 1) a3 (a1 0) a2 N6 N7)) hD hS hA [9, 10, 11, 12, 5, 6, 7, 8] rfl
        refine va_callv (va_runV (As := [.ref (a1 0), .int p1]) (rest := []) ⟨hx, hb, hml, hown, hts⟩ (kX6_say l dC dI cB cI cJ cZ (a1 1) a3 (a1 0) a2 H.size p1 N6 N7 _ h) (cwV 2 hts gX11_speak_X6_say rfl rfl rfl (by decide +kernel) ⟨Nat.le_of_ble_eq_true rfl, Nat.le_of_ble_eq_true rfl⟩) (qcpV hK hPc hDc) rfl rfl hl.1 rfl (lv_room (Nat.le_of_ble_eq_true rfl)) dX11_speak_55 ⟨Nat.le_of_ble_eq_true rfl, Nat.le_of_ble_eq_true rfl⟩) hS (fun q _ z => hFc q z) hFc (fun u t H1 locs ht hvm hw hB hz1 hk1 hS => ?_)
        obtain ⟨N11, N12⟩ := u
        obtain ⟨hP1, hK1, hD1⟩ := hB
        rw [ht] at hP1
        obtain ⟨hP, hD⟩ := va_join (wr := [(h0, .inr (11, [.ref (a0 0), .int (mg M0 1), .ref (a0 2), .int (mg M0 3), .ref (a0 4), .ref (a0 5), .ref (a0 6), .ref (a0 7), .ref (a0 8), .ref (a0 9), .ref (a0 10), .ref (a0 11)])), (a0 0, .inl (cI, 400, .inl (ma M0 0))), (a0 11, .inl (cJ, 4, .inr (.inl (ml M0 11)))), (a0 4, .inr (10, [.ref (a1 0), .ref (a1 1), .ref (a1 2), .ref (a1 3), .int (mg M1 4)])), (a1 3, .inl (cI, 2, .inl (ma M1 3))), (a1 2, .inr (4, [.int (mg M4 0), .ref (a4 1), .ref (a4 2), .ref (a4 3)])), (a4 1, .inl (cI, 6, .inl (ma M4 1))), (a4 2, .inl (cI, 6, .inl (ma M4 2))), (a4 3, .inl (cI, 6, .inl (ma M4 3))), (a0 6, .inr (1, [.int (mg M5 0), .ref (a5 1), .int (mg M5 2), .ref (a5 3), .int (mg M5 4), .ref (a5 5)])), (a5 1, .inl (cI, 4, .inl (ma M5 1))), (a5 3, .inl (cI, 4, .inl (ma M5 3))), (a5 5, .inl (cI, 2, .inl (ma M5 5))), (a0 7, .inr (6, [.int (mg M6 0), .int (mg M6 1), .int (mg M6 2), .int (mg M6 3), .int (mg M6 4), .int (mg M6 5), .int (mg M6 6), .ref (a6 7), .ref (a6 8), .ref (a6 9)])), (a6 7, .inl (cI, 2, .inl (ma M6 7))), (a6 8, .inl (cI, 2, .inl (ma M6 8))), (a6 9, .inl (cI, 2, .inl (ma M6 9))), (a0 8, .inr (0, [.ref (a7 0), .ref (a7 1), .ref (a7 2), .ref (a7 3), .int (mg M7 4), va_rf o7, .int (mg M7 6), .int (mg M7 7), .int (mg M7 8), .int (mg M7 9), .int (mg M7 10)])), (a7 0, .inl (cJ, 15, .inr (.inl (ml M7 0)))), (a7 1, .inl (cJ, 800, .inr (.inl (ml M7 1)))), (a7 2, .inl (cI, 4, .inl (ma M7 2))), (a7 3, .inl (cJ, 4, .inr (.inl (ml M7 3)))), (a0 9, .inr (5, [.ref (a8 0), .ref (a8 1), va_rf o8, .int (mg M8 3)])), (a8 0, .inl (cI, 2048, .inl (ma M8 0))), (a8 1, .inl (cI, 2048, .inl (ma M8 1))), (a0 10, .inr (3, [.int (mg M9 0), .int (mg M9 1), .int (mg M9 2), .int (mg M9 3), .int (mg M9 4)]))]) (w1 := (qcW cB cI cJ cZ (a1 1) a3 (a1 0) a2 N11 N12)) hP hD [9, 10, 11, 12, 5, 6, 7, 8] [0, 1, 2, 3, 4, 13, 14, 15, 16, 17, 18, 19, 20, 21, 22, 23, 24, 25, 26, 27, 28, 29, 30, 31, 32, 33] rfl rfl (by decide) (by decide) hk1 hFc hP1 hD1
        have hP := hP.sub (ws' := (lwW cB cI cJ cZ h0 a0 a1 a2 a3 a4 a5 a6 a7 o7 a8 o8 a9 M0 M1 N12 N11 M4 M5 M6 M7 M8 M9)) [0, 1, 2, 3, 4, 30, 31, 32, 33, 26, 27, 28, 29, 5, 6, 7, 8, 9, 10, 11, 12, 13, 14, 15, 16, 17, 18, 19, 20, 21, 22, 23, 24, 25] rfl
        have hD := hD.sub (ws' := (lwW cB cI cJ cZ h0 a0 a1 a2 a3 a4 a5 a6 a7 o7 a8 o8 a9 M0 M1 N12 N11 M4 M5 M6 M7 M8 M9)) [0, 1, 2, 3, 4, 30, 31, 32, 33, 26, 27, 28, 29, 5, 6, 7, 8, 9, 10, 11, 12, 13, 14, 15, 16, 17, 18, 19, 20, 21, 22, 23, 24, 25] (by decide) rfl
        generalize H1 = H at hP hS ⊢
        have h := hw
        try dsimp only at h
        refine lv_aload_n hx hb dX11_speak_58 rfl (lv_at hl 0 rfl) ?_
        refine va_get (D := (dC, dI)) (ci := 11) (v := .ref (a0 4)) (C := RX11) (T := TX11) (N := 12) hx hb hts hinX11 hown hK hP 0 rfl rfl 4 (by decide) f1 (fun _ h9 => h9) rfl dX11_speak_59 ?_
        have hPc := hP.sub (ws' := (stW cB cI cJ cZ (a0 4) a1 a2 a3 a4 M1 N12 N11 M4)) [3, 4, 5, 6, 7, 8, 9, 10, 11, 12, 13, 14, 15, 16] rfl
        have hDc := hD.sub (ws' := (stW cB cI cJ cZ (a0 4) a1 a2 a3 a4 M1 N12 N11 M4)) [3, 4, 5, 6, 7, 8, 9, 10, 11, 12, 13, 14, 15, 16] (by decide) rfl
        have hFc := va_free (wc := (stW cB cI cJ cZ (a0 4) a1 a2 a3 a4 M1 N12 N11 M4)) hD hS hA [3, 4, 5, 6, 7, 8, 9, 10, 11, 12, 13, 14, 15, 16] rfl
        refine va_callv (va_runV (As := []) (rest := []) ⟨hx, hb, hml, hown, hts⟩ (kX10_noteWinner l dC dI cB cI cJ cZ (a0 4) a1 a2 a3 a4 H.size  M1 N12 N11 M4 _ h) (cwV 0 hts gX11_speak_X10_noteWinner rfl rfl rfl (by decide +kernel) ⟨Nat.le_of_ble_eq_true rfl, Nat.le_of_ble_eq_true rfl⟩) (stpV hK hPc hDc) rfl rfl hl.1 rfl (lv_room (Nat.le_of_ble_eq_true rfl)) dX11_speak_62 ⟨Nat.le_of_ble_eq_true rfl, Nat.le_of_ble_eq_true rfl⟩) hS (fun q _ z => hFc q z) hFc (fun u t H1 locs ht hvm hw hB hz1 hk1 hS => ?_)
        obtain ⟨N14, N15, N16, N17⟩ := u
        obtain ⟨hP1, hK1, hD1⟩ := hB
        rw [ht] at hP1
        obtain ⟨hP, hD⟩ := va_join (wr := [(h0, .inr (11, [.ref (a0 0), .int (mg M0 1), .ref (a0 2), .int (mg M0 3), .ref (a0 4), .ref (a0 5), .ref (a0 6), .ref (a0 7), .ref (a0 8), .ref (a0 9), .ref (a0 10), .ref (a0 11)])), (a0 0, .inl (cI, 400, .inl (ma M0 0))), (a0 11, .inl (cJ, 4, .inr (.inl (ml M0 11)))), (a0 6, .inr (1, [.int (mg M5 0), .ref (a5 1), .int (mg M5 2), .ref (a5 3), .int (mg M5 4), .ref (a5 5)])), (a5 1, .inl (cI, 4, .inl (ma M5 1))), (a5 3, .inl (cI, 4, .inl (ma M5 3))), (a5 5, .inl (cI, 2, .inl (ma M5 5))), (a0 7, .inr (6, [.int (mg M6 0), .int (mg M6 1), .int (mg M6 2), .int (mg M6 3), .int (mg M6 4), .int (mg M6 5), .int (mg M6 6), .ref (a6 7), .ref (a6 8), .ref (a6 9)])), (a6 7, .inl (cI, 2, .inl (ma M6 7))), (a6 8, .inl (cI, 2, .inl (ma M6 8))), (a6 9, .inl (cI, 2, .inl (ma M6 9))), (a0 8, .inr (0, [.ref (a7 0), .ref (a7 1), .ref (a7 2), .ref (a7 3), .int (mg M7 4), va_rf o7, .int (mg M7 6), .int (mg M7 7), .int (mg M7 8), .int (mg M7 9), .int (mg M7 10)])), (a7 0, .inl (cJ, 15, .inr (.inl (ml M7 0)))), (a7 1, .inl (cJ, 800, .inr (.inl (ml M7 1)))), (a7 2, .inl (cI, 4, .inl (ma M7 2))), (a7 3, .inl (cJ, 4, .inr (.inl (ml M7 3)))), (a0 9, .inr (5, [.ref (a8 0), .ref (a8 1), va_rf o8, .int (mg M8 3)])), (a8 0, .inl (cI, 2048, .inl (ma M8 0))), (a8 1, .inl (cI, 2048, .inl (ma M8 1))), (a0 10, .inr (3, [.int (mg M9 0), .int (mg M9 1), .int (mg M9 2), .int (mg M9 3), .int (mg M9 4)]))]) (w1 := (stW cB cI cJ cZ (a0 4) a1 a2 a3 a4 N14 N15 N16 N17)) hP hD [3, 4, 5, 6, 7, 8, 9, 10, 11, 12, 13, 14, 15, 16] [0, 1, 2, 17, 18, 19, 20, 21, 22, 23, 24, 25, 26, 27, 28, 29, 30, 31, 32, 33] rfl rfl (by decide) (by decide) hk1 hFc hP1 hD1
        have hP := hP.sub (ws' := (lwW cB cI cJ cZ h0 a0 a1 a2 a3 a4 a5 a6 a7 o7 a8 o8 a9 M0 N14 N15 N16 N17 M5 M6 M7 M8 M9)) [0, 1, 2, 20, 21, 22, 23, 24, 25, 26, 27, 28, 29, 30, 31, 32, 33, 3, 4, 5, 6, 7, 8, 9, 10, 11, 12, 13, 14, 15, 16, 17, 18, 19] rfl
        have hD := hD.sub (ws' := (lwW cB cI cJ cZ h0 a0 a1 a2 a3 a4 a5 a6 a7 o7 a8 o8 a9 M0 N14 N15 N16 N17 M5 M6 M7 M8 M9)) [0, 1, 2, 20, 21, 22, 23, 24, 25, 26, 27, 28, 29, 30, 31, 32, 33, 3, 4, 5, 6, 7, 8, 9, 10, 11, 12, 13, 14, 15, 16, 17, 18, 19] (by decide) rfl
        generalize H1 = H at hP hS ⊢
        have h := hw
        try dsimp only at h
        refine lv_aload_n hx hb dX11_speak_65 rfl (lv_at hl 0 rfl) ?_
        refine va_get (D := (dC, dI)) (ci := 11) (v := .ref (a0 4)) (C := RX11) (T := TX11) (N := 12) hx hb hts hinX11 hown hK hP 0 rfl rfl 4 (by decide) f1 (fun _ h9 => h9) rfl dX11_speak_66 ?_
        refine va_get (D := (dC, dI)) (ci := 10) (v := .ref (a1 1)) (C := RX10) (T := TX10) (N := 5) hx hb hts hinX10 hown hK hP 3 rfl rfl 1 (by decide) f3 (fun _ h9 => h9) rfl dX11_speak_69 ?_
        refine va_get (D := (dC, dI)) (ci := 6) (v := .int (mg N16 2)) (C := RX6) (T := TX6) (N := 10) hx hb hts hinX6 hown hK hP 9 rfl rfl 2 (by decide) f4 (fun _ h9 => h9) rfl dX11_speak_72 ?_
        exact W.iret (v := (mg N16 2)) hx hb hr (fun t ht hW => ⟨⟨_, (M0, N14, N15, N16, N17, M5, M6, M7, M8, M9), rfl, h, o7, o8, by rw [ht]; exact hP, va_K.moved hW.alike hK, hD⟩, hS.F ht⟩) hS.2.2 dX11_speak_75
      · have h := h.1 c9
        refine lv_bipush (v := (-2)) hx hb dX11_speak_37 (by decide) ?_
        exact W.iret (v := (-2 : Int32)) hx hb hr (fun t ht hW => ⟨⟨_, (M0, M1, N7, N6, M4, M5, M6, M7, M8, M9), rfl, h, o7, o8, by rw [ht]; exact hP, va_K.moved hW.alike hK, hD⟩, hS.F ht⟩) hS.2.2 dX11_speak_39
    · have h := h.1 c4
      refine lv_iconst (v := (-1)) hx hb dX11_speak_14 (by decide) ?_
      exact W.iret (v := (-1 : Int32)) hx hb hr (fun t ht hW => ⟨⟨_, (M0, M1, N2, M3, M4, M5, M6, M7, M8, M9), rfl, h, o7, o8, by rw [ht]; exact hP, va_K.moved hW.alike hK, hD⟩, hS.F ht⟩) hS.2.2 dX11_speak_15
  have hl := lv_entry ([.ref h0, .int p1]) (n := 2) (Nat.le_of_ble_eq_true rfl)
  rw [lg_entry_eq]
  generalize (lg_sl ([.ref h0, .int p1]) ++ List.replicate (2 - (lg_sl ([.ref h0, .int p1])).length) Slot.unset).toArray = ls at hl ⊢
  have hl : lv_has ls 2 [(0, .ref h0), (1, .int p1)] := hl
  exact bE M0 M1 M2 M3 M4 M5 M6 M7 M8 M9 s.heap [] ls hP hD hS hl h
def wX11_toss  (M0 : gS) (M1 : gS) (M2 : gS) (M3 : gS) (M4 : gS) (M5 : gS) (M6 : gS) (M7 : gS) (M8 : gS) (M9 : gS) (Q : Int32 → gS → gS → gS → gS → gS → gS → gS → gS → gS → gS → Prop) : Prop :=
 (wX6_mayThrow  M3 (fun (b3 : Bool) (N2 : gS) => (((bI b3) = 0 → (Q (-2 : Int32) M0 M1 M2 N2 M4 M5 M6 M7 M8 M9))
 ∧ (¬ (bI b3) = 0 → (wX6_throwPenny  N2 M2 (fun (N6 : gS) (N7 : gS) => (wX10_noteWinner  M1 N7 N6 M4 (fun (N9 : gS) (N10 : gS) (N11 : gS) (N12 : gS) => (Q (mg N11 2) M0 N9 N10 N11 N12 M5 M6 M7 M8 M9)))))))))
def rmX11_toss : Room := { frames := 4, cells := 0, slots := 0, locals := 87 }
set_option maxHeartbeats 4000000 in
set_option maxRecDepth 100000 in
theorem kX11_toss (l : Launch) (dC : Nat → ClassId) (dI : Nat → Nat → Nat) (cB cI cJ cZ : ClassId) (h0 : Nat) (a0 : Nat → Nat) (a1 : Nat → Nat) (a2 : Nat → Nat) (a3 : Nat → Nat) (a4 : Nat → Nat) (a5 : Nat → Nat) (a6 : Nat → Nat) (a7 : Nat → Nat) (o7 : Option Nat) (a8 : Nat → Nat) (o8 : Option Nat) (a9 : Nat → Nat) (sz : Nat)  (M0 : gS) (M1 : gS) (M2 : gS) (M3 : gS) (M4 : gS) (M5 : gS) (M6 : gS) (M7 : gS) (M8 : gS) (M9 : gS) (Q : Int32 → gS → gS → gS → gS → gS → gS → gS → gS → gS → gS → Prop) (h : wX11_toss  M0 M1 M2 M3 M4 M5 M6 M7 M8 M9 Q) : Met l yX11_toss wsX11_toss rmX11_toss (va_Pc [.ref h0] (lwI dC dI cB cI cJ cZ h0 a0 a1 a2 a3 a4 a5 a6 a7 o7 a8 o8 a9 M0 M1 M2 M3 M4 M5 M6 M7 M8 M9 sz)) (va_Qi (fun (r : Int32) (u : gS × gS × gS × gS × gS × gS × gS × gS × gS × gS) => Q r u.1 u.2.1 u.2.2.1 u.2.2.2.1 u.2.2.2.2.1 u.2.2.2.2.2.1 u.2.2.2.2.2.2.1 u.2.2.2.2.2.2.2.1 u.2.2.2.2.2.2.2.2.1 u.2.2.2.2.2.2.2.2.2) (lwB dC dI cB cI cJ cZ h0 a0 a1 a2 a3 a4 a5 a6 a7 a8 a9 (va_A (lwW cB cI cJ cZ h0 a0 a1 a2 a3 a4 a5 a6 a7 o7 a8 o8 a9 M0 M1 M2 M3 M4 M5 M6 M7 M8 M9) sz)) (va_A (lwW cB cI cJ cZ h0 a0 a1 a2 a3 a4 a5 a6 a7 o7 a8 o8 a9 M0 M1 M2 M3 M4 M5 M6 M7 M8 M9) sz)) 0 0 (va_A (lwW cB cI cJ cZ h0 a0 a1 a2 a3 a4 a5 a6 a7 o7 a8 o8 a9 M0 M1 M2 M3 M4 M5 M6 M7 M8 M9) sz) := by
  refine Met.ofW (cc := cX11_toss) (maxL := 1) (ret := (some .int)) (by decide) rfl ?_
  intro p e s m args below meth c s₁ B hml hv
  obtain ⟨rfl, hsz, hP, hK, hD0⟩ := hv
  have hx := B.exec
  have hb := B.bytes
  have hr := B.returns
  have hts := atoms_spec (ws := wsX11_toss) B.pre
  have hown : s.vm.findClass RX11 = some m.cls := findClass_of_methodNamed B.named
  have hlocks := B.notSynchronized
  subst hsz
  have hD := hD0.self (sz := s.heap.size)
  generalize hAe : va_A (lwW cB cI cJ cZ h0 a0 a1 a2 a3 a4 a5 a6 a7 o7 a8 o8 a9 M0 M1 M2 M3 M4 M5 M6 M7 M8 M9) s.heap.size = A at hD ⊢
  have hA : ∀ q : Nat, s.heap.size ≤ q → A q := fun q h => by rw [← hAe]; exact Or.inr h
  have hS : va_S A s.heap s.heap [] := va_S.rf
  have hinX10 : ∀ w ∈ wsX100, w ∈ wsX11_toss := by decide +kernel
  have hinX11 : ∀ w ∈ wsX110, w ∈ wsX11_toss := by decide +kernel
  have hinX6 : ∀ w ∈ wsX60, w ∈ wsX11_toss := by decide +kernel
  have f1 := hts (.fieldLink RX11 22 "LastWords" "now" "LLastWords$State;") (by decide +kernel)
  have f2 := hts (.fieldLink RX11 118 "LastWords$State" "quarrel" "LLastWords$Quarrel;") (by decide +kernel)
  have f3 := hts (.fieldLink RX11 108 "LastWords$State" "corner" "LLastWords$Corner;") (by decide +kernel)
  have f4 := hts (.fieldLink RX11 128 "LastWords$Quarrel" "left" "I") (by decide +kernel)
  have bE : ∀ (M0 : gS) (M1 : gS) (M2 : gS) (M3 : gS) (M4 : gS) (M5 : gS) (M6 : gS) (M7 : gS) (M8 : gS) (M9 : gS) (H : Heap) (locs : List Loc) (ls : Array Slot), va_P (dC, dI) vwCl (lwW cB cI cJ cZ h0 a0 a1 a2 a3 a4 a5 a6 a7 o7 a8 o8 a9 M0 M1 M2 M3 M4 M5 M6 M7 M8 M9) H → va_D A (lwW cB cI cJ cZ h0 a0 a1 a2 a3 a4 a5 a6 a7 o7 a8 o8 a9 M0 M1 M2 M3 M4 M5 M6 M7 M8 M9) → va_S A s.heap H locs → lv_has ls 1 [(0, .ref h0)] → wX11_toss  M0 M1 M2 M3 M4 M5 M6 M7 M8 M9 Q → W p l e (headSpec wsX11_toss rmX11_toss).room s m ([.ref h0] : List Value).toArray below meth c H locs 0 0 (MQ below (va_Qi (fun (r : Int32) (u : gS × gS × gS × gS × gS × gS × gS × gS × gS × gS) => Q r u.1 u.2.1 u.2.2.1 u.2.2.2.1 u.2.2.2.2.1 u.2.2.2.2.2.1 u.2.2.2.2.2.2.1 u.2.2.2.2.2.2.2.1 u.2.2.2.2.2.2.2.2.1 u.2.2.2.2.2.2.2.2.2) (lwB dC dI cB cI cJ cZ h0 a0 a1 a2 a3 a4 a5 a6 a7 a8 a9 A) A) ([.ref h0] : List Value).toArray s 0 0 A) (F0 m 0 ls []) := by
    intro M0 M1 M2 M3 M4 M5 M6 M7 M8 M9 H locs ls hP hD hS hl h
    unfold wX11_toss at h
    refine lv_aload_n hx hb dX11_toss_0 rfl (lv_at hl 0 rfl) ?_
    refine va_get (D := (dC, dI)) (ci := 11) (v := .ref (a0 4)) (C := RX11) (T := TX11) (N := 12) hx hb hts hinX11 hown hK hP 0 rfl rfl 4 (by decide) f1 (fun _ h9 => h9) rfl dX11_toss_1 ?_
    refine va_get (D := (dC, dI)) (ci := 10) (v := .ref (a1 1)) (C := RX10) (T := TX10) (N := 5) hx hb hts hinX10 hown hK hP 3 rfl rfl 1 (by decide) f2 (fun _ h9 => h9) rfl dX11_toss_4 ?_
    have hPc := hP.sub (ws' := (qrW cB cI cJ cZ (a1 1) a3 M3)) [9, 10, 11, 12] rfl
    have hDc := hD.sub (ws' := (qrW cB cI cJ cZ (a1 1) a3 M3)) [9, 10, 11, 12] (by decide) rfl
    have hFc := va_free (wc := (qrW cB cI cJ cZ (a1 1) a3 M3)) hD hS hA [9, 10, 11, 12] rfl
    refine va_calli (va_runV (As := []) (rest := []) ⟨hx, hb, hml, hown, hts⟩ (kX6_mayThrow l dC dI cB cI cJ cZ (a1 1) a3 H.size  M3 _ h) (cwV 0 hts gX11_toss_X6_mayThrow rfl rfl rfl (by decide +kernel) ⟨Nat.le_of_ble_eq_true rfl, Nat.le_of_ble_eq_true rfl⟩) (qrpV hK hPc hDc) rfl rfl hl.1 rfl (lv_room (Nat.le_of_ble_eq_true rfl)) dX11_toss_7 ⟨Nat.le_of_ble_eq_true rfl, Nat.le_of_ble_eq_true rfl⟩) hS (fun q _ z => hFc q z) hFc (fun r1 u t H1 locs ht hvm hw hB hz1 hk1 hS => ?_)
    obtain ⟨N2, rfl⟩ : ∃ z, z = u := ⟨_, rfl⟩
    obtain ⟨hP1, hK1, hD1⟩ := hB
    rw [ht] at hP1
    obtain ⟨hP, hD⟩ := va_join (wr := [(h0, .inr (11, [.ref (a0 0), .int (mg M0 1), .ref (a0 2), .int (mg M0 3), .ref (a0 4), .ref (a0 5), .ref (a0 6), .ref (a0 7), .ref (a0 8), .ref (a0 9), .ref (a0 10), .ref (a0 11)])), (a0 0, .inl (cI, 400, .inl (ma M0 0))), (a0 11, .inl (cJ, 4, .inr (.inl (ml M0 11)))), (a0 4, .inr (10, [.ref (a1 0), .ref (a1 1), .ref (a1 2), .ref (a1 3), .int (mg M1 4)])), (a1 3, .inl (cI, 2, .inl (ma M1 3))), (a1 0, .inr (1, [.int (mg M2 0), .ref (a2 1), .int (mg M2 2), .ref (a2 3), .int (mg M2 4), .ref (a2 5)])), (a2 1, .inl (cI, 4, .inl (ma M2 1))), (a2 3, .inl (cI, 4, .inl (ma M2 3))), (a2 5, .inl (cI, 2, .inl (ma M2 5))), (a1 2, .inr (4, [.int (mg M4 0), .ref (a4 1), .ref (a4 2), .ref (a4 3)])), (a4 1, .inl (cI, 6, .inl (ma M4 1))), (a4 2, .inl (cI, 6, .inl (ma M4 2))), (a4 3, .inl (cI, 6, .inl (ma M4 3))), (a0 6, .inr (1, [.int (mg M5 0), .ref (a5 1), .int (mg M5 2), .ref (a5 3), .int (mg M5 4), .ref (a5 5)])), (a5 1, .inl (cI, 4, .inl (ma M5 1))), (a5 3, .inl (cI, 4, .inl (ma M5 3))), (a5 5, .inl (cI, 2, .inl (ma M5 5))), (a0 7, .inr (6, [.int (mg M6 0), .int (mg M6 1), .int (mg M6 2), .int (mg M6 3), .int (mg M6 4), .int (mg M6 5), .int (mg M6 6), .ref (a6 7), .ref (a6 8), .ref (a6 9)])), (a6 7, .inl (cI, 2, .inl (ma M6 7))), (a6 8, .inl (cI, 2, .inl (ma M6 8))), (a6 9, .inl (cI, 2, .inl (ma M6 9))), (a0 8, .inr (0, [.ref (a7 0), .ref (a7 1), .ref (a7 2), .ref (a7 3), .int (mg M7 4), va_rf o7, .int (mg M7 6), .int (mg M7 7), .int (mg M7 8), .int (mg M7 9), .int (mg M7 10)])), (a7 0, .inl (cJ, 15, .inr (.inl (ml M7 0)))), (a7 1, .inl (cJ, 800, .inr (.inl (ml M7 1)))), (a7 2, .inl (cI, 4, .inl (ma M7 2))), (a7 3, .inl (cJ, 4, .inr (.inl (ml M7 3)))), (a0 9, .inr (5, [.ref (a8 0), .ref (a8 1), va_rf o8, .int (mg M8 3)])), (a8 0, .inl (cI, 2048, .inl (ma M8 0))), (a8 1, .inl (cI, 2048, .inl (ma M8 1))), (a0 10, .inr (3, [.int (mg M9 0), .int (mg M9 1), .int (mg M9 2), .int (mg M9 3), .int (mg M9 4)]))]) (w1 := (qrW cB cI cJ cZ (a1 1) a3 N2)) hP hD [9, 10, 11, 12] [0, 1, 2, 3, 4, 5, 6, 7, 8, 13, 14, 15, 16, 17, 18, 19, 20, 21, 22, 23, 24, 25, 26, 27, 28, 29, 30, 31, 32, 33] rfl rfl (by decide) (by decide) hk1 hFc hP1 hD1
    have hP := hP.sub (ws' := (lwW cB cI cJ cZ h0 a0 a1 a2 a3 a4 a5 a6 a7 o7 a8 o8 a9 M0 M1 M2 N2 M4 M5 M6 M7 M8 M9)) [0, 1, 2, 3, 4, 5, 6, 7, 8, 30, 31, 32, 33, 9, 10, 11, 12, 13, 14, 15, 16, 17, 18, 19, 20, 21, 22, 23, 24, 25, 26, 27, 28, 29] rfl
    have hD := hD.sub (ws' := (lwW cB cI cJ cZ h0 a0 a1 a2 a3 a4 a5 a6 a7 o7 a8 o8 a9 M0 M1 M2 N2 M4 M5 M6 M7 M8 M9)) [0, 1, 2, 3, 4, 5, 6, 7, 8, 30, 31, 32, 33, 9, 10, 11, 12, 13, 14, 15, 16, 17, 18, 19, 20, 21, 22, 23, 24, 25, 26, 27, 28, 29] (by decide) rfl
    generalize H1 = H at hP hS ⊢
    obtain ⟨b3, rfl, h⟩ := hw
    try dsimp only at h
    refine lv_if_ne (tgt := 16) hx hb dX11_toss_10 (by decide) (fun c4 => ?_) (fun c4 => ?_)
    · have h := h.2 c4
      refine lv_aload_n hx hb dX11_toss_16 rfl (lv_at hl 0 rfl) ?_
      refine va_get (D := (dC, dI)) (ci := 11) (v := .ref (a0 4)) (C := RX11) (T := TX11) (N := 12) hx hb hts hinX11 hown hK hP 0 rfl rfl 4 (by decide) f1 (fun _ h9 => h9) rfl dX11_toss_17 ?_
      refine va_get (D := (dC, dI)) (ci := 10) (v := .ref (a1 1)) (C := RX10) (T := TX10) (N := 5) hx hb hts hinX10 hown hK hP 3 rfl rfl 1 (by decide) f2 (fun _ h9 => h9) rfl dX11_toss_20 ?_
      refine lv_aload_n hx hb dX11_toss_23 rfl (lv_at hl 0 rfl) ?_
      refine va_get (D := (dC, dI)) (ci := 11) (v := .ref (a0 4)) (C := RX11) (T := TX11) (N := 12) hx hb hts hinX11 hown hK hP 0 rfl rfl 4 (by decide) f1 (fun _ h9 => h9) rfl dX11_toss_24 ?_
      refine va_get (D := (dC, dI)) (ci := 10) (v := .ref (a1 0)) (C := RX10) (T := TX10) (N := 5) hx hb hts hinX10 hown hK hP 3 rfl rfl 0 (by decide) f3 (fun _ h9 => h9) rfl dX11_toss_27 ?_
      have hPc := hP.sub (ws' := (qcW cB cI cJ cZ (a1 1) a3 (a1 0) a2 N2 M2)) [9, 10, 11, 12, 5, 6, 7, 8] rfl
      have hDc := hD.sub (ws' := (qcW cB cI cJ cZ (a1 1) a3 (a1 0) a2 N2 M2)) [9, 10, 11, 12, 5, 6, 7, 8] (by decide) rfl
      have hFc := va_free (wc := (qcW cB cI cJ cZ (a1 1) a3 (a1 0) a2 N2 M2)) hD hS hA [9, 10, 11, 12, 5, 6, 7, 8] rfl
      refine va_callv (va_runV (As := [.ref (a1 0)]) (rest := []) ⟨hx, hb, hml, hown, hts⟩ (kX6_throwPenny l dC dI cB cI cJ cZ (a1 1) a3 (a1 0) a2 H.size  N2 M2 _ h) (cwV 1 hts gX11_toss_X6_throwPenny rfl rfl rfl (by decide +kernel) ⟨Nat.le_of_ble_eq_true rfl, Nat.le_of_ble_eq_true rfl⟩) (qcpV hK hPc hDc) rfl rfl hl.1 rfl (lv_room (Nat.le_of_ble_eq_true rfl)) dX11_toss_30 ⟨Nat.le_of_ble_eq_true rfl, Nat.le_of_ble_eq_true rfl⟩) hS (fun q _ z => hFc q z) hFc (fun u t H1 locs ht hvm hw hB hz1 hk1 hS => ?_)
      obtain ⟨N6, N7⟩ := u
      obtain ⟨hP1, hK1, hD1⟩ := hB
      rw [ht] at hP1
      obtain ⟨hP, hD⟩ := va_join (wr := [(h0, .inr (11, [.ref (a0 0), .int (mg M0 1), .ref (a0 2), .int (mg M0 3), .ref (a0 4), .ref (a0 5), .ref (a0 6), .ref (a0 7), .ref (a0 8), .ref (a0 9), .ref (a0 10), .ref (a0 11)])), (a0 0, .inl (cI, 400, .inl (ma M0 0))), (a0 11, .inl (cJ, 4, .inr (.inl (ml M0 11)))), (a0 4, .inr (10, [.ref (a1 0), .ref (a1 1), .ref (a1 2), .ref (a1 3), .int (mg M1 4)])), (a1 3, .inl (cI, 2, .inl (ma M1 3))), (a1 2, .inr (4, [.int (mg M4 0), .ref (a4 1), .ref (a4 2), .ref (a4 3)])), (a4 1, .inl (cI, 6, .inl (ma M4 1))), (a4 2, .inl (cI, 6, .inl (ma M4 2))), (a4 3, .inl (cI, 6, .inl (ma M4 3))), (a0 6, .inr (1, [.int (mg M5 0), .ref (a5 1), .int (mg M5 2), .ref (a5 3), .int (mg M5 4), .ref (a5 5)])), (a5 1, .inl (cI, 4, .inl (ma M5 1))), (a5 3, .inl (cI, 4, .inl (ma M5 3))), (a5 5, .inl (cI, 2, .inl (ma M5 5))), (a0 7, .inr (6, [.int (mg M6 0), .int (mg M6 1), .int (mg M6 2), .int (mg M6 3), .int (mg M6 4), .int (mg M6 5), .int (mg M6 6), .ref (a6 7), .ref (a6 8), .ref (a6 9)])), (a6 7, .inl (cI, 2, .inl (ma M6 7))), (a6 8, .inl (cI, 2, .inl (ma M6 8))), (a6 9, .inl (cI, 2, .inl (ma M6 9))), (a0 8, .inr (0, [.ref (a7 0), .ref (a7 1), .ref (a7 2), .ref (a7 3), .int (mg M7 4), va_rf o7, .int (mg M7 6), .int (mg M7 7), .int (mg M7 8), .int (mg M7 9), .int (mg M7 10)])), (a7 0, .inl (cJ, 15, .inr (.inl (ml M7 0)))), (a7 1, .inl (cJ, 800, .inr (.inl (ml M7 1)))), (a7 2, .inl (cI, 4, .inl (ma M7 2))), (a7 3, .inl (cJ, 4, .inr (.inl (ml M7 3)))), (a0 9, .inr (5, [.ref (a8 0), .ref (a8 1), va_rf o8, .int (mg M8 3)])), (a8 0, .inl (cI, 2048, .inl (ma M8 0))), (a8 1, .inl (cI, 2048, .inl (ma M8 1))), (a0 10, .inr (3, [.int (mg M9 0), .int (mg M9 1), .int (mg M9 2), .int (mg M9 3), .int (mg M9 4)]))]) (w1 := (qcW cB cI cJ cZ (a1 1) a3 (a1 0) a2 N6 N7)) hP hD [9, 10, 11, 12, 5, 6, 7, 8] [0, 1, 2, 3, 4, 13, 14, 15, 16, 17, 18, 19, 20, 21, 22, 23, 24, 25, 26, 27, 28, 29, 30, 31, 32, 33] rfl rfl (by decide) (by decide) hk1 hFc hP1 hD1
      have hP := hP.sub (ws' := (lwW cB cI cJ cZ h0 a0 a1 a2 a3 a4 a5 a6 a7 o7 a8 o8 a9 M0 M1 N7 N6 M4 M5 M6 M7 M8 M9)) [0, 1, 2, 3, 4, 30, 31, 32, 33, 26, 27, 28, 29, 5, 6, 7, 8, 9, 10, 11, 12, 13, 14, 15, 16, 17, 18, 19, 20, 21, 22, 23, 24, 25] rfl
      have hD := hD.sub (ws' := (lwW cB cI cJ cZ h0 a0 a1 a2 a3 a4 a5 a6 a7 o7 a8 o8 a9 M0 M1 N7 N6 M4 M5 M6 M7 M8 M9)) [0, 1, 2, 3, 4, 30, 31, 32, 33, 26, 27, 28, 29, 5, 6, 7, 8, 9, 10, 11, 12, 13, 14, 15, 16, 17, 18, 19, 20, 21, 22, 23, 24, 25] (by decide) rfl
      generalize H1 = H at hP hS ⊢
      have h := hw
      try dsimp only at h
      refine lv_aload_n hx hb dX11_toss_33 rfl (lv_at hl 0 rfl) ?_
      refine va_get (D := (dC, dI)) (ci := 11) (v := .ref (a0 4)) (C := RX11) (T := TX11) (N := 12) hx hb hts hinX11 hown hK hP 0 rfl rfl 4 (by decide) f1 (fun _ h9 => h9) rfl dX11_toss_34 ?_
      have hPc := hP.sub (ws' := (stW cB cI cJ cZ (a0 4) a1 a2 a3 a4 M1 N7 N6 M4)) [3, 4, 5, 6, 7, 8, 9, 10, 11, 12, 13, 14, 15, 16] rfl
      have hDc := hD.sub (ws' := (stW cB cI cJ cZ (a0 4) a1 a2 a3 a4 M1 N7 N6 M4)) [3, 4, 5, 6, 7, 8, 9, 10, 11, 12, 13, 14, 15, 16] (by decide) rfl
      have hFc := va_free (wc := (stW cB cI cJ cZ (a0 4) a1 a2 a3 a4 M1 N7 N6 M4)) hD hS hA [3, 4, 5, 6, 7, 8, 9, 10, 11, 12, 13, 14, 15, 16] rfl
      refine va_callv (va_runV (As := []) (rest := []) ⟨hx, hb, hml, hown, hts⟩ (kX10_noteWinner l dC dI cB cI cJ cZ (a0 4) a1 a2 a3 a4 H.size  M1 N7 N6 M4 _ h) (cwV 0 hts gX11_toss_X10_noteWinner rfl rfl rfl (by decide +kernel) ⟨Nat.le_of_ble_eq_true rfl, Nat.le_of_ble_eq_true rfl⟩) (stpV hK hPc hDc) rfl rfl hl.1 rfl (lv_room (Nat.le_of_ble_eq_true rfl)) dX11_toss_37 ⟨Nat.le_of_ble_eq_true rfl, Nat.le_of_ble_eq_true rfl⟩) hS (fun q _ z => hFc q z) hFc (fun u t H1 locs ht hvm hw hB hz1 hk1 hS => ?_)
      obtain ⟨N9, N10, N11, N12⟩ := u
      obtain ⟨hP1, hK1, hD1⟩ := hB
      rw [ht] at hP1
      obtain ⟨hP, hD⟩ := va_join (wr := [(h0, .inr (11, [.ref (a0 0), .int (mg M0 1), .ref (a0 2), .int (mg M0 3), .ref (a0 4), .ref (a0 5), .ref (a0 6), .ref (a0 7), .ref (a0 8), .ref (a0 9), .ref (a0 10), .ref (a0 11)])), (a0 0, .inl (cI, 400, .inl (ma M0 0))), (a0 11, .inl (cJ, 4, .inr (.inl (ml M0 11)))), (a0 6, .inr (1, [.int (mg M5 0), .ref (a5 1), .int (mg M5 2), .ref (a5 3), .int (mg M5 4), .ref (a5 5)])), (a5 1, .inl (cI, 4, .inl (ma M5 1))), (a5 3, .inl (cI, 4, .inl (ma M5 3))), (a5 5, .inl (cI, 2, .inl (ma M5 5))), (a0 7, .inr (6, [.int (mg M6 0), .int (mg M6 1), .int (mg M6 2), .int (mg M6 3), .int (mg M6 4), .int (mg M6 5), .int (mg M6 6), .ref (a6 7), .ref (a6 8), .ref (a6 9)])), (a6 7, .inl (cI, 2, .inl (ma M6 7))), (a6 8, .inl (cI, 2, .inl (ma M6 8))), (a6 9, .inl (cI, 2, .inl (ma M6 9))), (a0 8, .inr (0, [.ref (a7 0), .ref (a7 1), .ref (a7 2), .ref (a7 3), .int (mg M7 4), va_rf o7, .int (mg M7 6), .int (mg M7 7), .int (mg M7 8), .int (mg M7 9), .int (mg M7 10)])), (a7 0, .inl (cJ, 15, .inr (.inl (ml M7 0)))), (a7 1, .inl (cJ, 800, .inr (.inl (ml M7 1)))), (a7 2, .inl (cI, 4, .inl (ma M7 2))), (a7 3, .inl (cJ, 4, .inr (.inl (ml M7 3)))), (a0 9, .inr (5, [.ref (a8 0), .ref (a8 1), va_rf o8, .int (mg M8 3)])), (a8 0, .inl (cI, 2048, .inl (ma M8 0))), (a8 1, .inl (cI, 2048, .inl (ma M8 1))), (a0 10, .inr (3, [.int (mg M9 0), .int (mg M9 1), .int (mg M9 2), .int (mg M9 3), .int (mg M9 4)]))]) (w1 := (stW cB cI cJ cZ (a0 4) a1 a2 a3 a4 N9 N10 N11 N12)) hP hD [3, 4, 5, 6, 7, 8, 9, 10, 11, 12, 13, 14, 15, 16] [0, 1, 2, 17, 18, 19, 20, 21, 22, 23, 24, 25, 26, 27, 28, 29, 30, 31, 32, 33] rfl rfl (by decide) (by decide) hk1 hFc hP1 hD1
      have hP := hP.sub (ws' := (lwW cB cI cJ cZ h0 a0 a1 a2 a3 a4 a5 a6 a7 o7 a8 o8 a9 M0 N9 N10 N11 N12 M5 M6 M7 M8 M9)) [0, 1, 2, 20, 21, 22, 23, 24, 25, 26, 27, 28, 29, 30, 31, 32, 33, 3, 4, 5, 6, 7, 8, 9, 10, 11, 12, 13, 14, 15, 16, 17, 18, 19] rfl
      have hD := hD.sub (ws' := (lwW cB cI cJ cZ h0 a0 a1 a2 a3 a4 a5 a6 a7 o7 a8 o8 a9 M0 N9 N10 N11 N12 M5 M6 M7 M8 M9)) [0, 1, 2, 20, 21, 22, 23, 24, 25, 26, 27, 28, 29, 30, 31, 32, 33, 3, 4, 5, 6, 7, 8, 9, 10, 11, 12, 13, 14, 15, 16, 17, 18, 19] (by decide) rfl
      generalize H1 = H at hP hS ⊢
      have h := hw
      try dsimp only at h
      refine lv_aload_n hx hb dX11_toss_40 rfl (lv_at hl 0 rfl) ?_
      refine va_get (D := (dC, dI)) (ci := 11) (v := .ref (a0 4)) (C := RX11) (T := TX11) (N := 12) hx hb hts hinX11 hown hK hP 0 rfl rfl 4 (by decide) f1 (fun _ h9 => h9) rfl dX11_toss_41 ?_
      refine va_get (D := (dC, dI)) (ci := 10) (v := .ref (a1 1)) (C := RX10) (T := TX10) (N := 5) hx hb hts hinX10 hown hK hP 3 rfl rfl 1 (by decide) f2 (fun _ h9 => h9) rfl dX11_toss_44 ?_
      refine va_get (D := (dC, dI)) (ci := 6) (v := .int (mg N11 2)) (C := RX6) (T := TX6) (N := 10) hx hb hts hinX6 hown hK hP 9 rfl rfl 2 (by decide) f4 (fun _ h9 => h9) rfl dX11_toss_47 ?_
      exact W.iret (v := (mg N11 2)) hx hb hr (fun t ht hW => ⟨⟨_, (M0, N9, N10, N11, N12, M5, M6, M7, M8, M9), rfl, h, o7, o8, by rw [ht]; exact hP, va_K.moved hW.alike hK, hD⟩, hS.F ht⟩) hS.2.2 dX11_toss_50
    · have h := h.1 c4
      refine lv_bipush (v := (-2)) hx hb dX11_toss_13 (by decide) ?_
      exact W.iret (v := (-2 : Int32)) hx hb hr (fun t ht hW => ⟨⟨_, (M0, M1, M2, N2, M4, M5, M6, M7, M8, M9), rfl, h, o7, o8, by rw [ht]; exact hP, va_K.moved hW.alike hK, hD⟩, hS.F ht⟩) hS.2.2 dX11_toss_15
  have hl := lv_entry ([.ref h0]) (n := 1) (Nat.le_of_ble_eq_true rfl)
  rw [lg_entry_eq]
  generalize (lg_sl ([.ref h0]) ++ List.replicate (1 - (lg_sl ([.ref h0])).length) Slot.unset).toArray = ls at hl ⊢
  have hl : lv_has ls 1 [(0, .ref h0)] := hl
  exact bE M0 M1 M2 M3 M4 M5 M6 M7 M8 M9 s.heap [] ls hP hD hS hl h
def wX11_still  (M0 : gS) (M1 : gS) (M2 : gS) (M3 : gS) (M4 : gS) (M5 : gS) (M6 : gS) (M7 : gS) (M8 : gS) (M9 : gS) (Q : Int32 → gS → gS → gS → gS → gS → gS → gS → gS → gS → gS → Prop) : Prop :=
 (((mg M3 0) = 0 → (Q (-2 : Int32) M0 M1 M2 M3 M4 M5 M6 M7 M8 M9))
 ∧ (¬ (mg M3 0) = 0 → (wX6_beStill  M3 (fun (N3 : gS) => (wX10_noteWinner  M1 M2 N3 M4 (fun (N5 : gS) (N6 : gS) (N7 : gS) (N8 : gS) => (Q (mg N7 6) M0 N5 N6 N7 N8 M5 M6 M7 M8 M9)))))))
def rmX11_still : Room := { frames := 2, cells := 0, slots := 0, locals := 40 }
set_option maxHeartbeats 4000000 in
set_option maxRecDepth 100000 in
theorem kX11_still (l : Launch) (dC : Nat → ClassId) (dI : Nat → Nat → Nat) (cB cI cJ cZ : ClassId) (h0 : Nat) (a0 : Nat → Nat) (a1 : Nat → Nat) (a2 : Nat → Nat) (a3 : Nat → Nat) (a4 : Nat → Nat) (a5 : Nat → Nat) (a6 : Nat → Nat) (a7 : Nat → Nat) (o7 : Option Nat) (a8 : Nat → Nat) (o8 : Option Nat) (a9 : Nat → Nat) (sz : Nat)  (M0 : gS) (M1 : gS) (M2 : gS) (M3 : gS) (M4 : gS) (M5 : gS) (M6 : gS) (M7 : gS) (M8 : gS) (M9 : gS) (Q : Int32 → gS → gS → gS → gS → gS → gS → gS → gS → gS → gS → Prop) (h : wX11_still  M0 M1 M2 M3 M4 M5 M6 M7 M8 M9 Q) : Met l yX11_still wsX11_still rmX11_still (va_Pc [.ref h0] (lwI dC dI cB cI cJ cZ h0 a0 a1 a2 a3 a4 a5 a6 a7 o7 a8 o8 a9 M0 M1 M2 M3 M4 M5 M6 M7 M8 M9 sz)) (va_Qi (fun (r : Int32) (u : gS × gS × gS × gS × gS × gS × gS × gS × gS × gS) => Q r u.1 u.2.1 u.2.2.1 u.2.2.2.1 u.2.2.2.2.1 u.2.2.2.2.2.1 u.2.2.2.2.2.2.1 u.2.2.2.2.2.2.2.1 u.2.2.2.2.2.2.2.2.1 u.2.2.2.2.2.2.2.2.2) (lwB dC dI cB cI cJ cZ h0 a0 a1 a2 a3 a4 a5 a6 a7 a8 a9 (va_A (lwW cB cI cJ cZ h0 a0 a1 a2 a3 a4 a5 a6 a7 o7 a8 o8 a9 M0 M1 M2 M3 M4 M5 M6 M7 M8 M9) sz)) (va_A (lwW cB cI cJ cZ h0 a0 a1 a2 a3 a4 a5 a6 a7 o7 a8 o8 a9 M0 M1 M2 M3 M4 M5 M6 M7 M8 M9) sz)) 0 0 (va_A (lwW cB cI cJ cZ h0 a0 a1 a2 a3 a4 a5 a6 a7 o7 a8 o8 a9 M0 M1 M2 M3 M4 M5 M6 M7 M8 M9) sz) := by
  refine Met.ofW (cc := cX11_still) (maxL := 1) (ret := (some .int)) (by decide) rfl ?_
  intro p e s m args below meth c s₁ B hml hv
  obtain ⟨rfl, hsz, hP, hK, hD0⟩ := hv
  have hx := B.exec
  have hb := B.bytes
  have hr := B.returns
  have hts := atoms_spec (ws := wsX11_still) B.pre
  have hown : s.vm.findClass RX11 = some m.cls := findClass_of_methodNamed B.named
  have hlocks := B.notSynchronized
  subst hsz
  have hD := hD0.self (sz := s.heap.size)
  generalize hAe : va_A (lwW cB cI cJ cZ h0 a0 a1 a2 a3 a4 a5 a6 a7 o7 a8 o8 a9 M0 M1 M2 M3 M4 M5 M6 M7 M8 M9) s.heap.size = A at hD ⊢
  have hA : ∀ q : Nat, s.heap.size ≤ q → A q := fun q h => by rw [← hAe]; exact Or.inr h
  have hS : va_S A s.heap s.heap [] := va_S.rf
  have hinX10 : ∀ w ∈ wsX100, w ∈ wsX11_still := by decide +kernel
  have hinX11 : ∀ w ∈ wsX110, w ∈ wsX11_still := by decide +kernel
  have hinX6 : ∀ w ∈ wsX60, w ∈ wsX11_still := by decide +kernel
  have f1 := hts (.fieldLink RX11 22 "LastWords" "now" "LLastWords$State;") (by decide +kernel)
  have f2 := hts (.fieldLink RX11 118 "LastWords$State" "quarrel" "LLastWords$Quarrel;") (by decide +kernel)
  have f3 := hts (.fieldLink RX11 149 "LastWords$Quarrel" "goesOn" "Z") (by decide +kernel)
  have f4 := hts (.fieldLink RX11 156 "LastWords$Quarrel" "winner" "I") (by decide +kernel)
  have bE : ∀ (M0 : gS) (M1 : gS) (M2 : gS) (M3 : gS) (M4 : gS) (M5 : gS) (M6 : gS) (M7 : gS) (M8 : gS) (M9 : gS) (H : Heap) (locs : List Loc) (ls : Array Slot), va_P (dC, dI) vwCl (lwW cB cI cJ cZ h0 a0 a1 a2 a3 a4 a5 a6 a7 o7 a8 o8 a9 M0 M1 M2 M3 M4 M5 M6 M7 M8 M9) H → va_D A (lwW cB cI cJ cZ h0 a0 a1 a2 a3 a4 a5 a6 a7 o7 a8 o8 a9 M0 M1 M2 M3 M4 M5 M6 M7 M8 M9) → va_S A s.heap H locs → lv_has ls 1 [(0, .ref h0)] → wX11_still  M0 M1 M2 M3 M4 M5 M6 M7 M8 M9 Q → W p l e (headSpec wsX11_still rmX11_still).room s m ([.ref h0] : List Value).toArray below meth c H locs 0 0 (MQ below (va_Qi (fun (r : Int32) (u : gS × gS × gS × gS × gS × gS × gS × gS × gS × gS) => Q r u.1 u.2.1 u.2.2.1 u.2.2.2.1 u.2.2.2.2.1 u.2.2.2.2.2.1 u.2.2.2.2.2.2.1 u.2.2.2.2.2.2.2.1 u.2.2.2.2.2.2.2.2.1 u.2.2.2.2.2.2.2.2.2) (lwB dC dI cB cI cJ cZ h0 a0 a1 a2 a3 a4 a5 a6 a7 a8 a9 A) A) ([.ref h0] : List Value).toArray s 0 0 A) (F0 m 0 ls []) := by
    intro M0 M1 M2 M3 M4 M5 M6 M7 M8 M9 H locs ls hP hD hS hl h
    unfold wX11_still at h
    refine lv_aload_n hx hb dX11_still_0 rfl (lv_at hl 0 rfl) ?_
    refine va_get (D := (dC, dI)) (ci := 11) (v := .ref (a0 4)) (C := RX11) (T := TX11) (N := 12) hx hb hts hinX11 hown hK hP 0 rfl rfl 4 (by decide) f1 (fun _ h9 => h9) rfl dX11_still_1 ?_
    refine va_get (D := (dC, dI)) (ci := 10) (v := .ref (a1 1)) (C := RX10) (T := TX10) (N := 5) hx hb hts hinX10 hown hK hP 3 rfl rfl 1 (by decide) f2 (fun _ h9 => h9) rfl dX11_still_4 ?_
    refine va_get (D := (dC, dI)) (ci := 6) (v := .int (mg M3 0)) (C := RX6) (T := TX6) (N := 10) hx hb hts hinX6 hown hK hP 9 rfl rfl 0 (by decide) f3 (fun _ h9 => h9) rfl dX11_still_7 ?_
    refine lv_if_ne (tgt := 16) hx hb dX11_still_10 (by decide) (fun c1 => ?_) (fun c1 => ?_)
    · have h := h.2 c1
      refine lv_aload_n hx hb dX11_still_16 rfl (lv_at hl 0 rfl) ?_
      refine va_get (D := (dC, dI)) (ci := 11) (v := .ref (a0 4)) (C := RX11) (T := TX11) (N := 12) hx hb hts hinX11 hown hK hP 0 rfl rfl 4 (by decide) f1 (fun _ h9 => h9) rfl dX11_still_17 ?_
      refine va_get (D := (dC, dI)) (ci := 10) (v := .ref (a1 1)) (C := RX10) (T := TX10) (N := 5) hx hb hts hinX10 hown hK hP 3 rfl rfl 1 (by decide) f2 (fun _ h9 => h9) rfl dX11_still_20 ?_
      have hPc := hP.sub (ws' := (qrW cB cI cJ cZ (a1 1) a3 M3)) [9, 10, 11, 12] rfl
      have hDc := hD.sub (ws' := (qrW cB cI cJ cZ (a1 1) a3 M3)) [9, 10, 11, 12] (by decide) rfl
      have hFc := va_free (wc := (qrW cB cI cJ cZ (a1 1) a3 M3)) hD hS hA [9, 10, 11, 12] rfl
      refine va_callv (va_runV (As := []) (rest := []) ⟨hx, hb, hml, hown, hts⟩ (kX6_beStill l dC dI cB cI cJ cZ (a1 1) a3 H.size  M3 _ h) (cwV 0 hts gX11_still_X6_beStill rfl rfl rfl (by decide +kernel) ⟨Nat.le_of_ble_eq_true rfl, Nat.le_of_ble_eq_true rfl⟩) (qrpV hK hPc hDc) rfl rfl hl.1 rfl (lv_room (Nat.le_of_ble_eq_true rfl)) dX11_still_23 ⟨Nat.le_of_ble_eq_true rfl, Nat.le_of_ble_eq_true rfl⟩) hS (fun q _ z => hFc q z) hFc (fun u t H1 locs ht hvm hw hB hz1 hk1 hS => ?_)
      obtain ⟨N3, rfl⟩ : ∃ z, z = u := ⟨_, rfl⟩
      obtain ⟨hP1, hK1, hD1⟩ := hB
      rw [ht] at hP1
      obtain ⟨hP, hD⟩ := va_join (wr := [(h0, .inr (11, [.ref (a0 0), .int (mg M0 1), .ref (a0 2), .int (mg M0 3), .ref (a0 4), .ref (a0 5), .ref (a0 6), .ref (a0 7), .ref (a0 8), .ref (a0 9), .ref (a0 10), .ref (a0 11)])), (a0 0, .inl (cI, 400, .inl (ma M0 0))), (a0 11, .inl (cJ, 4, .inr (.inl (ml M0 11)))), (a0 4, .inr (10, [.ref (a1 0), .ref (a1 1), .ref (a1 2), .ref (a1 3), .int (mg M1 4)])), (a1 3, .inl (cI, 2, .inl (ma M1 3))), (a1 0, .inr (1, [.int (mg M2 0), .ref (a2 1), .int (mg M2 2), .ref (a2 3), .int (mg M2 4), .ref (a2 5)])), (a2 1, .inl (cI, 4, .inl (ma M2 1))), (a2 3, .inl (cI, 4, .inl (ma M2 3))), (a2 5, .inl (cI, 2, .inl (ma M2 5))), (a1 2, .inr (4, [.int (mg M4 0), .ref (a4 1), .ref (a4 2), .ref (a4 3)])), (a4 1, .inl (cI, 6, .inl (ma M4 1))), (a4 2, .inl (cI, 6, .inl (ma M4 2))), (a4 3, .inl (cI, 6, .inl (ma M4 3))), (a0 6, .inr (1, [.int (mg M5 0), .ref (a5 1), .int (mg M5 2), .ref (a5 3), .int (mg M5 4), .ref (a5 5)])), (a5 1, .inl (cI, 4, .inl (ma M5 1))), (a5 3, .inl (cI, 4, .inl (ma M5 3))), (a5 5, .inl (cI, 2, .inl (ma M5 5))), (a0 7, .inr (6, [.int (mg M6 0), .int (mg M6 1), .int (mg M6 2), .int (mg M6 3), .int (mg M6 4), .int (mg M6 5), .int (mg M6 6), .ref (a6 7), .ref (a6 8), .ref (a6 9)])), (a6 7, .inl (cI, 2, .inl (ma M6 7))), (a6 8, .inl (cI, 2, .inl (ma M6 8))), (a6 9, .inl (cI, 2, .inl (ma M6 9))), (a0 8, .inr (0, [.ref (a7 0), .ref (a7 1), .ref (a7 2), .ref (a7 3), .int (mg M7 4), va_rf o7, .int (mg M7 6), .int (mg M7 7), .int (mg M7 8), .int (mg M7 9), .int (mg M7 10)])), (a7 0, .inl (cJ, 15, .inr (.inl (ml M7 0)))), (a7 1, .inl (cJ, 800, .inr (.inl (ml M7 1)))), (a7 2, .inl (cI, 4, .inl (ma M7 2))), (a7 3, .inl (cJ, 4, .inr (.inl (ml M7 3)))), (a0 9, .inr (5, [.ref (a8 0), .ref (a8 1), va_rf o8, .int (mg M8 3)])), (a8 0, .inl (cI, 2048, .inl (ma M8 0))), (a8 1, .inl (cI, 2048, .inl (ma M8 1))), (a0 10, .inr (3, [.int (mg M9 0), .int (mg M9 1), .int (mg M9 2), .int (mg M9 3), .int (mg M9 4)]))]) (w1 := (qrW cB cI cJ cZ (a1 1) a3 N3)) hP hD [9, 10, 11, 12] [0, 1, 2, 3, 4, 5, 6, 7, 8, 13, 14, 15, 16, 17, 18, 19, 20, 21, 22, 23, 24, 25, 26, 27, 28, 29, 30, 31, 32, 33] rfl rfl (by decide) (by decide) hk1 hFc hP1 hD1
      have hP := hP.sub (ws' := (lwW cB cI cJ cZ h0 a0 a1 a2 a3 a4 a5 a6 a7 o7 a8 o8 a9 M0 M1 M2 N3 M4 M5 M6 M7 M8 M9)) [0, 1, 2, 3, 4, 5, 6, 7, 8, 30, 31, 32, 33, 9, 10, 11, 12, 13, 14, 15, 16, 17, 18, 19, 20, 21, 22, 23, 24, 25, 26, 27, 28, 29] rfl
      have hD := hD.sub (ws' := (lwW cB cI cJ cZ h0 a0 a1 a2 a3 a4 a5 a6 a7 o7 a8 o8 a9 M0 M1 M2 N3 M4 M5 M6 M7 M8 M9)) [0, 1, 2, 3, 4, 5, 6, 7, 8, 30, 31, 32, 33, 9, 10, 11, 12, 13, 14, 15, 16, 17, 18, 19, 20, 21, 22, 23, 24, 25, 26, 27, 28, 29] (by decide) rfl
      generalize H1 = H at hP hS ⊢
      have h := hw
      try dsimp only at h
      refine lv_aload_n hx hb dX11_still_26 rfl (lv_at hl 0 rfl) ?_
      refine va_get (D := (dC, dI)) (ci := 11) (v := .ref (a0 4)) (C := RX11) (T := TX11) (N := 12) hx hb hts hinX11 hown hK hP 0 rfl rfl 4 (by decide) f1 (fun _ h9 => h9) rfl dX11_still_27 ?_
      have hPc := hP.sub (ws' := (stW cB cI cJ cZ (a0 4) a1 a2 a3 a4 M1 M2 N3 M4)) [3, 4, 5, 6, 7, 8, 9, 10, 11, 12, 13, 14, 15, 16] rfl
      have hDc := hD.sub (ws' := (stW cB cI cJ cZ (a0 4) a1 a2 a3 a4 M1 M2 N3 M4)) [3, 4, 5, 6, 7, 8, 9, 10, 11, 12, 13, 14, 15, 16] (by decide) rfl
      have hFc := va_free (wc := (stW cB cI cJ cZ (a0 4) a1 a2 a3 a4 M1 M2 N3 M4)) hD hS hA [3, 4, 5, 6, 7, 8, 9, 10, 11, 12, 13, 14, 15, 16] rfl
      refine va_callv (va_runV (As := []) (rest := []) ⟨hx, hb, hml, hown, hts⟩ (kX10_noteWinner l dC dI cB cI cJ cZ (a0 4) a1 a2 a3 a4 H.size  M1 M2 N3 M4 _ h) (cwV 0 hts gX11_still_X10_noteWinner rfl rfl rfl (by decide +kernel) ⟨Nat.le_of_ble_eq_true rfl, Nat.le_of_ble_eq_true rfl⟩) (stpV hK hPc hDc) rfl rfl hl.1 rfl (lv_room (Nat.le_of_ble_eq_true rfl)) dX11_still_30 ⟨Nat.le_of_ble_eq_true rfl, Nat.le_of_ble_eq_true rfl⟩) hS (fun q _ z => hFc q z) hFc (fun u t H1 locs ht hvm hw hB hz1 hk1 hS => ?_)
      obtain ⟨N5, N6, N7, N8⟩ := u
      obtain ⟨hP1, hK1, hD1⟩ := hB
      rw [ht] at hP1
      obtain ⟨hP, hD⟩ := va_join (wr := [(h0, .inr (11, [.ref (a0 0), .int (mg M0 1), .ref (a0 2), .int (mg M0 3), .ref (a0 4), .ref (a0 5), .ref (a0 6), .ref (a0 7), .ref (a0 8), .ref (a0 9), .ref (a0 10), .ref (a0 11)])), (a0 0, .inl (cI, 400, .inl (ma M0 0))), (a0 11, .inl (cJ, 4, .inr (.inl (ml M0 11)))), (a0 6, .inr (1, [.int (mg M5 0), .ref (a5 1), .int (mg M5 2), .ref (a5 3), .int (mg M5 4), .ref (a5 5)])), (a5 1, .inl (cI, 4, .inl (ma M5 1))), (a5 3, .inl (cI, 4, .inl (ma M5 3))), (a5 5, .inl (cI, 2, .inl (ma M5 5))), (a0 7, .inr (6, [.int (mg M6 0), .int (mg M6 1), .int (mg M6 2), .int (mg M6 3), .int (mg M6 4), .int (mg M6 5), .int (mg M6 6), .ref (a6 7), .ref (a6 8), .ref (a6 9)])), (a6 7, .inl (cI, 2, .inl (ma M6 7))), (a6 8, .inl (cI, 2, .inl (ma M6 8))), (a6 9, .inl (cI, 2, .inl (ma M6 9))), (a0 8, .inr (0, [.ref (a7 0), .ref (a7 1), .ref (a7 2), .ref (a7 3), .int (mg M7 4), va_rf o7, .int (mg M7 6), .int (mg M7 7), .int (mg M7 8), .int (mg M7 9), .int (mg M7 10)])), (a7 0, .inl (cJ, 15, .inr (.inl (ml M7 0)))), (a7 1, .inl (cJ, 800, .inr (.inl (ml M7 1)))), (a7 2, .inl (cI, 4, .inl (ma M7 2))), (a7 3, .inl (cJ, 4, .inr (.inl (ml M7 3)))), (a0 9, .inr (5, [.ref (a8 0), .ref (a8 1), va_rf o8, .int (mg M8 3)])), (a8 0, .inl (cI, 2048, .inl (ma M8 0))), (a8 1, .inl (cI, 2048, .inl (ma M8 1))), (a0 10, .inr (3, [.int (mg M9 0), .int (mg M9 1), .int (mg M9 2), .int (mg M9 3), .int (mg M9 4)]))]) (w1 := (stW cB cI cJ cZ (a0 4) a1 a2 a3 a4 N5 N6 N7 N8)) hP hD [3, 4, 5, 6, 7, 8, 9, 10, 11, 12, 13, 14, 15, 16] [0, 1, 2, 17, 18, 19, 20, 21, 22, 23, 24, 25, 26, 27, 28, 29, 30, 31, 32, 33] rfl rfl (by decide) (by decide) hk1 hFc hP1 hD1
      have hP := hP.sub (ws' := (lwW cB cI cJ cZ h0 a0 a1 a2 a3 a4 a5 a6 a7 o7 a8 o8 a9 M0 N5 N6 N7 N8 M5 M6 M7 M8 M9)) [0, 1, 2, 20, 21, 22, 23, 24, 25, 26, 27, 28, 29, 30, 31, 32, 33, 3, 4, 5, 6, 7, 8, 9, 10, 11, 12, 13, 14, 15, 16, 17, 18, 19] rfl
      have hD := hD.sub (ws' := (lwW cB cI cJ cZ h0 a0 a1 a2 a3 a4 a5 a6 a7 o7 a8 o8 a9 M0 N5 N6 N7 N8 M5 M6 M7 M8 M9)) [0, 1, 2, 20, 21, 22, 23, 24, 25, 26, 27, 28, 29, 30, 31, 32, 33, 3, 4, 5, 6, 7, 8, 9, 10, 11, 12, 13, 14, 15, 16, 17, 18, 19] (by decide) rfl
      generalize H1 = H at hP hS ⊢
      have h := hw
      try dsimp only at h
      refine lv_aload_n hx hb dX11_still_33 rfl (lv_at hl 0 rfl) ?_
      refine va_get (D := (dC, dI)) (ci := 11) (v := .ref (a0 4)) (C := RX11) (T := TX11) (N := 12) hx hb hts hinX11 hown hK hP 0 rfl rfl 4 (by decide) f1 (fun _ h9 => h9) rfl dX11_still_34 ?_
      refine va_get (D := (dC, dI)) (ci := 10) (v := .ref (a1 1)) (C := RX10) (T := TX10) (N := 5) hx hb hts hinX10 hown hK hP 3 rfl rfl 1 (by decide) f2 (fun _ h9 => h9) rfl dX11_still_37 ?_
      refine va_get (D := (dC, dI)) (ci := 6) (v := .int (mg N7 6)) (C := RX6) (T := TX6) (N := 10) hx hb hts hinX6 hown hK hP 9 rfl rfl 6 (by decide) f4 (fun _ h9 => h9) rfl dX11_still_40 ?_
      exact W.iret (v := (mg N7 6)) hx hb hr (fun t ht hW => ⟨⟨_, (M0, N5, N6, N7, N8, M5, M6, M7, M8, M9), rfl, h, o7, o8, by rw [ht]; exact hP, va_K.moved hW.alike hK, hD⟩, hS.F ht⟩) hS.2.2 dX11_still_43
    · have h := h.1 c1
      refine lv_bipush (v := (-2)) hx hb dX11_still_13 (by decide) ?_
      exact W.iret (v := (-2 : Int32)) hx hb hr (fun t ht hW => ⟨⟨_, (M0, M1, M2, M3, M4, M5, M6, M7, M8, M9), rfl, h, o7, o8, by rw [ht]; exact hP, va_K.moved hW.alike hK, hD⟩, hS.F ht⟩) hS.2.2 dX11_still_15
  have hl := lv_entry ([.ref h0]) (n := 1) (Nat.le_of_ble_eq_true rfl)
  rw [lg_entry_eq]
  generalize (lg_sl ([.ref h0]) ++ List.replicate (1 - (lg_sl ([.ref h0])).length) Slot.unset).toArray = ls at hl ⊢
  have hl : lv_has ls 1 [(0, .ref h0)] := hl
  exact bE M0 M1 M2 M3 M4 M5 M6 M7 M8 M9 s.heap [] ls hP hD hS hl h
def wX11_side (p1 : Int32) (p2 : Int32) (M0 : gS) (M1 : gS) (M2 : gS) (M3 : gS) (M4 : gS) (M5 : gS) (M6 : gS) (M7 : gS) (M8 : gS) (M9 : gS) (Q : Int32 → gS → gS → gS → gS → gS → gS → gS → gS → gS → gS → Prop) : Prop :=
 (wX11_isSide p1  (fun (b2 : Bool)  => (((bI b2) = 0 → (Q (-1 : Int32) M0 M1 M2 M3 M4 M5 M6 M7 M8 M9))
 ∧ (¬ (bI b2) = 0 → (wX11_hasCorner  M0 M1 M2 M3 M4 M5 M6 M7 M8 M9 (fun (b17 : Bool) (N5 : gS) (N6 : gS) (N7 : gS) (N8 : gS) (N9 : gS) (N10 : gS) (N11 : gS) (N12 : gS) (N13 : gS) (N14 : gS) => (((bI b17) = 0 → (Q (-1 : Int32) N5 N6 N7 N8 N9 N10 N11 N12 N13 N14))
 ∧ (¬ (bI b17) = 0 → ((p2 = (0 : Int32) → (vp_in p1 2 ∧ (Q (ma N8 7 (Int32.toNatClampNeg p1)) N5 N6 N7 N8 N9 N10 N11 N12 N13 N14)))
 ∧ (¬ p2 = (0 : Int32) → ((p2 = (1 : Int32) → (vp_in p1 2 ∧ (Q (ma N8 8 (Int32.toNatClampNeg p1)) N5 N6 N7 N8 N9 N10 N11 N12 N13 N14)))
 ∧ (¬ p2 = (1 : Int32) → ((p2 = (2 : Int32) → (vp_in p1 2 ∧ (Q (ma N8 9 (Int32.toNatClampNeg p1)) N5 N6 N7 N8 N9 N10 N11 N12 N13 N14)))
 ∧ (¬ p2 = (2 : Int32) → ((p2 = (3 : Int32) → (vp_in p1 2 ∧ (Q (ma N6 3 (Int32.toNatClampNeg p1)) N5 N6 N7 N8 N9 N10 N11 N12 N13 N14)))
 ∧ (¬ p2 = (3 : Int32) → (Q (-1 : Int32) N5 N6 N7 N8 N9 N10 N11 N12 N13 N14)))))))))))))))))
def rmX11_side : Room := { frames := 1, cells := 0, slots := 0, locals := 20 }
set_option maxHeartbeats 4000000 in
set_option maxRecDepth 100000 in
theorem kX11_side (l : Launch) (dC : Nat → ClassId) (dI : Nat → Nat → Nat) (cB cI cJ cZ : ClassId) (h0 : Nat) (a0 : Nat → Nat) (a1 : Nat → Nat) (a2 : Nat → Nat) (a3 : Nat → Nat) (a4 : Nat → Nat) (a5 : Nat → Nat) (a6 : Nat → Nat) (a7 : Nat → Nat) (o7 : Option Nat) (a8 : Nat → Nat) (o8 : Option Nat) (a9 : Nat → Nat) (sz : Nat) (p1 : Int32) (p2 : Int32) (M0 : gS) (M1 : gS) (M2 : gS) (M3 : gS) (M4 : gS) (M5 : gS) (M6 : gS) (M7 : gS) (M8 : gS) (M9 : gS) (Q : Int32 → gS → gS → gS → gS → gS → gS → gS → gS → gS → gS → Prop) (h : wX11_side p1 p2 M0 M1 M2 M3 M4 M5 M6 M7 M8 M9 Q) : Met l yX11_side wsX11_side rmX11_side (va_Pc [.ref h0, .int p1, .int p2] (lwI dC dI cB cI cJ cZ h0 a0 a1 a2 a3 a4 a5 a6 a7 o7 a8 o8 a9 M0 M1 M2 M3 M4 M5 M6 M7 M8 M9 sz)) (va_Qi (fun (r : Int32) (u : gS × gS × gS × gS × gS × gS × gS × gS × gS × gS) => Q r u.1 u.2.1 u.2.2.1 u.2.2.2.1 u.2.2.2.2.1 u.2.2.2.2.2.1 u.2.2.2.2.2.2.1 u.2.2.2.2.2.2.2.1 u.2.2.2.2.2.2.2.2.1 u.2.2.2.2.2.2.2.2.2) (lwB dC dI cB cI cJ cZ h0 a0 a1 a2 a3 a4 a5 a6 a7 a8 a9 (va_A (lwW cB cI cJ cZ h0 a0 a1 a2 a3 a4 a5 a6 a7 o7 a8 o8 a9 M0 M1 M2 M3 M4 M5 M6 M7 M8 M9) sz)) (va_A (lwW cB cI cJ cZ h0 a0 a1 a2 a3 a4 a5 a6 a7 o7 a8 o8 a9 M0 M1 M2 M3 M4 M5 M6 M7 M8 M9) sz)) 0 0 (va_A (lwW cB cI cJ cZ h0 a0 a1 a2 a3 a4 a5 a6 a7 o7 a8 o8 a9 M0 M1 M2 M3 M4 M5 M6 M7 M8 M9) sz) := by
  refine Met.ofW (cc := cX11_side) (maxL := 3) (ret := (some .int)) (by decide) rfl ?_
  intro p e s m args below meth c s₁ B hml hv
  obtain ⟨rfl, hsz, hP, hK, hD0⟩ := hv
  have hx := B.exec
  have hb := B.bytes
  have hr := B.returns
  have hts := atoms_spec (ws := wsX11_side) B.pre
  have hown : s.vm.findClass RX11 = some m.cls := findClass_of_methodNamed B.named
  have hlocks := B.notSynchronized
  subst hsz
  have hD := hD0.self (sz := s.heap.size)
  generalize hAe : va_A (lwW cB cI cJ cZ h0 a0 a1 a2 a3 a4 a5 a6 a7 o7 a8 o8 a9 M0 M1 M2 M3 M4 M5 M6 M7 M8 M9) s.heap.size = A at hD ⊢
  have hA : ∀ q : Nat, s.heap.size ≤ q → A q := fun q h => by rw [← hAe]; exact Or.inr h
  have hS : va_S A s.heap s.heap [] := va_S.rf
  have hinX10 : ∀ w ∈ wsX100, w ∈ wsX11_side := by decide +kernel
  have hinX11 : ∀ w ∈ wsX110, w ∈ wsX11_side := by decide +kernel
  have hinX6 : ∀ w ∈ wsX60, w ∈ wsX11_side := by decide +kernel
  have f1 := hts (.fieldLink RX11 22 "LastWords" "now" "LLastWords$State;") (by decide +kernel)
  have f2 := hts (.fieldLink RX11 118 "LastWords$State" "quarrel" "LLastWords$Quarrel;") (by decide +kernel)
  have f3 := hts (.fieldLink RX11 183 "LastWords$Quarrel" "purse" "[I") (by decide +kernel)
  have f4 := hts (.fieldLink RX11 186 "LastWords$Quarrel" "last" "[I") (by decide +kernel)
  have f5 := hts (.fieldLink RX11 189 "LastWords$Quarrel" "said" "[I") (by decide +kernel)
  have f6 := hts (.fieldLink RX11 192 "LastWords$State" "won" "[I") (by decide +kernel)
  have bE : ∀ (M0 : gS) (M1 : gS) (M2 : gS) (M3 : gS) (M4 : gS) (M5 : gS) (M6 : gS) (M7 : gS) (M8 : gS) (M9 : gS) (H : Heap) (locs : List Loc) (ls : Array Slot), va_P (dC, dI) vwCl (lwW cB cI cJ cZ h0 a0 a1 a2 a3 a4 a5 a6 a7 o7 a8 o8 a9 M0 M1 M2 M3 M4 M5 M6 M7 M8 M9) H → va_D A (lwW cB cI cJ cZ h0 a0 a1 a2 a3 a4 a5 a6 a7 o7 a8 o8 a9 M0 M1 M2 M3 M4 M5 M6 M7 M8 M9) → va_S A s.heap H locs → lv_has ls 3 [(0, .ref h0), (1, .int p1), (2, .int p2)] → wX11_side p1 p2 M0 M1 M2 M3 M4 M5 M6 M7 M8 M9 Q → W p l e (headSpec wsX11_side rmX11_side).room s m ([.ref h0, .int p1, .int p2] : List Value).toArray below meth c H locs 0 0 (MQ below (va_Qi (fun (r : Int32) (u : gS × gS × gS × gS × gS × gS × gS × gS × gS × gS) => Q r u.1 u.2.1 u.2.2.1 u.2.2.2.1 u.2.2.2.2.1 u.2.2.2.2.2.1 u.2.2.2.2.2.2.1 u.2.2.2.2.2.2.2.1 u.2.2.2.2.2.2.2.2.1 u.2.2.2.2.2.2.2.2.2) (lwB dC dI cB cI cJ cZ h0 a0 a1 a2 a3 a4 a5 a6 a7 a8 a9 A) A) ([.ref h0, .int p1, .int p2] : List Value).toArray s 0 0 A) (F0 m 0 ls []) := by
    intro M0 M1 M2 M3 M4 M5 M6 M7 M8 M9 H locs ls hP hD hS hl h
    unfold wX11_side at h
    refine lv_iload_n hx hb dX11_side_0 rfl (lv_at hl 1 rfl) ?_
    have hPc := hP.sub (ws' := (e0W cB cI cJ cZ  )) [] rfl
    have hDc := hD.sub (ws' := (e0W cB cI cJ cZ  )) [] (by decide) rfl
    have hFc := va_free (wc := (e0W cB cI cJ cZ  )) hD hS hA [] rfl
    refine va_calli (va_runS (As := [.int p1]) (rest := []) ⟨hx, hb, hml, hown, hts⟩ (kX11_isSide l dC dI cB cI cJ cZ  H.size p1  _ h) (cwS 1 hts gX11_side_X11_isSide rfl rfl rfl (by decide +kernel) ⟨Nat.le_of_ble_eq_true rfl, Nat.le_of_ble_eq_true rfl⟩) (e0pS hK hPc hDc) rfl rfl hl.1 rfl (lv_room (Nat.le_of_ble_eq_true rfl)) dX11_side_1 ⟨Nat.le_of_ble_eq_true rfl, Nat.le_of_ble_eq_true rfl⟩) hS (fun q _ z => hFc q z) hFc (fun r1 u t H1 locs ht hvm hw hB hz1 hk1 hS => ?_)
    obtain ⟨hP1, hK1, hD1⟩ := hB
    rw [ht] at hP1
    obtain ⟨hP, hD⟩ := va_join (wr := [(h0, .inr (11, [.ref (a0 0), .int (mg M0 1), .ref (a0 2), .int (mg M0 3), .ref (a0 4), .ref (a0 5), .ref (a0 6), .ref (a0 7), .ref (a0 8), .ref (a0 9), .ref (a0 10), .ref (a0 11)])), (a0 0, .inl (cI, 400, .inl (ma M0 0))), (a0 11, .inl (cJ, 4, .inr (.inl (ml M0 11)))), (a0 4, .inr (10, [.ref (a1 0), .ref (a1 1), .ref (a1 2), .ref (a1 3), .int (mg M1 4)])), (a1 3, .inl (cI, 2, .inl (ma M1 3))), (a1 0, .inr (1, [.int (mg M2 0), .ref (a2 1), .int (mg M2 2), .ref (a2 3), .int (mg M2 4), .ref (a2 5)])), (a2 1, .inl (cI, 4, .inl (ma M2 1))), (a2 3, .inl (cI, 4, .inl (ma M2 3))), (a2 5, .inl (cI, 2, .inl (ma M2 5))), (a1 1, .inr (6, [.int (mg M3 0), .int (mg M3 1), .int (mg M3 2), .int (mg M3 3), .int (mg M3 4), .int (mg M3 5), .int (mg M3 6), .ref (a3 7), .ref (a3 8), .ref (a3 9)])), (a3 7, .inl (cI, 2, .inl (ma M3 7))), (a3 8, .inl (cI, 2, .inl (ma M3 8))), (a3 9, .inl (cI, 2, .inl (ma M3 9))), (a1 2, .inr (4, [.int (mg M4 0), .ref (a4 1), .ref (a4 2), .ref (a4 3)])), (a4 1, .inl (cI, 6, .inl (ma M4 1))), (a4 2, .inl (cI, 6, .inl (ma M4 2))), (a4 3, .inl (cI, 6, .inl (ma M4 3))), (a0 6, .inr (1, [.int (mg M5 0), .ref (a5 1), .int (mg M5 2), .ref (a5 3), .int (mg M5 4), .ref (a5 5)])), (a5 1, .inl (cI, 4, .inl (ma M5 1))), (a5 3, .inl (cI, 4, .inl (ma M5 3))), (a5 5, .inl (cI, 2, .inl (ma M5 5))), (a0 7, .inr (6, [.int (mg M6 0), .int (mg M6 1), .int (mg M6 2), .int (mg M6 3), .int (mg M6 4), .int (mg M6 5), .int (mg M6 6), .ref (a6 7), .ref (a6 8), .ref (a6 9)])), (a6 7, .inl (cI, 2, .inl (ma M6 7))), (a6 8, .inl (cI, 2, .inl (ma M6 8))), (a6 9, .inl (cI, 2, .inl (ma M6 9))), (a0 8, .inr (0, [.ref (a7 0), .ref (a7 1), .ref (a7 2), .ref (a7 3), .int (mg M7 4), va_rf o7, .int (mg M7 6), .int (mg M7 7), .int (mg M7 8), .int (mg M7 9), .int (mg M7 10)])), (a7 0, .inl (cJ, 15, .inr (.inl (ml M7 0)))), (a7 1, .inl (cJ, 800, .inr (.inl (ml M7 1)))), (a7 2, .inl (cI, 4, .inl (ma M7 2))), (a7 3, .inl (cJ, 4, .inr (.inl (ml M7 3)))), (a0 9, .inr (5, [.ref (a8 0), .ref (a8 1), va_rf o8, .int (mg M8 3)])), (a8 0, .inl (cI, 2048, .inl (ma M8 0))), (a8 1, .inl (cI, 2048, .inl (ma M8 1))), (a0 10, .inr (3, [.int (mg M9 0), .int (mg M9 1), .int (mg M9 2), .int (mg M9 3), .int (mg M9 4)]))]) (w1 := (e0W cB cI cJ cZ  )) hP hD [] [0, 1, 2, 3, 4, 5, 6, 7, 8, 9, 10, 11, 12, 13, 14, 15, 16, 17, 18, 19, 20, 21, 22, 23, 24, 25, 26, 27, 28, 29, 30, 31, 32, 33] rfl rfl (by decide) (by decide) hk1 hFc hP1 hD1
    have hP := hP.sub (ws' := (lwW cB cI cJ cZ h0 a0 a1 a2 a3 a4 a5 a6 a7 o7 a8 o8 a9 M0 M1 M2 M3 M4 M5 M6 M7 M8 M9)) [0, 1, 2, 3, 4, 5, 6, 7, 8, 9, 10, 11, 12, 13, 14, 15, 16, 17, 18, 19, 20, 21, 22, 23, 24, 25, 26, 27, 28, 29, 30, 31, 32, 33] rfl
    have hD := hD.sub (ws' := (lwW cB cI cJ cZ h0 a0 a1 a2 a3 a4 a5 a6 a7 o7 a8 o8 a9 M0 M1 M2 M3 M4 M5 M6 M7 M8 M9)) [0, 1, 2, 3, 4, 5, 6, 7, 8, 9, 10, 11, 12, 13, 14, 15, 16, 17, 18, 19, 20, 21, 22, 23, 24, 25, 26, 27, 28, 29, 30, 31, 32, 33] (by decide) rfl
    generalize H1 = H at hP hS ⊢
    obtain ⟨b2, rfl, h⟩ := hw
    try dsimp only at h
    refine lv_if_eq (tgt := 14) hx hb dX11_side_4 (by decide) (fun c3 => ?_) (fun c3 => ?_)
    · have h := h.1 c3
      refine lv_iconst (v := (-1)) hx hb dX11_side_14 (by decide) ?_
      exact W.iret (v := (-1 : Int32)) hx hb hr (fun t ht hW => ⟨⟨_, (M0, M1, M2, M3, M4, M5, M6, M7, M8, M9), rfl, h, o7, o8, by rw [ht]; exact hP, va_K.moved hW.alike hK, hD⟩, hS.F ht⟩) hS.2.2 dX11_side_15
    · have h := h.2 c3
      refine lv_aload_n hx hb dX11_side_7 rfl (lv_at hl 0 rfl) ?_
      have hFc := gs_free hD hS hA
      refine va_calli (va_runV (As := []) (rest := []) ⟨hx, hb, hml, hown, hts⟩ (kX11_hasCorner l dC dI cB cI cJ cZ h0 a0 a1 a2 a3 a4 a5 a6 a7 o7 a8 o8 a9 H.size  M0 M1 M2 M3 M4 M5 M6 M7 M8 M9 _ h) (cwV 0 hts gX11_side_X11_hasCorner rfl rfl rfl (by decide +kernel) ⟨Nat.le_of_ble_eq_true rfl, Nat.le_of_ble_eq_true rfl⟩) (lwpV hK hP hD) rfl rfl hl.1 rfl (lv_room (Nat.le_of_ble_eq_true rfl)) dX11_side_8 ⟨Nat.le_of_ble_eq_true rfl, Nat.le_of_ble_eq_true rfl⟩) hS (fun q _ z => hFc q z) hFc (fun r4 u t H1 locs ht hvm hw hB hz1 hk1 hS => ?_)
      obtain ⟨N5, N6, N7, N8, N9, N10, N11, N12, N13, N14⟩ := u
      obtain ⟨v15, v16, hP, hK1, hD1⟩ := hB
      rw [ht] at hP
      have hD := hD1.weaken (fun _ _ _ z => hFc _ z)
      generalize H1 = H at hP hS ⊢
      obtain ⟨b17, rfl, h⟩ := hw
      try dsimp only at h
      refine lv_if_ne (tgt := 16) hx hb dX11_side_11 (by decide) (fun c18 => ?_) (fun c18 => ?_)
      · have h := h.2 c18
        refine lv_iload_n hx hb dX11_side_16 rfl (lv_at hl 2 rfl) ?_
        by_cases c19 : p2 = (0 : Int32)
        · have h := h.1 c19
          refine lv_tableIn (tgt := 48) hx hb dX11_side_17 (by rw [c19]; decide) (by rw [c19]; decide) (by rw [c19]; rfl) (by decide) ?_
          refine lv_aload_n hx hb dX11_side_48 rfl (lv_at hl 0 rfl) ?_
          refine va_get (D := (dC, dI)) (ci := 11) (v := .ref (a0 4)) (C := RX11) (T := TX11) (N := 12) hx hb hts hinX11 hown hK hP 0 rfl rfl 4 (by decide) f1 (fun _ h9 => h9) rfl dX11_side_49 ?_
          refine va_get (D := (dC, dI)) (ci := 10) (v := .ref (a1 1)) (C := RX10) (T := TX10) (N := 5) hx hb hts hinX10 hown hK hP 3 rfl rfl 1 (by decide) f2 (fun _ h9 => h9) rfl dX11_side_52 ?_
          refine va_get (D := (dC, dI)) (ci := 6) (v := .ref (a3 7)) (C := RX6) (T := TX6) (N := 10) hx hb hts hinX6 hown hK hP 9 rfl rfl 7 (by decide) f3 (fun _ h9 => h9) rfl dX11_side_55 ?_
          refine lv_iload_n hx hb dX11_side_58 rfl (lv_at hl 1 rfl) ?_
          refine va_iald hx hb hK hP 10 1 (f := ma N8 7) rfl rfl h.1 dX11_side_59 ?_
          have h := h.2
          exact W.iret (v := (ma N8 7 (Int32.toNatClampNeg p1))) hx hb hr (fun t ht hW => ⟨⟨_, (N5, N6, N7, N8, N9, N10, N11, N12, N13, N14), rfl, h, v15, v16, by rw [ht]; exact hP, va_K.moved hW.alike hK, hD⟩, hS.F ht⟩) hS.2.2 dX11_side_60
        have h := h.2 c19
        by_cases c20 : p2 = (1 : Int32)
        · have h := h.1 c20
          refine lv_tableIn (tgt := 61) hx hb dX11_side_17 (by rw [c20]; decide) (by rw [c20]; decide) (by rw [c20]; rfl) (by decide) ?_
          refine lv_aload_n hx hb dX11_side_61 rfl (lv_at hl 0 rfl) ?_
          refine va_get (D := (dC, dI)) (ci := 11) (v := .ref (a0 4)) (C := RX11) (T := TX11) (N := 12) hx hb hts hinX11 hown hK hP 0 rfl rfl 4 (by decide) f1 (fun _ h9 => h9) rfl dX11_side_62 ?_
          refine va_get (D := (dC, dI)) (ci := 10) (v := .ref (a1 1)) (C := RX10) (T := TX10) (N := 5) hx hb hts hinX10 hown hK hP 3 rfl rfl 1 (by decide) f2 (fun _ h9 => h9) rfl dX11_side_65 ?_
          refine va_get (D := (dC, dI)) (ci := 6) (v := .ref (a3 8)) (C := RX6) (T := TX6) (N := 10) hx hb hts hinX6 hown hK hP 9 rfl rfl 8 (by decide) f4 (fun _ h9 => h9) rfl dX11_side_68 ?_
          refine lv_iload_n hx hb dX11_side_71 rfl (lv_at hl 1 rfl) ?_
          refine va_iald hx hb hK hP 11 1 (f := ma N8 8) rfl rfl h.1 dX11_side_72 ?_
          have h := h.2
          exact W.iret (v := (ma N8 8 (Int32.toNatClampNeg p1))) hx hb hr (fun t ht hW => ⟨⟨_, (N5, N6, N7, N8, N9, N10, N11, N12, N13, N14), rfl, h, v15, v16, by rw [ht]; exact hP, va_K.moved hW.alike hK, hD⟩, hS.F ht⟩) hS.2.2 dX11_side_73
        have h := h.2 c20
        by_cases c21 : p2 = (2 : Int32)
        · have h := h.1 c21
          refine lv_tableIn (tgt := 74) hx hb dX11_side_17 (by rw [c21]; decide) (by rw [c21]; decide) (by rw [c21]; rfl) (by decide) ?_
          refine lv_aload_n hx hb dX11_side_74 rfl (lv_at hl 0 rfl) ?_
          refine va_get (D := (dC, dI)) (ci := 11) (v := .ref (a0 4)) (C := RX11) (T := TX11) (N := 12) hx hb hts hinX11 hown hK hP 0 rfl rfl 4 (by decide) f1 (fun _ h9 => h9) rfl dX11_side_75 ?_
          refine va_get (D := (dC, dI)) (ci := 10) (v := .ref (a1 1)) (C := RX10) (T := TX10) (N := 5) hx hb hts hinX10 hown hK hP 3 rfl rfl 1 (by decide) f2 (fun _ h9 => h9) rfl dX11_side_78 ?_
          refine va_get (D := (dC, dI)) (ci := 6) (v := .ref (a3 9)) (C := RX6) (T := TX6) (N := 10) hx hb hts hinX6 hown hK hP 9 rfl rfl 9 (by decide) f5 (fun _ h9 => h9) rfl dX11_side_81 ?_
          refine lv_iload_n hx hb dX11_side_84 rfl (lv_at hl 1 rfl) ?_
          refine va_iald hx hb hK hP 12 1 (f := ma N8 9) rfl rfl h.1 dX11_side_85 ?_
          have h := h.2
          exact W.iret (v := (ma N8 9 (Int32.toNatClampNeg p1))) hx hb hr (fun t ht hW => ⟨⟨_, (N5, N6, N7, N8, N9, N10, N11, N12, N13, N14), rfl, h, v15, v16, by rw [ht]; exact hP, va_K.moved hW.alike hK, hD⟩, hS.F ht⟩) hS.2.2 dX11_side_86
        have h := h.2 c21
        by_cases c22 : p2 = (3 : Int32)
        · have h := h.1 c22
          refine lv_tableIn (tgt := 87) hx hb dX11_side_17 (by rw [c22]; decide) (by rw [c22]; decide) (by rw [c22]; rfl) (by decide) ?_
          refine lv_aload_n hx hb dX11_side_87 rfl (lv_at hl 0 rfl) ?_
          refine va_get (D := (dC, dI)) (ci := 11) (v := .ref (a0 4)) (C := RX11) (T := TX11) (N := 12) hx hb hts hinX11 hown hK hP 0 rfl rfl 4 (by decide) f1 (fun _ h9 => h9) rfl dX11_side_88 ?_
          refine va_get (D := (dC, dI)) (ci := 10) (v := .ref (a1 3)) (C := RX10) (T := TX10) (N := 5) hx hb hts hinX10 hown hK hP 3 rfl rfl 3 (by decide) f6 (fun _ h9 => h9) rfl dX11_side_91 ?_
          refine lv_iload_n hx hb dX11_side_94 rfl (lv_at hl 1 rfl) ?_
          refine va_iald hx hb hK hP 4 1 (f := ma N6 3) rfl rfl h.1 dX11_side_95 ?_
          have h := h.2
          exact W.iret (v := (ma N6 3 (Int32.toNatClampNeg p1))) hx hb hr (fun t ht hW => ⟨⟨_, (N5, N6, N7, N8, N9, N10, N11, N12, N13, N14), rfl, h, v15, v16, by rw [ht]; exact hP, va_K.moved hW.alike hK, hD⟩, hS.F ht⟩) hS.2.2 dX11_side_96
        have h := h.2 c22
        refine lv_tableOut (tgt := 97) hx hb dX11_side_17 (by have qc19 : p2.toInt ≠ 0 := fun q => c19 (Int32.toInt_inj.mp (q.trans (by decide))); have qc20 : p2.toInt ≠ 1 := fun q => c20 (Int32.toInt_inj.mp (q.trans (by decide))); have qc21 : p2.toInt ≠ 2 := fun q => c21 (Int32.toInt_inj.mp (q.trans (by decide))); have qc22 : p2.toInt ≠ 3 := fun q => c22 (Int32.toInt_inj.mp (q.trans (by decide))); omega) (by decide) ?_
        refine lv_iconst (v := (-1)) hx hb dX11_side_97 (by decide) ?_
        exact W.iret (v := (-1 : Int32)) hx hb hr (fun t ht hW => ⟨⟨_, (N5, N6, N7, N8, N9, N10, N11, N12, N13, N14), rfl, h, v15, v16, by rw [ht]; exact hP, va_K.moved hW.alike hK, hD⟩, hS.F ht⟩) hS.2.2 dX11_side_98
      · have h := h.1 c18
        refine lv_iconst (v := (-1)) hx hb dX11_side_14 (by decide) ?_
        exact W.iret (v := (-1 : Int32)) hx hb hr (fun t ht hW => ⟨⟨_, (N5, N6, N7, N8, N9, N10, N11, N12, N13, N14), rfl, h, v15, v16, by rw [ht]; exact hP, va_K.moved hW.alike hK, hD⟩, hS.F ht⟩) hS.2.2 dX11_side_15
  have hl := lv_entry ([.ref h0, .int p1, .int p2]) (n := 3) (Nat.le_of_ble_eq_true rfl)
  rw [lg_entry_eq]
  generalize (lg_sl ([.ref h0, .int p1, .int p2]) ++ List.replicate (3 - (lg_sl ([.ref h0, .int p1, .int p2])).length) Slot.unset).toArray = ls at hl ⊢
  have hl : lv_has ls 3 [(0, .ref h0), (1, .int p1), (2, .int p2)] := hl
  exact bE M0 M1 M2 M3 M4 M5 M6 M7 M8 M9 s.heap [] ls hP hD hS hl h
def wX11_fill (p1 : Int32) (p2 : Int32) (M0 : gS) (M1 : gS) (M2 : gS) (M3 : gS) (M4 : gS) (M5 : gS) (M6 : gS) (M7 : gS) (M8 : gS) (M9 : gS) (Q : Int32 → gS → gS → gS → gS → gS → gS → gS → gS → gS → gS → Prop) : Prop :=
 (wX11_isSide p1  (fun (b2 : Bool)  => (((bI b2) = 0 → (Q (-1 : Int32) M0 M1 M2 M3 M4 M5 M6 M7 M8 M9))
 ∧ (¬ (bI b2) = 0 → (wX11_isPurse p2  (fun (b5 : Bool)  => (((bI b5) = 0 → (Q (-1 : Int32) M0 M1 M2 M3 M4 M5 M6 M7 M8 M9))
 ∧ (¬ (bI b5) = 0 → (wX11_hasCorner  M0 M1 M2 M3 M4 M5 M6 M7 M8 M9 (fun (b20 : Bool) (N8 : gS) (N9 : gS) (N10 : gS) (N11 : gS) (N12 : gS) (N13 : gS) (N14 : gS) (N15 : gS) (N16 : gS) (N17 : gS) => (((bI b20) = 0 → (Q (-1 : Int32) N8 N9 N10 N11 N12 N13 N14 N15 N16 N17))
 ∧ (¬ (bI b20) = 0 → (vp_in p1 2 ∧ (∀ x22 : Int32, x22 = (ma N11 7 (Int32.toNatClampNeg p1)) → (vp_in p1 2 ∧ (∀ N23 : gS, N23 = sa N11 7 (Int32.toNatClampNeg p1) p2 → (((mg N23 0) = 0 → (Q x22 N8 N9 N10 N23 N12 N13 N14 N15 N16 N17))
 ∧ (¬ (mg N23 0) = 0 → (wX6_endIfStuck  N23 N10 (fun (N26 : gS) (N27 : gS) => (wX10_noteWinner  N9 N27 N26 N12 (fun (N29 : gS) (N30 : gS) (N31 : gS) (N32 : gS) => (Q x22 N8 N29 N30 N31 N32 N13 N14 N15 N16 N17)))))))))))))))))))))))
def rmX11_fill : Room := { frames := 3, cells := 0, slots := 0, locals := 66 }
set_option maxHeartbeats 4000000 in
set_option maxRecDepth 100000 in
theorem kX11_fill (l : Launch) (dC : Nat → ClassId) (dI : Nat → Nat → Nat) (cB cI cJ cZ : ClassId) (h0 : Nat) (a0 : Nat → Nat) (a1 : Nat → Nat) (a2 : Nat → Nat) (a3 : Nat → Nat) (a4 : Nat → Nat) (a5 : Nat → Nat) (a6 : Nat → Nat) (a7 : Nat → Nat) (o7 : Option Nat) (a8 : Nat → Nat) (o8 : Option Nat) (a9 : Nat → Nat) (sz : Nat) (p1 : Int32) (p2 : Int32) (M0 : gS) (M1 : gS) (M2 : gS) (M3 : gS) (M4 : gS) (M5 : gS) (M6 : gS) (M7 : gS) (M8 : gS) (M9 : gS) (Q : Int32 → gS → gS → gS → gS → gS → gS → gS → gS → gS → gS → Prop) (h : wX11_fill p1 p2 M0 M1 M2 M3 M4 M5 M6 M7 M8 M9 Q) : Met l yX11_fill wsX11_fill rmX11_fill (va_Pc [.ref h0, .int p1, .int p2] (lwI dC dI cB cI cJ cZ h0 a0 a1 a2 a3 a4 a5 a6 a7 o7 a8 o8 a9 M0 M1 M2 M3 M4 M5 M6 M7 M8 M9 sz)) (va_Qi (fun (r : Int32) (u : gS × gS × gS × gS × gS × gS × gS × gS × gS × gS) => Q r u.1 u.2.1 u.2.2.1 u.2.2.2.1 u.2.2.2.2.1 u.2.2.2.2.2.1 u.2.2.2.2.2.2.1 u.2.2.2.2.2.2.2.1 u.2.2.2.2.2.2.2.2.1 u.2.2.2.2.2.2.2.2.2) (lwB dC dI cB cI cJ cZ h0 a0 a1 a2 a3 a4 a5 a6 a7 a8 a9 (va_A (lwW cB cI cJ cZ h0 a0 a1 a2 a3 a4 a5 a6 a7 o7 a8 o8 a9 M0 M1 M2 M3 M4 M5 M6 M7 M8 M9) sz)) (va_A (lwW cB cI cJ cZ h0 a0 a1 a2 a3 a4 a5 a6 a7 o7 a8 o8 a9 M0 M1 M2 M3 M4 M5 M6 M7 M8 M9) sz)) 0 0 (va_A (lwW cB cI cJ cZ h0 a0 a1 a2 a3 a4 a5 a6 a7 o7 a8 o8 a9 M0 M1 M2 M3 M4 M5 M6 M7 M8 M9) sz) := by
  refine Met.ofW (cc := cX11_fill) (maxL := 4) (ret := (some .int)) (by decide) rfl ?_
  intro p e s m args below meth c s₁ B hml hv
  obtain ⟨rfl, hsz, hP, hK, hD0⟩ := hv
  have hx := B.exec
  have hb := B.bytes
  have hr := B.returns
  have hts := atoms_spec (ws := wsX11_fill) B.pre
  have hown : s.vm.findClass RX11 = some m.cls := findClass_of_methodNamed B.named
  have hlocks := B.notSynchronized
  subst hsz
  have hD := hD0.self (sz := s.heap.size)
  generalize hAe : va_A (lwW cB cI cJ cZ h0 a0 a1 a2 a3 a4 a5 a6 a7 o7 a8 o8 a9 M0 M1 M2 M3 M4 M5 M6 M7 M8 M9) s.heap.size = A at hD ⊢
  have hA : ∀ q : Nat, s.heap.size ≤ q → A q := fun q h => by rw [← hAe]; exact Or.inr h
  have hS : va_S A s.heap s.heap [] := va_S.rf
  have hinX10 : ∀ w ∈ wsX100, w ∈ wsX11_fill := by decide +kernel
  have hinX11 : ∀ w ∈ wsX110, w ∈ wsX11_fill := by decide +kernel
  have hinX6 : ∀ w ∈ wsX60, w ∈ wsX11_fill := by decide +kernel
  have f1 := hts (.fieldLink RX11 22 "LastWords" "now" "LLastWords$State;") (by decide +kernel)
  have f2 := hts (.fieldLink RX11 118 "LastWords$State" "quarrel" "LLastWords$Quarrel;") (by decide +kernel)
  have f3 := hts (.fieldLink RX11 183 "LastWords$Quarrel" "purse" "[I") (by decide +kernel)
  have f4 := hts (.fieldLink RX11 149 "LastWords$Quarrel" "goesOn" "Z") (by decide +kernel)
  have f5 := hts (.fieldLink RX11 108 "LastWords$State" "corner" "LLastWords$Corner;") (by decide +kernel)
  have bE : ∀ (M0 : gS) (M1 : gS) (M2 : gS) (M3 : gS) (M4 : gS) (M5 : gS) (M6 : gS) (M7 : gS) (M8 : gS) (M9 : gS) (H : Heap) (locs : List Loc) (ls : Array Slot), va_P (dC, dI) vwCl (lwW cB cI cJ cZ h0 a0 a1 a2 a3 a4 a5 a6 a7 o7 a8 o8 a9 M0 M1 M2 M3 M4 M5 M6 M7 M8 M9) H → va_D A (lwW cB cI cJ cZ h0 a0 a1 a2 a3 a4 a5 a6 a7 o7 a8 o8 a9 M0 M1 M2 M3 M4 M5 M6 M7 M8 M9) → va_S A s.heap H locs → lv_has ls 4 [(0, .ref h0), (1, .int p1), (2, .int p2)] → wX11_fill p1 p2 M0 M1 M2 M3 M4 M5 M6 M7 M8 M9 Q → W p l e (headSpec wsX11_fill rmX11_fill).room s m ([.ref h0, .int p1, .int p2] : List Value).toArray below meth c H locs 0 0 (MQ below (va_Qi (fun (r : Int32) (u : gS × gS × gS × gS × gS × gS × gS × gS × gS × gS) => Q r u.1 u.2.1 u.2.2.1 u.2.2.2.1 u.2.2.2.2.1 u.2.2.2.2.2.1 u.2.2.2.2.2.2.1 u.2.2.2.2.2.2.2.1 u.2.2.2.2.2.2.2.2.1 u.2.2.2.2.2.2.2.2.2) (lwB dC dI cB cI cJ cZ h0 a0 a1 a2 a3 a4 a5 a6 a7 a8 a9 A) A) ([.ref h0, .int p1, .int p2] : List Value).toArray s 0 0 A) (F0 m 0 ls []) := by
    intro M0 M1 M2 M3 M4 M5 M6 M7 M8 M9 H locs ls hP hD hS hl h
    unfold wX11_fill at h
    refine lv_iload_n hx hb dX11_fill_0 rfl (lv_at hl 1 rfl) ?_
    have hPc := hP.sub (ws' := (e0W cB cI cJ cZ  )) [] rfl
    have hDc := hD.sub (ws' := (e0W cB cI cJ cZ  )) [] (by decide) rfl
    have hFc := va_free (wc := (e0W cB cI cJ cZ  )) hD hS hA [] rfl
    refine va_calli (va_runS (As := [.int p1]) (rest := []) ⟨hx, hb, hml, hown, hts⟩ (kX11_isSide l dC dI cB cI cJ cZ  H.size p1  _ h) (cwS 1 hts gX11_fill_X11_isSide rfl rfl rfl (by decide +kernel) ⟨Nat.le_of_ble_eq_true rfl, Nat.le_of_ble_eq_true rfl⟩) (e0pS hK hPc hDc) rfl rfl hl.1 rfl (lv_room (Nat.le_of_ble_eq_true rfl)) dX11_fill_1 ⟨Nat.le_of_ble_eq_true rfl, Nat.le_of_ble_eq_true rfl⟩) hS (fun q _ z => hFc q z) hFc (fun r1 u t H1 locs ht hvm hw hB hz1 hk1 hS => ?_)
    obtain ⟨hP1, hK1, hD1⟩ := hB
    rw [ht] at hP1
    obtain ⟨hP, hD⟩ := va_join (wr := [(h0, .inr (11, [.ref (a0 0), .int (mg M0 1), .ref (a0 2), .int (mg M0 3), .ref (a0 4), .ref (a0 5), .ref (a0 6), .ref (a0 7), .ref (a0 8), .ref (a0 9), .ref (a0 10), .ref (a0 11)])), (a0 0, .inl (cI, 400, .inl (ma M0 0))), (a0 11, .inl (cJ, 4, .inr (.inl (ml M0 11)))), (a0 4, .inr (10, [.ref (a1 0), .ref (a1 1), .ref (a1 2), .ref (a1 3), .int (mg M1 4)])), (a1 3, .inl (cI, 2, .inl (ma M1 3))), (a1 0, .inr (1, [.int (mg M2 0), .ref (a2 1), .int (mg M2 2), .ref (a2 3), .int (mg M2 4), .ref (a2 5)])), (a2 1, .inl (cI, 4, .inl (ma M2 1))), (a2 3, .inl (cI, 4, .inl (ma M2 3))), (a2 5, .inl (cI, 2, .inl (ma M2 5))), (a1 1, .inr (6, [.int (mg M3 0), .int (mg M3 1), .int (mg M3 2), .int (mg M3 3), .int (mg M3 4), .int (mg M3 5), .int (mg M3 6), .ref (a3 7), .ref (a3 8), .ref (a3 9)])), (a3 7, .inl (cI, 2, .inl (ma M3 7))), (a3 8, .inl (cI, 2, .inl (ma M3 8))), (a3 9, .inl (cI, 2, .inl (ma M3 9))), (a1 2, .inr (4, [.int (mg M4 0), .ref (a4 1), .ref (a4 2), .ref (a4 3)])), (a4 1, .inl (cI, 6, .inl (ma M4 1))), (a4 2, .inl (cI, 6, .inl (ma M4 2))), (a4 3, .inl (cI, 6, .inl (ma M4 3))), (a0 6, .inr (1, [.int (mg M5 0), .ref (a5 1), .int (mg M5 2), .ref (a5 3), .int (mg M5 4), .ref (a5 5)])), (a5 1, .inl (cI, 4, .inl (ma M5 1))), (a5 3, .inl (cI, 4, .inl (ma M5 3))), (a5 5, .inl (cI, 2, .inl (ma M5 5))), (a0 7, .inr (6, [.int (mg M6 0), .int (mg M6 1), .int (mg M6 2), .int (mg M6 3), .int (mg M6 4), .int (mg M6 5), .int (mg M6 6), .ref (a6 7), .ref (a6 8), .ref (a6 9)])), (a6 7, .inl (cI, 2, .inl (ma M6 7))), (a6 8, .inl (cI, 2, .inl (ma M6 8))), (a6 9, .inl (cI, 2, .inl (ma M6 9))), (a0 8, .inr (0, [.ref (a7 0), .ref (a7 1), .ref (a7 2), .ref (a7 3), .int (mg M7 4), va_rf o7, .int (mg M7 6), .int (mg M7 7), .int (mg M7 8), .int (mg M7 9), .int (mg M7 10)])), (a7 0, .inl (cJ, 15, .inr (.inl (ml M7 0)))), (a7 1, .inl (cJ, 800, .inr (.inl (ml M7 1)))), (a7 2, .inl (cI, 4, .inl (ma M7 2))), (a7 3, .inl (cJ, 4, .inr (.inl (ml M7 3)))), (a0 9, .inr (5, [.ref (a8 0), .ref (a8 1), va_rf o8, .int (mg M8 3)])), (a8 0, .inl (cI, 2048, .inl (ma M8 0))), (a8 1, .inl (cI, 2048, .inl (ma M8 1))), (a0 10, .inr (3, [.int (mg M9 0), .int (mg M9 1), .int (mg M9 2), .int (mg M9 3), .int (mg M9 4)]))]) (w1 := (e0W cB cI cJ cZ  )) hP hD [] [0, 1, 2, 3, 4, 5, 6, 7, 8, 9, 10, 11, 12, 13, 14, 15, 16, 17, 18, 19, 20, 21, 22, 23, 24, 25, 26, 27, 28, 29, 30, 31, 32, 33] rfl rfl (by decide) (by decide) hk1 hFc hP1 hD1
    have hP := hP.sub (ws' := (lwW cB cI cJ cZ h0 a0 a1 a2 a3 a4 a5 a6 a7 o7 a8 o8 a9 M0 M1 M2 M3 M4 M5 M6 M7 M8 M9)) [0, 1, 2, 3, 4, 5, 6, 7, 8, 9, 10, 11, 12, 13, 14, 15, 16, 17, 18, 19, 20, 21, 22, 23, 24, 25, 26, 27, 28, 29, 30, 31, 32, 33] rfl
    have hD := hD.sub (ws' := (lwW cB cI cJ cZ h0 a0 a1 a2 a3 a4 a5 a6 a7 o7 a8 o8 a9 M0 M1 M2 M3 M4 M5 M6 M7 M8 M9)) [0, 1, 2, 3, 4, 5, 6, 7, 8, 9, 10, 11, 12, 13, 14, 15, 16, 17, 18, 19, 20, 21, 22, 23, 24, 25, 26, 27, 28, 29, 30, 31, 32, 33] (by decide) rfl
    generalize H1 = H at hP hS ⊢
    obtain ⟨b2, rfl, h⟩ := hw
    try dsimp only at h
    refine lv_if_eq (tgt := 21) hx hb dX11_fill_4 (by decide) (fun c3 => ?_) (fun c3 => ?_)
    · have h := h.1 c3
      refine lv_iconst (v := (-1)) hx hb dX11_fill_21 (by decide) ?_
      exact W.iret (v := (-1 : Int32)) hx hb hr (fun t ht hW => ⟨⟨_, (M0, M1, M2, M3, M4, M5, M6, M7, M8, M9), rfl, h, o7, o8, by rw [ht]; exact hP, va_K.moved hW.alike hK, hD⟩, hS.F ht⟩) hS.2.2 dX11_fill_22
    · have h := h.2 c3
      refine lv_iload_n hx hb dX11_fill_7 rfl (lv_at hl 2 rfl) ?_
      have hPc := hP.sub (ws' := (e0W cB cI cJ cZ  )) [] rfl
      have hDc := hD.sub (ws' := (e0W cB cI cJ cZ  )) [] (by decide) rfl
      have hFc := va_free (wc := (e0W cB cI cJ cZ  )) hD hS hA [] rfl
      refine va_calli (va_runS (As := [.int p2]) (rest := []) ⟨hx, hb, hml, hown, hts⟩ (kX11_isPurse l dC dI cB cI cJ cZ  H.size p2  _ h) (cwS 1 hts gX11_fill_X11_isPurse rfl rfl rfl (by decide +kernel) ⟨Nat.le_of_ble_eq_true rfl, Nat.le_of_ble_eq_true rfl⟩) (e0pS hK hPc hDc) rfl rfl hl.1 rfl (lv_room (Nat.le_of_ble_eq_true rfl)) dX11_fill_8 ⟨Nat.le_of_ble_eq_true rfl, Nat.le_of_ble_eq_true rfl⟩) hS (fun q _ z => hFc q z) hFc (fun r4 u t H1 locs ht hvm hw hB hz1 hk1 hS => ?_)
      obtain ⟨hP1, hK1, hD1⟩ := hB
      rw [ht] at hP1
      obtain ⟨hP, hD⟩ := va_join (wr := [(h0, .inr (11, [.ref (a0 0), .int (mg M0 1), .ref (a0 2), .int (mg M0 3), .ref (a0 4), .ref (a0 5), .ref (a0 6), .ref (a0 7), .ref (a0 8), .ref (a0 9), .ref (a0 10), .ref (a0 11)])), (a0 0, .inl (cI, 400, .inl (ma M0 0))), (a0 11, .inl (cJ, 4, .inr (.inl (ml M0 11)))), (a0 4, .inr (10, [.ref (a1 0), .ref (a1 1), .ref (a1 2), .ref (a1 3), .int (mg M1 4)])), (a1 3, .inl (cI, 2, .inl (ma M1 3))), (a1 0, .inr (1, [.int (mg M2 0), .ref (a2 1), .int (mg M2 2), .ref (a2 3), .int (mg M2 4), .ref (a2 5)])), (a2 1, .inl (cI, 4, .inl (ma M2 1))), (a2 3, .inl (cI, 4, .inl (ma M2 3))), (a2 5, .inl (cI, 2, .inl (ma M2 5))), (a1 1, .inr (6, [.int (mg M3 0), .int (mg M3 1), .int (mg M3 2), .int (mg M3 3), .int (mg M3 4), .int (mg M3 5), .int (mg M3 6), .ref (a3 7), .ref (a3 8), .ref (a3 9)])), (a3 7, .inl (cI, 2, .inl (ma M3 7))), (a3 8, .inl (cI, 2, .inl (ma M3 8))), (a3 9, .inl (cI, 2, .inl (ma M3 9))), (a1 2, .inr (4, [.int (mg M4 0), .ref (a4 1), .ref (a4 2), .ref (a4 3)])), (a4 1, .inl (cI, 6, .inl (ma M4 1))), (a4 2, .inl (cI, 6, .inl (ma M4 2))), (a4 3, .inl (cI, 6, .inl (ma M4 3))), (a0 6, .inr (1, [.int (mg M5 0), .ref (a5 1), .int (mg M5 2), .ref (a5 3), .int (mg M5 4), .ref (a5 5)])), (a5 1, .inl (cI, 4, .inl (ma M5 1))), (a5 3, .inl (cI, 4, .inl (ma M5 3))), (a5 5, .inl (cI, 2, .inl (ma M5 5))), (a0 7, .inr (6, [.int (mg M6 0), .int (mg M6 1), .int (mg M6 2), .int (mg M6 3), .int (mg M6 4), .int (mg M6 5), .int (mg M6 6), .ref (a6 7), .ref (a6 8), .ref (a6 9)])), (a6 7, .inl (cI, 2, .inl (ma M6 7))), (a6 8, .inl (cI, 2, .inl (ma M6 8))), (a6 9, .inl (cI, 2, .inl (ma M6 9))), (a0 8, .inr (0, [.ref (a7 0), .ref (a7 1), .ref (a7 2), .ref (a7 3), .int (mg M7 4), va_rf o7, .int (mg M7 6), .int (mg M7 7), .int (mg M7 8), .int (mg M7 9), .int (mg M7 10)])), (a7 0, .inl (cJ, 15, .inr (.inl (ml M7 0)))), (a7 1, .inl (cJ, 800, .inr (.inl (ml M7 1)))), (a7 2, .inl (cI, 4, .inl (ma M7 2))), (a7 3, .inl (cJ, 4, .inr (.inl (ml M7 3)))), (a0 9, .inr (5, [.ref (a8 0), .ref (a8 1), va_rf o8, .int (mg M8 3)])), (a8 0, .inl (cI, 2048, .inl (ma M8 0))), (a8 1, .inl (cI, 2048, .inl (ma M8 1))), (a0 10, .inr (3, [.int (mg M9 0), .int (mg M9 1), .int (mg M9 2), .int (mg M9 3), .int (mg M9 4)]))]) (w1 := (e0W cB cI cJ cZ  )) hP hD [] [0, 1, 2, 3, 4, 5, 6, 7, 8, 9, 10, 11, 12, 13, 14, 15, 16, 17, 18, 19, 20, 21, 22, 23, 24, 25, 26, 27, 28, 29, 30, 31, 32, 33] rfl rfl (by decide) (by decide) hk1 hFc hP1 hD1
      have hP := hP.sub (ws' := (lwW cB cI cJ cZ h0 a0 a1 a2 a3 a4 a5 a6 a7 o7 a8 o8 a9 M0 M1 M2 M3 M4 M5 M6 M7 M8 M9)) [0, 1, 2, 3, 4, 5, 6, 7, 8, 9, 10, 11, 12, 13, 14, 15, 16, 17, 18, 19, 20, 21, 22, 23, 24, 25, 26, 27, 28, 29, 30, 31, 32, 33] rfl
      have hD := hD.sub (ws' := (lwW cB cI cJ cZ h0 a0 a1 a2 a3 a4 a5 a6 a7 o7 a8 o8 a9 M0 M1 M2 M3 M4 M5 M6 M7 M8 M9)) [0, 1, 2, 3, 4, 5, 6, 7, 8, 9, 10, 11, 12, 13, 14, 15, 16, 17, 18, 19, 20, 21, 22, 23, 24, 25, 26, 27, 28, 29, 30, 31, 32, 33] (by decide) rfl
      generalize H1 = H at hP hS ⊢
      obtain ⟨b5, rfl, h⟩ := hw
      try dsimp only at h
      refine lv_if_eq (tgt := 21) hx hb dX11_fill_11 (by decide) (fun c6 => ?_) (fun c6 => ?_)
      · have h := h.1 c6
        refine lv_iconst (v := (-1)) hx hb dX11_fill_21 (by decide) ?_
        exact W.iret (v := (-1 : Int32)) hx hb hr (fun t ht hW => ⟨⟨_, (M0, M1, M2, M3, M4, M5, M6, M7, M8, M9), rfl, h, o7, o8, by rw [ht]; exact hP, va_K.moved hW.alike hK, hD⟩, hS.F ht⟩) hS.2.2 dX11_fill_22
      · have h := h.2 c6
        refine lv_aload_n hx hb dX11_fill_14 rfl (lv_at hl 0 rfl) ?_
        have hFc := gs_free hD hS hA
        refine va_calli (va_runV (As := []) (rest := []) ⟨hx, hb, hml, hown, hts⟩ (kX11_hasCorner l dC dI cB cI cJ cZ h0 a0 a1 a2 a3 a4 a5 a6 a7 o7 a8 o8 a9 H.size  M0 M1 M2 M3 M4 M5 M6 M7 M8 M9 _ h) (cwV 0 hts gX11_fill_X11_hasCorner rfl rfl rfl (by decide +kernel) ⟨Nat.le_of_ble_eq_true rfl, Nat.le_of_ble_eq_true rfl⟩) (lwpV hK hP hD) rfl rfl hl.1 rfl (lv_room (Nat.le_of_ble_eq_true rfl)) dX11_fill_15 ⟨Nat.le_of_ble_eq_true rfl, Nat.le_of_ble_eq_true rfl⟩) hS (fun q _ z => hFc q z) hFc (fun r7 u t H1 locs ht hvm hw hB hz1 hk1 hS => ?_)
        obtain ⟨N8, N9, N10, N11, N12, N13, N14, N15, N16, N17⟩ := u
        obtain ⟨v18, v19, hP, hK1, hD1⟩ := hB
        rw [ht] at hP
        have hD := hD1.weaken (fun _ _ _ z => hFc _ z)
        generalize H1 = H at hP hS ⊢
        obtain ⟨b20, rfl, h⟩ := hw
        try dsimp only at h
        refine lv_if_ne (tgt := 23) hx hb dX11_fill_18 (by decide) (fun c21 => ?_) (fun c21 => ?_)
        · have h := h.2 c21
          refine lv_aload_n hx hb dX11_fill_23 rfl (lv_at hl 0 rfl) ?_
          refine va_get (D := (dC, dI)) (ci := 11) (v := .ref (a0 4)) (C := RX11) (T := TX11) (N := 12) hx hb hts hinX11 hown hK hP 0 rfl rfl 4 (by decide) f1 (fun _ h9 => h9) rfl dX11_fill_24 ?_
          refine va_get (D := (dC, dI)) (ci := 10) (v := .ref (a1 1)) (C := RX10) (T := TX10) (N := 5) hx hb hts hinX10 hown hK hP 3 rfl rfl 1 (by decide) f2 (fun _ h9 => h9) rfl dX11_fill_27 ?_
          refine va_get (D := (dC, dI)) (ci := 6) (v := .ref (a3 7)) (C := RX6) (T := TX6) (N := 10) hx hb hts hinX6 hown hK hP 9 rfl rfl 7 (by decide) f3 (fun _ h9 => h9) rfl dX11_fill_30 ?_
          refine lv_iload_n hx hb dX11_fill_33 rfl (lv_at hl 1 rfl) ?_
          refine va_iald hx hb hK hP 10 1 (f := ma N11 7) rfl rfl h.1 dX11_fill_34 ?_
          have h := h.2
          refine lv_topi (fun x22 ex22 => ?_)
          have h := h x22 ex22
          refine lv_istore_n (lv' := [(3, .int x22), (0, .ref h0), (1, .int p1), (2, .int p2)]) hx hb dX11_fill_35 rfl hl (by decide) rfl (fun ls hl => ?_)
          refine lv_aload_n hx hb dX11_fill_36 rfl (lv_at hl 1 rfl) ?_
          refine va_get (D := (dC, dI)) (ci := 11) (v := .ref (a0 4)) (C := RX11) (T := TX11) (N := 12) hx hb hts hinX11 hown hK hP 0 rfl rfl 4 (by decide) f1 (fun _ h9 => h9) rfl dX11_fill_37 ?_
          refine va_get (D := (dC, dI)) (ci := 10) (v := .ref (a1 1)) (C := RX10) (T := TX10) (N := 5) hx hb hts hinX10 hown hK hP 3 rfl rfl 1 (by decide) f2 (fun _ h9 => h9) rfl dX11_fill_40 ?_
          refine va_get (D := (dC, dI)) (ci := 6) (v := .ref (a3 7)) (C := RX6) (T := TX6) (N := 10) hx hb hts hinX6 hown hK hP 9 rfl rfl 7 (by decide) f3 (fun _ h9 => h9) rfl dX11_fill_43 ?_
          refine lv_iload_n hx hb dX11_fill_46 rfl (lv_at hl 2 rfl) ?_
          refine lv_iload_n hx hb dX11_fill_47 rfl (lv_at hl 3 rfl) ?_
          refine va_iast hx hb hK hP hD hS 10 1 (f := ma N11 7) rfl rfl h.1 dX11_fill_48 (fun H locs hP hD hS => ?_)
          have h := h.2
          have hP := lwP_3_a7 hP
          have hD := lwD_3_a7 hD
          have h := h _ rfl
          generalize sa N11 7 (Int32.toNatClampNeg p1) p2 = N23 at hP hD h
          refine lv_aload_n hx hb dX11_fill_49 rfl (lv_at hl 1 rfl) ?_
          refine va_get (D := (dC, dI)) (ci := 11) (v := .ref (a0 4)) (C := RX11) (T := TX11) (N := 12) hx hb hts hinX11 hown hK hP 0 rfl rfl 4 (by decide) f1 (fun _ h9 => h9) rfl dX11_fill_50 ?_
          refine va_get (D := (dC, dI)) (ci := 10) (v := .ref (a1 1)) (C := RX10) (T := TX10) (N := 5) hx hb hts hinX10 hown hK hP 3 rfl rfl 1 (by decide) f2 (fun _ h9 => h9) rfl dX11_fill_53 ?_
          refine va_get (D := (dC, dI)) (ci := 6) (v := .int (mg N23 0)) (C := RX6) (T := TX6) (N := 10) hx hb hts hinX6 hown hK hP 9 rfl rfl 0 (by decide) f4 (fun _ h9 => h9) rfl dX11_fill_56 ?_
          refine lv_if_eq (tgt := 86) hx hb dX11_fill_59 (by decide) (fun c24 => ?_) (fun c24 => ?_)
          · have h := h.1 c24
            refine lv_iload_n hx hb dX11_fill_86 rfl (lv_at hl 0 rfl) ?_
            exact W.iret (v := x22) hx hb hr (fun t ht hW => ⟨⟨_, (N8, N9, N10, N23, N12, N13, N14, N15, N16, N17), rfl, h, v18, v19, by rw [ht]; exact hP, va_K.moved hW.alike hK, hD⟩, hS.F ht⟩) hS.2.2 dX11_fill_87
          · have h := h.2 c24
            refine lv_aload_n hx hb dX11_fill_62 rfl (lv_at hl 1 rfl) ?_
            refine va_get (D := (dC, dI)) (ci := 11) (v := .ref (a0 4)) (C := RX11) (T := TX11) (N := 12) hx hb hts hinX11 hown hK hP 0 rfl rfl 4 (by decide) f1 (fun _ h9 => h9) rfl dX11_fill_63 ?_
            refine va_get (D := (dC, dI)) (ci := 10) (v := .ref (a1 1)) (C := RX10) (T := TX10) (N := 5) hx hb hts hinX10 hown hK hP 3 rfl rfl 1 (by decide) f2 (fun _ h9 => h9) rfl dX11_fill_66 ?_
            refine lv_aload_n hx hb dX11_fill_69 rfl (lv_at hl 1 rfl) ?_
            refine va_get (D := (dC, dI)) (ci := 11) (v := .ref (a0 4)) (C := RX11) (T := TX11) (N := 12) hx hb hts hinX11 hown hK hP 0 rfl rfl 4 (by decide) f1 (fun _ h9 => h9) rfl dX11_fill_70 ?_
            refine va_get (D := (dC, dI)) (ci := 10) (v := .ref (a1 0)) (C := RX10) (T := TX10) (N := 5) hx hb hts hinX10 hown hK hP 3 rfl rfl 0 (by decide) f5 (fun _ h9 => h9) rfl dX11_fill_73 ?_
            have hPc := hP.sub (ws' := (qcW cB cI cJ cZ (a1 1) a3 (a1 0) a2 N23 N10)) [9, 10, 11, 12, 5, 6, 7, 8] rfl
            have hDc := hD.sub (ws' := (qcW cB cI cJ cZ (a1 1) a3 (a1 0) a2 N23 N10)) [9, 10, 11, 12, 5, 6, 7, 8] (by decide) rfl
            have hFc := va_free (wc := (qcW cB cI cJ cZ (a1 1) a3 (a1 0) a2 N23 N10)) hD hS hA [9, 10, 11, 12, 5, 6, 7, 8] rfl
            refine va_callv (va_runV (As := [.ref (a1 0)]) (rest := []) ⟨hx, hb, hml, hown, hts⟩ (kX6_endIfStuck l dC dI cB cI cJ cZ (a1 1) a3 (a1 0) a2 H.size  N23 N10 _ h) (cwV 1 hts gX11_fill_X6_endIfStuck rfl rfl rfl (by decide +kernel) ⟨Nat.le_of_ble_eq_true rfl, Nat.le_of_ble_eq_true rfl⟩) (qcpV hK hPc hDc) rfl rfl hl.1 rfl (lv_room (Nat.le_of_ble_eq_true rfl)) dX11_fill_76 ⟨Nat.le_of_ble_eq_true rfl, Nat.le_of_ble_eq_true rfl⟩) hS (fun q _ z => hFc q z) hFc (fun u t H1 locs ht hvm hw hB hz1 hk1 hS => ?_)
            obtain ⟨N26, N27⟩ := u
            obtain ⟨hP1, hK1, hD1⟩ := hB
            rw [ht] at hP1
            obtain ⟨hP, hD⟩ := va_join (wr := [(h0, .inr (11, [.ref (a0 0), .int (mg N8 1), .ref (a0 2), .int (mg N8 3), .ref (a0 4), .ref (a0 5), .ref (a0 6), .ref (a0 7), .ref (a0 8), .ref (a0 9), .ref (a0 10), .ref (a0 11)])), (a0 0, .inl (cI, 400, .inl (ma N8 0))), (a0 11, .inl (cJ, 4, .inr (.inl (ml N8 11)))), (a0 4, .inr (10, [.ref (a1 0), .ref (a1 1), .ref (a1 2), .ref (a1 3), .int (mg N9 4)])), (a1 3, .inl (cI, 2, .inl (ma N9 3))), (a1 2, .inr (4, [.int (mg N12 0), .ref (a4 1), .ref (a4 2), .ref (a4 3)])), (a4 1, .inl (cI, 6, .inl (ma N12 1))), (a4 2, .inl (cI, 6, .inl (ma N12 2))), (a4 3, .inl (cI, 6, .inl (ma N12 3))), (a0 6, .inr (1, [.int (mg N13 0), .ref (a5 1), .int (mg N13 2), .ref (a5 3), .int (mg N13 4), .ref (a5 5)])), (a5 1, .inl (cI, 4, .inl (ma N13 1))), (a5 3, .inl (cI, 4, .inl (ma N13 3))), (a5 5, .inl (cI, 2, .inl (ma N13 5))), (a0 7, .inr (6, [.int (mg N14 0), .int (mg N14 1), .int (mg N14 2), .int (mg N14 3), .int (mg N14 4), .int (mg N14 5), .int (mg N14 6), .ref (a6 7), .ref (a6 8), .ref (a6 9)])), (a6 7, .inl (cI, 2, .inl (ma N14 7))), (a6 8, .inl (cI, 2, .inl (ma N14 8))), (a6 9, .inl (cI, 2, .inl (ma N14 9))), (a0 8, .inr (0, [.ref (a7 0), .ref (a7 1), .ref (a7 2), .ref (a7 3), .int (mg N15 4), va_rf v18, .int (mg N15 6), .int (mg N15 7), .int (mg N15 8), .int (mg N15 9), .int (mg N15 10)])), (a7 0, .inl (cJ, 15, .inr (.inl (ml N15 0)))), (a7 1, .inl (cJ, 800, .inr (.inl (ml N15 1)))), (a7 2, .inl (cI, 4, .inl (ma N15 2))), (a7 3, .inl (cJ, 4, .inr (.inl (ml N15 3)))), (a0 9, .inr (5, [.ref (a8 0), .ref (a8 1), va_rf v19, .int (mg N16 3)])), (a8 0, .inl (cI, 2048, .inl (ma N16 0))), (a8 1, .inl (cI, 2048, .inl (ma N16 1))), (a0 10, .inr (3, [.int (mg N17 0), .int (mg N17 1), .int (mg N17 2), .int (mg N17 3), .int (mg N17 4)]))]) (w1 := (qcW cB cI cJ cZ (a1 1) a3 (a1 0) a2 N26 N27)) hP hD [9, 10, 11, 12, 5, 6, 7, 8] [0, 1, 2, 3, 4, 13, 14, 15, 16, 17, 18, 19, 20, 21, 22, 23, 24, 25, 26, 27, 28, 29, 30, 31, 32, 33] rfl rfl (by decide) (by decide) hk1 hFc hP1 hD1
            have hP := hP.sub (ws' := (lwW cB cI cJ cZ h0 a0 a1 a2 a3 a4 a5 a6 a7 v18 a8 v19 a9 N8 N9 N27 N26 N12 N13 N14 N15 N16 N17)) [0, 1, 2, 3, 4, 30, 31, 32, 33, 26, 27, 28, 29, 5, 6, 7, 8, 9, 10, 11, 12, 13, 14, 15, 16, 17, 18, 19, 20, 21, 22, 23, 24, 25] rfl
            have hD := hD.sub (ws' := (lwW cB cI cJ cZ h0 a0 a1 a2 a3 a4 a5 a6 a7 v18 a8 v19 a9 N8 N9 N27 N26 N12 N13 N14 N15 N16 N17)) [0, 1, 2, 3, 4, 30, 31, 32, 33, 26, 27, 28, 29, 5, 6, 7, 8, 9, 10, 11, 12, 13, 14, 15, 16, 17, 18, 19, 20, 21, 22, 23, 24, 25] (by decide) rfl
            generalize H1 = H at hP hS ⊢
            have h := hw
            try dsimp only at h
            refine lv_aload_n hx hb dX11_fill_79 rfl (lv_at hl 1 rfl) ?_
            refine va_get (D := (dC, dI)) (ci := 11) (v := .ref (a0 4)) (C := RX11) (T := TX11) (N := 12) hx hb hts hinX11 hown hK hP 0 rfl rfl 4 (by decide) f1 (fun _ h9 => h9) rfl dX11_fill_80 ?_
            have hPc := hP.sub (ws' := (stW cB cI cJ cZ (a0 4) a1 a2 a3 a4 N9 N27 N26 N12)) [3, 4, 5, 6, 7, 8, 9, 10, 11, 12, 13, 14, 15, 16] rfl
            have hDc := hD.sub (ws' := (stW cB cI cJ cZ (a0 4) a1 a2 a3 a4 N9 N27 N26 N12)) [3, 4, 5, 6, 7, 8, 9, 10, 11, 12, 13, 14, 15, 16] (by decide) rfl
            have hFc := va_free (wc := (stW cB cI cJ cZ (a0 4) a1 a2 a3 a4 N9 N27 N26 N12)) hD hS hA [3, 4, 5, 6, 7, 8, 9, 10, 11, 12, 13, 14, 15, 16] rfl
            refine va_callv (va_runV (As := []) (rest := []) ⟨hx, hb, hml, hown, hts⟩ (kX10_noteWinner l dC dI cB cI cJ cZ (a0 4) a1 a2 a3 a4 H.size  N9 N27 N26 N12 _ h) (cwV 0 hts gX11_fill_X10_noteWinner rfl rfl rfl (by decide +kernel) ⟨Nat.le_of_ble_eq_true rfl, Nat.le_of_ble_eq_true rfl⟩) (stpV hK hPc hDc) rfl rfl hl.1 rfl (lv_room (Nat.le_of_ble_eq_true rfl)) dX11_fill_83 ⟨Nat.le_of_ble_eq_true rfl, Nat.le_of_ble_eq_true rfl⟩) hS (fun q _ z => hFc q z) hFc (fun u t H1 locs ht hvm hw hB hz1 hk1 hS => ?_)
            obtain ⟨N29, N30, N31, N32⟩ := u
            obtain ⟨hP1, hK1, hD1⟩ := hB
            rw [ht] at hP1
            obtain ⟨hP, hD⟩ := va_join (wr := [(h0, .inr (11, [.ref (a0 0), .int (mg N8 1), .ref (a0 2), .int (mg N8 3), .ref (a0 4), .ref (a0 5), .ref (a0 6), .ref (a0 7), .ref (a0 8), .ref (a0 9), .ref (a0 10), .ref (a0 11)])), (a0 0, .inl (cI, 400, .inl (ma N8 0))), (a0 11, .inl (cJ, 4, .inr (.inl (ml N8 11)))), (a0 6, .inr (1, [.int (mg N13 0), .ref (a5 1), .int (mg N13 2), .ref (a5 3), .int (mg N13 4), .ref (a5 5)])), (a5 1, .inl (cI, 4, .inl (ma N13 1))), (a5 3, .inl (cI, 4, .inl (ma N13 3))), (a5 5, .inl (cI, 2, .inl (ma N13 5))), (a0 7, .inr (6, [.int (mg N14 0), .int (mg N14 1), .int (mg N14 2), .int (mg N14 3), .int (mg N14 4), .int (mg N14 5), .int (mg N14 6), .ref (a6 7), .ref (a6 8), .ref (a6 9)])), (a6 7, .inl (cI, 2, .inl (ma N14 7))), (a6 8, .inl (cI, 2, .inl (ma N14 8))), (a6 9, .inl (cI, 2, .inl (ma N14 9))), (a0 8, .inr (0, [.ref (a7 0), .ref (a7 1), .ref (a7 2), .ref (a7 3), .int (mg N15 4), va_rf v18, .int (mg N15 6), .int (mg N15 7), .int (mg N15 8), .int (mg N15 9), .int (mg N15 10)])), (a7 0, .inl (cJ, 15, .inr (.inl (ml N15 0)))), (a7 1, .inl (cJ, 800, .inr (.inl (ml N15 1)))), (a7 2, .inl (cI, 4, .inl (ma N15 2))), (a7 3, .inl (cJ, 4, .inr (.inl (ml N15 3)))), (a0 9, .inr (5, [.ref (a8 0), .ref (a8 1), va_rf v19, .int (mg N16 3)])), (a8 0, .inl (cI, 2048, .inl (ma N16 0))), (a8 1, .inl (cI, 2048, .inl (ma N16 1))), (a0 10, .inr (3, [.int (mg N17 0), .int (mg N17 1), .int (mg N17 2), .int (mg N17 3), .int (mg N17 4)]))]) (w1 := (stW cB cI cJ cZ (a0 4) a1 a2 a3 a4 N29 N30 N31 N32)) hP hD [3, 4, 5, 6, 7, 8, 9, 10, 11, 12, 13, 14, 15, 16] [0, 1, 2, 17, 18, 19, 20, 21, 22, 23, 24, 25, 26, 27, 28, 29, 30, 31, 32, 33] rfl rfl (by decide) (by decide) hk1 hFc hP1 hD1
            have hP := hP.sub (ws' := (lwW cB cI cJ cZ h0 a0 a1 a2 a3 a4 a5 a6 a7 v18 a8 v19 a9 N8 N29 N30 N31 N32 N13 N14 N15 N16 N17)) [0, 1, 2, 20, 21, 22, 23, 24, 25, 26, 27, 28, 29, 30, 31, 32, 33, 3, 4, 5, 6, 7, 8, 9, 10, 11, 12, 13, 14, 15, 16, 17, 18, 19] rfl
            have hD := hD.sub (ws' := (lwW cB cI cJ cZ h0 a0 a1 a2 a3 a4 a5 a6 a7 v18 a8 v19 a9 N8 N29 N30 N31 N32 N13 N14 N15 N16 N17)) [0, 1, 2, 20, 21, 22, 23, 24, 25, 26, 27, 28, 29, 30, 31, 32, 33, 3, 4, 5, 6, 7, 8, 9, 10, 11, 12, 13, 14, 15, 16, 17, 18, 19] (by decide) rfl
            generalize H1 = H at hP hS ⊢
            have h := hw
            try dsimp only at h
            refine lv_iload_n hx hb dX11_fill_86 rfl (lv_at hl 0 rfl) ?_
            exact W.iret (v := x22) hx hb hr (fun t ht hW => ⟨⟨_, (N8, N29, N30, N31, N32, N13, N14, N15, N16, N17), rfl, h, v18, v19, by rw [ht]; exact hP, va_K.moved hW.alike hK, hD⟩, hS.F ht⟩) hS.2.2 dX11_fill_87
        · have h := h.1 c21
          refine lv_iconst (v := (-1)) hx hb dX11_fill_21 (by decide) ?_
          exact W.iret (v := (-1 : Int32)) hx hb hr (fun t ht hW => ⟨⟨_, (N8, N9, N10, N11, N12, N13, N14, N15, N16, N17), rfl, h, v18, v19, by rw [ht]; exact hP, va_K.moved hW.alike hK, hD⟩, hS.F ht⟩) hS.2.2 dX11_fill_22
  have hl := lv_entry ([.ref h0, .int p1, .int p2]) (n := 4) (Nat.le_of_ble_eq_true rfl)
  rw [lg_entry_eq]
  generalize (lg_sl ([.ref h0, .int p1, .int p2]) ++ List.replicate (4 - (lg_sl ([.ref h0, .int p1, .int p2])).length) Slot.unset).toArray = ls at hl ⊢
  have hl : lv_has ls 4 [(0, .ref h0), (1, .int p1), (2, .int p2)] := hl
  exact bE M0 M1 M2 M3 M4 M5 M6 M7 M8 M9 s.heap [] ls hP hD hS hl h
