def wX12_takesWord (p1 : Int64) (M : gS) (Q : Bool → gS → Prop) : Prop :=
 (wX12_isWord p1 M (fun (b3 : Bool) (M2 : gS) => (((bI b3) = 0 → (Q false M2))
 ∧ (¬ (bI b3) = 0 → (wX12_passWord  M2 (fun (M6 : gS) => (Q true M6)))))))
def rmX12_takesWord : Room := { frames := 2, cells := 0, slots := 0, locals := 46 }
set_option maxHeartbeats 4000000 in
set_option maxRecDepth 100000 in
theorem kX12_takesWord (l : Launch) (dC : Nat → ClassId) (dI : Nat → Nat → Nat) (cB cI cJ cZ : ClassId) (h0 : Nat) (ad : Nat → Nat) (sz : Nat) (p1 : Int64) (M : gS) (Q : Bool → gS → Prop) (h : wX12_takesWord p1 M Q) : Met l yX12_takesWord wsX12_takesWord rmX12_takesWord (va_Pc [.ref h0, .long p1] (mI dC dI cB cI cJ cZ h0 ad M sz)) (va_Qi (fun (r : Int32) (u : gS) => ∃ b : Bool, r = bI b ∧ Q b u) (mB dC dI cB cI cJ cZ h0 ad (va_A (mW cB cI cJ cZ h0 ad M) sz)) (va_A (mW cB cI cJ cZ h0 ad M) sz)) 0 0 (va_A (mW cB cI cJ cZ h0 ad M) sz) := by
  refine Met.ofW (cc := cX12_takesWord) (maxL := 3) (ret := (some .boolean)) (by decide) rfl ?_
  intro p e s m args below meth c s₁ B hml hv
  obtain ⟨rfl, hsz, hP, hK, hD0⟩ := hv
  have hx := B.exec
  have hb := B.bytes
  have hr := B.returns
  have hts := atoms_spec (ws := wsX12_takesWord) B.pre
  have hown : s.vm.findClass RX12 = some m.cls := findClass_of_methodNamed B.named
  have hlocks := B.notSynchronized
  subst hsz
  have hD := hD0.self (sz := s.heap.size)
  generalize hAe : va_A (mW cB cI cJ cZ h0 ad M) s.heap.size = A at hD ⊢
  have hA : ∀ q : Nat, s.heap.size ≤ q → A q := fun q h => by rw [← hAe]; exact Or.inr h
  have hS : va_S A s.heap s.heap [] := va_S.rf
  have bE : ∀ (M : gS) (H : Heap) (locs : List Loc) (ls : Array Slot), va_P (dC, dI) vwCl (mW cB cI cJ cZ h0 ad M) H → va_D A (mW cB cI cJ cZ h0 ad M) → va_S A s.heap H locs → lv_has ls 3 [(0, .ref h0), (1, .long p1)] → wX12_takesWord p1 M Q → W p l e (headSpec wsX12_takesWord rmX12_takesWord).room s m ([.ref h0, .long p1] : List Value).toArray below meth c H locs 0 0 (MQ below (va_Qi (fun (r : Int32) (u : gS) => ∃ b : Bool, r = bI b ∧ Q b u) (mB dC dI cB cI cJ cZ h0 ad A) A) ([.ref h0, .long p1] : List Value).toArray s 0 0 A) (F0 m 0 ls []) := by
    intro M H locs ls hP hD hS hl h
    unfold wX12_takesWord at h
    refine lv_aload_n hx hb dX12_takesWord_0 rfl (lv_at hl 0 rfl) ?_
    refine lv_lload_n hx hb dX12_takesWord_1 rfl (lv_at hl 1 rfl) ?_
    have hFc := gs_free hD hS hA
    refine va_calli (va_runV (As := [.long p1]) (rest := []) ⟨hx, hb, hml, hown, hts⟩ (kX12_isWord l dC dI cB cI cJ cZ h0 ad H.size p1 M _ h) (cwV 1 hts gX12_takesWord_X12_isWord rfl rfl rfl (by decide +kernel) ⟨Nat.le_of_ble_eq_true rfl, Nat.le_of_ble_eq_true rfl⟩) (mpV hK hP hD) rfl rfl hl.1 rfl (lv_room (Nat.le_of_ble_eq_true rfl)) dX12_takesWord_2 ⟨Nat.le_of_ble_eq_true rfl, Nat.le_of_ble_eq_true rfl⟩) hS (fun q _ z => hFc q z) hFc (fun r1 M2 t H1 locs ht hvm hw hB hz1 hk1 hS => ?_)
    obtain ⟨hP, hD⟩ := gs_back ht hFc hB
    generalize H1 = H at hP hS ⊢
    obtain ⟨b3, rfl, h⟩ := hw
    try dsimp only at h
    refine lv_if_ne (tgt := 10) hx hb dX12_takesWord_5 (by decide) (fun c4 => ?_) (fun c4 => ?_)
    · have h := h.2 c4
      refine lv_aload_n hx hb dX12_takesWord_10 rfl (lv_at hl 0 rfl) ?_
      have hFc := gs_free hD hS hA
      refine va_callv (va_runV (As := []) (rest := []) ⟨hx, hb, hml, hown, hts⟩ (kX12_passWord l dC dI cB cI cJ cZ h0 ad H.size  M2 _ h) (cwV 0 hts gX12_takesWord_X12_passWord rfl rfl rfl (by decide +kernel) ⟨Nat.le_of_ble_eq_true rfl, Nat.le_of_ble_eq_true rfl⟩) (mpV hK hP hD) rfl rfl hl.1 rfl (lv_room (Nat.le_of_ble_eq_true rfl)) dX12_takesWord_11 ⟨Nat.le_of_ble_eq_true rfl, Nat.le_of_ble_eq_true rfl⟩) hS (fun q _ z => hFc q z) hFc (fun M6 t H1 locs ht hvm hw hB hz1 hk1 hS => ?_)
      obtain ⟨hP, hD⟩ := gs_back ht hFc hB
      generalize H1 = H at hP hS ⊢
      have h := hw
      try dsimp only at h
      refine lv_iconst (v := 1) hx hb dX12_takesWord_14 (by decide) ?_
      exact W.zret (v := (bI true)) hx hb hr (nar_bI true) (fun t ht hW => ⟨⟨_, M6, rfl, ⟨true, rfl, h⟩, by rw [ht]; exact hP, va_K.moved hW.alike hK, hD⟩, hS.F ht⟩) hS.2.2 dX12_takesWord_15
    · have h := h.1 c4
      refine lv_iconst (v := 0) hx hb dX12_takesWord_8 (by decide) ?_
      exact W.zret (v := (bI false)) hx hb hr (nar_bI false) (fun t ht hW => ⟨⟨_, M2, rfl, ⟨false, rfl, h⟩, by rw [ht]; exact hP, va_K.moved hW.alike hK, hD⟩, hS.F ht⟩) hS.2.2 dX12_takesWord_9
  have hl := lv_entry ([.ref h0, .long p1]) (n := 3) (Nat.le_of_ble_eq_true rfl)
  rw [lg_entry_eq]
  generalize (lg_sl ([.ref h0, .long p1]) ++ List.replicate (3 - (lg_sl ([.ref h0, .long p1])).length) Slot.unset).toArray = ls at hl ⊢
  have hl : lv_has ls 3 [(0, .ref h0), (1, .long p1)] := hl
  exact bE M s.heap [] ls hP hD hS hl h
def wX12_numberHere_126  (Q : Bool → gS → Prop)  (M : gS) : Prop :=
 (Q true M)
def wX12_numberHere_117  (Q : Bool → gS → Prop) (y3 : Int32) (M : gS) : Prop :=
 (wX12_fails (1 : Int32) y3 M (fun (b3 : Bool) (M2 : gS) => (((bI b3) = 0 → (Q false M2))
 ∧ (¬ (bI b3) = 0 → (wX12_numberHere_126  Q M2)))))
def wX12_numberHere_75 (B34 : Int32 → Int32 → Int32 → Int32 → gS → Prop) (Q : Bool → gS → Prop) (y1 : Int32) (y2 : Int32) (y3 : Int32) (y4 : Int32) (M : gS) : Prop :=
 (∀ x1 : Int32, x1 = ((mg M 13) + (1 : Int32)) → (∀ M2 : gS, M2 = sg M 13 x1 → (B34 y1 y2 y3 y4 M2)))
def wX12_numberHere_34  (Q : Bool → gS → Prop) : Nat → Int32 → Int32 → Int32 → Int32 → gS → Prop
 | 0, _, _, _, _, _ => False
 | n + 1, y1, y2, y3, y4, M => (wX12_isDigit (mg M 13) M (fun (b3 : Bool) (M2 : gS) => (((bI b3) = 0 → (∀ M5 : gS, M5 = sg M2 15 y4 → (((5 : Int32) < ((mg M5 13) - y3) → (wX12_numberHere_117  Q y3 M5))
 ∧ (¬ (5 : Int32) < ((mg M5 13) - y3) → (wX12_in (Int32.toInt64 y4) (Int32.toInt64 y1) (Int32.toInt64 y2) M5 (fun (b9 : Bool) (M8 : gS) => (((bI b9) = 0 → (wX12_numberHere_117  Q y3 M8))
 ∧ (¬ (bI b9) = 0 → (wX12_numberHere_126  Q M8)))))))))
 ∧ (¬ (bI b3) = 0 → (((5 : Int32) ≤ ((mg M2 13) - y3) → (wX12_numberHere_75 (fun (y1 : Int32) (y2 : Int32) (y3 : Int32) (y4 : Int32) (M : gS) => wX12_numberHere_34  Q n y1 y2 y3 y4 M) Q y1 y2 y3 y4 M2))
 ∧ (¬ (5 : Int32) ≤ ((mg M2 13) - y3) → (vp_in (mg M2 13) 400 ∧ (∀ x12 : Int32, x12 = ((((10 : Int32) * y4) + (ma M2 0 (Int32.toNatClampNeg (mg M2 13)))) - (48 : Int32)) → (wX12_numberHere_75 (fun (y1 : Int32) (y2 : Int32) (y3 : Int32) (y4 : Int32) (M : gS) => wX12_numberHere_34  Q n y1 y2 y3 y4 M) Q y1 y2 y3 x12 M2)))))))))
def wX12_numberHere (p1 : Int32) (p2 : Int32) (M : gS) (Q : Bool → gS → Prop) : Prop :=
 (wX12_see  M (fun (r1 : Int32) (M2 : gS) => (wX12_isDigit (mg M2 13) M2 (fun (b5 : Bool) (M4 : gS) => (((bI b5) = 0 → (wX12_fails (0 : Int32) (mg M4 13) M4 (fun (b10 : Bool) (M9 : gS) => (Q b10 M9))))
 ∧ (¬ (bI b5) = 0 → (∀ x7 : Int32, x7 = (mg M4 13) → (∃ k34 : Nat, wX12_numberHere_34  Q k34 p1 p2 x7 (0 : Int32) M4))))))))
def rmX12_numberHere : Room := { frames := 1, cells := 0, slots := 0, locals := 25 }
set_option maxHeartbeats 4000000 in
set_option maxRecDepth 100000 in
theorem kX12_numberHere (l : Launch) (dC : Nat → ClassId) (dI : Nat → Nat → Nat) (cB cI cJ cZ : ClassId) (h0 : Nat) (ad : Nat → Nat) (sz : Nat) (p1 : Int32) (p2 : Int32) (M : gS) (Q : Bool → gS → Prop) (h : wX12_numberHere p1 p2 M Q) : Met l yX12_numberHere wsX12_numberHere rmX12_numberHere (va_Pc [.ref h0, .int p1, .int p2] (mI dC dI cB cI cJ cZ h0 ad M sz)) (va_Qi (fun (r : Int32) (u : gS) => ∃ b : Bool, r = bI b ∧ Q b u) (mB dC dI cB cI cJ cZ h0 ad (va_A (mW cB cI cJ cZ h0 ad M) sz)) (va_A (mW cB cI cJ cZ h0 ad M) sz)) 0 0 (va_A (mW cB cI cJ cZ h0 ad M) sz) := by
  refine Met.ofW (cc := cX12_numberHere) (maxL := 5) (ret := (some .boolean)) (by decide) rfl ?_
  intro p e s m args below meth c s₁ B hml hv
  obtain ⟨rfl, hsz, hP, hK, hD0⟩ := hv
  have hx := B.exec
  have hb := B.bytes
  have hr := B.returns
  have hts := atoms_spec (ws := wsX12_numberHere) B.pre
  have hown : s.vm.findClass RX12 = some m.cls := findClass_of_methodNamed B.named
  have hlocks := B.notSynchronized
  subst hsz
  have hD := hD0.self (sz := s.heap.size)
  generalize hAe : va_A (mW cB cI cJ cZ h0 ad M) s.heap.size = A at hD ⊢
  have hA : ∀ q : Nat, s.heap.size ≤ q → A q := fun q h => by rw [← hAe]; exact Or.inr h
  have hS : va_S A s.heap s.heap [] := va_S.rf
  have hin : ∀ w ∈ wsX120, w ∈ wsX12_numberHere := fun w h => List.mem_cons_of_mem _ (List.mem_append_right _ h)
  have f1 := hts (.fieldLink RX12 87 "LastWordsModel" "next" "I") (by decide +kernel)
  have f2 := hts (.fieldLink RX12 112 "LastWordsModel" "number" "I") (by decide +kernel)
  have f3 := hts (.fieldLink RX12 7 "LastWordsModel" "tape" "[B") (by decide +kernel)
  have b126 : ∀  (M : gS) (H : Heap) (locs : List Loc) (ls : Array Slot), va_P (dC, dI) vwCl (mW cB cI cJ cZ h0 ad M) H → va_D A (mW cB cI cJ cZ h0 ad M) → va_S A s.heap H locs → lv_has ls 5 [] → wX12_numberHere_126  Q  M → W p l e (headSpec wsX12_numberHere rmX12_numberHere).room s m ([.ref h0, .int p1, .int p2] : List Value).toArray below meth c H locs 0 0 (MQ below (va_Qi (fun (r : Int32) (u : gS) => ∃ b : Bool, r = bI b ∧ Q b u) (mB dC dI cB cI cJ cZ h0 ad A) A) ([.ref h0, .int p1, .int p2] : List Value).toArray s 0 0 A) (F0 m 126 ls []) := by
    intro   M H locs ls hP hD hS hl h
    unfold wX12_numberHere_126 at h
    refine lv_iconst (v := 1) hx hb dX12_numberHere_126 (by decide) ?_
    refine lv_goto (tgt := 131) hx hb dX12_numberHere_127 (by decide) ?_
    exact W.zret (v := (bI true)) hx hb hr (nar_bI true) (fun t ht hW => ⟨⟨_, M, rfl, ⟨true, rfl, h⟩, by rw [ht]; exact hP, va_K.moved hW.alike hK, hD⟩, hS.F ht⟩) hS.2.2 dX12_numberHere_131
  have b117 : ∀ (y3 : Int32) (M : gS) (H : Heap) (locs : List Loc) (ls : Array Slot), va_P (dC, dI) vwCl (mW cB cI cJ cZ h0 ad M) H → va_D A (mW cB cI cJ cZ h0 ad M) → va_S A s.heap H locs → lv_has ls 5 [(0, .ref h0), (3, .int y3)] → wX12_numberHere_117  Q y3 M → W p l e (headSpec wsX12_numberHere rmX12_numberHere).room s m ([.ref h0, .int p1, .int p2] : List Value).toArray below meth c H locs 0 0 (MQ below (va_Qi (fun (r : Int32) (u : gS) => ∃ b : Bool, r = bI b ∧ Q b u) (mB dC dI cB cI cJ cZ h0 ad A) A) ([.ref h0, .int p1, .int p2] : List Value).toArray s 0 0 A) (F0 m 117 ls []) := by
    intro  y3 M H locs ls hP hD hS hl h
    unfold wX12_numberHere_117 at h
    refine lv_aload_n hx hb dX12_numberHere_117 rfl (lv_at hl 0 rfl) ?_
    refine lv_iconst (v := 1) hx hb dX12_numberHere_118 (by decide) ?_
    refine lv_iload_n hx hb dX12_numberHere_119 rfl (lv_at hl 1 rfl) ?_
    have hFc := gs_free hD hS hA
    refine va_calli (va_runV (As := [.int (1 : Int32), .int y3]) (rest := []) ⟨hx, hb, hml, hown, hts⟩ (kX12_fails l dC dI cB cI cJ cZ h0 ad H.size (1 : Int32) y3 M _ h) (cwV 2 hts gX12_numberHere_X12_fails rfl rfl rfl (by decide +kernel) ⟨Nat.le_of_ble_eq_true rfl, Nat.le_of_ble_eq_true rfl⟩) (mpV hK hP hD) rfl rfl hl.1 rfl (lv_room (Nat.le_of_ble_eq_true rfl)) dX12_numberHere_120 ⟨Nat.le_of_ble_eq_true rfl, Nat.le_of_ble_eq_true rfl⟩) hS (fun q _ z => hFc q z) hFc (fun r1 M2 t H1 locs ht hvm hw hB hz1 hk1 hS => ?_)
    obtain ⟨hP, hD⟩ := gs_back ht hFc hB
    generalize H1 = H at hP hS ⊢
    obtain ⟨b3, rfl, h⟩ := hw
    try dsimp only at h
    refine lv_if_eq (tgt := 130) hx hb dX12_numberHere_123 (by decide) (fun c4 => ?_) (fun c4 => ?_)
    · have h := h.1 c4
      refine lv_iconst (v := 0) hx hb dX12_numberHere_130 (by decide) ?_
      exact W.zret (v := (bI false)) hx hb hr (nar_bI false) (fun t ht hW => ⟨⟨_, M2, rfl, ⟨false, rfl, h⟩, by rw [ht]; exact hP, va_K.moved hW.alike hK, hD⟩, hS.F ht⟩) hS.2.2 dX12_numberHere_131
    · have h := h.2 c4
      exact b126  M2 H locs ls hP hD hS (lv_sub hl [] rfl) h
  have b75 : ∀ (B34 : Int32 → Int32 → Int32 → Int32 → gS → Prop) (hB34 : ∀ (y1 : Int32) (y2 : Int32) (y3 : Int32) (y4 : Int32) (M : gS) (H : Heap) (locs : List Loc) (ls : Array Slot), va_P (dC, dI) vwCl (mW cB cI cJ cZ h0 ad M) H → va_D A (mW cB cI cJ cZ h0 ad M) → va_S A s.heap H locs → lv_has ls 5 [(0, .ref h0), (1, .int y1), (2, .int y2), (3, .int y3), (4, .int y4)] → B34 y1 y2 y3 y4 M → W p l e (headSpec wsX12_numberHere rmX12_numberHere).room s m ([.ref h0, .int p1, .int p2] : List Value).toArray below meth c H locs 0 0 (MQ below (va_Qi (fun (r : Int32) (u : gS) => ∃ b : Bool, r = bI b ∧ Q b u) (mB dC dI cB cI cJ cZ h0 ad A) A) ([.ref h0, .int p1, .int p2] : List Value).toArray s 0 0 A) (F0 m 34 ls [])) (y1 : Int32) (y2 : Int32) (y3 : Int32) (y4 : Int32) (M : gS) (H : Heap) (locs : List Loc) (ls : Array Slot), va_P (dC, dI) vwCl (mW cB cI cJ cZ h0 ad M) H → va_D A (mW cB cI cJ cZ h0 ad M) → va_S A s.heap H locs → lv_has ls 5 [(0, .ref h0), (1, .int y1), (2, .int y2), (3, .int y3), (4, .int y4)] → wX12_numberHere_75 B34 Q y1 y2 y3 y4 M → W p l e (headSpec wsX12_numberHere rmX12_numberHere).room s m ([.ref h0, .int p1, .int p2] : List Value).toArray below meth c H locs 0 0 (MQ below (va_Qi (fun (r : Int32) (u : gS) => ∃ b : Bool, r = bI b ∧ Q b u) (mB dC dI cB cI cJ cZ h0 ad A) A) ([.ref h0, .int p1, .int p2] : List Value).toArray s 0 0 A) (F0 m 75 ls []) := by
    intro B34 hB34 y1 y2 y3 y4 M H locs ls hP hD hS hl h
    unfold wX12_numberHere_75 at h
    refine lv_aload_n hx hb dX12_numberHere_75 rfl (lv_at hl 0 rfl) ?_
    refine lv_dup hx hb dX12_numberHere_76 rfl ?_
    refine va_get (D := (dC, dI)) (ci := 12) (v := .int (mg M 13)) (C := RX12) (T := TX12) (N := 37) hx hb hts hin hown hK hP 0 rfl rfl 13 (by decide) f1 (fun _ h9 => h9) rfl dX12_numberHere_77 ?_
    refine lv_iconst (v := 1) hx hb dX12_numberHere_80 (by decide) ?_
    refine lv_iadd hx hb dX12_numberHere_81 ?_
    refine lv_topi (fun x1 ex1 => ?_)
    have h := h x1 ex1
    refine va_put (D := (dC, dI)) (ci := 12) (v := .int x1) (ty := .int) (C := RX12) (T := TX12) (N := 37) hx hb hts hin tyX12 tyX12_ok nmX12 hown hK hP hD hS 0 rfl rfl 13 (by decide) f1 (fun _ h9 => h9) rfl (by decide +kernel) rfl rfl (Nat.le_of_ble_eq_true rfl) dX12_numberHere_82 (fun H locs hP hD hS => ?_)
    have hP := mP_f13 hP
    have hD := mD_f13 hD
    have h := h _ rfl
    generalize sg M 13 x1 = M2 at hP hD h
    refine lv_goto (tgt := 34) hx hb dX12_numberHere_85 (by decide) ?_
    exact hB34 y1 y2 y3 y4 M2 H locs ls hP hD hS (lv_sub hl [0, 1, 2, 3, 4] rfl) h
  have b34 : ∀ (n : Nat) (y1 : Int32) (y2 : Int32) (y3 : Int32) (y4 : Int32) (M : gS) (H : Heap) (locs : List Loc) (ls : Array Slot), va_P (dC, dI) vwCl (mW cB cI cJ cZ h0 ad M) H → va_D A (mW cB cI cJ cZ h0 ad M) → va_S A s.heap H locs → lv_has ls 5 [(0, .ref h0), (1, .int y1), (2, .int y2), (3, .int y3), (4, .int y4)] → wX12_numberHere_34  Q n y1 y2 y3 y4 M → W p l e (headSpec wsX12_numberHere rmX12_numberHere).room s m ([.ref h0, .int p1, .int p2] : List Value).toArray below meth c H locs 0 0 (MQ below (va_Qi (fun (r : Int32) (u : gS) => ∃ b : Bool, r = bI b ∧ Q b u) (mB dC dI cB cI cJ cZ h0 ad A) A) ([.ref h0, .int p1, .int p2] : List Value).toArray s 0 0 A) (F0 m 34 ls []) := by
    intro  n
    induction n with
    | zero => intro y1 y2 y3 y4 M H locs ls hP hD hS hl h; exact absurd h (by simp [wX12_numberHere_34])
    | succ n hB340 =>
      intro y1 y2 y3 y4 M H locs ls hP hD hS hl h
      have hB34 := hB340
      rw [wX12_numberHere_34] at h
      refine lv_aload_n hx hb dX12_numberHere_34 rfl (lv_at hl 0 rfl) ?_
      refine lv_aload_n hx hb dX12_numberHere_35 rfl (lv_at hl 0 rfl) ?_
      refine va_get (D := (dC, dI)) (ci := 12) (v := .int (mg M 13)) (C := RX12) (T := TX12) (N := 37) hx hb hts hin hown hK hP 0 rfl rfl 13 (by decide) f1 (fun _ h9 => h9) rfl dX12_numberHere_36 ?_
      have hFc := gs_free hD hS hA
      refine va_calli (va_runV (As := [.int (mg M 13)]) (rest := []) ⟨hx, hb, hml, hown, hts⟩ (kX12_isDigit l dC dI cB cI cJ cZ h0 ad H.size (mg M 13) M _ h) (cwV 1 hts gX12_numberHere_X12_isDigit rfl rfl rfl (by decide +kernel) ⟨Nat.le_of_ble_eq_true rfl, Nat.le_of_ble_eq_true rfl⟩) (mpV hK hP hD) rfl rfl hl.1 rfl (lv_room (Nat.le_of_ble_eq_true rfl)) dX12_numberHere_39 ⟨Nat.le_of_ble_eq_true rfl, Nat.le_of_ble_eq_true rfl⟩) hS (fun q _ z => hFc q z) hFc (fun r1 M2 t H1 locs ht hvm hw hB hz1 hk1 hS => ?_)
      obtain ⟨hP, hD⟩ := gs_back ht hFc hB
      generalize H1 = H at hP hS ⊢
      obtain ⟨b3, rfl, h⟩ := hw
      try dsimp only at h
      refine lv_if_eq (tgt := 88) hx hb dX12_numberHere_42 (by decide) (fun c4 => ?_) (fun c4 => ?_)
      · have h := h.1 c4
        refine lv_aload_n hx hb dX12_numberHere_88 rfl (lv_at hl 0 rfl) ?_
        refine lv_iload hx hb dX12_numberHere_89 (lv_at hl 4 rfl) ?_
        refine va_put (D := (dC, dI)) (ci := 12) (v := .int y4) (ty := .int) (C := RX12) (T := TX12) (N := 37) hx hb hts hin tyX12 tyX12_ok nmX12 hown hK hP hD hS 0 rfl rfl 15 (by decide) f2 (fun _ h9 => h9) rfl (by decide +kernel) rfl rfl (Nat.le_of_ble_eq_true rfl) dX12_numberHere_91 (fun H locs hP hD hS => ?_)
        have hP := mP_f15 hP
        have hD := mD_f15 hD
        have h := h _ rfl
        generalize sg M2 15 y4 = M5 at hP hD h
        refine lv_aload_n hx hb dX12_numberHere_94 rfl (lv_at hl 0 rfl) ?_
        refine va_get (D := (dC, dI)) (ci := 12) (v := .int (mg M5 13)) (C := RX12) (T := TX12) (N := 37) hx hb hts hin hown hK hP 0 rfl rfl 13 (by decide) f1 (fun _ h9 => h9) rfl dX12_numberHere_95 ?_
        refine lv_iload_n hx hb dX12_numberHere_98 rfl (lv_at hl 3 rfl) ?_
        refine lv_isub hx hb dX12_numberHere_99 ?_
        refine lv_iconst (v := 5) hx hb dX12_numberHere_100 (by decide) ?_
        refine lv_icmp_gt (tgt := 117) hx hb dX12_numberHere_101 (by decide) (fun c6 => ?_) (fun c6 => ?_)
        · have h := h.1 c6
          exact b117  y3 M5 H locs ls hP hD hS (lv_sub hl [0, 3] rfl) h
        · have h := h.2 c6
          refine lv_iload hx hb dX12_numberHere_104 (lv_at hl 4 rfl) ?_
          refine lv_i2l hx hb dX12_numberHere_106 rfl ?_
          refine lv_iload_n hx hb dX12_numberHere_107 rfl (lv_at hl 1 rfl) ?_
          refine lv_i2l hx hb dX12_numberHere_108 rfl ?_
          refine lv_iload_n hx hb dX12_numberHere_109 rfl (lv_at hl 2 rfl) ?_
          refine lv_i2l hx hb dX12_numberHere_110 rfl ?_
          have hFc := gs_free hD hS hA
          refine va_calli (va_runS (As := [.long (Int32.toInt64 y4), .long (Int32.toInt64 y1), .long (Int32.toInt64 y2)]) (rest := []) ⟨hx, hb, hml, hown, hts⟩ (kX12_in l dC dI cB cI cJ cZ h0 ad H.size (Int32.toInt64 y4) (Int32.toInt64 y1) (Int32.toInt64 y2) M5 _ h) (cwS 3 hts gX12_numberHere_X12_in rfl rfl rfl (by decide +kernel) ⟨Nat.le_of_ble_eq_true rfl, Nat.le_of_ble_eq_true rfl⟩) (mpS hK hP hD) rfl rfl hl.1 rfl (lv_room (Nat.le_of_ble_eq_true rfl)) dX12_numberHere_111 ⟨Nat.le_of_ble_eq_true rfl, Nat.le_of_ble_eq_true rfl⟩) hS (fun q _ z => hFc q z) hFc (fun r7 M8 t H1 locs ht hvm hw hB hz1 hk1 hS => ?_)
          obtain ⟨hP, hD⟩ := gs_back ht hFc hB
          generalize H1 = H at hP hS ⊢
          obtain ⟨b9, rfl, h⟩ := hw
          try dsimp only at h
          refine lv_if_ne (tgt := 126) hx hb dX12_numberHere_114 (by decide) (fun c10 => ?_) (fun c10 => ?_)
          · have h := h.2 c10
            exact b126  M8 H locs ls hP hD hS (lv_sub hl [] rfl) h
          · have h := h.1 c10
            exact b117  y3 M8 H locs ls hP hD hS (lv_sub hl [0, 3] rfl) h
      · have h := h.2 c4
        refine lv_aload_n hx hb dX12_numberHere_45 rfl (lv_at hl 0 rfl) ?_
        refine va_get (D := (dC, dI)) (ci := 12) (v := .int (mg M2 13)) (C := RX12) (T := TX12) (N := 37) hx hb hts hin hown hK hP 0 rfl rfl 13 (by decide) f1 (fun _ h9 => h9) rfl dX12_numberHere_46 ?_
        refine lv_iload_n hx hb dX12_numberHere_49 rfl (lv_at hl 3 rfl) ?_
        refine lv_isub hx hb dX12_numberHere_50 ?_
        refine lv_iconst (v := 5) hx hb dX12_numberHere_51 (by decide) ?_
        refine lv_icmp_ge (tgt := 75) hx hb dX12_numberHere_52 (by decide) (fun c11 => ?_) (fun c11 => ?_)
        · have h := h.1 c11
          exact b75 _ hB34 y1 y2 y3 y4 M2 H locs ls hP hD hS (lv_sub hl [0, 1, 2, 3, 4] rfl) h
        · have h := h.2 c11
          refine lv_bipush (v := (10)) hx hb dX12_numberHere_55 (by decide) ?_
          refine lv_iload hx hb dX12_numberHere_57 (lv_at hl 4 rfl) ?_
          refine lv_imul hx hb dX12_numberHere_59 ?_
          refine lv_aload_n hx hb dX12_numberHere_60 rfl (lv_at hl 0 rfl) ?_
          refine va_get (D := (dC, dI)) (ci := 12) (v := .ref (ad 0)) (C := RX12) (T := TX12) (N := 37) hx hb hts hin hown hK hP 0 rfl rfl 0 (by decide) f3 (fun _ h9 => h9) rfl dX12_numberHere_61 ?_
          refine lv_aload_n hx hb dX12_numberHere_64 rfl (lv_at hl 0 rfl) ?_
          refine va_get (D := (dC, dI)) (ci := 12) (v := .int (mg M2 13)) (C := RX12) (T := TX12) (N := 37) hx hb hts hin hown hK hP 0 rfl rfl 13 (by decide) f1 (fun _ h9 => h9) rfl dX12_numberHere_65 ?_
          refine va_bald hx hb hK hP 1 0 (f := ma M2 0) rfl rfl h.1 dX12_numberHere_68 ?_
          have h := h.2
          refine lv_iadd hx hb dX12_numberHere_69 ?_
          refine lv_bipush (v := (48)) hx hb dX12_numberHere_70 (by decide) ?_
          refine lv_isub hx hb dX12_numberHere_72 ?_
          refine lv_topi (fun x12 ex12 => ?_)
          have h := h x12 ex12
          refine lv_istore (lv' := [(4, .int x12), (0, .ref h0), (1, .int y1), (2, .int y2), (3, .int y3)]) hx hb dX12_numberHere_73 hl (by decide) rfl (fun ls hl => ?_)
          exact b75 _ hB34 y1 y2 y3 x12 M2 H locs ls hP hD hS (lv_sub hl [1, 2, 3, 4, 0] rfl) h
  have bE : ∀ (M : gS) (H : Heap) (locs : List Loc) (ls : Array Slot), va_P (dC, dI) vwCl (mW cB cI cJ cZ h0 ad M) H → va_D A (mW cB cI cJ cZ h0 ad M) → va_S A s.heap H locs → lv_has ls 5 [(0, .ref h0), (1, .int p1), (2, .int p2)] → wX12_numberHere p1 p2 M Q → W p l e (headSpec wsX12_numberHere rmX12_numberHere).room s m ([.ref h0, .int p1, .int p2] : List Value).toArray below meth c H locs 0 0 (MQ below (va_Qi (fun (r : Int32) (u : gS) => ∃ b : Bool, r = bI b ∧ Q b u) (mB dC dI cB cI cJ cZ h0 ad A) A) ([.ref h0, .int p1, .int p2] : List Value).toArray s 0 0 A) (F0 m 0 ls []) := by
    intro M H locs ls hP hD hS hl h
    unfold wX12_numberHere at h
    refine lv_aload_n hx hb dX12_numberHere_0 rfl (lv_at hl 0 rfl) ?_
    have hFc := gs_free hD hS hA
    refine va_calli (va_runV (As := []) (rest := []) ⟨hx, hb, hml, hown, hts⟩ (kX12_see l dC dI cB cI cJ cZ h0 ad H.size  M _ h) (cwV 0 hts gX12_numberHere_X12_see rfl rfl rfl (by decide +kernel) ⟨Nat.le_of_ble_eq_true rfl, Nat.le_of_ble_eq_true rfl⟩) (mpV hK hP hD) rfl rfl hl.1 rfl (lv_room (Nat.le_of_ble_eq_true rfl)) dX12_numberHere_1 ⟨Nat.le_of_ble_eq_true rfl, Nat.le_of_ble_eq_true rfl⟩) hS (fun q _ z => hFc q z) hFc (fun r1 M2 t H1 locs ht hvm hw hB hz1 hk1 hS => ?_)
    obtain ⟨hP, hD⟩ := gs_back ht hFc hB
    generalize H1 = H at hP hS ⊢
    have h := hw
    try dsimp only at h
    refine lv_pop hx hb dX12_numberHere_4 rfl ?_
    refine lv_aload_n hx hb dX12_numberHere_5 rfl (lv_at hl 0 rfl) ?_
    refine lv_aload_n hx hb dX12_numberHere_6 rfl (lv_at hl 0 rfl) ?_
    refine va_get (D := (dC, dI)) (ci := 12) (v := .int (mg M2 13)) (C := RX12) (T := TX12) (N := 37) hx hb hts hin hown hK hP 0 rfl rfl 13 (by decide) f1 (fun _ h9 => h9) rfl dX12_numberHere_7 ?_
    have hFc := gs_free hD hS hA
    refine va_calli (va_runV (As := [.int (mg M2 13)]) (rest := []) ⟨hx, hb, hml, hown, hts⟩ (kX12_isDigit l dC dI cB cI cJ cZ h0 ad H.size (mg M2 13) M2 _ h) (cwV 1 hts gX12_numberHere_X12_isDigit rfl rfl rfl (by decide +kernel) ⟨Nat.le_of_ble_eq_true rfl, Nat.le_of_ble_eq_true rfl⟩) (mpV hK hP hD) rfl rfl hl.1 rfl (lv_room (Nat.le_of_ble_eq_true rfl)) dX12_numberHere_10 ⟨Nat.le_of_ble_eq_true rfl, Nat.le_of_ble_eq_true rfl⟩) hS (fun q _ z => hFc q z) hFc (fun r3 M4 t H1 locs ht hvm hw hB hz1 hk1 hS => ?_)
    obtain ⟨hP, hD⟩ := gs_back ht hFc hB
    generalize H1 = H at hP hS ⊢
    obtain ⟨b5, rfl, h⟩ := hw
    try dsimp only at h
    refine lv_if_ne (tgt := 26) hx hb dX12_numberHere_13 (by decide) (fun c6 => ?_) (fun c6 => ?_)
    · have h := h.2 c6
      refine lv_aload_n hx hb dX12_numberHere_26 rfl (lv_at hl 0 rfl) ?_
      refine va_get (D := (dC, dI)) (ci := 12) (v := .int (mg M4 13)) (C := RX12) (T := TX12) (N := 37) hx hb hts hin hown hK hP 0 rfl rfl 13 (by decide) f1 (fun _ h9 => h9) rfl dX12_numberHere_27 ?_
      refine lv_topi (fun x7 ex7 => ?_)
      have h := h x7 ex7
      refine lv_istore_n (lv' := [(3, .int x7), (0, .ref h0), (1, .int p1), (2, .int p2)]) hx hb dX12_numberHere_30 rfl hl (by decide) rfl (fun ls hl => ?_)
      refine lv_iconst (v := 0) hx hb dX12_numberHere_31 (by decide) ?_
      refine lv_istore (lv' := [(4, .int (0 : Int32)), (3, .int x7), (0, .ref h0), (1, .int p1), (2, .int p2)]) hx hb dX12_numberHere_32 hl (by decide) rfl (fun ls hl => ?_)
      obtain ⟨n9, h⟩ := h
      exact b34  n9 p1 p2 x7 (0 : Int32) M4 H locs ls hP hD hS (lv_sub hl [2, 3, 4, 1, 0] rfl) h
    · have h := h.1 c6
      refine lv_aload_n hx hb dX12_numberHere_16 rfl (lv_at hl 0 rfl) ?_
      refine lv_iconst (v := 0) hx hb dX12_numberHere_17 (by decide) ?_
      refine lv_aload_n hx hb dX12_numberHere_18 rfl (lv_at hl 0 rfl) ?_
      refine va_get (D := (dC, dI)) (ci := 12) (v := .int (mg M4 13)) (C := RX12) (T := TX12) (N := 37) hx hb hts hin hown hK hP 0 rfl rfl 13 (by decide) f1 (fun _ h9 => h9) rfl dX12_numberHere_19 ?_
      have hFc := gs_free hD hS hA
      refine va_calli (va_runV (As := [.int (0 : Int32), .int (mg M4 13)]) (rest := []) ⟨hx, hb, hml, hown, hts⟩ (kX12_fails l dC dI cB cI cJ cZ h0 ad H.size (0 : Int32) (mg M4 13) M4 _ h) (cwV 2 hts gX12_numberHere_X12_fails rfl rfl rfl (by decide +kernel) ⟨Nat.le_of_ble_eq_true rfl, Nat.le_of_ble_eq_true rfl⟩) (mpV hK hP hD) rfl rfl hl.1 rfl (lv_room (Nat.le_of_ble_eq_true rfl)) dX12_numberHere_22 ⟨Nat.le_of_ble_eq_true rfl, Nat.le_of_ble_eq_true rfl⟩) hS (fun q _ z => hFc q z) hFc (fun r8 M9 t H1 locs ht hvm hw hB hz1 hk1 hS => ?_)
      obtain ⟨hP, hD⟩ := gs_back ht hFc hB
      generalize H1 = H at hP hS ⊢
      obtain ⟨b10, rfl, h⟩ := hw
      try dsimp only at h
      exact W.zret (v := (bI b10)) hx hb hr (nar_bI b10) (fun t ht hW => ⟨⟨_, M9, rfl, ⟨b10, rfl, h⟩, by rw [ht]; exact hP, va_K.moved hW.alike hK, hD⟩, hS.F ht⟩) hS.2.2 dX12_numberHere_25
  have hl := lv_entry ([.ref h0, .int p1, .int p2]) (n := 5) (Nat.le_of_ble_eq_true rfl)
  rw [lg_entry_eq]
  generalize (lg_sl ([.ref h0, .int p1, .int p2]) ++ List.replicate (5 - (lg_sl ([.ref h0, .int p1, .int p2])).length) Slot.unset).toArray = ls at hl ⊢
  have hl : lv_has ls 5 [(0, .ref h0), (1, .int p1), (2, .int p2)] := hl
  exact bE M s.heap [] ls hP hD hS hl h
def wX12_wordHere  (M : gS) (Q : Int32 → gS → Prop) : Prop :=
 (wX12_isWord (1936286821 : Int64) M (fun (b3 : Bool) (M2 : gS) => (((bI b3) = 0 → (wX12_isWord (1818584692 : Int64) M2 (fun (b7 : Bool) (M6 : gS) => (((bI b7) = 0 → (wX12_isWord (508508140389 : Int64) M6 (fun (b11 : Bool) (M10 : gS) => (((bI b11) = 0 → (wX12_isWord (1835626085 : Int64) M10 (fun (b15 : Bool) (M14 : gS) => (((bI b15) = 0 → (wX12_isWord (127991726830195 : Int64) M14 (fun (b19 : Bool) (M18 : gS) => (((bI b19) = 0 → (wX12_isWord (1818325876 : Int64) M18 (fun (b23 : Bool) (M22 : gS) => (((bI b23) = 0 → (wX12_isWord (448377483876 : Int64) M22 (fun (b27 : Bool) (M26 : gS) => (((bI b27) = 0 → (wX12_isWord (1935763812 : Int64) M26 (fun (b31 : Bool) (M30 : gS) => (((bI b31) = 0 → (wX12_isWord (470021465459 : Int64) M30 (fun (b35 : Bool) (M34 : gS) => (((bI b35) = 0 → (Q (-1 : Int32) M34))
 ∧ (¬ (bI b35) = 0 → (Q (8 : Int32) M34))))))
 ∧ (¬ (bI b31) = 0 → (Q (7 : Int32) M30))))))
 ∧ (¬ (bI b27) = 0 → (Q (6 : Int32) M26))))))
 ∧ (¬ (bI b23) = 0 → (Q (5 : Int32) M22))))))
 ∧ (¬ (bI b19) = 0 → (Q (4 : Int32) M18))))))
 ∧ (¬ (bI b15) = 0 → (Q (3 : Int32) M14))))))
 ∧ (¬ (bI b11) = 0 → (Q (2 : Int32) M10))))))
 ∧ (¬ (bI b7) = 0 → (Q (1 : Int32) M6))))))
 ∧ (¬ (bI b3) = 0 → (Q (0 : Int32) M2)))))
def rmX12_wordHere : Room := { frames := 2, cells := 0, slots := 0, locals := 46 }
set_option maxHeartbeats 4000000 in
set_option maxRecDepth 100000 in
theorem kX12_wordHere (l : Launch) (dC : Nat → ClassId) (dI : Nat → Nat → Nat) (cB cI cJ cZ : ClassId) (h0 : Nat) (ad : Nat → Nat) (sz : Nat)  (M : gS) (Q : Int32 → gS → Prop) (h : wX12_wordHere  M Q) : Met l yX12_wordHere wsX12_wordHere rmX12_wordHere (va_Pc [.ref h0] (mI dC dI cB cI cJ cZ h0 ad M sz)) (va_Qi (fun (r : Int32) (u : gS) => Q r u) (mB dC dI cB cI cJ cZ h0 ad (va_A (mW cB cI cJ cZ h0 ad M) sz)) (va_A (mW cB cI cJ cZ h0 ad M) sz)) 0 0 (va_A (mW cB cI cJ cZ h0 ad M) sz) := by
  refine Met.ofW (cc := cX12_wordHere) (maxL := 1) (ret := (some .int)) (by decide) rfl ?_
  intro p e s m args below meth c s₁ B hml hv
  obtain ⟨rfl, hsz, hP, hK, hD0⟩ := hv
  have hx := B.exec
  have hb := B.bytes
  have hr := B.returns
  have hts := atoms_spec (ws := wsX12_wordHere) B.pre
  have hown : s.vm.findClass RX12 = some m.cls := findClass_of_methodNamed B.named
  have hlocks := B.notSynchronized
  subst hsz
  have hD := hD0.self (sz := s.heap.size)
  generalize hAe : va_A (mW cB cI cJ cZ h0 ad M) s.heap.size = A at hD ⊢
  have hA : ∀ q : Nat, s.heap.size ≤ q → A q := fun q h => by rw [← hAe]; exact Or.inr h
  have hS : va_S A s.heap s.heap [] := va_S.rf
  have f1 := hts (.constantLong RX12 119 (1936286821)) (by decide +kernel)
  have f2 := hts (.constantLong RX12 121 (1818584692)) (by decide +kernel)
  have f3 := hts (.constantLong RX12 123 (508508140389)) (by decide +kernel)
  have f4 := hts (.constantLong RX12 125 (1835626085)) (by decide +kernel)
  have f5 := hts (.constantLong RX12 127 (127991726830195)) (by decide +kernel)
  have f6 := hts (.constantLong RX12 129 (1818325876)) (by decide +kernel)
  have f7 := hts (.constantLong RX12 131 (448377483876)) (by decide +kernel)
  have f8 := hts (.constantLong RX12 133 (1935763812)) (by decide +kernel)
  have f9 := hts (.constantLong RX12 135 (470021465459)) (by decide +kernel)
  have bE : ∀ (M : gS) (H : Heap) (locs : List Loc) (ls : Array Slot), va_P (dC, dI) vwCl (mW cB cI cJ cZ h0 ad M) H → va_D A (mW cB cI cJ cZ h0 ad M) → va_S A s.heap H locs → lv_has ls 1 [(0, .ref h0)] → wX12_wordHere  M Q → W p l e (headSpec wsX12_wordHere rmX12_wordHere).room s m ([.ref h0] : List Value).toArray below meth c H locs 0 0 (MQ below (va_Qi (fun (r : Int32) (u : gS) => Q r u) (mB dC dI cB cI cJ cZ h0 ad A) A) ([.ref h0] : List Value).toArray s 0 0 A) (F0 m 0 ls []) := by
    intro M H locs ls hP hD hS hl h
    unfold wX12_wordHere at h
    refine lv_aload_n hx hb dX12_wordHere_0 rfl (lv_at hl 0 rfl) ?_
    refine lv_ldc2 (v := (1936286821)) hx hb hown f1 dX12_wordHere_1 ?_
    have hFc := gs_free hD hS hA
    refine va_calli (va_runV (As := [.long (1936286821 : Int64)]) (rest := []) ⟨hx, hb, hml, hown, hts⟩ (kX12_isWord l dC dI cB cI cJ cZ h0 ad H.size (1936286821 : Int64) M _ h) (cwV 1 hts gX12_wordHere_X12_isWord rfl rfl rfl (by decide +kernel) ⟨Nat.le_of_ble_eq_true rfl, Nat.le_of_ble_eq_true rfl⟩) (mpV hK hP hD) rfl rfl hl.1 rfl (lv_room (Nat.le_of_ble_eq_true rfl)) dX12_wordHere_4 ⟨Nat.le_of_ble_eq_true rfl, Nat.le_of_ble_eq_true rfl⟩) hS (fun q _ z => hFc q z) hFc (fun r1 M2 t H1 locs ht hvm hw hB hz1 hk1 hS => ?_)
    obtain ⟨hP, hD⟩ := gs_back ht hFc hB
    generalize H1 = H at hP hS ⊢
    obtain ⟨b3, rfl, h⟩ := hw
    try dsimp only at h
    refine lv_if_eq (tgt := 12) hx hb dX12_wordHere_7 (by decide) (fun c4 => ?_) (fun c4 => ?_)
    · have h := h.1 c4
      refine lv_aload_n hx hb dX12_wordHere_12 rfl (lv_at hl 0 rfl) ?_
      refine lv_ldc2 (v := (1818584692)) hx hb hown f2 dX12_wordHere_13 ?_
      have hFc := gs_free hD hS hA
      refine va_calli (va_runV (As := [.long (1818584692 : Int64)]) (rest := []) ⟨hx, hb, hml, hown, hts⟩ (kX12_isWord l dC dI cB cI cJ cZ h0 ad H.size (1818584692 : Int64) M2 _ h) (cwV 1 hts gX12_wordHere_X12_isWord rfl rfl rfl (by decide +kernel) ⟨Nat.le_of_ble_eq_true rfl, Nat.le_of_ble_eq_true rfl⟩) (mpV hK hP hD) rfl rfl hl.1 rfl (lv_room (Nat.le_of_ble_eq_true rfl)) dX12_wordHere_16 ⟨Nat.le_of_ble_eq_true rfl, Nat.le_of_ble_eq_true rfl⟩) hS (fun q _ z => hFc q z) hFc (fun r5 M6 t H1 locs ht hvm hw hB hz1 hk1 hS => ?_)
      obtain ⟨hP, hD⟩ := gs_back ht hFc hB
      generalize H1 = H at hP hS ⊢
      obtain ⟨b7, rfl, h⟩ := hw
      try dsimp only at h
      refine lv_if_eq (tgt := 24) hx hb dX12_wordHere_19 (by decide) (fun c8 => ?_) (fun c8 => ?_)
      · have h := h.1 c8
        refine lv_aload_n hx hb dX12_wordHere_24 rfl (lv_at hl 0 rfl) ?_
        refine lv_ldc2 (v := (508508140389)) hx hb hown f3 dX12_wordHere_25 ?_
        have hFc := gs_free hD hS hA
        refine va_calli (va_runV (As := [.long (508508140389 : Int64)]) (rest := []) ⟨hx, hb, hml, hown, hts⟩ (kX12_isWord l dC dI cB cI cJ cZ h0 ad H.size (508508140389 : Int64) M6 _ h) (cwV 1 hts gX12_wordHere_X12_isWord rfl rfl rfl (by decide +kernel) ⟨Nat.le_of_ble_eq_true rfl, Nat.le_of_ble_eq_true rfl⟩) (mpV hK hP hD) rfl rfl hl.1 rfl (lv_room (Nat.le_of_ble_eq_true rfl)) dX12_wordHere_28 ⟨Nat.le_of_ble_eq_true rfl, Nat.le_of_ble_eq_true rfl⟩) hS (fun q _ z => hFc q z) hFc (fun r9 M10 t H1 locs ht hvm hw hB hz1 hk1 hS => ?_)
        obtain ⟨hP, hD⟩ := gs_back ht hFc hB
        generalize H1 = H at hP hS ⊢
        obtain ⟨b11, rfl, h⟩ := hw
        try dsimp only at h
        refine lv_if_eq (tgt := 36) hx hb dX12_wordHere_31 (by decide) (fun c12 => ?_) (fun c12 => ?_)
        · have h := h.1 c12
          refine lv_aload_n hx hb dX12_wordHere_36 rfl (lv_at hl 0 rfl) ?_
          refine lv_ldc2 (v := (1835626085)) hx hb hown f4 dX12_wordHere_37 ?_
          have hFc := gs_free hD hS hA
          refine va_calli (va_runV (As := [.long (1835626085 : Int64)]) (rest := []) ⟨hx, hb, hml, hown, hts⟩ (kX12_isWord l dC dI cB cI cJ cZ h0 ad H.size (1835626085 : Int64) M10 _ h) (cwV 1 hts gX12_wordHere_X12_isWord rfl rfl rfl (by decide +kernel) ⟨Nat.le_of_ble_eq_true rfl, Nat.le_of_ble_eq_true rfl⟩) (mpV hK hP hD) rfl rfl hl.1 rfl (lv_room (Nat.le_of_ble_eq_true rfl)) dX12_wordHere_40 ⟨Nat.le_of_ble_eq_true rfl, Nat.le_of_ble_eq_true rfl⟩) hS (fun q _ z => hFc q z) hFc (fun r13 M14 t H1 locs ht hvm hw hB hz1 hk1 hS => ?_)
          obtain ⟨hP, hD⟩ := gs_back ht hFc hB
          generalize H1 = H at hP hS ⊢
          obtain ⟨b15, rfl, h⟩ := hw
          try dsimp only at h
          refine lv_if_eq (tgt := 48) hx hb dX12_wordHere_43 (by decide) (fun c16 => ?_) (fun c16 => ?_)
          · have h := h.1 c16
            refine lv_aload_n hx hb dX12_wordHere_48 rfl (lv_at hl 0 rfl) ?_
            refine lv_ldc2 (v := (127991726830195)) hx hb hown f5 dX12_wordHere_49 ?_
            have hFc := gs_free hD hS hA
            refine va_calli (va_runV (As := [.long (127991726830195 : Int64)]) (rest := []) ⟨hx, hb, hml, hown, hts⟩ (kX12_isWord l dC dI cB cI cJ cZ h0 ad H.size (127991726830195 : Int64) M14 _ h) (cwV 1 hts gX12_wordHere_X12_isWord rfl rfl rfl (by decide +kernel) ⟨Nat.le_of_ble_eq_true rfl, Nat.le_of_ble_eq_true rfl⟩) (mpV hK hP hD) rfl rfl hl.1 rfl (lv_room (Nat.le_of_ble_eq_true rfl)) dX12_wordHere_52 ⟨Nat.le_of_ble_eq_true rfl, Nat.le_of_ble_eq_true rfl⟩) hS (fun q _ z => hFc q z) hFc (fun r17 M18 t H1 locs ht hvm hw hB hz1 hk1 hS => ?_)
            obtain ⟨hP, hD⟩ := gs_back ht hFc hB
            generalize H1 = H at hP hS ⊢
            obtain ⟨b19, rfl, h⟩ := hw
            try dsimp only at h
            refine lv_if_eq (tgt := 60) hx hb dX12_wordHere_55 (by decide) (fun c20 => ?_) (fun c20 => ?_)
            · have h := h.1 c20
              refine lv_aload_n hx hb dX12_wordHere_60 rfl (lv_at hl 0 rfl) ?_
              refine lv_ldc2 (v := (1818325876)) hx hb hown f6 dX12_wordHere_61 ?_
              have hFc := gs_free hD hS hA
              refine va_calli (va_runV (As := [.long (1818325876 : Int64)]) (rest := []) ⟨hx, hb, hml, hown, hts⟩ (kX12_isWord l dC dI cB cI cJ cZ h0 ad H.size (1818325876 : Int64) M18 _ h) (cwV 1 hts gX12_wordHere_X12_isWord rfl rfl rfl (by decide +kernel) ⟨Nat.le_of_ble_eq_true rfl, Nat.le_of_ble_eq_true rfl⟩) (mpV hK hP hD) rfl rfl hl.1 rfl (lv_room (Nat.le_of_ble_eq_true rfl)) dX12_wordHere_64 ⟨Nat.le_of_ble_eq_true rfl, Nat.le_of_ble_eq_true rfl⟩) hS (fun q _ z => hFc q z) hFc (fun r21 M22 t H1 locs ht hvm hw hB hz1 hk1 hS => ?_)
              obtain ⟨hP, hD⟩ := gs_back ht hFc hB
              generalize H1 = H at hP hS ⊢
              obtain ⟨b23, rfl, h⟩ := hw
              try dsimp only at h
              refine lv_if_eq (tgt := 72) hx hb dX12_wordHere_67 (by decide) (fun c24 => ?_) (fun c24 => ?_)
              · have h := h.1 c24
                refine lv_aload_n hx hb dX12_wordHere_72 rfl (lv_at hl 0 rfl) ?_
                refine lv_ldc2 (v := (448377483876)) hx hb hown f7 dX12_wordHere_73 ?_
                have hFc := gs_free hD hS hA
                refine va_calli (va_runV (As := [.long (448377483876 : Int64)]) (rest := []) ⟨hx, hb, hml, hown, hts⟩ (kX12_isWord l dC dI cB cI cJ cZ h0 ad H.size (448377483876 : Int64) M22 _ h) (cwV 1 hts gX12_wordHere_X12_isWord rfl rfl rfl (by decide +kernel) ⟨Nat.le_of_ble_eq_true rfl, Nat.le_of_ble_eq_true rfl⟩) (mpV hK hP hD) rfl rfl hl.1 rfl (lv_room (Nat.le_of_ble_eq_true rfl)) dX12_wordHere_76 ⟨Nat.le_of_ble_eq_true rfl, Nat.le_of_ble_eq_true rfl⟩) hS (fun q _ z => hFc q z) hFc (fun r25 M26 t H1 locs ht hvm hw hB hz1 hk1 hS => ?_)
                obtain ⟨hP, hD⟩ := gs_back ht hFc hB
                generalize H1 = H at hP hS ⊢
                obtain ⟨b27, rfl, h⟩ := hw
                try dsimp only at h
                refine lv_if_eq (tgt := 85) hx hb dX12_wordHere_79 (by decide) (fun c28 => ?_) (fun c28 => ?_)
                · have h := h.1 c28
                  refine lv_aload_n hx hb dX12_wordHere_85 rfl (lv_at hl 0 rfl) ?_
                  refine lv_ldc2 (v := (1935763812)) hx hb hown f8 dX12_wordHere_86 ?_
                  have hFc := gs_free hD hS hA
                  refine va_calli (va_runV (As := [.long (1935763812 : Int64)]) (rest := []) ⟨hx, hb, hml, hown, hts⟩ (kX12_isWord l dC dI cB cI cJ cZ h0 ad H.size (1935763812 : Int64) M26 _ h) (cwV 1 hts gX12_wordHere_X12_isWord rfl rfl rfl (by decide +kernel) ⟨Nat.le_of_ble_eq_true rfl, Nat.le_of_ble_eq_true rfl⟩) (mpV hK hP hD) rfl rfl hl.1 rfl (lv_room (Nat.le_of_ble_eq_true rfl)) dX12_wordHere_89 ⟨Nat.le_of_ble_eq_true rfl, Nat.le_of_ble_eq_true rfl⟩) hS (fun q _ z => hFc q z) hFc (fun r29 M30 t H1 locs ht hvm hw hB hz1 hk1 hS => ?_)
                  obtain ⟨hP, hD⟩ := gs_back ht hFc hB
                  generalize H1 = H at hP hS ⊢
                  obtain ⟨b31, rfl, h⟩ := hw
                  try dsimp only at h
                  refine lv_if_eq (tgt := 100) hx hb dX12_wordHere_92 (by decide) (fun c32 => ?_) (fun c32 => ?_)
                  · have h := h.1 c32
                    refine lv_aload_n hx hb dX12_wordHere_100 rfl (lv_at hl 0 rfl) ?_
                    refine lv_ldc2 (v := (470021465459)) hx hb hown f9 dX12_wordHere_101 ?_
                    have hFc := gs_free hD hS hA
                    refine va_calli (va_runV (As := [.long (470021465459 : Int64)]) (rest := []) ⟨hx, hb, hml, hown, hts⟩ (kX12_isWord l dC dI cB cI cJ cZ h0 ad H.size (470021465459 : Int64) M30 _ h) (cwV 1 hts gX12_wordHere_X12_isWord rfl rfl rfl (by decide +kernel) ⟨Nat.le_of_ble_eq_true rfl, Nat.le_of_ble_eq_true rfl⟩) (mpV hK hP hD) rfl rfl hl.1 rfl (lv_room (Nat.le_of_ble_eq_true rfl)) dX12_wordHere_104 ⟨Nat.le_of_ble_eq_true rfl, Nat.le_of_ble_eq_true rfl⟩) hS (fun q _ z => hFc q z) hFc (fun r33 M34 t H1 locs ht hvm hw hB hz1 hk1 hS => ?_)
                    obtain ⟨hP, hD⟩ := gs_back ht hFc hB
                    generalize H1 = H at hP hS ⊢
                    obtain ⟨b35, rfl, h⟩ := hw
                    try dsimp only at h
                    refine lv_if_eq (tgt := 115) hx hb dX12_wordHere_107 (by decide) (fun c36 => ?_) (fun c36 => ?_)
                    · have h := h.1 c36
                      refine lv_iconst (v := (-1)) hx hb dX12_wordHere_115 (by decide) ?_
                      exact W.iret (v := (-1 : Int32)) hx hb hr (fun t ht hW => ⟨⟨_, M34, rfl, h, by rw [ht]; exact hP, va_K.moved hW.alike hK, hD⟩, hS.F ht⟩) hS.2.2 dX12_wordHere_116
                    · have h := h.2 c36
                      refine lv_bipush (v := (8)) hx hb dX12_wordHere_110 (by decide) ?_
                      refine lv_goto (tgt := 116) hx hb dX12_wordHere_112 (by decide) ?_
                      exact W.iret (v := (8 : Int32)) hx hb hr (fun t ht hW => ⟨⟨_, M34, rfl, h, by rw [ht]; exact hP, va_K.moved hW.alike hK, hD⟩, hS.F ht⟩) hS.2.2 dX12_wordHere_116
                  · have h := h.2 c32
                    refine lv_bipush (v := (7)) hx hb dX12_wordHere_95 (by decide) ?_
                    refine lv_goto (tgt := 116) hx hb dX12_wordHere_97 (by decide) ?_
                    exact W.iret (v := (7 : Int32)) hx hb hr (fun t ht hW => ⟨⟨_, M30, rfl, h, by rw [ht]; exact hP, va_K.moved hW.alike hK, hD⟩, hS.F ht⟩) hS.2.2 dX12_wordHere_116
                · have h := h.2 c28
                  refine lv_bipush (v := (6)) hx hb dX12_wordHere_82 (by decide) ?_
                  exact W.iret (v := (6 : Int32)) hx hb hr (fun t ht hW => ⟨⟨_, M26, rfl, h, by rw [ht]; exact hP, va_K.moved hW.alike hK, hD⟩, hS.F ht⟩) hS.2.2 dX12_wordHere_84
              · have h := h.2 c24
                refine lv_iconst (v := 5) hx hb dX12_wordHere_70 (by decide) ?_
                exact W.iret (v := (5 : Int32)) hx hb hr (fun t ht hW => ⟨⟨_, M22, rfl, h, by rw [ht]; exact hP, va_K.moved hW.alike hK, hD⟩, hS.F ht⟩) hS.2.2 dX12_wordHere_71
            · have h := h.2 c20
              refine lv_iconst (v := 4) hx hb dX12_wordHere_58 (by decide) ?_
              exact W.iret (v := (4 : Int32)) hx hb hr (fun t ht hW => ⟨⟨_, M18, rfl, h, by rw [ht]; exact hP, va_K.moved hW.alike hK, hD⟩, hS.F ht⟩) hS.2.2 dX12_wordHere_59
          · have h := h.2 c16
            refine lv_iconst (v := 3) hx hb dX12_wordHere_46 (by decide) ?_
            exact W.iret (v := (3 : Int32)) hx hb hr (fun t ht hW => ⟨⟨_, M14, rfl, h, by rw [ht]; exact hP, va_K.moved hW.alike hK, hD⟩, hS.F ht⟩) hS.2.2 dX12_wordHere_47
        · have h := h.2 c12
          refine lv_iconst (v := 2) hx hb dX12_wordHere_34 (by decide) ?_
          exact W.iret (v := (2 : Int32)) hx hb hr (fun t ht hW => ⟨⟨_, M10, rfl, h, by rw [ht]; exact hP, va_K.moved hW.alike hK, hD⟩, hS.F ht⟩) hS.2.2 dX12_wordHere_35
      · have h := h.2 c8
        refine lv_iconst (v := 1) hx hb dX12_wordHere_22 (by decide) ?_
        exact W.iret (v := (1 : Int32)) hx hb hr (fun t ht hW => ⟨⟨_, M6, rfl, h, by rw [ht]; exact hP, va_K.moved hW.alike hK, hD⟩, hS.F ht⟩) hS.2.2 dX12_wordHere_23
    · have h := h.2 c4
      refine lv_iconst (v := 0) hx hb dX12_wordHere_10 (by decide) ?_
      exact W.iret (v := (0 : Int32)) hx hb hr (fun t ht hW => ⟨⟨_, M2, rfl, h, by rw [ht]; exact hP, va_K.moved hW.alike hK, hD⟩, hS.F ht⟩) hS.2.2 dX12_wordHere_11
  have hl := lv_entry ([.ref h0]) (n := 1) (Nat.le_of_ble_eq_true rfl)
  rw [lg_entry_eq]
  generalize (lg_sl ([.ref h0]) ++ List.replicate (1 - (lg_sl ([.ref h0])).length) Slot.unset).toArray = ls at hl ⊢
  have hl : lv_has ls 1 [(0, .ref h0)] := hl
  exact bE M s.heap [] ls hP hD hS hl h
def wX12_puts (p1 : Int32) (p2 : Int32) (M : gS) (Q : gS → Prop) : Prop :=
 (vp_in (mg M 16) 7 ∧ (∀ x1 : Int32, x1 = (p1 + ((16 : Int32) * p2)) → (vp_in (((400 : Int32) * (mg M 16)) + (ma M 4 (Int32.toNatClampNeg (mg M 16)))) 2400 ∧ (∀ M2 : gS, M2 = sa M 3 (Int32.toNatClampNeg (((400 : Int32) * (mg M 16)) + (ma M 4 (Int32.toNatClampNeg (mg M 16))))) x1 → (vp_in (mg M2 16) 7 ∧ (∀ x3 : Int32, x3 = ((ma M2 4 (Int32.toNatClampNeg (mg M2 16))) + (1 : Int32)) → (vp_in (mg M2 16) 7 ∧ (∀ M4 : gS, M4 = sa M2 4 (Int32.toNatClampNeg (mg M2 16)) x3 → (Q M4)))))))))
def rmX12_puts : Room := { frames := 0, cells := 0, slots := 0, locals := 0 }
set_option maxHeartbeats 4000000 in
set_option maxRecDepth 100000 in
theorem kX12_puts (l : Launch) (dC : Nat → ClassId) (dI : Nat → Nat → Nat) (cB cI cJ cZ : ClassId) (h0 : Nat) (ad : Nat → Nat) (sz : Nat) (p1 : Int32) (p2 : Int32) (M : gS) (Q : gS → Prop) (h : wX12_puts p1 p2 M Q) : Met l yX12_puts wsX12_puts rmX12_puts (va_Pc [.ref h0, .int p1, .int p2] (mI dC dI cB cI cJ cZ h0 ad M sz)) (va_Qv (fun (u : gS) => Q u) (mB dC dI cB cI cJ cZ h0 ad (va_A (mW cB cI cJ cZ h0 ad M) sz)) (va_A (mW cB cI cJ cZ h0 ad M) sz)) 0 0 (va_A (mW cB cI cJ cZ h0 ad M) sz) := by
  refine Met.ofW (cc := cX12_puts) (maxL := 3) (ret := none) (by decide) rfl ?_
  intro p e s m args below meth c s₁ B hml hv
  obtain ⟨rfl, hsz, hP, hK, hD0⟩ := hv
  have hx := B.exec
  have hb := B.bytes
  have hr := B.returns
  have hts := atoms_spec (ws := wsX12_puts) B.pre
  have hown : s.vm.findClass RX12 = some m.cls := findClass_of_methodNamed B.named
  have hlocks := B.notSynchronized
  subst hsz
  have hD := hD0.self (sz := s.heap.size)
  generalize hAe : va_A (mW cB cI cJ cZ h0 ad M) s.heap.size = A at hD ⊢
  have hA : ∀ q : Nat, s.heap.size ≤ q → A q := fun q h => by rw [← hAe]; exact Or.inr h
  have hS : va_S A s.heap s.heap [] := va_S.rf
  have hin : ∀ w ∈ wsX120, w ∈ wsX12_puts := fun w h => List.mem_cons_of_mem _ (List.mem_append_right _ h)
  have f1 := hts (.fieldLink RX12 13 "LastWordsModel" "sign" "[I") (by decide +kernel)
  have f2 := hts (.fieldLink RX12 137 "LastWordsModel" "text" "I") (by decide +kernel)
  have f3 := hts (.fieldLink RX12 17 "LastWordsModel" "length" "[I") (by decide +kernel)
  have bE : ∀ (M : gS) (H : Heap) (locs : List Loc) (ls : Array Slot), va_P (dC, dI) vwCl (mW cB cI cJ cZ h0 ad M) H → va_D A (mW cB cI cJ cZ h0 ad M) → va_S A s.heap H locs → lv_has ls 3 [(0, .ref h0), (1, .int p1), (2, .int p2)] → wX12_puts p1 p2 M Q → W p l e (headSpec wsX12_puts rmX12_puts).room s m ([.ref h0, .int p1, .int p2] : List Value).toArray below meth c H locs 0 0 (MQ below (va_Qv (fun (u : gS) => Q u) (mB dC dI cB cI cJ cZ h0 ad A) A) ([.ref h0, .int p1, .int p2] : List Value).toArray s 0 0 A) (F0 m 0 ls []) := by
    intro M H locs ls hP hD hS hl h
    unfold wX12_puts at h
    refine lv_aload_n hx hb dX12_puts_0 rfl (lv_at hl 0 rfl) ?_
    refine va_get (D := (dC, dI)) (ci := 12) (v := .ref (ad 3)) (C := RX12) (T := TX12) (N := 37) hx hb hts hin hown hK hP 0 rfl rfl 3 (by decide) f1 (fun _ h9 => h9) rfl dX12_puts_1 ?_
    refine lv_sipush (v := (400)) hx hb dX12_puts_4 (by decide) ?_
    refine lv_aload_n hx hb dX12_puts_7 rfl (lv_at hl 0 rfl) ?_
    refine va_get (D := (dC, dI)) (ci := 12) (v := .int (mg M 16)) (C := RX12) (T := TX12) (N := 37) hx hb hts hin hown hK hP 0 rfl rfl 16 (by decide) f2 (fun _ h9 => h9) rfl dX12_puts_8 ?_
    refine lv_imul hx hb dX12_puts_11 ?_
    refine lv_aload_n hx hb dX12_puts_12 rfl (lv_at hl 0 rfl) ?_
    refine va_get (D := (dC, dI)) (ci := 12) (v := .ref (ad 4)) (C := RX12) (T := TX12) (N := 37) hx hb hts hin hown hK hP 0 rfl rfl 4 (by decide) f3 (fun _ h9 => h9) rfl dX12_puts_13 ?_
    refine lv_aload_n hx hb dX12_puts_16 rfl (lv_at hl 0 rfl) ?_
    refine va_get (D := (dC, dI)) (ci := 12) (v := .int (mg M 16)) (C := RX12) (T := TX12) (N := 37) hx hb hts hin hown hK hP 0 rfl rfl 16 (by decide) f2 (fun _ h9 => h9) rfl dX12_puts_17 ?_
    refine va_iald hx hb hK hP 3 1 (f := ma M 4) rfl rfl h.1 dX12_puts_20 ?_
    have h := h.2
    refine lv_iadd hx hb dX12_puts_21 ?_
    refine lv_iload_n hx hb dX12_puts_22 rfl (lv_at hl 1 rfl) ?_
    refine lv_bipush (v := (16)) hx hb dX12_puts_23 (by decide) ?_
    refine lv_iload_n hx hb dX12_puts_25 rfl (lv_at hl 2 rfl) ?_
    refine lv_imul hx hb dX12_puts_26 ?_
    refine lv_iadd hx hb dX12_puts_27 ?_
    refine lv_topi (fun x1 ex1 => ?_)
    have h := h x1 ex1
    refine va_iast hx hb hK hP hD hS 2 1 (f := ma M 3) rfl rfl h.1 dX12_puts_28 (fun H locs hP hD hS => ?_)
    have h := h.2
    have hP := mP_a3 hP
    have hD := mD_a3 hD
    have h := h _ rfl
    generalize sa M 3 (Int32.toNatClampNeg (((400 : Int32) * (mg M 16)) + (ma M 4 (Int32.toNatClampNeg (mg M 16))))) x1 = M2 at hP hD h
    refine lv_aload_n hx hb dX12_puts_29 rfl (lv_at hl 0 rfl) ?_
    refine va_get (D := (dC, dI)) (ci := 12) (v := .ref (ad 4)) (C := RX12) (T := TX12) (N := 37) hx hb hts hin hown hK hP 0 rfl rfl 4 (by decide) f3 (fun _ h9 => h9) rfl dX12_puts_30 ?_
    refine lv_aload_n hx hb dX12_puts_33 rfl (lv_at hl 0 rfl) ?_
    refine va_get (D := (dC, dI)) (ci := 12) (v := .int (mg M2 16)) (C := RX12) (T := TX12) (N := 37) hx hb hts hin hown hK hP 0 rfl rfl 16 (by decide) f2 (fun _ h9 => h9) rfl dX12_puts_34 ?_
    refine lv_dup2_11 hx hb dX12_puts_37 rfl rfl ?_
    refine va_iald hx hb hK hP 3 1 (f := ma M2 4) rfl rfl h.1 dX12_puts_38 ?_
    have h := h.2
    refine lv_iconst (v := 1) hx hb dX12_puts_39 (by decide) ?_
    refine lv_iadd hx hb dX12_puts_40 ?_
    refine lv_topi (fun x3 ex3 => ?_)
    have h := h x3 ex3
    refine va_iast hx hb hK hP hD hS 3 1 (f := ma M2 4) rfl rfl h.1 dX12_puts_41 (fun H locs hP hD hS => ?_)
    have h := h.2
    have hP := mP_a4 hP
    have hD := mD_a4 hD
    have h := h _ rfl
    generalize sa M2 4 (Int32.toNatClampNeg (mg M2 16)) x3 = M4 at hP hD h
    exact W.vret hx hb hr (fun t ht hW => ⟨⟨M4, rfl, h, by rw [ht]; exact hP, va_K.moved hW.alike hK, hD⟩, hS.F ht⟩) hS.2.2 dX12_puts_42
  have hl := lv_entry ([.ref h0, .int p1, .int p2]) (n := 3) (Nat.le_of_ble_eq_true rfl)
  rw [lg_entry_eq]
  generalize (lg_sl ([.ref h0, .int p1, .int p2]) ++ List.replicate (3 - (lg_sl ([.ref h0, .int p1, .int p2])).length) Slot.unset).toArray = ls at hl ⊢
  have hl : lv_has ls 3 [(0, .ref h0), (1, .int p1), (2, .int p2)] := hl
  exact bE M s.heap [] ls hP hD hS hl h
def wX12_makes (p1 : Int32) (M : gS) (Q : Bool → gS → Prop) : Prop :=
 (((mg M 17) = (60 : Int32) → (wX12_fails (3 : Int32) p1 M (fun (b6 : Bool) (M5 : gS) => (Q b6 M5))))
 ∧ (¬ (mg M 17) = (60 : Int32) → (∀ x2 : Int32, x2 = ((mg M 17) + (1 : Int32)) → (∀ M3 : gS, M3 = sg M 17 x2 → (Q true M3)))))
def rmX12_makes : Room := { frames := 1, cells := 0, slots := 0, locals := 22 }
set_option maxHeartbeats 4000000 in
set_option maxRecDepth 100000 in
theorem kX12_makes (l : Launch) (dC : Nat → ClassId) (dI : Nat → Nat → Nat) (cB cI cJ cZ : ClassId) (h0 : Nat) (ad : Nat → Nat) (sz : Nat) (p1 : Int32) (M : gS) (Q : Bool → gS → Prop) (h : wX12_makes p1 M Q) : Met l yX12_makes wsX12_makes rmX12_makes (va_Pc [.ref h0, .int p1] (mI dC dI cB cI cJ cZ h0 ad M sz)) (va_Qi (fun (r : Int32) (u : gS) => ∃ b : Bool, r = bI b ∧ Q b u) (mB dC dI cB cI cJ cZ h0 ad (va_A (mW cB cI cJ cZ h0 ad M) sz)) (va_A (mW cB cI cJ cZ h0 ad M) sz)) 0 0 (va_A (mW cB cI cJ cZ h0 ad M) sz) := by
  refine Met.ofW (cc := cX12_makes) (maxL := 2) (ret := (some .boolean)) (by decide) rfl ?_
  intro p e s m args below meth c s₁ B hml hv
  obtain ⟨rfl, hsz, hP, hK, hD0⟩ := hv
  have hx := B.exec
  have hb := B.bytes
  have hr := B.returns
  have hts := atoms_spec (ws := wsX12_makes) B.pre
  have hown : s.vm.findClass RX12 = some m.cls := findClass_of_methodNamed B.named
  have hlocks := B.notSynchronized
  subst hsz
  have hD := hD0.self (sz := s.heap.size)
  generalize hAe : va_A (mW cB cI cJ cZ h0 ad M) s.heap.size = A at hD ⊢
  have hA : ∀ q : Nat, s.heap.size ≤ q → A q := fun q h => by rw [← hAe]; exact Or.inr h
  have hS : va_S A s.heap s.heap [] := va_S.rf
  have hin : ∀ w ∈ wsX120, w ∈ wsX12_makes := fun w h => List.mem_cons_of_mem _ (List.mem_append_right _ h)
  have f1 := hts (.fieldLink RX12 140 "LastWordsModel" "made" "I") (by decide +kernel)
  have bE : ∀ (M : gS) (H : Heap) (locs : List Loc) (ls : Array Slot), va_P (dC, dI) vwCl (mW cB cI cJ cZ h0 ad M) H → va_D A (mW cB cI cJ cZ h0 ad M) → va_S A s.heap H locs → lv_has ls 2 [(0, .ref h0), (1, .int p1)] → wX12_makes p1 M Q → W p l e (headSpec wsX12_makes rmX12_makes).room s m ([.ref h0, .int p1] : List Value).toArray below meth c H locs 0 0 (MQ below (va_Qi (fun (r : Int32) (u : gS) => ∃ b : Bool, r = bI b ∧ Q b u) (mB dC dI cB cI cJ cZ h0 ad A) A) ([.ref h0, .int p1] : List Value).toArray s 0 0 A) (F0 m 0 ls []) := by
    intro M H locs ls hP hD hS hl h
    unfold wX12_makes at h
    refine lv_aload_n hx hb dX12_makes_0 rfl (lv_at hl 0 rfl) ?_
    refine va_get (D := (dC, dI)) (ci := 12) (v := .int (mg M 17)) (C := RX12) (T := TX12) (N := 37) hx hb hts hin hown hK hP 0 rfl rfl 17 (by decide) f1 (fun _ h9 => h9) rfl dX12_makes_1 ?_
    refine lv_bipush (v := (60)) hx hb dX12_makes_4 (by decide) ?_
    refine lv_icmp_ne (tgt := 16) hx hb dX12_makes_6 (by decide) (fun c1 => ?_) (fun c1 => ?_)
    · have h := h.2 c1
      refine lv_aload_n hx hb dX12_makes_16 rfl (lv_at hl 0 rfl) ?_
      refine lv_dup hx hb dX12_makes_17 rfl ?_
      refine va_get (D := (dC, dI)) (ci := 12) (v := .int (mg M 17)) (C := RX12) (T := TX12) (N := 37) hx hb hts hin hown hK hP 0 rfl rfl 17 (by decide) f1 (fun _ h9 => h9) rfl dX12_makes_18 ?_
      refine lv_iconst (v := 1) hx hb dX12_makes_21 (by decide) ?_
      refine lv_iadd hx hb dX12_makes_22 ?_
      refine lv_topi (fun x2 ex2 => ?_)
      have h := h x2 ex2
      refine va_put (D := (dC, dI)) (ci := 12) (v := .int x2) (ty := .int) (C := RX12) (T := TX12) (N := 37) hx hb hts hin tyX12 tyX12_ok nmX12 hown hK hP hD hS 0 rfl rfl 17 (by decide) f1 (fun _ h9 => h9) rfl (by decide +kernel) rfl rfl (Nat.le_of_ble_eq_true rfl) dX12_makes_23 (fun H locs hP hD hS => ?_)
      have hP := mP_f17 hP
      have hD := mD_f17 hD
      have h := h _ rfl
      generalize sg M 17 x2 = M3 at hP hD h
      refine lv_iconst (v := 1) hx hb dX12_makes_26 (by decide) ?_
      exact W.zret (v := (bI true)) hx hb hr (nar_bI true) (fun t ht hW => ⟨⟨_, M3, rfl, ⟨true, rfl, h⟩, by rw [ht]; exact hP, va_K.moved hW.alike hK, hD⟩, hS.F ht⟩) hS.2.2 dX12_makes_27
    · have h := h.1 c1
      refine lv_aload_n hx hb dX12_makes_9 rfl (lv_at hl 0 rfl) ?_
      refine lv_iconst (v := 3) hx hb dX12_makes_10 (by decide) ?_
      refine lv_iload_n hx hb dX12_makes_11 rfl (lv_at hl 1 rfl) ?_
      have hFc := gs_free hD hS hA
      refine va_calli (va_runV (As := [.int (3 : Int32), .int p1]) (rest := []) ⟨hx, hb, hml, hown, hts⟩ (kX12_fails l dC dI cB cI cJ cZ h0 ad H.size (3 : Int32) p1 M _ h) (cwV 2 hts gX12_makes_X12_fails rfl rfl rfl (by decide +kernel) ⟨Nat.le_of_ble_eq_true rfl, Nat.le_of_ble_eq_true rfl⟩) (mpV hK hP hD) rfl rfl hl.1 rfl (lv_room (Nat.le_of_ble_eq_true rfl)) dX12_makes_12 ⟨Nat.le_of_ble_eq_true rfl, Nat.le_of_ble_eq_true rfl⟩) hS (fun q _ z => hFc q z) hFc (fun r4 M5 t H1 locs ht hvm hw hB hz1 hk1 hS => ?_)
      obtain ⟨hP, hD⟩ := gs_back ht hFc hB
      generalize H1 = H at hP hS ⊢
      obtain ⟨b6, rfl, h⟩ := hw
      try dsimp only at h
      exact W.zret (v := (bI b6)) hx hb hr (nar_bI b6) (fun t ht hW => ⟨⟨_, M5, rfl, ⟨b6, rfl, h⟩, by rw [ht]; exact hP, va_K.moved hW.alike hK, hD⟩, hS.F ht⟩) hS.2.2 dX12_makes_15
  have hl := lv_entry ([.ref h0, .int p1]) (n := 2) (Nat.le_of_ble_eq_true rfl)
  rw [lg_entry_eq]
  generalize (lg_sl ([.ref h0, .int p1]) ++ List.replicate (2 - (lg_sl ([.ref h0, .int p1])).length) Slot.unset).toArray = ls at hl ⊢
  have hl : lv_has ls 2 [(0, .ref h0), (1, .int p1)] := hl
  exact bE M s.heap [] ls hP hD hS hl h
def wX12_opens (p1 : Int32) (M : gS) (Q : Bool → gS → Prop) : Prop :=
 (((mg M 18) = (10 : Int32) → (wX12_fails (2 : Int32) (mg M 13) M (fun (b9 : Bool) (M8 : gS) => (Q b9 M8))))
 ∧ (¬ (mg M 18) = (10 : Int32) → (∀ x2 : Int32, x2 = ((mg M 18) + (1 : Int32)) → (∀ M3 : gS, M3 = sg M 18 x2 → (vp_in (mg M3 21) 400 ∧ (∀ M4 : gS, M4 = sa M3 20 (Int32.toNatClampNeg (mg M3 21)) p1 → (∀ x5 : Int32, x5 = ((mg M4 21) + (1 : Int32)) → (∀ M6 : gS, M6 = sg M4 21 x5 → (Q true M6)))))))))
def rmX12_opens : Room := { frames := 1, cells := 0, slots := 0, locals := 22 }
set_option maxHeartbeats 4000000 in
set_option maxRecDepth 100000 in
theorem kX12_opens (l : Launch) (dC : Nat → ClassId) (dI : Nat → Nat → Nat) (cB cI cJ cZ : ClassId) (h0 : Nat) (ad : Nat → Nat) (sz : Nat) (p1 : Int32) (M : gS) (Q : Bool → gS → Prop) (h : wX12_opens p1 M Q) : Met l yX12_opens wsX12_opens rmX12_opens (va_Pc [.ref h0, .int p1] (mI dC dI cB cI cJ cZ h0 ad M sz)) (va_Qi (fun (r : Int32) (u : gS) => ∃ b : Bool, r = bI b ∧ Q b u) (mB dC dI cB cI cJ cZ h0 ad (va_A (mW cB cI cJ cZ h0 ad M) sz)) (va_A (mW cB cI cJ cZ h0 ad M) sz)) 0 0 (va_A (mW cB cI cJ cZ h0 ad M) sz) := by
  refine Met.ofW (cc := cX12_opens) (maxL := 2) (ret := (some .boolean)) (by decide) rfl ?_
  intro p e s m args below meth c s₁ B hml hv
  obtain ⟨rfl, hsz, hP, hK, hD0⟩ := hv
  have hx := B.exec
  have hb := B.bytes
  have hr := B.returns
  have hts := atoms_spec (ws := wsX12_opens) B.pre
  have hown : s.vm.findClass RX12 = some m.cls := findClass_of_methodNamed B.named
  have hlocks := B.notSynchronized
  subst hsz
  have hD := hD0.self (sz := s.heap.size)
  generalize hAe : va_A (mW cB cI cJ cZ h0 ad M) s.heap.size = A at hD ⊢
  have hA : ∀ q : Nat, s.heap.size ≤ q → A q := fun q h => by rw [← hAe]; exact Or.inr h
  have hS : va_S A s.heap s.heap [] := va_S.rf
  have hin : ∀ w ∈ wsX120, w ∈ wsX12_opens := fun w h => List.mem_cons_of_mem _ (List.mem_append_right _ h)
  have f1 := hts (.fieldLink RX12 143 "LastWordsModel" "deep" "I") (by decide +kernel)
  have f2 := hts (.fieldLink RX12 35 "LastWordsModel" "open" "[I") (by decide +kernel)
  have f3 := hts (.fieldLink RX12 146 "LastWordsModel" "opened" "I") (by decide +kernel)
  have f4 := hts (.fieldLink RX12 87 "LastWordsModel" "next" "I") (by decide +kernel)
  have bE : ∀ (M : gS) (H : Heap) (locs : List Loc) (ls : Array Slot), va_P (dC, dI) vwCl (mW cB cI cJ cZ h0 ad M) H → va_D A (mW cB cI cJ cZ h0 ad M) → va_S A s.heap H locs → lv_has ls 2 [(0, .ref h0), (1, .int p1)] → wX12_opens p1 M Q → W p l e (headSpec wsX12_opens rmX12_opens).room s m ([.ref h0, .int p1] : List Value).toArray below meth c H locs 0 0 (MQ below (va_Qi (fun (r : Int32) (u : gS) => ∃ b : Bool, r = bI b ∧ Q b u) (mB dC dI cB cI cJ cZ h0 ad A) A) ([.ref h0, .int p1] : List Value).toArray s 0 0 A) (F0 m 0 ls []) := by
    intro M H locs ls hP hD hS hl h
    unfold wX12_opens at h
    refine lv_aload_n hx hb dX12_opens_0 rfl (lv_at hl 0 rfl) ?_
    refine va_get (D := (dC, dI)) (ci := 12) (v := .int (mg M 18)) (C := RX12) (T := TX12) (N := 37) hx hb hts hin hown hK hP 0 rfl rfl 18 (by decide) f1 (fun _ h9 => h9) rfl dX12_opens_1 ?_
    refine lv_bipush (v := (10)) hx hb dX12_opens_4 (by decide) ?_
    refine lv_icmp_ne (tgt := 19) hx hb dX12_opens_6 (by decide) (fun c1 => ?_) (fun c1 => ?_)
    · have h := h.2 c1
      refine lv_aload_n hx hb dX12_opens_19 rfl (lv_at hl 0 rfl) ?_
      refine lv_dup hx hb dX12_opens_20 rfl ?_
      refine va_get (D := (dC, dI)) (ci := 12) (v := .int (mg M 18)) (C := RX12) (T := TX12) (N := 37) hx hb hts hin hown hK hP 0 rfl rfl 18 (by decide) f1 (fun _ h9 => h9) rfl dX12_opens_21 ?_
      refine lv_iconst (v := 1) hx hb dX12_opens_24 (by decide) ?_
      refine lv_iadd hx hb dX12_opens_25 ?_
      refine lv_topi (fun x2 ex2 => ?_)
      have h := h x2 ex2
      refine va_put (D := (dC, dI)) (ci := 12) (v := .int x2) (ty := .int) (C := RX12) (T := TX12) (N := 37) hx hb hts hin tyX12 tyX12_ok nmX12 hown hK hP hD hS 0 rfl rfl 18 (by decide) f1 (fun _ h9 => h9) rfl (by decide +kernel) rfl rfl (Nat.le_of_ble_eq_true rfl) dX12_opens_26 (fun H locs hP hD hS => ?_)
      have hP := mP_f18 hP
      have hD := mD_f18 hD
      have h := h _ rfl
      generalize sg M 18 x2 = M3 at hP hD h
      refine lv_aload_n hx hb dX12_opens_29 rfl (lv_at hl 0 rfl) ?_
      refine va_get (D := (dC, dI)) (ci := 12) (v := .ref (ad 20)) (C := RX12) (T := TX12) (N := 37) hx hb hts hin hown hK hP 0 rfl rfl 20 (by decide) f2 (fun _ h9 => h9) rfl dX12_opens_30 ?_
      refine lv_aload_n hx hb dX12_opens_33 rfl (lv_at hl 0 rfl) ?_
      refine va_get (D := (dC, dI)) (ci := 12) (v := .int (mg M3 21)) (C := RX12) (T := TX12) (N := 37) hx hb hts hin hown hK hP 0 rfl rfl 21 (by decide) f3 (fun _ h9 => h9) rfl dX12_opens_34 ?_
      refine lv_iload_n hx hb dX12_opens_37 rfl (lv_at hl 1 rfl) ?_
      refine va_iast hx hb hK hP hD hS 9 1 (f := ma M3 20) rfl rfl h.1 dX12_opens_38 (fun H locs hP hD hS => ?_)
      have h := h.2
      have hP := mP_a20 hP
      have hD := mD_a20 hD
      have h := h _ rfl
      generalize sa M3 20 (Int32.toNatClampNeg (mg M3 21)) p1 = M4 at hP hD h
      refine lv_aload_n hx hb dX12_opens_39 rfl (lv_at hl 0 rfl) ?_
      refine lv_dup hx hb dX12_opens_40 rfl ?_
      refine va_get (D := (dC, dI)) (ci := 12) (v := .int (mg M4 21)) (C := RX12) (T := TX12) (N := 37) hx hb hts hin hown hK hP 0 rfl rfl 21 (by decide) f3 (fun _ h9 => h9) rfl dX12_opens_41 ?_
      refine lv_iconst (v := 1) hx hb dX12_opens_44 (by decide) ?_
      refine lv_iadd hx hb dX12_opens_45 ?_
      refine lv_topi (fun x5 ex5 => ?_)
      have h := h x5 ex5
      refine va_put (D := (dC, dI)) (ci := 12) (v := .int x5) (ty := .int) (C := RX12) (T := TX12) (N := 37) hx hb hts hin tyX12 tyX12_ok nmX12 hown hK hP hD hS 0 rfl rfl 21 (by decide) f3 (fun _ h9 => h9) rfl (by decide +kernel) rfl rfl (Nat.le_of_ble_eq_true rfl) dX12_opens_46 (fun H locs hP hD hS => ?_)
      have hP := mP_f21 hP
      have hD := mD_f21 hD
      have h := h _ rfl
      generalize sg M4 21 x5 = M6 at hP hD h
      refine lv_iconst (v := 1) hx hb dX12_opens_49 (by decide) ?_
      exact W.zret (v := (bI true)) hx hb hr (nar_bI true) (fun t ht hW => ⟨⟨_, M6, rfl, ⟨true, rfl, h⟩, by rw [ht]; exact hP, va_K.moved hW.alike hK, hD⟩, hS.F ht⟩) hS.2.2 dX12_opens_50
    · have h := h.1 c1
      refine lv_aload_n hx hb dX12_opens_9 rfl (lv_at hl 0 rfl) ?_
      refine lv_iconst (v := 2) hx hb dX12_opens_10 (by decide) ?_
      refine lv_aload_n hx hb dX12_opens_11 rfl (lv_at hl 0 rfl) ?_
      refine va_get (D := (dC, dI)) (ci := 12) (v := .int (mg M 13)) (C := RX12) (T := TX12) (N := 37) hx hb hts hin hown hK hP 0 rfl rfl 13 (by decide) f4 (fun _ h9 => h9) rfl dX12_opens_12 ?_
      have hFc := gs_free hD hS hA
      refine va_calli (va_runV (As := [.int (2 : Int32), .int (mg M 13)]) (rest := []) ⟨hx, hb, hml, hown, hts⟩ (kX12_fails l dC dI cB cI cJ cZ h0 ad H.size (2 : Int32) (mg M 13) M _ h) (cwV 2 hts gX12_opens_X12_fails rfl rfl rfl (by decide +kernel) ⟨Nat.le_of_ble_eq_true rfl, Nat.le_of_ble_eq_true rfl⟩) (mpV hK hP hD) rfl rfl hl.1 rfl (lv_room (Nat.le_of_ble_eq_true rfl)) dX12_opens_15 ⟨Nat.le_of_ble_eq_true rfl, Nat.le_of_ble_eq_true rfl⟩) hS (fun q _ z => hFc q z) hFc (fun r7 M8 t H1 locs ht hvm hw hB hz1 hk1 hS => ?_)
      obtain ⟨hP, hD⟩ := gs_back ht hFc hB
      generalize H1 = H at hP hS ⊢
      obtain ⟨b9, rfl, h⟩ := hw
      try dsimp only at h
      exact W.zret (v := (bI b9)) hx hb hr (nar_bI b9) (fun t ht hW => ⟨⟨_, M8, rfl, ⟨b9, rfl, h⟩, by rw [ht]; exact hP, va_K.moved hW.alike hK, hD⟩, hS.F ht⟩) hS.2.2 dX12_opens_18
  have hl := lv_entry ([.ref h0, .int p1]) (n := 2) (Nat.le_of_ble_eq_true rfl)
  rw [lg_entry_eq]
  generalize (lg_sl ([.ref h0, .int p1]) ++ List.replicate (2 - (lg_sl ([.ref h0, .int p1])).length) Slot.unset).toArray = ls at hl ⊢
  have hl : lv_has ls 2 [(0, .ref h0), (1, .int p1)] := hl
  exact bE M s.heap [] ls hP hD hS hl h
