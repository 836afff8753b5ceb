def fl (f : Nat → Int32) (n : Nat) (v : Int32) : Nat → Int32 := fun j => if j < n then v else f j
theorem fl_s (f : Nat → Int32) (i : Nat) (v : Int32) : upd (fl f i v) i v = fl f (i + 1) v := by
  funext j
  unfold upd fl
  by_cases h : j = i
  · subst h; simp
  · rw [if_neg h]
    by_cases h2 : j < i
    · rw [if_pos h2, if_pos (by omega)]
    · rw [if_neg h2, if_neg (by omega)]
theorem fl_0 (f : Nat → Int32) (v : Int32) : fl f 0 v = f := by
  funext j
  unfold fl
  rw [if_neg (by omega)]
abbrev t1W (cI : ClassId) (a n : Nat) (f : Nat → Int32) : va_W := [(a, .inl (cI, n, .inl f))]
abbrev t1I (dC : Nat → ClassId) (dI : Nat → Nat → Nat) (cI : ClassId) (a n : Nat) (f : Nat → Int32) (sz : Nat) : State → Prop := fun U => U.heap.size = sz ∧ va_P (dC, dI) vwCl (t1W cI a n f) U.heap ∧ va_K (dC, dI) vwCl [(cI, .int)] U ∧ va_D (fun _ => True) (t1W cI a n f)
abbrev t1B (dC : Nat → ClassId) (dI : Nat → Nat → Nat) (cI : ClassId) (a n : Nat) (A : Nat → Prop) (f : Nat → Int32) (t : State) : Prop := va_P (dC, dI) vwCl (t1W cI a n f) t.heap ∧ va_K (dC, dI) vwCl [(cI, .int)] t ∧ va_D A (t1W cI a n f)
theorem t1pS {s : State} {dC : Nat → ClassId} {dI : Nat → Nat → Nat} {A : Nat → Prop} {cI : ClassId} {a n : Nat} {f : Nat → Int32} {H : Heap} {As : List Value} (hK : va_K (dC, dI) vwCl [(cI, .int)] s) (hP : va_P (dC, dI) vwCl (t1W cI a n f) H) (hD : va_D A (t1W cI a n f)) : PreS s H (va_Pc As (t1I dC dI cI a n f H.size)) As := ⟨fun a U g mk q => by obtain ⟨q0, q1, qP, qK, qD⟩ := q; exact ⟨q0, q1, qP, va_K.moved (u := U) (U := U.calling g mk a) (Vm.Alike.refl U.vm) qK, qD⟩, fun U hU hW => ⟨rfl, by rw [hU], by rw [hU]; exact hP, va_K.moved hW.alike hK, hD.weaken (fun _ _ _ _ => trivial)⟩⟩
set_option maxHeartbeats 4000000 in
set_option maxRecDepth 100000 in
theorem kJ7_fill (l : Launch) (dC : Nat → ClassId) (dI : Nat → Nat → Nat) (cI : ClassId) (a n : Nat) (hn : n < 2 ^ 31) (sz : Nat) (p2 : Int32) (f : Nat → Int32) : Met l yJ7_fill_53178 wsJ7_fill_53178 ({ frames := 0, cells := 0, slots := 0, locals := 0 }) (va_Pc [.ref a, .int p2] (t1I dC dI cI a n f sz)) (va_Qv (fun (u : Nat → Int32) => u = fl f n p2) (t1B dC dI cI a n (va_A (t1W cI a n f) sz)) (va_A (t1W cI a n f) sz)) 0 0 (va_A (t1W cI a n f) sz) := by
  refine Met.ofW (cc := cJ7_fill_53178) (maxL := 4) (ret := none) (by decide) rfl ?_
  intro p e s m args below meth c s₁ B hml hv
  obtain ⟨rfl, hsz, hP, hK, hD0⟩ := hv
  have hx := B.exec
  have hb := B.bytes
  have hr := B.returns
  have hlocks := B.notSynchronized
  subst hsz
  have hD := hD0.self (sz := s.heap.size)
  generalize hAe : va_A (t1W cI a n f) s.heap.size = A at hD ⊢
  have hA : ∀ q : Nat, s.heap.size ≤ q → A q := fun q h => by rw [← hAe]; exact Or.inr h
  have hS : va_S A s.heap s.heap [] := va_S.rf
  have b5 : ∀ (k i : Nat) (H : Heap) (locs : List Loc) (ls : Array Slot), i + k = n → va_P (dC, dI) vwCl (t1W cI a n (fl f i p2)) H → va_D A (t1W cI a n (fl f i p2)) → va_S A s.heap H locs → lv_has ls 4 [(0, .ref a), (1, .int p2), (2, .int (nI i)), (3, .int (nI n))] → W p l e (headSpec wsJ7_fill_53178 ({ frames := 0, cells := 0, slots := 0, locals := 0 })).room s m ([.ref a, .int p2] : List Value).toArray below meth c H locs 0 0 (MQ below (va_Qv (fun (u : Nat → Int32) => u = fl f n p2) (t1B dC dI cI a n A) A) ([.ref a, .int p2] : List Value).toArray s 0 0 A) (F0 m 5 ls []) := by
    intro k
    induction k with
    | zero =>
      intro i H locs ls hi hP hD hS hl
      have hi : i = n := by omega
      subst hi
      refine lv_iload_n hx hb dJ7_fill_53178_5 rfl (lv_at hl 2 rfl) ?_
      refine lv_iload_n hx hb dJ7_fill_53178_6 rfl (lv_at hl 3 rfl) ?_
      refine lv_icmp_ge (tgt := 20) hx hb dJ7_fill_53178_7 (by decide) (fun c1 => ?_) (fun c1 => ?_)
      · exact W.vret hx hb hr (fun t ht hW => ⟨⟨_, rfl, rfl, by rw [ht]; exact hP, va_K.moved hW.alike hK, hD⟩, hS.F ht⟩) hS.2.2 dJ7_fill_53178_20
      · exact absurd (nI_le (Nat.le_refl _) hn) c1
    | succ k ih =>
      intro i H locs ls hi hP hD hS hl
      refine lv_iload_n hx hb dJ7_fill_53178_5 rfl (lv_at hl 2 rfl) ?_
      refine lv_iload_n hx hb dJ7_fill_53178_6 rfl (lv_at hl 3 rfl) ?_
      refine lv_icmp_ge (tgt := 20) hx hb dJ7_fill_53178_7 (by decide) (fun c1 => ?_) (fun c1 => ?_)
      · exact absurd c1 (nI_ge (by omega) hn)
      · refine lv_aload_n hx hb dJ7_fill_53178_10 rfl (lv_at hl 0 rfl) ?_
        refine lv_iload_n hx hb dJ7_fill_53178_11 rfl (lv_at hl 2 rfl) ?_
        refine lv_iload_n hx hb dJ7_fill_53178_12 rfl (lv_at hl 1 rfl) ?_
        refine wc_iast (j := i) hx hb hK hP hD hS 0 0 (f := fl f i p2) rfl rfl (nI_clamp (by omega)) (nI_pos (by omega)) (by omega) dJ7_fill_53178_13 (fun H locs hP hD hS => ?_)
        have hP : va_P (dC, dI) vwCl (t1W cI a n (upd (fl f i p2) i p2)) H := hP
        have hD : va_D A (t1W cI a n (upd (fl f i p2) i p2)) := hD
        rw [fl_s] at hP hD
        refine lv_iinc (v := nI (i + 1)) (lv' := [(2, .int (nI (i + 1))), (0, .ref a), (1, .int p2), (3, .int (nI n))]) hx hb dJ7_fill_53178_14 hl (k := 2) rfl (by rw [nI_succ]; rfl) (by decide) rfl (fun ls hl => ?_)
        refine lv_goto (tgt := 5) hx hb dJ7_fill_53178_17 (by decide) ?_
        exact ih (i + 1) H locs ls (by omega) hP hD hS (lv_sub hl [1, 2, 0, 3] rfl)
  have hl := lv_entry ([.ref a, .int p2]) (n := 4) (Nat.le_of_ble_eq_true rfl)
  rw [lg_entry_eq]
  generalize (lg_sl ([.ref a, .int p2]) ++ List.replicate (4 - (lg_sl ([.ref a, .int p2])).length) Slot.unset).toArray = ls at hl ⊢
  have hl : lv_has ls 4 [(0, .ref a), (1, .int p2)] := hl
  refine lv_iconst (v := nI 0) hx hb dJ7_fill_53178_0 (by decide) ?_
  refine lv_istore_n (lv' := [(2, .int (nI 0)), (0, .ref a), (1, .int p2)]) hx hb dJ7_fill_53178_1 rfl hl (by decide) rfl (fun ls hl => ?_)
  refine lv_aload_n hx hb dJ7_fill_53178_2 rfl (lv_at hl 1 rfl) ?_
  refine va_alen (v := nI n) hx hb hK hP 0 0 rfl rfl rfl dJ7_fill_53178_3 ?_
  refine lv_istore_n (lv' := [(3, .int (nI n)), (2, .int (nI 0)), (0, .ref a), (1, .int p2)]) hx hb dJ7_fill_53178_4 rfl hl (by decide) rfl (fun ls hl => ?_)
  exact b5 n 0 s.heap [] ls (by omega) (by rw [fl_0]; exact hP) (by rw [fl_0]; exact hD) hS (lv_sub hl [2, 3, 1, 0] rfl)
def wX5_behind_27 (T : Int32 → Int32 → Int32 → Int32 → Int32 → Int32 → gS → gS → (Int32 → gS → gS → Prop) → Prop)  (Q : Int32 → gS → gS → Prop) (y1 : Int32) (y2 : Int32) (y3 : Int32) (y4 : Int32) (y5 : Int32) (y6 : Int32) (M0 : gS) (M1 : gS) : Prop :=
 (T  y1 y2 y3 y4 y5 y6 M0 M1 (fun (r1 : Int32) (N2 : gS) (N3 : gS) => (Q r1 N2 N3)))
def wX5_behind (T : Int32 → Int32 → Int32 → Int32 → Int32 → Int32 → gS → gS → (Int32 → gS → gS → Prop) → Prop) (p1 : Int32) (p2 : Int32) (p3 : Int32) (p4 : Int32) (p5 : Int32) (p6 : Int32) (M0 : gS) (M1 : gS) (Q : Int32 → gS → gS → Prop) : Prop :=
 (wX5_mayThrow p2 p4 M0 (fun (b3 : Bool) (N2 : gS) => (((bI b3) = 0 → (wX1_anyWordFits ((p3 / (8 : Int32)) - (1 : Int32)) p2 M1 (fun (b7 : Bool) (N6 : gS) => (((bI b7) = 0 → ((p5 = 0 → ((p6 = 0 → (Q (1 : Int32) N2 N6))
 ∧ (¬ p6 = 0 → (Q (0 : Int32) N2 N6))))
 ∧ (¬ p5 = 0 → (Q (0 : Int32) N2 N6))))
 ∧ (¬ (bI b7) = 0 → (wX5_behind_27 T  Q p1 p2 p3 p4 p5 p6 N2 N6))))))
 ∧ (¬ (bI b3) = 0 → (wX5_behind_27 T  Q p1 p2 p3 p4 p5 p6 N2 M1)))))
def rmX5_behind (rT : Room) : Room := { frames := rT.frames + 2, cells := 0, slots := 0, locals := rT.locals + 45 }
set_option maxHeartbeats 4000000 in
set_option maxRecDepth 100000 in
theorem kX5_behind (l : Launch) (dC : Nat → ClassId) (dI : Nat → Nat → Nat) (cB cI cJ cZ : ClassId) (h0 : Nat) (a0 : Nat → Nat) (a1 : Nat → Nat) (T : Int32 → Int32 → Int32 → Int32 → Int32 → Int32 → gS → gS → (Int32 → gS → gS → Prop) → Prop) (rT : Room) (hrT : rT.cells = 0 ∧ rT.slots = 0) (hT : ∀ (sz : Nat) (q1 : Int32) (q2 : Int32) (q3 : Int32) (q4 : Int32) (q5 : Int32) (q6 : Int32) (M0 : gS) (M1 : gS) (Q : Int32 → gS → gS → Prop), T q1 q2 q3 q4 q5 q6 M0 M1 Q → Met l yX5_totalFrom wsX5_totalFrom rT (va_Pc [.ref h0, .int q1, .int q2, .int q3, .int q4, .int q5, .int q6] (pcI dC dI cB cI cJ cZ h0 a0 a1 M0 M1 sz)) (va_Qi (fun (r : Int32) (u : gS × gS) => Q r u.1 u.2) (pcB dC dI cB cI cJ cZ h0 a0 a1 (va_A (pcW cB cI cJ cZ h0 a0 a1 M0 M1) sz)) (va_A (pcW cB cI cJ cZ h0 a0 a1 M0 M1) sz)) 0 0 (va_A (pcW cB cI cJ cZ h0 a0 a1 M0 M1) sz)) (sz : Nat) (p1 : Int32) (p2 : Int32) (p3 : Int32) (p4 : Int32) (p5 : Int32) (p6 : Int32) (M0 : gS) (M1 : gS) (Q : Int32 → gS → gS → Prop) (h : wX5_behind T p1 p2 p3 p4 p5 p6 M0 M1 Q) : Met l yX5_behind wsX5_behind (rmX5_behind rT) (va_Pc [.ref h0, .int p1, .int p2, .int p3, .int p4, .int p5, .int p6] (pcI dC dI cB cI cJ cZ h0 a0 a1 M0 M1 sz)) (va_Qi (fun (r : Int32) (u : gS × gS) => Q r u.1 u.2) (pcB dC dI cB cI cJ cZ h0 a0 a1 (va_A (pcW cB cI cJ cZ h0 a0 a1 M0 M1) sz)) (va_A (pcW cB cI cJ cZ h0 a0 a1 M0 M1) sz)) 0 0 (va_A (pcW cB cI cJ cZ h0 a0 a1 M0 M1) sz) := by
  refine Met.ofW (cc := cX5_behind) (maxL := 7) (ret := (some .int)) (by decide) rfl ?_
  intro p e s m args below meth c s₁ B hml hv
  obtain ⟨rfl, hsz, hP, hK, hD0⟩ := hv
  have hx := B.exec
  have hb := B.bytes
  have hr := B.returns
  have hts := atoms_spec (ws := wsX5_behind) B.pre
  have hown : s.vm.findClass RX5 = some m.cls := findClass_of_methodNamed B.named
  have hlocks := B.notSynchronized
  subst hsz
  have hD := hD0.self (sz := s.heap.size)
  generalize hAe : va_A (pcW cB cI cJ cZ h0 a0 a1 M0 M1) s.heap.size = A at hD ⊢
  have hA : ∀ q : Nat, s.heap.size ≤ q → A q := fun q h => by rw [← hAe]; exact Or.inr h
  have hS : va_S A s.heap s.heap [] := va_S.rf
  have hinX5 : ∀ w ∈ wsX50, w ∈ wsX5_behind := by decide +kernel
  have f1 := hts (.fieldLink RX5 18 "LastWords$PlayCounter" "corner" "LLastWords$Corner;") (by decide +kernel)
  have b27 : ∀ (y1 : Int32) (y2 : Int32) (y3 : Int32) (y4 : Int32) (y5 : Int32) (y6 : Int32) (M0 : gS) (M1 : gS) (H : Heap) (locs : List Loc) (ls : Array Slot), va_P (dC, dI) vwCl (pcW cB cI cJ cZ h0 a0 a1 M0 M1) H → va_D A (pcW cB cI cJ cZ h0 a0 a1 M0 M1) → va_S A s.heap H locs → lv_has ls 7 [(0, .ref h0), (1, .int y1), (2, .int y2), (3, .int y3), (4, .int y4), (5, .int y5), (6, .int y6)] → wX5_behind_27 T  Q y1 y2 y3 y4 y5 y6 M0 M1 → W p l e (headSpec wsX5_behind (rmX5_behind rT)).room s m ([.ref h0, .int p1, .int p2, .int p3, .int p4, .int p5, .int p6] : List Value).toArray below meth c H locs 0 0 (MQ below (va_Qi (fun (r : Int32) (u : gS × gS) => Q r u.1 u.2) (pcB dC dI cB cI cJ cZ h0 a0 a1 A) A) ([.ref h0, .int p1, .int p2, .int p3, .int p4, .int p5, .int p6] : List Value).toArray s 0 0 A) (F0 m 27 ls []) := by
    intro  y1 y2 y3 y4 y5 y6 M0 M1 H locs ls hP hD hS hl h
    unfold wX5_behind_27 at h
    refine lv_aload_n hx hb dX5_behind_27 rfl (lv_at hl 0 rfl) ?_
    refine lv_iload_n hx hb dX5_behind_28 rfl (lv_at hl 1 rfl) ?_
    refine lv_iload_n hx hb dX5_behind_29 rfl (lv_at hl 2 rfl) ?_
    refine lv_iload_n hx hb dX5_behind_30 rfl (lv_at hl 3 rfl) ?_
    refine lv_iload hx hb dX5_behind_31 (lv_at hl 4 rfl) ?_
    refine lv_iload hx hb dX5_behind_33 (lv_at hl 5 rfl) ?_
    refine lv_iload hx hb dX5_behind_35 (lv_at hl 6 rfl) ?_
    have hFc := gs_free hD hS hA
    refine va_calli (va_runV (As := [.int y1, .int y2, .int y3, .int y4, .int y5, .int y6]) (rest := []) ⟨hx, hb, hml, hown, hts⟩ (hT H.size y1 y2 y3 y4 y5 y6 M0 M1 _ h) (cwV 6 hts gX5_behind_X5_totalFrom rfl hrT.1 hrT.2 (by decide +kernel) ⟨by show rT.frames + 1 ≤ rT.frames + 2; omega, by show 8 + (14 + 11) + rT.locals ≤ rT.locals + 45; omega⟩) (pcpV hK hP hD) rfl rfl hl.1 rfl (lv_room (Nat.le_of_ble_eq_true rfl)) dX5_behind_37 ⟨Nat.le_of_ble_eq_true rfl, Nat.le_of_ble_eq_true rfl⟩) hS (fun q _ z => hFc q z) hFc (fun r1 u t H1 locs ht hvm hw hB hz1 hk1 hS => ?_)
    obtain ⟨N2, N3⟩ := u
    obtain ⟨hP, hD⟩ := gs_back ht hFc hB
    generalize H1 = H at hP hS ⊢
    have h := hw
    try dsimp only at h
    exact W.iret (v := r1) hx hb hr (fun t ht hW => ⟨⟨_, (N2, N3), rfl, h, by rw [ht]; exact hP, va_K.moved hW.alike hK, hD⟩, hS.F ht⟩) hS.2.2 dX5_behind_40
  have bE : ∀ (M0 : gS) (M1 : gS) (H : Heap) (locs : List Loc) (ls : Array Slot), va_P (dC, dI) vwCl (pcW cB cI cJ cZ h0 a0 a1 M0 M1) H → va_D A (pcW cB cI cJ cZ h0 a0 a1 M0 M1) → va_S A s.heap H locs → lv_has ls 7 [(0, .ref h0), (1, .int p1), (2, .int p2), (3, .int p3), (4, .int p4), (5, .int p5), (6, .int p6)] → wX5_behind T p1 p2 p3 p4 p5 p6 M0 M1 Q → W p l e (headSpec wsX5_behind (rmX5_behind rT)).room s m ([.ref h0, .int p1, .int p2, .int p3, .int p4, .int p5, .int p6] : List Value).toArray below meth c H locs 0 0 (MQ below (va_Qi (fun (r : Int32) (u : gS × gS) => Q r u.1 u.2) (pcB dC dI cB cI cJ cZ h0 a0 a1 A) A) ([.ref h0, .int p1, .int p2, .int p3, .int p4, .int p5, .int p6] : List Value).toArray s 0 0 A) (F0 m 0 ls []) := by
    intro M0 M1 H locs ls hP hD hS hl h
    unfold wX5_behind at h
    refine lv_aload_n hx hb dX5_behind_0 rfl (lv_at hl 0 rfl) ?_
    refine lv_iload_n hx hb dX5_behind_1 rfl (lv_at hl 2 rfl) ?_
    refine lv_iload hx hb dX5_behind_2 (lv_at hl 4 rfl) ?_
    have hPc := hP.sub (ws' := (paW cB cI cJ cZ h0 a0 M0)) [0, 1, 2] rfl
    have hDc := hD.sub (ws' := (paW cB cI cJ cZ h0 a0 M0)) [0, 1, 2] (by decide) rfl
    have hFc := va_free (wc := (paW cB cI cJ cZ h0 a0 M0)) hD hS hA [0, 1, 2] rfl
    refine va_calli (va_runV (As := [.int p2, .int p4]) (rest := []) ⟨hx, hb, hml, hown, hts⟩ (kX5_mayThrow l dC dI cB cI cJ cZ h0 a0 H.size p2 p4 M0 _ h) (cwV 2 hts gX5_behind_X5_mayThrow rfl rfl rfl (by decide +kernel) ⟨by show 0 + 1 ≤ rT.frames + 2; omega, by show 8 + (3 + 11) + 0 ≤ rT.locals + 45; omega⟩) (papV hK hPc hDc) rfl rfl hl.1 rfl (lv_room (Nat.le_of_ble_eq_true rfl)) dX5_behind_4 ⟨Nat.le_of_ble_eq_true rfl, Nat.le_of_ble_eq_true rfl⟩) hS (fun q _ z => hFc q z) hFc (fun r1 u t H1 locs ht hvm hw hB hz1 hk1 hS => ?_)
    obtain ⟨N2, rfl⟩ : ∃ z, z = u := ⟨_, rfl⟩
    obtain ⟨hP1, hK1, hD1⟩ := hB
    rw [ht] at hP1
    obtain ⟨hP, hD⟩ := va_join (wr := [(a0 2, .inr (1, [.int (mg M1 0), .ref (a1 1), .int (mg M1 2), .ref (a1 3), .int (mg M1 4), .ref (a1 5)])), (a1 1, .inl (cI, 4, .inl (ma M1 1))), (a1 3, .inl (cI, 4, .inl (ma M1 3))), (a1 5, .inl (cI, 2, .inl (ma M1 5)))]) (w1 := (paW cB cI cJ cZ h0 a0 N2)) hP hD [0, 1, 2] [3, 4, 5, 6] rfl rfl (by decide) (by decide) hk1 hFc hP1 hD1
    have hP := hP.sub (ws' := (pcW cB cI cJ cZ h0 a0 a1 N2 M1)) [4, 5, 6, 0, 1, 2, 3] rfl
    have hD := hD.sub (ws' := (pcW cB cI cJ cZ h0 a0 a1 N2 M1)) [4, 5, 6, 0, 1, 2, 3] (by decide) rfl
    generalize H1 = H at hP hS ⊢
    obtain ⟨b3, rfl, h⟩ := hw
    try dsimp only at h
    refine lv_if_ne (tgt := 27) hx hb dX5_behind_7 (by decide) (fun c4 => ?_) (fun c4 => ?_)
    · have h := h.2 c4
      exact b27  p1 p2 p3 p4 p5 p6 N2 M1 H locs ls hP hD hS (lv_sub hl [0, 1, 2, 3, 4, 5, 6] rfl) h
    · have h := h.1 c4
      refine lv_aload_n hx hb dX5_behind_10 rfl (lv_at hl 0 rfl) ?_
      refine va_get (D := (dC, dI)) (ci := 5) (v := .ref (a0 2)) (C := RX5) (T := TX5) (N := 4) hx hb hts hinX5 hown hK hP 0 rfl rfl 2 (by decide) f1 (fun _ h9 => h9) rfl dX5_behind_11 ?_
      refine lv_iload_n hx hb dX5_behind_14 rfl (lv_at hl 3 rfl) ?_
      refine lv_bipush (v := (8)) hx hb dX5_behind_15 (by decide) ?_
      refine lv_idiv hx hb dX5_behind_17 (by decide) ?_
      refine lv_iconst (v := 1) hx hb dX5_behind_18 (by decide) ?_
      refine lv_isub hx hb dX5_behind_19 ?_
      refine lv_iload_n hx hb dX5_behind_20 rfl (lv_at hl 2 rfl) ?_
      have hPc := hP.sub (ws' := (cnW cB cI cJ cZ (a0 2) a1 M1)) [3, 4, 5, 6] rfl
      have hDc := hD.sub (ws' := (cnW cB cI cJ cZ (a0 2) a1 M1)) [3, 4, 5, 6] (by decide) rfl
      have hFc := va_free (wc := (cnW cB cI cJ cZ (a0 2) a1 M1)) hD hS hA [3, 4, 5, 6] rfl
      refine va_calli (va_runV (As := [.int ((p3 / (8 : Int32)) - (1 : Int32)), .int p2]) (rest := []) ⟨hx, hb, hml, hown, hts⟩ (kX1_anyWordFits l dC dI cB cI cJ cZ (a0 2) a1 H.size ((p3 / (8 : Int32)) - (1 : Int32)) p2 M1 _ h) (cwV 2 hts gX5_behind_X1_anyWordFits rfl rfl rfl (by decide +kernel) ⟨by show 1 + 1 ≤ rT.frames + 2; omega, by show 8 + (4 + 11) + 22 ≤ rT.locals + 45; omega⟩) (cnpV hK hPc hDc) rfl rfl hl.1 rfl (lv_room (Nat.le_of_ble_eq_true rfl)) dX5_behind_21 ⟨Nat.le_of_ble_eq_true rfl, Nat.le_of_ble_eq_true rfl⟩) hS (fun q _ z => hFc q z) hFc (fun r5 u t H1 locs ht hvm hw hB hz1 hk1 hS => ?_)
      obtain ⟨N6, rfl⟩ : ∃ z, z = u := ⟨_, rfl⟩
      obtain ⟨hP1, hK1, hD1⟩ := hB
      rw [ht] at hP1
      obtain ⟨hP, hD⟩ := va_join (wr := [(h0, .inr (5, [.ref (a0 0), .ref (a0 1), .ref (a0 2), .int (mg N2 3)])), (a0 0, .inl (cI, 2048, .inl (ma N2 0))), (a0 1, .inl (cI, 2048, .inl (ma N2 1)))]) (w1 := (cnW cB cI cJ cZ (a0 2) a1 N6)) hP hD [3, 4, 5, 6] [0, 1, 2] rfl rfl (by decide) (by decide) hk1 hFc hP1 hD1
      have hP := hP.sub (ws' := (pcW cB cI cJ cZ h0 a0 a1 N2 N6)) [0, 1, 2, 3, 4, 5, 6] rfl
      have hD := hD.sub (ws' := (pcW cB cI cJ cZ h0 a0 a1 N2 N6)) [0, 1, 2, 3, 4, 5, 6] (by decide) rfl
      generalize H1 = H at hP hS ⊢
      obtain ⟨b7, rfl, h⟩ := hw
      try dsimp only at h
      refine lv_if_eq (tgt := 41) hx hb dX5_behind_24 (by decide) (fun c8 => ?_) (fun c8 => ?_)
      · have h := h.1 c8
        refine lv_iload hx hb dX5_behind_41 (lv_at hl 5 rfl) ?_
        refine lv_if_ne (tgt := 55) hx hb dX5_behind_43 (by decide) (fun c9 => ?_) (fun c9 => ?_)
        · have h := h.2 c9
          refine lv_iconst (v := 0) hx hb dX5_behind_55 (by decide) ?_
          exact W.iret (v := (0 : Int32)) hx hb hr (fun t ht hW => ⟨⟨_, (N2, N6), rfl, h, by rw [ht]; exact hP, va_K.moved hW.alike hK, hD⟩, hS.F ht⟩) hS.2.2 dX5_behind_56
        · have h := h.1 c9
          refine lv_iload hx hb dX5_behind_46 (lv_at hl 6 rfl) ?_
          refine lv_if_ne (tgt := 55) hx hb dX5_behind_48 (by decide) (fun c10 => ?_) (fun c10 => ?_)
          · have h := h.2 c10
            refine lv_iconst (v := 0) hx hb dX5_behind_55 (by decide) ?_
            exact W.iret (v := (0 : Int32)) hx hb hr (fun t ht hW => ⟨⟨_, (N2, N6), rfl, h, by rw [ht]; exact hP, va_K.moved hW.alike hK, hD⟩, hS.F ht⟩) hS.2.2 dX5_behind_56
          · have h := h.1 c10
            refine lv_iconst (v := 1) hx hb dX5_behind_51 (by decide) ?_
            refine lv_goto (tgt := 56) hx hb dX5_behind_52 (by decide) ?_
            exact W.iret (v := (1 : Int32)) hx hb hr (fun t ht hW => ⟨⟨_, (N2, N6), rfl, h, by rw [ht]; exact hP, va_K.moved hW.alike hK, hD⟩, hS.F ht⟩) hS.2.2 dX5_behind_56
      · have h := h.2 c8
        exact b27  p1 p2 p3 p4 p5 p6 N2 N6 H locs ls hP hD hS (lv_sub hl [0, 1, 2, 3, 4, 5, 6] rfl) h
  have hl := lv_entry ([.ref h0, .int p1, .int p2, .int p3, .int p4, .int p5, .int p6]) (n := 7) (Nat.le_of_ble_eq_true rfl)
  rw [lg_entry_eq]
  generalize (lg_sl ([.ref h0, .int p1, .int p2, .int p3, .int p4, .int p5, .int p6]) ++ List.replicate (7 - (lg_sl ([.ref h0, .int p1, .int p2, .int p3, .int p4, .int p5, .int p6])).length) Slot.unset).toArray = ls at hl ⊢
  have hl : lv_has ls 7 [(0, .ref h0), (1, .int p1), (2, .int p2), (3, .int p3), (4, .int p4), (5, .int p5), (6, .int p6)] := hl
  exact bE M0 M1 s.heap [] ls hP hD hS hl h
def wX5_totalFrom_243 (T : Int32 → Int32 → Int32 → Int32 → Int32 → Int32 → gS → gS → (Int32 → gS → gS → Prop) → Prop)  (Q : Int32 → gS → gS → Prop) (y7 : Int32) (y8 : Int32) (y9 : Int32) (M0 : gS) (M1 : gS) : Prop :=
 (vp_in y8 2048 ∧ (∀ N1 : gS, N1 = sa M0 0 (Int32.toNatClampNeg y8) y7 → (vp_in y8 2048 ∧ (∀ N2 : gS, N2 = sa N1 1 (Int32.toNatClampNeg y8) y9 → (Q y9 N2 M1)))))
def wX5_totalFrom_192 (T : Int32 → Int32 → Int32 → Int32 → Int32 → Int32 → gS → gS → (Int32 → gS → gS → Prop) → Prop) (B82 : Int32 → Int32 → Int32 → Int32 → Int32 → Int32 → Int32 → Int32 → Int32 → Int32 → gS → gS → Prop) (Q : Int32 → gS → gS → Prop) (y1 : Int32) (y2 : Int32) (y3 : Int32) (y4 : Int32) (y5 : Int32) (y6 : Int32) (y7 : Int32) (y8 : Int32) (y9 : Int32) (y10 : Int32) (M0 : gS) (M1 : gS) : Prop :=
 (∀ x1 : Int32, x1 = y10 + (1 : Int32) → (B82 y1 y2 y3 y4 y5 y6 y7 y8 y9 x1 M0 M1))
def wX5_totalFrom_186 (T : Int32 → Int32 → Int32 → Int32 → Int32 → Int32 → gS → gS → (Int32 → gS → gS → Prop) → Prop) (B82 : Int32 → Int32 → Int32 → Int32 → Int32 → Int32 → Int32 → Int32 → Int32 → Int32 → gS → gS → Prop) (Q : Int32 → gS → gS → Prop) (y1 : Int32) (y2 : Int32) (y3 : Int32) (y4 : Int32) (y5 : Int32) (y6 : Int32) (y7 : Int32) (y8 : Int32) (y10 : Int32) (z7 : Int32) (z5 : Int32) (z4 : Int32) (z3 : Int32) (z2 : Int32) (z1 : Int32) (z0 : Int32) (M0 : gS) (M1 : gS) : Prop :=
 (T  z5 z4 z3 z2 z1 z0 M0 M1 (fun (r1 : Int32) (N2 : gS) (N3 : gS) => (∀ x4 : Int32, x4 = (z7 + r1) → (wX5_totalFrom_192 T B82 Q y1 y2 y3 y4 y5 y6 y7 y8 x4 y10 N2 N3))))
def wX5_totalFrom_144 (T : Int32 → Int32 → Int32 → Int32 → Int32 → Int32 → gS → gS → (Int32 → gS → gS → Prop) → Prop) (B82 : Int32 → Int32 → Int32 → Int32 → Int32 → Int32 → Int32 → Int32 → Int32 → Int32 → gS → gS → Prop) (Q : Int32 → gS → gS → Prop) (y1 : Int32) (y2 : Int32) (y3 : Int32) (y4 : Int32) (y5 : Int32) (y6 : Int32) (y7 : Int32) (y8 : Int32) (y9 : Int32) (y10 : Int32) (y11 : Int32) (z0 : Int32) (M0 : gS) (M1 : gS) : Prop :=
 (∀ x1 : Int32, x1 = (((8 : Int32) * (y4 - y4 / (8 : Int32) * (8 : Int32))) + (y4 / (8 : Int32))) → ((y6 = 0 → (wX5_totalFrom_186 T B82 Q y1 y2 y3 y4 y5 y6 y7 y8 y10 y9 (y1 - (1 : Int32)) y11 z0 x1 y5 (1 : Int32) M0 M1))
 ∧ (¬ y6 = 0 → (wX5_totalFrom_186 T B82 Q y1 y2 y3 y4 y5 y6 y7 y8 y10 y9 (y1 - (1 : Int32)) y11 z0 x1 y5 (0 : Int32) M0 M1))))
def wX5_totalFrom_82 (T : Int32 → Int32 → Int32 → Int32 → Int32 → Int32 → gS → gS → (Int32 → gS → gS → Prop) → Prop)  (Q : Int32 → gS → gS → Prop) : Nat → Int32 → Int32 → Int32 → Int32 → Int32 → Int32 → Int32 → Int32 → Int32 → Int32 → gS → gS → Prop
 | 0, _, _, _, _, _, _, _, _, _, _, _, _ => False
 | n + 1, y1, y2, y3, y4, y5, y6, y7, y8, y9, y10, M0, M1 => (((mg M1 2) ≤ y10 → ((y5 ≤ 0 → (wX5_totalFrom_243 T  Q y7 y8 y9 M0 M1))
 ∧ (¬ y5 ≤ 0 → (wX5_mayThrow y2 y4 M0 (fun (b5 : Bool) (N4 : gS) => (((bI b5) = 0 → (wX5_totalFrom_243 T  Q y7 y8 y9 N4 M1))
 ∧ (¬ (bI b5) = 0 → (T  (y1 - (1 : Int32)) (y2 + (mg N4 3)) y3 (y4 - (8 : Int32)) (y5 - (1 : Int32)) y6 N4 M1 (fun (r7 : Int32) (N8 : gS) (N9 : gS) => (∀ x10 : Int32, x10 = (y9 + r7) → (wX5_totalFrom_243 T  Q y7 y8 x10 N8 N9)))))))))))
 ∧ (¬ (mg M1 2) ≤ y10 → (wX1_cost y10 ((y3 / (8 : Int32)) - (1 : Int32)) M1 (fun (r11 : Int32) (N12 : gS) => (∀ x13 : Int32, x13 = (y2 - r11) → ((x13 < 0 → (wX5_totalFrom_192 T (fun (y1 : Int32) (y2 : Int32) (y3 : Int32) (y4 : Int32) (y5 : Int32) (y6 : Int32) (y7 : Int32) (y8 : Int32) (y9 : Int32) (y10 : Int32) (M0 : gS) (M1 : gS) => wX5_totalFrom_82 T  Q n y1 y2 y3 y4 y5 y6 y7 y8 y9 y10 M0 M1) Q y1 y2 y3 y4 y5 y6 y7 y8 y9 y10 M0 N12))
 ∧ (¬ x13 < 0 → (((mg N12 4) = 0 → (wX5_totalFrom_144 T (fun (y1 : Int32) (y2 : Int32) (y3 : Int32) (y4 : Int32) (y5 : Int32) (y6 : Int32) (y7 : Int32) (y8 : Int32) (y9 : Int32) (y10 : Int32) (M0 : gS) (M1 : gS) => wX5_totalFrom_82 T  Q n y1 y2 y3 y4 y5 y6 y7 y8 y9 y10 M0 M1) Q y1 y2 y3 y4 y5 y6 y7 y8 y9 y10 x13 (0 : Int32) M0 N12))
 ∧ (¬ (mg N12 4) = 0 → (wX5_totalFrom_144 T (fun (y1 : Int32) (y2 : Int32) (y3 : Int32) (y4 : Int32) (y5 : Int32) (y6 : Int32) (y7 : Int32) (y8 : Int32) (y9 : Int32) (y10 : Int32) (M0 : gS) (M1 : gS) => wX5_totalFrom_82 T  Q n y1 y2 y3 y4 y5 y6 y7 y8 y9 y10 M0 M1) Q y1 y2 y3 y4 y5 y6 y7 y8 y9 y10 x13 ((((8 : Int32) * (y3 - y3 / (8 : Int32) * (8 : Int32))) + y10) + (1 : Int32)) M0 N12))))))))))
def wX5_totalFrom_77 (T : Int32 → Int32 → Int32 → Int32 → Int32 → Int32 → gS → gS → (Int32 → gS → gS → Prop) → Prop)  (Q : Int32 → gS → gS → Prop) (y1 : Int32) (y2 : Int32) (y3 : Int32) (y4 : Int32) (y5 : Int32) (y6 : Int32) (y7 : Int32) (y8 : Int32) (z0 : Int32) (M0 : gS) (M1 : gS) : Prop :=
 (∃ k82 : Nat, wX5_totalFrom_82 T  Q k82 y1 y2 y3 y4 y5 y6 y7 y8 z0 (0 : Int32) M0 M1)
def wX5_totalFrom_76 (T : Int32 → Int32 → Int32 → Int32 → Int32 → Int32 → gS → gS → (Int32 → gS → gS → Prop) → Prop)  (Q : Int32 → gS → gS → Prop) (y1 : Int32) (y2 : Int32) (y3 : Int32) (y4 : Int32) (y5 : Int32) (y6 : Int32) (y7 : Int32) (y8 : Int32) (M0 : gS) (M1 : gS) : Prop :=
 (wX5_totalFrom_77 T  Q y1 y2 y3 y4 y5 y6 y7 y8 (0 : Int32) M0 M1)
def wX5_totalFrom (T : Int32 → Int32 → Int32 → Int32 → Int32 → Int32 → gS → gS → (Int32 → gS → gS → Prop) → Prop) (p1 : Int32) (p2 : Int32) (p3 : Int32) (p4 : Int32) (p5 : Int32) (p6 : Int32) (M0 : gS) (M1 : gS) (Q : Int32 → gS → gS → Prop) : Prop :=
 ((p1 ≤ 0 → (Q (0 : Int32) M0 M1))
 ∧ (¬ p1 ≤ 0 → (((8 : Int32) < p1 → (Q (0 : Int32) M0 M1))
 ∧ (¬ (8 : Int32) < p1 → ((p5 ≤ p1 → (wX5_keyOf p1 p2 p3 p4 p5 p6  (fun (r4 : Int32)  => (∀ x5 : Int32, x5 = ((Int32.toUInt32 (r4 * (-1640531535 : Int32)) >>> (Int32.toUInt32 (21 : Int32) &&& Int32.toUInt32 31)).toInt32) → (vp_in x5 2048 ∧ (((ma M0 0 (Int32.toNatClampNeg x5)) = r4 → (vp_in x5 2048 ∧ (Q (ma M0 1 (Int32.toNatClampNeg x5)) M0 M1)))
 ∧ (¬ (ma M0 0 (Int32.toNatClampNeg x5)) = r4 → ((p5 = 0 → ((p6 = 0 → (wX5_totalFrom_77 T  Q p1 p2 p3 p4 p5 p6 r4 x5 (1 : Int32) M0 M1))
 ∧ (¬ p6 = 0 → (wX5_totalFrom_76 T  Q p1 p2 p3 p4 p5 p6 r4 x5 M0 M1))))
 ∧ (¬ p5 = 0 → (wX5_totalFrom_76 T  Q p1 p2 p3 p4 p5 p6 r4 x5 M0 M1))))))))))
 ∧ (¬ p5 ≤ p1 → (Q (0 : Int32) M0 M1)))))))
def rmX5_totalFrom (rT : Room) : Room := { frames := rT.frames + 1, cells := 0, slots := 0, locals := rT.locals + 26 }
set_option maxHeartbeats 4000000 in
set_option maxRecDepth 100000 in
theorem kX5_totalFrom (l : Launch) (dC : Nat → ClassId) (dI : Nat → Nat → Nat) (cB cI cJ cZ : ClassId) (h0 : Nat) (a0 : Nat → Nat) (a1 : Nat → Nat) (T : Int32 → Int32 → Int32 → Int32 → Int32 → Int32 → gS → gS → (Int32 → gS → gS → Prop) → Prop) (rT : Room) (hrT : rT.cells = 0 ∧ rT.slots = 0) (hT : ∀ (sz : Nat) (q1 : Int32) (q2 : Int32) (q3 : Int32) (q4 : Int32) (q5 : Int32) (q6 : Int32) (M0 : gS) (M1 : gS) (Q : Int32 → gS → gS → Prop), T q1 q2 q3 q4 q5 q6 M0 M1 Q → Met l yX5_behind wsX5_behind rT (va_Pc [.ref h0, .int q1, .int q2, .int q3, .int q4, .int q5, .int q6] (pcI dC dI cB cI cJ cZ h0 a0 a1 M0 M1 sz)) (va_Qi (fun (r : Int32) (u : gS × gS) => Q r u.1 u.2) (pcB dC dI cB cI cJ cZ h0 a0 a1 (va_A (pcW cB cI cJ cZ h0 a0 a1 M0 M1) sz)) (va_A (pcW cB cI cJ cZ h0 a0 a1 M0 M1) sz)) 0 0 (va_A (pcW cB cI cJ cZ h0 a0 a1 M0 M1) sz)) (sz : Nat) (p1 : Int32) (p2 : Int32) (p3 : Int32) (p4 : Int32) (p5 : Int32) (p6 : Int32) (M0 : gS) (M1 : gS) (Q : Int32 → gS → gS → Prop) (h : wX5_totalFrom T p1 p2 p3 p4 p5 p6 M0 M1 Q) : Met l yX5_totalFrom wsX5_totalFrom (rmX5_totalFrom rT) (va_Pc [.ref h0, .int p1, .int p2, .int p3, .int p4, .int p5, .int p6] (pcI dC dI cB cI cJ cZ h0 a0 a1 M0 M1 sz)) (va_Qi (fun (r : Int32) (u : gS × gS) => Q r u.1 u.2) (pcB dC dI cB cI cJ cZ h0 a0 a1 (va_A (pcW cB cI cJ cZ h0 a0 a1 M0 M1) sz)) (va_A (pcW cB cI cJ cZ h0 a0 a1 M0 M1) sz)) 0 0 (va_A (pcW cB cI cJ cZ h0 a0 a1 M0 M1) sz) := by
  refine Met.ofW (cc := cX5_totalFrom) (maxL := 14) (ret := (some .int)) (by decide) rfl ?_
  intro p e s m args below meth c s₁ B hml hv
  obtain ⟨rfl, hsz, hP, hK, hD0⟩ := hv
  have hx := B.exec
  have hb := B.bytes
  have hr := B.returns
  have hts := atoms_spec (ws := wsX5_totalFrom) B.pre
  have hown : s.vm.findClass RX5 = some m.cls := findClass_of_methodNamed B.named
  have hlocks := B.notSynchronized
  subst hsz
  have hD := hD0.self (sz := s.heap.size)
  generalize hAe : va_A (pcW cB cI cJ cZ h0 a0 a1 M0 M1) s.heap.size = A at hD ⊢
  have hA : ∀ q : Nat, s.heap.size ≤ q → A q := fun q h => by rw [← hAe]; exact Or.inr h
  have hS : va_S A s.heap s.heap [] := va_S.rf
  have hinX1 : ∀ w ∈ wsX10, w ∈ wsX5_totalFrom := by decide +kernel
  have hinX5 : ∀ w ∈ wsX50, w ∈ wsX5_totalFrom := by decide +kernel
  have f1 := hts (.fieldLink RX5 11 "LastWords$PlayCounter" "keys" "[I") (by decide +kernel)
  have f2 := hts (.fieldLink RX5 15 "LastWords$PlayCounter" "totals" "[I") (by decide +kernel)
  have f3 := hts (.fieldLink RX5 18 "LastWords$PlayCounter" "corner" "LLastWords$Corner;") (by decide +kernel)
  have f4 := hts (.fieldLink RX5 59 "LastWords$Corner" "words" "I") (by decide +kernel)
  have f5 := hts (.fieldLink RX5 28 "LastWords$PlayCounter" "verse" "I") (by decide +kernel)
  have f6 := hts (.fieldLink RX5 68 "LastWords$Corner" "again" "I") (by decide +kernel)
  have f7 := hts (.constant RX5 58 (-1640531535)) (by decide +kernel)
  have b243 : ∀ (y7 : Int32) (y8 : Int32) (y9 : Int32) (M0 : gS) (M1 : gS) (H : Heap) (locs : List Loc) (ls : Array Slot), va_P (dC, dI) vwCl (pcW cB cI cJ cZ h0 a0 a1 M0 M1) H → va_D A (pcW cB cI cJ cZ h0 a0 a1 M0 M1) → va_S A s.heap H locs → lv_has ls 14 [(0, .ref h0), (7, .int y7), (8, .int y8), (9, .int y9)] → wX5_totalFrom_243 T  Q y7 y8 y9 M0 M1 → W p l e (headSpec wsX5_totalFrom (rmX5_totalFrom rT)).room s m ([.ref h0, .int p1, .int p2, .int p3, .int p4, .int p5, .int p6] : List Value).toArray below meth c H locs 0 0 (MQ below (va_Qi (fun (r : Int32) (u : gS × gS) => Q r u.1 u.2) (pcB dC dI cB cI cJ cZ h0 a0 a1 A) A) ([.ref h0, .int p1, .int p2, .int p3, .int p4, .int p5, .int p6] : List Value).toArray s 0 0 A) (F0 m 243 ls []) := by
    intro  y7 y8 y9 M0 M1 H locs ls hP hD hS hl h
    unfold wX5_totalFrom_243 at h
    refine lv_aload_n hx hb dX5_totalFrom_243 rfl (lv_at hl 0 rfl) ?_
    refine va_get (D := (dC, dI)) (ci := 5) (v := .ref (a0 0)) (C := RX5) (T := TX5) (N := 4) hx hb hts hinX5 hown hK hP 0 rfl rfl 0 (by decide) f1 (fun _ h9 => h9) rfl dX5_totalFrom_244 ?_
    refine lv_iload hx hb dX5_totalFrom_247 (lv_at hl 2 rfl) ?_
    refine lv_iload hx hb dX5_totalFrom_249 (lv_at hl 1 rfl) ?_
    refine va_iast hx hb hK hP hD hS 1 1 (f := ma M0 0) rfl rfl h.1 dX5_totalFrom_251 (fun H locs hP hD hS => ?_)
    have h := h.2
    have hP := pcP_0_a0 hP
    have hD := pcD_0_a0 hD
    have h := h _ rfl
    generalize sa M0 0 (Int32.toNatClampNeg y8) y7 = N1 at hP hD h
    refine lv_aload_n hx hb dX5_totalFrom_252 rfl (lv_at hl 0 rfl) ?_
    refine va_get (D := (dC, dI)) (ci := 5) (v := .ref (a0 1)) (C := RX5) (T := TX5) (N := 4) hx hb hts hinX5 hown hK hP 0 rfl rfl 1 (by decide) f2 (fun _ h9 => h9) rfl dX5_totalFrom_253 ?_
    refine lv_iload hx hb dX5_totalFrom_256 (lv_at hl 2 rfl) ?_
    refine lv_iload hx hb dX5_totalFrom_258 (lv_at hl 3 rfl) ?_
    refine va_iast hx hb hK hP hD hS 2 1 (f := ma N1 1) rfl rfl h.1 dX5_totalFrom_260 (fun H locs hP hD hS => ?_)
    have h := h.2
    have hP := pcP_0_a1 hP
    have hD := pcD_0_a1 hD
    have h := h _ rfl
    generalize sa N1 1 (Int32.toNatClampNeg y8) y9 = N2 at hP hD h
    refine lv_iload hx hb dX5_totalFrom_261 (lv_at hl 3 rfl) ?_
    exact W.iret (v := y9) hx hb hr (fun t ht hW => ⟨⟨_, (N2, M1), rfl, h, by rw [ht]; exact hP, va_K.moved hW.alike hK, hD⟩, hS.F ht⟩) hS.2.2 dX5_totalFrom_263
  have b192 : ∀ (B82 : Int32 → Int32 → Int32 → Int32 → Int32 → Int32 → Int32 → Int32 → Int32 → Int32 → gS → gS → Prop) (hB82 : ∀ (y1 : Int32) (y2 : Int32) (y3 : Int32) (y4 : Int32) (y5 : Int32) (y6 : Int32) (y7 : Int32) (y8 : Int32) (y9 : Int32) (y10 : Int32) (M0 : gS) (M1 : gS) (H : Heap) (locs : List Loc) (ls : Array Slot), va_P (dC, dI) vwCl (pcW cB cI cJ cZ h0 a0 a1 M0 M1) H → va_D A (pcW cB cI cJ cZ h0 a0 a1 M0 M1) → va_S A s.heap H locs → lv_has ls 14 [(0, .ref h0), (1, .int y1), (2, .int y2), (3, .int y3), (4, .int y4), (5, .int y5), (6, .int y6), (7, .int y7), (8, .int y8), (9, .int y9), (10, .int y10)] → B82 y1 y2 y3 y4 y5 y6 y7 y8 y9 y10 M0 M1 → W p l e (headSpec wsX5_totalFrom (rmX5_totalFrom rT)).room s m ([.ref h0, .int p1, .int p2, .int p3, .int p4, .int p5, .int p6] : List Value).toArray below meth c H locs 0 0 (MQ below (va_Qi (fun (r : Int32) (u : gS × gS) => Q r u.1 u.2) (pcB dC dI cB cI cJ cZ h0 a0 a1 A) A) ([.ref h0, .int p1, .int p2, .int p3, .int p4, .int p5, .int p6] : List Value).toArray s 0 0 A) (F0 m 82 ls [])) (y1 : Int32) (y2 : Int32) (y3 : Int32) (y4 : Int32) (y5 : Int32) (y6 : Int32) (y7 : Int32) (y8 : Int32) (y9 : Int32) (y10 : Int32) (M0 : gS) (M1 : gS) (H : Heap) (locs : List Loc) (ls : Array Slot), va_P (dC, dI) vwCl (pcW cB cI cJ cZ h0 a0 a1 M0 M1) H → va_D A (pcW cB cI cJ cZ h0 a0 a1 M0 M1) → va_S A s.heap H locs → lv_has ls 14 [(0, .ref h0), (1, .int y1), (2, .int y2), (3, .int y3), (4, .int y4), (5, .int y5), (6, .int y6), (7, .int y7), (8, .int y8), (9, .int y9), (10, .int y10)] → wX5_totalFrom_192 T B82 Q y1 y2 y3 y4 y5 y6 y7 y8 y9 y10 M0 M1 → W p l e (headSpec wsX5_totalFrom (rmX5_totalFrom rT)).room s m ([.ref h0, .int p1, .int p2, .int p3, .int p4, .int p5, .int p6] : List Value).toArray below meth c H locs 0 0 (MQ below (va_Qi (fun (r : Int32) (u : gS × gS) => Q r u.1 u.2) (pcB dC dI cB cI cJ cZ h0 a0 a1 A) A) ([.ref h0, .int p1, .int p2, .int p3, .int p4, .int p5, .int p6] : List Value).toArray s 0 0 A) (F0 m 192 ls []) := by
    intro B82 hB82 y1 y2 y3 y4 y5 y6 y7 y8 y9 y10 M0 M1 H locs ls hP hD hS hl h
    unfold wX5_totalFrom_192 at h
    obtain ⟨x1, ex1⟩ : ∃ y : Int32, y = y10 + (1 : Int32) := ⟨_, rfl⟩
    have h := h x1 ex1
    refine lv_iinc (v := x1) (lv' := [(10, .int x1), (0, .ref h0), (1, .int y1), (2, .int y2), (3, .int y3), (4, .int y4), (5, .int y5), (6, .int y6), (7, .int y7), (8, .int y8), (9, .int y9)]) hx hb dX5_totalFrom_192 hl (k := 10) rfl (by rw [ex1]; rfl) (by decide) rfl (fun ls hl => ?_)
    refine lv_goto (tgt := 82) hx hb dX5_totalFrom_195 (by decide) ?_
    exact hB82 y1 y2 y3 y4 y5 y6 y7 y8 y9 x1 M0 M1 H locs ls hP hD hS (lv_sub hl [1, 2, 3, 4, 5, 6, 7, 8, 9, 10, 0] rfl) h
  have b186 : ∀ (B82 : Int32 → Int32 → Int32 → Int32 → Int32 → Int32 → Int32 → Int32 → Int32 → Int32 → gS → gS → Prop) (hB82 : ∀ (y1 : Int32) (y2 : Int32) (y3 : Int32) (y4 : Int32) (y5 : Int32) (y6 : Int32) (y7 : Int32) (y8 : Int32) (y9 : Int32) (y10 : Int32) (M0 : gS) (M1 : gS) (H : Heap) (locs : List Loc) (ls : Array Slot), va_P (dC, dI) vwCl (pcW cB cI cJ cZ h0 a0 a1 M0 M1) H → va_D A (pcW cB cI cJ cZ h0 a0 a1 M0 M1) → va_S A s.heap H locs → lv_has ls 14 [(0, .ref h0), (1, .int y1), (2, .int y2), (3, .int y3), (4, .int y4), (5, .int y5), (6, .int y6), (7, .int y7), (8, .int y8), (9, .int y9), (10, .int y10)] → B82 y1 y2 y3 y4 y5 y6 y7 y8 y9 y10 M0 M1 → W p l e (headSpec wsX5_totalFrom (rmX5_totalFrom rT)).room s m ([.ref h0, .int p1, .int p2, .int p3, .int p4, .int p5, .int p6] : List Value).toArray below meth c H locs 0 0 (MQ below (va_Qi (fun (r : Int32) (u : gS × gS) => Q r u.1 u.2) (pcB dC dI cB cI cJ cZ h0 a0 a1 A) A) ([.ref h0, .int p1, .int p2, .int p3, .int p4, .int p5, .int p6] : List Value).toArray s 0 0 A) (F0 m 82 ls [])) (y1 : Int32) (y2 : Int32) (y3 : Int32) (y4 : Int32) (y5 : Int32) (y6 : Int32) (y7 : Int32) (y8 : Int32) (y10 : Int32) (z7 : Int32) (z5 : Int32) (z4 : Int32) (z3 : Int32) (z2 : Int32) (z1 : Int32) (z0 : Int32) (M0 : gS) (M1 : gS) (H : Heap) (locs : List Loc) (ls : Array Slot), va_P (dC, dI) vwCl (pcW cB cI cJ cZ h0 a0 a1 M0 M1) H → va_D A (pcW cB cI cJ cZ h0 a0 a1 M0 M1) → va_S A s.heap H locs → lv_has ls 14 [(0, .ref h0), (1, .int y1), (2, .int y2), (3, .int y3), (4, .int y4), (5, .int y5), (6, .int y6), (7, .int y7), (8, .int y8), (10, .int y10)] → wX5_totalFrom_186 T B82 Q y1 y2 y3 y4 y5 y6 y7 y8 y10 z7 z5 z4 z3 z2 z1 z0 M0 M1 → W p l e (headSpec wsX5_totalFrom (rmX5_totalFrom rT)).room s m ([.ref h0, .int p1, .int p2, .int p3, .int p4, .int p5, .int p6] : List Value).toArray below meth c H locs 0 0 (MQ below (va_Qi (fun (r : Int32) (u : gS × gS) => Q r u.1 u.2) (pcB dC dI cB cI cJ cZ h0 a0 a1 A) A) ([.ref h0, .int p1, .int p2, .int p3, .int p4, .int p5, .int p6] : List Value).toArray s 0 0 A) (F0 m 186 ls [.int z0, .int z1, .int z2, .int z3, .int z4, .int z5, .ref h0, .int z7]) := by
    intro B82 hB82 y1 y2 y3 y4 y5 y6 y7 y8 y10 z7 z5 z4 z3 z2 z1 z0 M0 M1 H locs ls hP hD hS hl h
    unfold wX5_totalFrom_186 at h
    have hFc := gs_free hD hS hA
    refine va_calli (va_runV (As := [.int z5, .int z4, .int z3, .int z2, .int z1, .int z0]) (rest := [.int z7]) ⟨hx, hb, hml, hown, hts⟩ (hT H.size z5 z4 z3 z2 z1 z0 M0 M1 _ h) (cwV 6 hts gX5_totalFrom_X5_behind rfl hrT.1 hrT.2 (by decide +kernel) ⟨by show rT.frames + 1 ≤ rT.frames + 1; omega, by show 8 + (7 + 11) + rT.locals ≤ rT.locals + 26; omega⟩) (pcpV hK hP hD) rfl rfl hl.1 rfl (lv_room (Nat.le_of_ble_eq_true rfl)) dX5_totalFrom_186 ⟨Nat.le_of_ble_eq_true rfl, Nat.le_of_ble_eq_true rfl⟩) hS (fun q _ z => hFc q z) hFc (fun r1 u t H1 locs ht hvm hw hB hz1 hk1 hS => ?_)
    obtain ⟨N2, N3⟩ := u
    obtain ⟨hP, hD⟩ := gs_back ht hFc hB
    generalize H1 = H at hP hS ⊢
    have h := hw
    try dsimp only at h
    refine lv_iadd hx hb dX5_totalFrom_189 ?_
    refine lv_topi (fun x4 ex4 => ?_)
    have h := h x4 ex4
    refine lv_istore (lv' := [(9, .int x4), (0, .ref h0), (1, .int y1), (2, .int y2), (3, .int y3), (4, .int y4), (5, .int y5), (6, .int y6), (7, .int y7), (8, .int y8), (10, .int y10)]) hx hb dX5_totalFrom_190 hl (by decide) rfl (fun ls hl => ?_)
    exact b192 _ hB82 y1 y2 y3 y4 y5 y6 y7 y8 x4 y10 N2 N3 H locs ls hP hD hS (lv_sub hl [1, 2, 3, 4, 5, 6, 7, 8, 9, 0, 10] rfl) h
  have b144 : ∀ (B82 : Int32 → Int32 → Int32 → Int32 → Int32 → Int32 → Int32 → Int32 → Int32 → Int32 → gS → gS → Prop) (hB82 : ∀ (y1 : Int32) (y2 : Int32) (y3 : Int32) (y4 : Int32) (y5 : Int32) (y6 : Int32) (y7 : Int32) (y8 : Int32) (y9 : Int32) (y10 : Int32) (M0 : gS) (M1 : gS) (H : Heap) (locs : List Loc) (ls : Array Slot), va_P (dC, dI) vwCl (pcW cB cI cJ cZ h0 a0 a1 M0 M1) H → va_D A (pcW cB cI cJ cZ h0 a0 a1 M0 M1) → va_S A s.heap H locs → lv_has ls 14 [(0, .ref h0), (1, .int y1), (2, .int y2), (3, .int y3), (4, .int y4), (5, .int y5), (6, .int y6), (7, .int y7), (8, .int y8), (9, .int y9), (10, .int y10)] → B82 y1 y2 y3 y4 y5 y6 y7 y8 y9 y10 M0 M1 → W p l e (headSpec wsX5_totalFrom (rmX5_totalFrom rT)).room s m ([.ref h0, .int p1, .int p2, .int p3, .int p4, .int p5, .int p6] : List Value).toArray below meth c H locs 0 0 (MQ below (va_Qi (fun (r : Int32) (u : gS × gS) => Q r u.1 u.2) (pcB dC dI cB cI cJ cZ h0 a0 a1 A) A) ([.ref h0, .int p1, .int p2, .int p3, .int p4, .int p5, .int p6] : List Value).toArray s 0 0 A) (F0 m 82 ls [])) (y1 : Int32) (y2 : Int32) (y3 : Int32) (y4 : Int32) (y5 : Int32) (y6 : Int32) (y7 : Int32) (y8 : Int32) (y9 : Int32) (y10 : Int32) (y11 : Int32) (z0 : Int32) (M0 : gS) (M1 : gS) (H : Heap) (locs : List Loc) (ls : Array Slot), va_P (dC, dI) vwCl (pcW cB cI cJ cZ h0 a0 a1 M0 M1) H → va_D A (pcW cB cI cJ cZ h0 a0 a1 M0 M1) → va_S A s.heap H locs → lv_has ls 14 [(0, .ref h0), (1, .int y1), (2, .int y2), (3, .int y3), (4, .int y4), (5, .int y5), (6, .int y6), (7, .int y7), (8, .int y8), (9, .int y9), (10, .int y10), (11, .int y11)] → wX5_totalFrom_144 T B82 Q y1 y2 y3 y4 y5 y6 y7 y8 y9 y10 y11 z0 M0 M1 → W p l e (headSpec wsX5_totalFrom (rmX5_totalFrom rT)).room s m ([.ref h0, .int p1, .int p2, .int p3, .int p4, .int p5, .int p6] : List Value).toArray below meth c H locs 0 0 (MQ below (va_Qi (fun (r : Int32) (u : gS × gS) => Q r u.1 u.2) (pcB dC dI cB cI cJ cZ h0 a0 a1 A) A) ([.ref h0, .int p1, .int p2, .int p3, .int p4, .int p5, .int p6] : List Value).toArray s 0 0 A) (F0 m 144 ls [.int z0]) := by
    intro B82 hB82 y1 y2 y3 y4 y5 y6 y7 y8 y9 y10 y11 z0 M0 M1 H locs ls hP hD hS hl h
    unfold wX5_totalFrom_144 at h
    refine lv_istore (lv' := [(12, .int z0), (0, .ref h0), (1, .int y1), (2, .int y2), (3, .int y3), (4, .int y4), (5, .int y5), (6, .int y6), (7, .int y7), (8, .int y8), (9, .int y9), (10, .int y10), (11, .int y11)]) hx hb dX5_totalFrom_144 hl (by decide) rfl (fun ls hl => ?_)
    refine lv_bipush (v := (8)) hx hb dX5_totalFrom_146 (by decide) ?_
    refine lv_iload hx hb dX5_totalFrom_148 (lv_at hl 5 rfl) ?_
    refine lv_bipush (v := (8)) hx hb dX5_totalFrom_150 (by decide) ?_
    refine lv_irem hx hb dX5_totalFrom_152 (by decide) ?_
    refine lv_imul hx hb dX5_totalFrom_153 ?_
    refine lv_iload hx hb dX5_totalFrom_154 (lv_at hl 5 rfl) ?_
    refine lv_bipush (v := (8)) hx hb dX5_totalFrom_156 (by decide) ?_
    refine lv_idiv hx hb dX5_totalFrom_158 (by decide) ?_
    refine lv_iadd hx hb dX5_totalFrom_159 ?_
    refine lv_topi (fun x1 ex1 => ?_)
    have h := h x1 ex1
    refine lv_istore (lv' := [(13, .int x1), (12, .int z0), (0, .ref h0), (1, .int y1), (2, .int y2), (3, .int y3), (4, .int y4), (5, .int y5), (6, .int y6), (7, .int y7), (8, .int y8), (9, .int y9), (10, .int y10), (11, .int y11)]) hx hb dX5_totalFrom_160 hl (by decide) rfl (fun ls hl => ?_)
    refine lv_iload hx hb dX5_totalFrom_162 (lv_at hl 11 rfl) ?_
    refine lv_aload_n hx hb dX5_totalFrom_164 rfl (lv_at hl 2 rfl) ?_
    refine lv_iload_n hx hb dX5_totalFrom_165 rfl (lv_at hl 3 rfl) ?_
    refine lv_iconst (v := 1) hx hb dX5_totalFrom_166 (by decide) ?_
    refine lv_isub hx hb dX5_totalFrom_167 ?_
    refine lv_iload hx hb dX5_totalFrom_168 (lv_at hl 13 rfl) ?_
    refine lv_iload hx hb dX5_totalFrom_170 (lv_at hl 1 rfl) ?_
    refine lv_iload hx hb dX5_totalFrom_172 (lv_at hl 0 rfl) ?_
    refine lv_iload hx hb dX5_totalFrom_174 (lv_at hl 7 rfl) ?_
    refine lv_iload hx hb dX5_totalFrom_176 (lv_at hl 8 rfl) ?_
    refine lv_if_ne (tgt := 185) hx hb dX5_totalFrom_178 (by decide) (fun c2 => ?_) (fun c2 => ?_)
    · have h := h.2 c2
      refine lv_iconst (v := 0) hx hb dX5_totalFrom_185 (by decide) ?_
      exact b186 _ hB82 y1 y2 y3 y4 y5 y6 y7 y8 y10 y9 (y1 - (1 : Int32)) y11 z0 x1 y5 (0 : Int32) M0 M1 H locs ls hP hD hS (lv_sub hl [2, 3, 4, 5, 6, 7, 8, 9, 10, 12] rfl) h
    · have h := h.1 c2
      refine lv_iconst (v := 1) hx hb dX5_totalFrom_181 (by decide) ?_
      refine lv_goto (tgt := 186) hx hb dX5_totalFrom_182 (by decide) ?_
      exact b186 _ hB82 y1 y2 y3 y4 y5 y6 y7 y8 y10 y9 (y1 - (1 : Int32)) y11 z0 x1 y5 (1 : Int32) M0 M1 H locs ls hP hD hS (lv_sub hl [2, 3, 4, 5, 6, 7, 8, 9, 10, 12] rfl) h
  have b82 : ∀ (n : Nat) (y1 : Int32) (y2 : Int32) (y3 : Int32) (y4 : Int32) (y5 : Int32) (y6 : Int32) (y7 : Int32) (y8 : Int32) (y9 : Int32) (y10 : Int32) (M0 : gS) (M1 : gS) (H : Heap) (locs : List Loc) (ls : Array Slot), va_P (dC, dI) vwCl (pcW cB cI cJ cZ h0 a0 a1 M0 M1) H → va_D A (pcW cB cI cJ cZ h0 a0 a1 M0 M1) → va_S A s.heap H locs → lv_has ls 14 [(0, .ref h0), (1, .int y1), (2, .int y2), (3, .int y3), (4, .int y4), (5, .int y5), (6, .int y6), (7, .int y7), (8, .int y8), (9, .int y9), (10, .int y10)] → wX5_totalFrom_82 T  Q n y1 y2 y3 y4 y5 y6 y7 y8 y9 y10 M0 M1 → W p l e (headSpec wsX5_totalFrom (rmX5_totalFrom rT)).room s m ([.ref h0, .int p1, .int p2, .int p3, .int p4, .int p5, .int p6] : List Value).toArray below meth c H locs 0 0 (MQ below (va_Qi (fun (r : Int32) (u : gS × gS) => Q r u.1 u.2) (pcB dC dI cB cI cJ cZ h0 a0 a1 A) A) ([.ref h0, .int p1, .int p2, .int p3, .int p4, .int p5, .int p6] : List Value).toArray s 0 0 A) (F0 m 82 ls []) := by
    intro  n
    induction n with
    | zero => intro y1 y2 y3 y4 y5 y6 y7 y8 y9 y10 M0 M1 H locs ls hP hD hS hl h; exact absurd h (by simp [wX5_totalFrom_82])
    | succ n hB820 =>
      intro y1 y2 y3 y4 y5 y6 y7 y8 y9 y10 M0 M1 H locs ls hP hD hS hl h
      have hB82 := hB820
      rw [wX5_totalFrom_82] at h
      refine lv_iload hx hb dX5_totalFrom_82 (lv_at hl 10 rfl) ?_
      refine lv_aload_n hx hb dX5_totalFrom_84 rfl (lv_at hl 0 rfl) ?_
      refine va_get (D := (dC, dI)) (ci := 5) (v := .ref (a0 2)) (C := RX5) (T := TX5) (N := 4) hx hb hts hinX5 hown hK hP 0 rfl rfl 2 (by decide) f3 (fun _ h9 => h9) rfl dX5_totalFrom_85 ?_
      refine va_get (D := (dC, dI)) (ci := 1) (v := .int (mg M1 2)) (C := RX1) (T := TX1) (N := 6) hx hb hts hinX1 hown hK hP 3 rfl rfl 2 (by decide) f4 (fun _ h9 => h9) rfl dX5_totalFrom_88 ?_
      refine lv_icmp_ge (tgt := 198) hx hb dX5_totalFrom_91 (by decide) (fun c1 => ?_) (fun c1 => ?_)
      · have h := h.1 c1
        refine lv_iload hx hb dX5_totalFrom_198 (lv_at hl 5 rfl) ?_
        refine lv_if_le (tgt := 243) hx hb dX5_totalFrom_200 (by decide) (fun c2 => ?_) (fun c2 => ?_)
        · have h := h.1 c2
          exact b243  y7 y8 y9 M0 M1 H locs ls hP hD hS (lv_sub hl [0, 7, 8, 9] rfl) h
        · have h := h.2 c2
          refine lv_aload_n hx hb dX5_totalFrom_203 rfl (lv_at hl 0 rfl) ?_
          refine lv_iload_n hx hb dX5_totalFrom_204 rfl (lv_at hl 2 rfl) ?_
          refine lv_iload hx hb dX5_totalFrom_205 (lv_at hl 4 rfl) ?_
          have hPc := hP.sub (ws' := (paW cB cI cJ cZ h0 a0 M0)) [0, 1, 2] rfl
          have hDc := hD.sub (ws' := (paW cB cI cJ cZ h0 a0 M0)) [0, 1, 2] (by decide) rfl
          have hFc := va_free (wc := (paW cB cI cJ cZ h0 a0 M0)) hD hS hA [0, 1, 2] rfl
          refine va_calli (va_runV (As := [.int y2, .int y4]) (rest := []) ⟨hx, hb, hml, hown, hts⟩ (kX5_mayThrow l dC dI cB cI cJ cZ h0 a0 H.size y2 y4 M0 _ h) (cwV 2 hts gX5_totalFrom_X5_mayThrow rfl rfl rfl (by decide +kernel) ⟨by show 0 + 1 ≤ rT.frames + 1; omega, by show 8 + (3 + 11) + 0 ≤ rT.locals + 26; omega⟩) (papV hK hPc hDc) rfl rfl hl.1 rfl (lv_room (Nat.le_of_ble_eq_true rfl)) dX5_totalFrom_207 ⟨Nat.le_of_ble_eq_true rfl, Nat.le_of_ble_eq_true rfl⟩) hS (fun q _ z => hFc q z) hFc (fun r3 u t H1 locs ht hvm hw hB hz1 hk1 hS => ?_)
          obtain ⟨N4, rfl⟩ : ∃ z, z = u := ⟨_, rfl⟩
          obtain ⟨hP1, hK1, hD1⟩ := hB
          rw [ht] at hP1
          obtain ⟨hP, hD⟩ := va_join (wr := [(a0 2, .inr (1, [.int (mg M1 0), .ref (a1 1), .int (mg M1 2), .ref (a1 3), .int (mg M1 4), .ref (a1 5)])), (a1 1, .inl (cI, 4, .inl (ma M1 1))), (a1 3, .inl (cI, 4, .inl (ma M1 3))), (a1 5, .inl (cI, 2, .inl (ma M1 5)))]) (w1 := (paW cB cI cJ cZ h0 a0 N4)) hP hD [0, 1, 2] [3, 4, 5, 6] rfl rfl (by decide) (by decide) hk1 hFc hP1 hD1
          have hP := hP.sub (ws' := (pcW cB cI cJ cZ h0 a0 a1 N4 M1)) [4, 5, 6, 0, 1, 2, 3] rfl
          have hD := hD.sub (ws' := (pcW cB cI cJ cZ h0 a0 a1 N4 M1)) [4, 5, 6, 0, 1, 2, 3] (by decide) rfl
          generalize H1 = H at hP hS ⊢
          obtain ⟨b5, rfl, h⟩ := hw
          try dsimp only at h
          refine lv_if_eq (tgt := 243) hx hb dX5_totalFrom_210 (by decide) (fun c6 => ?_) (fun c6 => ?_)
          · have h := h.1 c6
            exact b243  y7 y8 y9 N4 M1 H locs ls hP hD hS (lv_sub hl [0, 7, 8, 9] rfl) h
          · have h := h.2 c6
            refine lv_iload hx hb dX5_totalFrom_213 (lv_at hl 9 rfl) ?_
            refine lv_aload_n hx hb dX5_totalFrom_215 rfl (lv_at hl 0 rfl) ?_
            refine lv_iload_n hx hb dX5_totalFrom_216 rfl (lv_at hl 1 rfl) ?_
            refine lv_iconst (v := 1) hx hb dX5_totalFrom_217 (by decide) ?_
            refine lv_isub hx hb dX5_totalFrom_218 ?_
            refine lv_iload_n hx hb dX5_totalFrom_219 rfl (lv_at hl 2 rfl) ?_
            refine lv_aload_n hx hb dX5_totalFrom_220 rfl (lv_at hl 0 rfl) ?_
            refine va_get (D := (dC, dI)) (ci := 5) (v := .int (mg N4 3)) (C := RX5) (T := TX5) (N := 4) hx hb hts hinX5 hown hK hP 0 rfl rfl 3 (by decide) f5 (fun _ h9 => h9) rfl dX5_totalFrom_221 ?_
            refine lv_iadd hx hb dX5_totalFrom_224 ?_
            refine lv_iload_n hx hb dX5_totalFrom_225 rfl (lv_at hl 3 rfl) ?_
            refine lv_iload hx hb dX5_totalFrom_226 (lv_at hl 4 rfl) ?_
            refine lv_bipush (v := (8)) hx hb dX5_totalFrom_228 (by decide) ?_
            refine lv_isub hx hb dX5_totalFrom_230 ?_
            refine lv_iload hx hb dX5_totalFrom_231 (lv_at hl 5 rfl) ?_
            refine lv_iconst (v := 1) hx hb dX5_totalFrom_233 (by decide) ?_
            refine lv_isub hx hb dX5_totalFrom_234 ?_
            refine lv_iload hx hb dX5_totalFrom_235 (lv_at hl 6 rfl) ?_
            have hFc := gs_free hD hS hA
            refine va_calli (va_runV (As := [.int (y1 - (1 : Int32)), .int (y2 + (mg N4 3)), .int y3, .int (y4 - (8 : Int32)), .int (y5 - (1 : Int32)), .int y6]) (rest := [.int y9]) ⟨hx, hb, hml, hown, hts⟩ (hT H.size (y1 - (1 : Int32)) (y2 + (mg N4 3)) y3 (y4 - (8 : Int32)) (y5 - (1 : Int32)) y6 N4 M1 _ h) (cwV 6 hts gX5_totalFrom_X5_behind rfl hrT.1 hrT.2 (by decide +kernel) ⟨by show rT.frames + 1 ≤ rT.frames + 1; omega, by show 8 + (7 + 11) + rT.locals ≤ rT.locals + 26; omega⟩) (pcpV hK hP hD) rfl rfl hl.1 rfl (lv_room (Nat.le_of_ble_eq_true rfl)) dX5_totalFrom_237 ⟨Nat.le_of_ble_eq_true rfl, Nat.le_of_ble_eq_true rfl⟩) hS (fun q _ z => hFc q z) hFc (fun r7 u t H1 locs ht hvm hw hB hz1 hk1 hS => ?_)
            obtain ⟨N8, N9⟩ := u
            obtain ⟨hP, hD⟩ := gs_back ht hFc hB
            generalize H1 = H at hP hS ⊢
            have h := hw
            try dsimp only at h
            refine lv_iadd hx hb dX5_totalFrom_240 ?_
            refine lv_topi (fun x10 ex10 => ?_)
            have h := h x10 ex10
            refine lv_istore (lv' := [(9, .int x10), (0, .ref h0), (1, .int y1), (2, .int y2), (3, .int y3), (4, .int y4), (5, .int y5), (6, .int y6), (7, .int y7), (8, .int y8), (10, .int y10)]) hx hb dX5_totalFrom_241 hl (by decide) rfl (fun ls hl => ?_)
            exact b243  y7 y8 x10 N8 N9 H locs ls hP hD hS (lv_sub hl [1, 8, 9, 0] rfl) h
      · have h := h.2 c1
        refine lv_iload_n hx hb dX5_totalFrom_94 rfl (lv_at hl 2 rfl) ?_
        refine lv_aload_n hx hb dX5_totalFrom_95 rfl (lv_at hl 0 rfl) ?_
        refine va_get (D := (dC, dI)) (ci := 5) (v := .ref (a0 2)) (C := RX5) (T := TX5) (N := 4) hx hb hts hinX5 hown hK hP 0 rfl rfl 2 (by decide) f3 (fun _ h9 => h9) rfl dX5_totalFrom_96 ?_
        refine lv_iload hx hb dX5_totalFrom_99 (lv_at hl 10 rfl) ?_
        refine lv_iload_n hx hb dX5_totalFrom_101 rfl (lv_at hl 3 rfl) ?_
        refine lv_bipush (v := (8)) hx hb dX5_totalFrom_102 (by decide) ?_
        refine lv_idiv hx hb dX5_totalFrom_104 (by decide) ?_
        refine lv_iconst (v := 1) hx hb dX5_totalFrom_105 (by decide) ?_
        refine lv_isub hx hb dX5_totalFrom_106 ?_
        have hPc := hP.sub (ws' := (cnW cB cI cJ cZ (a0 2) a1 M1)) [3, 4, 5, 6] rfl
        have hDc := hD.sub (ws' := (cnW cB cI cJ cZ (a0 2) a1 M1)) [3, 4, 5, 6] (by decide) rfl
        have hFc := va_free (wc := (cnW cB cI cJ cZ (a0 2) a1 M1)) hD hS hA [3, 4, 5, 6] rfl
        refine va_calli (va_runV (As := [.int y10, .int ((y3 / (8 : Int32)) - (1 : Int32))]) (rest := [.int y2]) ⟨hx, hb, hml, hown, hts⟩ (kX1_cost l dC dI cB cI cJ cZ (a0 2) a1 H.size y10 ((y3 / (8 : Int32)) - (1 : Int32)) M1 _ h) (cwV 2 hts gX5_totalFrom_X1_cost rfl rfl rfl (by decide +kernel) ⟨by show 0 + 1 ≤ rT.frames + 1; omega, by show 8 + (3 + 11) + 0 ≤ rT.locals + 26; omega⟩) (cnpV hK hPc hDc) rfl rfl hl.1 rfl (lv_room (Nat.le_of_ble_eq_true rfl)) dX5_totalFrom_107 ⟨Nat.le_of_ble_eq_true rfl, Nat.le_of_ble_eq_true rfl⟩) hS (fun q _ z => hFc q z) hFc (fun r11 u t H1 locs ht hvm hw hB hz1 hk1 hS => ?_)
        obtain ⟨N12, rfl⟩ : ∃ z, z = u := ⟨_, rfl⟩
        obtain ⟨hP1, hK1, hD1⟩ := hB
        rw [ht] at hP1
        obtain ⟨hP, hD⟩ := va_join (wr := [(h0, .inr (5, [.ref (a0 0), .ref (a0 1), .ref (a0 2), .int (mg M0 3)])), (a0 0, .inl (cI, 2048, .inl (ma M0 0))), (a0 1, .inl (cI, 2048, .inl (ma M0 1)))]) (w1 := (cnW cB cI cJ cZ (a0 2) a1 N12)) hP hD [3, 4, 5, 6] [0, 1, 2] rfl rfl (by decide) (by decide) hk1 hFc hP1 hD1
        have hP := hP.sub (ws' := (pcW cB cI cJ cZ h0 a0 a1 M0 N12)) [0, 1, 2, 3, 4, 5, 6] rfl
        have hD := hD.sub (ws' := (pcW cB cI cJ cZ h0 a0 a1 M0 N12)) [0, 1, 2, 3, 4, 5, 6] (by decide) rfl
        generalize H1 = H at hP hS ⊢
        have h := hw
        try dsimp only at h
        refine lv_isub hx hb dX5_totalFrom_110 ?_
        refine lv_topi (fun x13 ex13 => ?_)
        have h := h x13 ex13
        refine lv_istore (lv' := [(11, .int x13), (0, .ref h0), (1, .int y1), (2, .int y2), (3, .int y3), (4, .int y4), (5, .int y5), (6, .int y6), (7, .int y7), (8, .int y8), (9, .int y9), (10, .int y10)]) hx hb dX5_totalFrom_111 hl (by decide) rfl (fun ls hl => ?_)
        refine lv_iload hx hb dX5_totalFrom_113 (lv_at hl 0 rfl) ?_
        refine lv_if_lt (tgt := 192) hx hb dX5_totalFrom_115 (by decide) (fun c14 => ?_) (fun c14 => ?_)
        · have h := h.1 c14
          exact b192 _ hB82 y1 y2 y3 y4 y5 y6 y7 y8 y9 y10 M0 N12 H locs ls hP hD hS (lv_sub hl [1, 2, 3, 4, 5, 6, 7, 8, 9, 10, 11] rfl) h
        · have h := h.2 c14
          refine lv_aload_n hx hb dX5_totalFrom_118 rfl (lv_at hl 1 rfl) ?_
          refine va_get (D := (dC, dI)) (ci := 5) (v := .ref (a0 2)) (C := RX5) (T := TX5) (N := 4) hx hb hts hinX5 hown hK hP 0 rfl rfl 2 (by decide) f3 (fun _ h9 => h9) rfl dX5_totalFrom_119 ?_
          refine va_get (D := (dC, dI)) (ci := 1) (v := .int (mg N12 4)) (C := RX1) (T := TX1) (N := 6) hx hb hts hinX1 hown hK hP 3 rfl rfl 4 (by decide) f6 (fun _ h9 => h9) rfl dX5_totalFrom_122 ?_
          refine lv_if_ne (tgt := 132) hx hb dX5_totalFrom_125 (by decide) (fun c15 => ?_) (fun c15 => ?_)
          · have h := h.2 c15
            refine lv_bipush (v := (8)) hx hb dX5_totalFrom_132 (by decide) ?_
            refine lv_iload_n hx hb dX5_totalFrom_134 rfl (lv_at hl 4 rfl) ?_
            refine lv_bipush (v := (8)) hx hb dX5_totalFrom_135 (by decide) ?_
            refine lv_irem hx hb dX5_totalFrom_137 (by decide) ?_
            refine lv_imul hx hb dX5_totalFrom_138 ?_
            refine lv_iload hx hb dX5_totalFrom_139 (lv_at hl 11 rfl) ?_
            refine lv_iadd hx hb dX5_totalFrom_141 ?_
            refine lv_iconst (v := 1) hx hb dX5_totalFrom_142 (by decide) ?_
            refine lv_iadd hx hb dX5_totalFrom_143 ?_
            exact b144 _ hB82 y1 y2 y3 y4 y5 y6 y7 y8 y9 y10 x13 ((((8 : Int32) * (y3 - y3 / (8 : Int32) * (8 : Int32))) + y10) + (1 : Int32)) M0 N12 H locs ls hP hD hS (lv_sub hl [1, 2, 3, 4, 5, 6, 7, 8, 9, 10, 11, 0] rfl) h
          · have h := h.1 c15
            refine lv_iconst (v := 0) hx hb dX5_totalFrom_128 (by decide) ?_
            refine lv_goto (tgt := 144) hx hb dX5_totalFrom_129 (by decide) ?_
            exact b144 _ hB82 y1 y2 y3 y4 y5 y6 y7 y8 y9 y10 x13 (0 : Int32) M0 N12 H locs ls hP hD hS (lv_sub hl [1, 2, 3, 4, 5, 6, 7, 8, 9, 10, 11, 0] rfl) h
  have b77 : ∀ (y1 : Int32) (y2 : Int32) (y3 : Int32) (y4 : Int32) (y5 : Int32) (y6 : Int32) (y7 : Int32) (y8 : Int32) (z0 : Int32) (M0 : gS) (M1 : gS) (H : Heap) (locs : List Loc) (ls : Array Slot), va_P (dC, dI) vwCl (pcW cB cI cJ cZ h0 a0 a1 M0 M1) H → va_D A (pcW cB cI cJ cZ h0 a0 a1 M0 M1) → va_S A s.heap H locs → lv_has ls 14 [(0, .ref h0), (1, .int y1), (2, .int y2), (3, .int y3), (4, .int y4), (5, .int y5), (6, .int y6), (7, .int y7), (8, .int y8)] → wX5_totalFrom_77 T  Q y1 y2 y3 y4 y5 y6 y7 y8 z0 M0 M1 → W p l e (headSpec wsX5_totalFrom (rmX5_totalFrom rT)).room s m ([.ref h0, .int p1, .int p2, .int p3, .int p4, .int p5, .int p6] : List Value).toArray below meth c H locs 0 0 (MQ below (va_Qi (fun (r : Int32) (u : gS × gS) => Q r u.1 u.2) (pcB dC dI cB cI cJ cZ h0 a0 a1 A) A) ([.ref h0, .int p1, .int p2, .int p3, .int p4, .int p5, .int p6] : List Value).toArray s 0 0 A) (F0 m 77 ls [.int z0]) := by
    intro  y1 y2 y3 y4 y5 y6 y7 y8 z0 M0 M1 H locs ls hP hD hS hl h
    unfold wX5_totalFrom_77 at h
    refine lv_istore (lv' := [(9, .int z0), (0, .ref h0), (1, .int y1), (2, .int y2), (3, .int y3), (4, .int y4), (5, .int y5), (6, .int y6), (7, .int y7), (8, .int y8)]) hx hb dX5_totalFrom_77 hl (by decide) rfl (fun ls hl => ?_)
    refine lv_iconst (v := 0) hx hb dX5_totalFrom_79 (by decide) ?_
    refine lv_istore (lv' := [(10, .int (0 : Int32)), (9, .int z0), (0, .ref h0), (1, .int y1), (2, .int y2), (3, .int y3), (4, .int y4), (5, .int y5), (6, .int y6), (7, .int y7), (8, .int y8)]) hx hb dX5_totalFrom_80 hl (by decide) rfl (fun ls hl => ?_)
    obtain ⟨n9, h⟩ := h
    exact b82  n9 y1 y2 y3 y4 y5 y6 y7 y8 z0 (0 : Int32) M0 M1 H locs ls hP hD hS (lv_sub hl [2, 3, 4, 5, 6, 7, 8, 9, 10, 1, 0] rfl) h
  have b76 : ∀ (y1 : Int32) (y2 : Int32) (y3 : Int32) (y4 : Int32) (y5 : Int32) (y6 : Int32) (y7 : Int32) (y8 : Int32) (M0 : gS) (M1 : gS) (H : Heap) (locs : List Loc) (ls : Array Slot), va_P (dC, dI) vwCl (pcW cB cI cJ cZ h0 a0 a1 M0 M1) H → va_D A (pcW cB cI cJ cZ h0 a0 a1 M0 M1) → va_S A s.heap H locs → lv_has ls 14 [(0, .ref h0), (1, .int y1), (2, .int y2), (3, .int y3), (4, .int y4), (5, .int y5), (6, .int y6), (7, .int y7), (8, .int y8)] → wX5_totalFrom_76 T  Q y1 y2 y3 y4 y5 y6 y7 y8 M0 M1 → W p l e (headSpec wsX5_totalFrom (rmX5_totalFrom rT)).room s m ([.ref h0, .int p1, .int p2, .int p3, .int p4, .int p5, .int p6] : List Value).toArray below meth c H locs 0 0 (MQ below (va_Qi (fun (r : Int32) (u : gS × gS) => Q r u.1 u.2) (pcB dC dI cB cI cJ cZ h0 a0 a1 A) A) ([.ref h0, .int p1, .int p2, .int p3, .int p4, .int p5, .int p6] : List Value).toArray s 0 0 A) (F0 m 76 ls []) := by
    intro  y1 y2 y3 y4 y5 y6 y7 y8 M0 M1 H locs ls hP hD hS hl h
    unfold wX5_totalFrom_76 at h
    refine lv_iconst (v := 0) hx hb dX5_totalFrom_76 (by decide) ?_
    exact b77  y1 y2 y3 y4 y5 y6 y7 y8 (0 : Int32) M0 M1 H locs ls hP hD hS (lv_sub hl [0, 1, 2, 3, 4, 5, 6, 7, 8] rfl) h
  have bE : ∀ (M0 : gS) (M1 : gS) (H : Heap) (locs : List Loc) (ls : Array Slot), va_P (dC, dI) vwCl (pcW cB cI cJ cZ h0 a0 a1 M0 M1) H → va_D A (pcW cB cI cJ cZ h0 a0 a1 M0 M1) → va_S A s.heap H locs → lv_has ls 14 [(0, .ref h0), (1, .int p1), (2, .int p2), (3, .int p3), (4, .int p4), (5, .int p5), (6, .int p6)] → wX5_totalFrom T p1 p2 p3 p4 p5 p6 M0 M1 Q → W p l e (headSpec wsX5_totalFrom (rmX5_totalFrom rT)).room s m ([.ref h0, .int p1, .int p2, .int p3, .int p4, .int p5, .int p6] : List Value).toArray below meth c H locs 0 0 (MQ below (va_Qi (fun (r : Int32) (u : gS × gS) => Q r u.1 u.2) (pcB dC dI cB cI cJ cZ h0 a0 a1 A) A) ([.ref h0, .int p1, .int p2, .int p3, .int p4, .int p5, .int p6] : List Value).toArray s 0 0 A) (F0 m 0 ls []) := by
    intro M0 M1 H locs ls hP hD hS hl h
    unfold wX5_totalFrom at h
    refine lv_iload_n hx hb dX5_totalFrom_0 rfl (lv_at hl 1 rfl) ?_
    refine lv_if_le (tgt := 16) hx hb dX5_totalFrom_1 (by decide) (fun c1 => ?_) (fun c1 => ?_)
    · have h := h.1 c1
      refine lv_iconst (v := 0) hx hb dX5_totalFrom_16 (by decide) ?_
      exact W.iret (v := (0 : Int32)) hx hb hr (fun t ht hW => ⟨⟨_, (M0, M1), rfl, h, by rw [ht]; exact hP, va_K.moved hW.alike hK, hD⟩, hS.F ht⟩) hS.2.2 dX5_totalFrom_17
    · have h := h.2 c1
      refine lv_iload_n hx hb dX5_totalFrom_4 rfl (lv_at hl 1 rfl) ?_
      refine lv_bipush (v := (8)) hx hb dX5_totalFrom_5 (by decide) ?_
      refine lv_icmp_gt (tgt := 16) hx hb dX5_totalFrom_7 (by decide) (fun c2 => ?_) (fun c2 => ?_)
      · have h := h.1 c2
        refine lv_iconst (v := 0) hx hb dX5_totalFrom_16 (by decide) ?_
        exact W.iret (v := (0 : Int32)) hx hb hr (fun t ht hW => ⟨⟨_, (M0, M1), rfl, h, by rw [ht]; exact hP, va_K.moved hW.alike hK, hD⟩, hS.F ht⟩) hS.2.2 dX5_totalFrom_17
      · have h := h.2 c2
        refine lv_iload hx hb dX5_totalFrom_10 (lv_at hl 5 rfl) ?_
        refine lv_iload_n hx hb dX5_totalFrom_12 rfl (lv_at hl 1 rfl) ?_
        refine lv_icmp_le (tgt := 18) hx hb dX5_totalFrom_13 (by decide) (fun c3 => ?_) (fun c3 => ?_)
        · have h := h.1 c3
          refine lv_iload_n hx hb dX5_totalFrom_18 rfl (lv_at hl 1 rfl) ?_
          refine lv_iload_n hx hb dX5_totalFrom_19 rfl (lv_at hl 2 rfl) ?_
          refine lv_iload_n hx hb dX5_totalFrom_20 rfl (lv_at hl 3 rfl) ?_
          refine lv_iload hx hb dX5_totalFrom_21 (lv_at hl 4 rfl) ?_
          refine lv_iload hx hb dX5_totalFrom_23 (lv_at hl 5 rfl) ?_
          refine lv_iload hx hb dX5_totalFrom_25 (lv_at hl 6 rfl) ?_
          have hPc := hP.sub (ws' := (e0W cB cI cJ cZ  )) [] rfl
          have hDc := hD.sub (ws' := (e0W cB cI cJ cZ  )) [] (by decide) rfl
          have hFc := va_free (wc := (e0W cB cI cJ cZ  )) hD hS hA [] rfl
          refine va_calli (va_runS (As := [.int p1, .int p2, .int p3, .int p4, .int p5, .int p6]) (rest := []) ⟨hx, hb, hml, hown, hts⟩ (kX5_keyOf l dC dI cB cI cJ cZ  H.size p1 p2 p3 p4 p5 p6  _ h) (cwS 6 hts gX5_totalFrom_X5_keyOf rfl rfl rfl (by decide +kernel) ⟨by show 0 + 1 ≤ rT.frames + 1; omega, by show 8 + (7 + 11) + 0 ≤ rT.locals + 26; omega⟩) (e0pS hK hPc hDc) rfl rfl hl.1 rfl (lv_room (Nat.le_of_ble_eq_true rfl)) dX5_totalFrom_27 ⟨Nat.le_of_ble_eq_true rfl, Nat.le_of_ble_eq_true rfl⟩) hS (fun q _ z => hFc q z) hFc (fun r4 u t H1 locs ht hvm hw hB hz1 hk1 hS => ?_)
          obtain ⟨hP1, hK1, hD1⟩ := hB
          rw [ht] at hP1
          obtain ⟨hP, hD⟩ := va_join (wr := [(h0, .inr (5, [.ref (a0 0), .ref (a0 1), .ref (a0 2), .int (mg M0 3)])), (a0 0, .inl (cI, 2048, .inl (ma M0 0))), (a0 1, .inl (cI, 2048, .inl (ma M0 1))), (a0 2, .inr (1, [.int (mg M1 0), .ref (a1 1), .int (mg M1 2), .ref (a1 3), .int (mg M1 4), .ref (a1 5)])), (a1 1, .inl (cI, 4, .inl (ma M1 1))), (a1 3, .inl (cI, 4, .inl (ma M1 3))), (a1 5, .inl (cI, 2, .inl (ma M1 5)))]) (w1 := (e0W cB cI cJ cZ  )) hP hD [] [0, 1, 2, 3, 4, 5, 6] rfl rfl (by decide) (by decide) hk1 hFc hP1 hD1
          have hP := hP.sub (ws' := (pcW cB cI cJ cZ h0 a0 a1 M0 M1)) [0, 1, 2, 3, 4, 5, 6] rfl
          have hD := hD.sub (ws' := (pcW cB cI cJ cZ h0 a0 a1 M0 M1)) [0, 1, 2, 3, 4, 5, 6] (by decide) rfl
          generalize H1 = H at hP hS ⊢
          have h := hw
          try dsimp only at h
          refine lv_istore (lv' := [(7, .int r4), (0, .ref h0), (1, .int p1), (2, .int p2), (3, .int p3), (4, .int p4), (5, .int p5), (6, .int p6)]) hx hb dX5_totalFrom_30 hl (by decide) rfl (fun ls hl => ?_)
          refine lv_iload hx hb dX5_totalFrom_32 (lv_at hl 0 rfl) ?_
          refine lv_ldc (v := (-1640531535)) hx hb hown f7 dX5_totalFrom_34 ?_
          refine lv_imul hx hb dX5_totalFrom_36 ?_
          refine lv_bipush (v := (21)) hx hb dX5_totalFrom_37 (by decide) ?_
          refine lv_iushr hx hb dX5_totalFrom_39 rfl ?_
          refine lv_topi (fun x5 ex5 => ?_)
          have h := h x5 ex5
          refine lv_istore (lv' := [(8, .int x5), (7, .int r4), (0, .ref h0), (1, .int p1), (2, .int p2), (3, .int p3), (4, .int p4), (5, .int p5), (6, .int p6)]) hx hb dX5_totalFrom_40 hl (by decide) rfl (fun ls hl => ?_)
          refine lv_aload_n hx hb dX5_totalFrom_42 rfl (lv_at hl 2 rfl) ?_
          refine va_get (D := (dC, dI)) (ci := 5) (v := .ref (a0 0)) (C := RX5) (T := TX5) (N := 4) hx hb hts hinX5 hown hK hP 0 rfl rfl 0 (by decide) f1 (fun _ h9 => h9) rfl dX5_totalFrom_43 ?_
          refine lv_iload hx hb dX5_totalFrom_46 (lv_at hl 0 rfl) ?_
          refine va_iald hx hb hK hP 1 1 (f := ma M0 0) rfl rfl h.1 dX5_totalFrom_48 ?_
          have h := h.2
          refine lv_iload hx hb dX5_totalFrom_49 (lv_at hl 1 rfl) ?_
          refine lv_icmp_ne (tgt := 62) hx hb dX5_totalFrom_51 (by decide) (fun c6 => ?_) (fun c6 => ?_)
          · have h := h.2 c6
            refine lv_iload hx hb dX5_totalFrom_62 (lv_at hl 7 rfl) ?_
            refine lv_if_ne (tgt := 76) hx hb dX5_totalFrom_64 (by decide) (fun c7 => ?_) (fun c7 => ?_)
            · have h := h.2 c7
              exact b76  p1 p2 p3 p4 p5 p6 r4 x5 M0 M1 H locs ls hP hD hS (lv_sub hl [2, 3, 4, 5, 6, 7, 8, 1, 0] rfl) h
            · have h := h.1 c7
              refine lv_iload hx hb dX5_totalFrom_67 (lv_at hl 8 rfl) ?_
              refine lv_if_ne (tgt := 76) hx hb dX5_totalFrom_69 (by decide) (fun c8 => ?_) (fun c8 => ?_)
              · have h := h.2 c8
                exact b76  p1 p2 p3 p4 p5 p6 r4 x5 M0 M1 H locs ls hP hD hS (lv_sub hl [2, 3, 4, 5, 6, 7, 8, 1, 0] rfl) h
              · have h := h.1 c8
                refine lv_iconst (v := 1) hx hb dX5_totalFrom_72 (by decide) ?_
                refine lv_goto (tgt := 77) hx hb dX5_totalFrom_73 (by decide) ?_
                exact b77  p1 p2 p3 p4 p5 p6 r4 x5 (1 : Int32) M0 M1 H locs ls hP hD hS (lv_sub hl [2, 3, 4, 5, 6, 7, 8, 1, 0] rfl) h
          · have h := h.1 c6
            refine lv_aload_n hx hb dX5_totalFrom_54 rfl (lv_at hl 2 rfl) ?_
            refine va_get (D := (dC, dI)) (ci := 5) (v := .ref (a0 1)) (C := RX5) (T := TX5) (N := 4) hx hb hts hinX5 hown hK hP 0 rfl rfl 1 (by decide) f2 (fun _ h9 => h9) rfl dX5_totalFrom_55 ?_
            refine lv_iload hx hb dX5_totalFrom_58 (lv_at hl 0 rfl) ?_
            refine va_iald hx hb hK hP 2 1 (f := ma M0 1) rfl rfl h.1 dX5_totalFrom_60 ?_
            have h := h.2
            exact W.iret (v := (ma M0 1 (Int32.toNatClampNeg x5))) hx hb hr (fun t ht hW => ⟨⟨_, (M0, M1), rfl, h, by rw [ht]; exact hP, va_K.moved hW.alike hK, hD⟩, hS.F ht⟩) hS.2.2 dX5_totalFrom_61
        · have h := h.2 c3
          refine lv_iconst (v := 0) hx hb dX5_totalFrom_16 (by decide) ?_
          exact W.iret (v := (0 : Int32)) hx hb hr (fun t ht hW => ⟨⟨_, (M0, M1), rfl, h, by rw [ht]; exact hP, va_K.moved hW.alike hK, hD⟩, hS.F ht⟩) hS.2.2 dX5_totalFrom_17
  have hl := lv_entry ([.ref h0, .int p1, .int p2, .int p3, .int p4, .int p5, .int p6]) (n := 14) (Nat.le_of_ble_eq_true rfl)
  rw [lg_entry_eq]
  generalize (lg_sl ([.ref h0, .int p1, .int p2, .int p3, .int p4, .int p5, .int p6]) ++ List.replicate (14 - (lg_sl ([.ref h0, .int p1, .int p2, .int p3, .int p4, .int p5, .int p6])).length) Slot.unset).toArray = ls at hl ⊢
  have hl : lv_has ls 14 [(0, .ref h0), (1, .int p1), (2, .int p2), (3, .int p3), (4, .int p4), (5, .int p5), (6, .int p6)] := hl
  exact bE M0 M1 s.heap [] ls hP hD hS hl h
def wT : Nat → Int32 → Int32 → Int32 → Int32 → Int32 → Int32 → gS → gS → (Int32 → gS → gS → Prop) → Prop
 | 0, _, _, _, _, _, _, _, _, _ => False
 | d + 1, p1, p2, p3, p4, p5, p6, M0, M1, Q => wX5_totalFrom (fun q1 q2 q3 q4 q5 q6 N0 N1 Q' => wX5_behind (fun r1 r2 r3 r4 r5 r6 K0 K1 Q2 => wT d r1 r2 r3 r4 r5 r6 K0 K1 Q2) q1 q2 q3 q4 q5 q6 N0 N1 Q') p1 p2 p3 p4 p5 p6 M0 M1 Q
def rmT : Nat → Room
 | 0 => { frames := 0, cells := 0, slots := 0, locals := 0 }
 | d + 1 => rmX5_totalFrom (rmX5_behind (rmT d))
theorem rmT_0 (d : Nat) : (rmT d).cells = 0 ∧ (rmT d).slots = 0 := by cases d <;> exact ⟨rfl, rfl⟩
theorem kT (l : Launch) (dC : Nat → ClassId) (dI : Nat → Nat → Nat) (cB cI cJ cZ : ClassId) (h0 : Nat) (a0 : Nat → Nat) (a1 : Nat → Nat) : ∀ (d : Nat) (sz : Nat) (p1 p2 p3 p4 p5 p6 : Int32) (M0 M1 : gS) (Q : Int32 → gS → gS → Prop), wT d p1 p2 p3 p4 p5 p6 M0 M1 Q → Met l yX5_totalFrom wsX5_totalFrom (rmT d) (va_Pc [.ref h0, .int p1, .int p2, .int p3, .int p4, .int p5, .int p6] (pcI dC dI cB cI cJ cZ h0 a0 a1 M0 M1 sz)) (va_Qi (fun (r : Int32) (u : gS × gS) => Q r u.1 u.2) (pcB dC dI cB cI cJ cZ h0 a0 a1 (va_A (pcW cB cI cJ cZ h0 a0 a1 M0 M1) sz)) (va_A (pcW cB cI cJ cZ h0 a0 a1 M0 M1) sz)) 0 0 (va_A (pcW cB cI cJ cZ h0 a0 a1 M0 M1) sz) := by
  intro d
  induction d with
  | zero => intro sz p1 p2 p3 p4 p5 p6 M0 M1 Q h; exact absurd h (by simp [wT])
  | succ d ih =>
    intro sz p1 p2 p3 p4 p5 p6 M0 M1 Q h
    rw [wT] at h
    exact kX5_totalFrom l dC dI cB cI cJ cZ h0 a0 a1 _ (rmX5_behind (rmT d)) ⟨rfl, rfl⟩ (fun sz q1 q2 q3 q4 q5 q6 N0 N1 Q' h => kX5_behind l dC dI cB cI cJ cZ h0 a0 a1 _ (rmT d) (rmT_0 d) ih sz q1 q2 q3 q4 q5 q6 N0 N1 Q' h) sz p1 p2 p3 p4 p5 p6 M0 M1 Q h
/-- nine levels: eight moves at most -/
def wX5_tf (p1 p2 p3 p4 p5 p6 : Int32) (M0 M1 : gS) (Q : Int32 → gS → gS → Prop) : Prop := wT 9 p1 p2 p3 p4 p5 p6 M0 M1 Q
theorem kX5_tf (l : Launch) (dC : Nat → ClassId) (dI : Nat → Nat → Nat) (cB cI cJ cZ : ClassId) (h0 : Nat) (a0 : Nat → Nat) (a1 : Nat → Nat) (sz : Nat) (p1 p2 p3 p4 p5 p6 : Int32) (M0 M1 : gS) (Q : Int32 → gS → gS → Prop) (h : wX5_tf p1 p2 p3 p4 p5 p6 M0 M1 Q) : Met l yX5_totalFrom wsX5_totalFrom (rmT 9) (va_Pc [.ref h0, .int p1, .int p2, .int p3, .int p4, .int p5, .int p6] (pcI dC dI cB cI cJ cZ h0 a0 a1 M0 M1 sz)) (va_Qi (fun (r : Int32) (u : gS × gS) => Q r u.1 u.2) (pcB dC dI cB cI cJ cZ h0 a0 a1 (va_A (pcW cB cI cJ cZ h0 a0 a1 M0 M1) sz)) (va_A (pcW cB cI cJ cZ h0 a0 a1 M0 M1) sz)) 0 0 (va_A (pcW cB cI cJ cZ h0 a0 a1 M0 M1) sz) := kT l dC dI cB cI cJ cZ h0 a0 a1 9 sz p1 p2 p3 p4 p5 p6 M0 M1 Q h
