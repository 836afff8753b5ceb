-- PURE: the law from its entry
set_option maxHeartbeats 4000000 in
set_option maxRecDepth 100000 in
theorem law_0 {s : State} {dC : Nat → ClassId} {dI : Nat → Nat → Nat} {cB cI cJ cZ cR cS : ClassId} {h0 : Nat} {a0 a1 a2 a3 a4 a5 a6 a7 a8 a9 : Nat → Nat} {hm : Nat} {am : Nat → Nat} {M0 M1 M2 M3 M4 M5 M6 M7 M8 M9 M : gS} {F G : oF} {H : Heap} (hP : va_P (dC, dI) vwCl (lxW cB cI cJ cZ cR cS h0 a0 a1 a2 a3 a4 a5 a6 a7 none a8 none a9 M0 M1 M2 M3 M4 M5 M6 M7 M8 M9 F G ++ (mW cB cI cJ cZ hm am M ++ [])) H) (hD : va_D (fun q : Nat => s.heap.size ≤ q) (lxW cB cI cJ cZ cR cS h0 a0 a1 a2 a3 a4 a5 a6 a7 none a8 none a9 M0 M1 M2 M3 M4 M5 M6 M7 M8 M9 F G ++ (mW cB cI cJ cZ hm am M ++ []))) (eM : M = zS) (e0 : M0 = zS) (e1 : M1 = zS) (e2 : M2 = zS) (e3 : M3 = quar0) (e4 : M4 = zS) (e7 : okB M7) (eF : F = fun _ => none) (eG : G = fun _ => none) : lawI s dC dI cB cI cJ cZ cR cS h0 a0 a1 a2 a3 a4 a5 a6 a7 a8 a9 hm am H := by
  subst eM
  refine ⟨M0, M1, M2, M3, M4, M5, M6, M7, M8, M9, none, none, F, G, zS, 0, fun _ => zS, fun _ _ => 0, fun _ => zS, fun _ => zS, fun _ => zS, fun _ => zS, fun _ _ => 0, fun _ _ => 0, fun _ _ => 0, fun _ _ => 0, [], [], hP, hD, ?_, ⟨(by first | rfl | decide), by omega, fun k hk => absurd hk (by omega)⟩, fun k hk => Or.inl ⟨rfl, congrFun eG k⟩, fun k _ => congrFun eF k, fun k _ => congrFun eG k, ?_, ?_⟩
  · rw [e0, e1, e2, e3, e4]
    exact inv_0 e7
  · rw [eF]
    exact List.Perm.refl _
  · rw [eG]
    exact List.Perm.refl _
set_option maxHeartbeats 4000000 in
set_option maxRecDepth 100000 in
theorem whole_start {p : Program} {e : Env} {s : State} {m : MethodId} {below : List Frame} {meth : Method} {c : Code} (l : Launch) (hflags : l.flags = flags0) {b L : Nat} {xs : Nat → Int32} (hL : L ≤ 3072) (C0 : lw_At p s m meth c b L xs) : W p l e room_1 s m #[Value.ref b] below meth c s.heap [] 0 0 (lw_Z below #[Value.ref b] s) (entryFrame m ([Value.ref b] : List Value).toArray 4) := by
  obtain ⟨hx, hb, hr, hml, hown0, htsT, hX, hbl, hlocks, hgv⟩ := C0
  have hown : s.vm.findClass RL = some m.cls := hown0
  have hT : ∀ (i : Nat) (w : Cond), tables_1[i]? = some w → w.before #[Value.ref b] s = true := fun i w h => htsT w (List.mem_append_right _ (List.mem_of_getElem? h))
  have hts : ∀ w ∈ wsL_law, w.before #[Value.ref b] s = true := fun w h => htsT w (wsL_law_in w h)
  obtain ⟨adK, adV, hR0, hE0⟩ := law_env hT hgv
  obtain ⟨dC, dI, cB, cI, cJ, cZ, hK⟩ := law_K htsT hT
  have hA : ∀ q : Nat, s.heap.size ≤ q → (fun q : Nat => s.heap.size ≤ q) q := fun _ h => h
  have hS : va_S (fun q : Nat => s.heap.size ≤ q) s.heap s.heap [] := va_S.rf
  have hP : va_P (dC, dI) vwCl [] s.heap := fun k q h => by simp at h
  have hD : va_D (fun q : Nat => s.heap.size ≤ q) [] := ⟨fun i j p q h => by simp at h, fun k q h => by simp at h⟩
  have hl := lv_entry ([.ref b]) (n := 4) (Nat.le_of_ble_eq_true rfl)
  rw [lg_entry_eq]
  generalize (lg_sl ([.ref b]) ++ List.replicate (4 - (lg_sl ([.ref b])).length) Slot.unset).toArray = ls at hl ⊢
  have hl : lv_has ls 4 [(0, .ref b)] := hl
  refine va_new (ci := 11) (fs := [.null, .int 0, .null, .int 0, .null, .null, .null, .null, .null, .null, .null, .null]) (C := RX11) (T := TX11) (N := 12) hx hb htsT inX11 tyX11 tyX11_ok hown (hT 21 (.classLink RL 7 RX11) (by decide +kernel)) (hT 22 (.instantiable RX11 12) (by decide +kernel)) (hT 1 (.initialized RX11) (by decide +kernel)) hK hP hD hS hA rfl (fun j hj => by rcases (show j = 0 ∨ j = 1 ∨ j = 2 ∨ j = 3 ∨ j = 4 ∨ j = 5 ∨ j = 6 ∨ j = 7 ∨ j = 8 ∨ j = 9 ∨ j = 10 ∨ j = 11 by omega) with rfl | rfl | rfl | rfl | rfl | rfl | rfl | rfl | rfl | rfl | rfl | rfl <;> rfl) (Nat.le_of_ble_eq_true rfl) (Nat.le_of_ble_eq_true rfl) dL_law_0 (fun q0 H hP hD hS => ?_)
  have hP : va_P (dC, dI) vwCl [(q0, .inr (11, [.null, .int 0, .null, .int 0, .null, .null, .null, .null, .null, .null, .null, .null]))] H := hP
  have hD : va_D (fun q : Nat => s.heap.size ≤ q) [(q0, .inr (11, [.null, .int 0, .null, .int 0, .null, .null, .null, .null, .null, .null, .null, .null]))] := hD
  refine lv_dup hx hb dL_law_3 rfl ?_
  have hFc := w_free (wc := [(q0, .inr (11, [.null, .int 0, .null, .int 0, .null, .null, .null, .null, .null, .null, .null, .null]))]) (wr := []) hD hS hA
  refine va_callv (va_runI (As := []) (rest := [.ref q0]) ⟨hx, hb, hml, hown, hts⟩ (kX11_init l dC dI cB cI cJ cZ adK q0 H.size okB c_best) (cwI 0 hts gL_law_X11_init rfl rfl rfl (hT 1 (.initialized RX11) (by decide +kernel)) (hT 23 (.methodLink RL 9 yX11_init) (by decide +kernel)) (hT 24 (.instanceMethod yX11_init) (by decide +kernel)) rfl (by decide +kernel) ⟨Nat.le_of_ble_eq_true rfl, Nat.le_of_ble_eq_true rfl⟩) ⟨fun a U g mk q => by obtain ⟨q0, ⟨q1, qP, qK, qD⟩, qR⟩ := q; exact ⟨q0, ⟨q1, qP, va_K.moved (u := U) (U := U.calling g mk a) (Vm.Alike.refl U.vm) qK, qD⟩, sR.same (u := U) (U := U.calling g mk a) rfl qR⟩, fun U hU hW => ⟨rfl, ⟨by rw [hU], by rw [hU]; exact hP, va_K.moved hW.alike hK, hD.weaken (fun _ _ _ _ => trivial)⟩, sR.warm hW hR0⟩⟩ rfl rfl hl.1 rfl (lv_room (Nat.le_of_ble_eq_true rfl)) dL_law_4 ⟨Nat.le_of_ble_eq_true rfl, Nat.le_of_ble_eq_true rfl⟩) hS (fun q _ h => hFc q h) hFc (fun u t H1 locs ht hvm hw hB hz1 hk1 hS => ?_)
  obtain ⟨M0, M1, M2, M3, M4, M5, M6, M7, M8, M9, F, G⟩ := u
  obtain ⟨a0, a1, a2, a3, a4, a5, a6, a7, a8, a9, cR, cS, hP1, hK1, hD1⟩ := hB
  rw [ht] at hP1
  have hKx : va_K (dC, dI) vwCl (gX cB cI cJ cZ cR cS) s := va_K.moved hvm.symm hK1
  have hDx : va_D (fun q : Nat => s.heap.size ≤ q) (lxW cB cI cJ cZ cR cS q0 a0 a1 a2 a3 a4 a5 a6 a7 none a8 none a9 M0 M1 M2 M3 M4 M5 M6 M7 M8 M9 F G) := hD1.weaken (fun _ q _ z => hFc q.1 z)
  refine lv_astore_n (lv' := [(1, .ref q0), (0, .ref b)]) hx hb dL_law_7 rfl hl (by decide) rfl (fun ls hl => ?_)
  refine va_new (ci := 12) (fs := [.null, .int 0, .int 0, .null, .null, .null, .null, .int 0, .int 0, .int 0, .null, .null, .null, .int 0, .int 0, .int 0, .int 0, .int 0, .int 0, .int 0, .null, .int 0, .null, .int 0, .null, .null, .int 0, .null, .null, .null, .null, .null, .null, .long 0, .null, .null, .null]) (C := RX12) (T := TX12) (N := 37) hx hb htsT inX12 tyX12 tyX12_ok hown (hT 1003 (.classLink RL 10 RX12) (by decide +kernel)) (hT 1004 (.instantiable RX12 37) (by decide +kernel)) (hT 9 (.initialized RX12) (by decide +kernel)) hK hP1 hDx hS hA rfl (fun j hj => by rcases (show j = 0 ∨ j = 1 ∨ j = 2 ∨ j = 3 ∨ j = 4 ∨ j = 5 ∨ j = 6 ∨ j = 7 ∨ j = 8 ∨ j = 9 ∨ j = 10 ∨ j = 11 ∨ j = 12 ∨ j = 13 ∨ j = 14 ∨ j = 15 ∨ j = 16 ∨ j = 17 ∨ j = 18 ∨ j = 19 ∨ j = 20 ∨ j = 21 ∨ j = 22 ∨ j = 23 ∨ j = 24 ∨ j = 25 ∨ j = 26 ∨ j = 27 ∨ j = 28 ∨ j = 29 ∨ j = 30 ∨ j = 31 ∨ j = 32 ∨ j = 33 ∨ j = 34 ∨ j = 35 ∨ j = 36 by omega) with rfl | rfl | rfl | rfl | rfl | rfl | rfl | rfl | rfl | rfl | rfl | rfl | rfl | rfl | rfl | rfl | rfl | rfl | rfl | rfl | rfl | rfl | rfl | rfl | rfl | rfl | rfl | rfl | rfl | rfl | rfl | rfl | rfl | rfl | rfl | rfl | rfl <;> rfl) (Nat.le_of_ble_eq_true rfl) (Nat.le_of_ble_eq_true rfl) dL_law_8 (fun q1 H2 hP2 hD2 hS2 => ?_)
  have hP3 := wP_perm (List.perm_append_comm (l₁ := lxW cB cI cJ cZ cR cS q0 a0 a1 a2 a3 a4 a5 a6 a7 none a8 none a9 M0 M1 M2 M3 M4 M5 M6 M7 M8 M9 F G) (l₂ := [(q1, .inr (12, [.null, .int 0, .int 0, .null, .null, .null, .null, .int 0, .int 0, .int 0, .null, .null, .null, .int 0, .int 0, .int 0, .int 0, .int 0, .int 0, .int 0, .null, .int 0, .null, .int 0, .null, .null, .int 0, .null, .null, .null, .null, .null, .null, .long 0, .null, .null, .null]))])) hP2
  have hD3 := wD_perm (List.perm_append_comm (l₁ := lxW cB cI cJ cZ cR cS q0 a0 a1 a2 a3 a4 a5 a6 a7 none a8 none a9 M0 M1 M2 M3 M4 M5 M6 M7 M8 M9 F G) (l₂ := [(q1, .inr (12, [.null, .int 0, .int 0, .null, .null, .null, .null, .int 0, .int 0, .int 0, .null, .null, .null, .int 0, .int 0, .int 0, .int 0, .int 0, .int 0, .int 0, .null, .int 0, .null, .int 0, .null, .null, .int 0, .null, .null, .null, .null, .null, .null, .long 0, .null, .null, .null]))])) hD2
  have hFc2 := w_free hD3 hS2 hA
  refine lv_dup hx hb dL_law_11 rfl ?_
  refine va_callv (va_runI (As := []) (rest := [.ref q1]) ⟨hx, hb, hml, hown, hts⟩ (kX12_init l dC dI cB cI cJ cZ q1 H2.size) (cwI 0 hts gL_law_X12_init rfl rfl rfl (hT 9 (.initialized RX12) (by decide +kernel)) (hT 1005 (.methodLink RL 12 yX12_init) (by decide +kernel)) (hT 1006 (.instanceMethod yX12_init) (by decide +kernel)) rfl (by decide +kernel) ⟨Nat.le_of_ble_eq_true rfl, Nat.le_of_ble_eq_true rfl⟩) ⟨fun a U g mk q => by obtain ⟨q0, q1, qP, qK, qD⟩ := q; exact ⟨q0, q1, qP, va_K.moved (u := U) (U := U.calling g mk a) (Vm.Alike.refl U.vm) qK, qD⟩, fun U hU hW => ⟨rfl, by rw [hU], by rw [hU]; exact wP_left hP3, va_K.moved hW.alike hK, (wD_left hD3).weaken (fun _ _ _ _ => trivial)⟩⟩ rfl rfl hl.1 rfl (lv_room (Nat.le_of_ble_eq_true rfl)) dL_law_12 ⟨Nat.le_of_ble_eq_true rfl, Nat.le_of_ble_eq_true rfl⟩) hS2 (fun q _ h => hFc2 q h) hFc2 (fun u t2 H4 locs4 ht4 hvm4 hw4 hB4 hz4 hk4 hS4 => ?_)
  obtain ⟨am, hP4, hK4, hD4⟩ := hB4
  rw [ht4] at hP4
  obtain ⟨hP5, hD5⟩ := w_join hP3 hD3 hk4 hFc2 hP4 hD4
  have pm : (mmW cB cI cJ cZ q1 am u ++ lxW cB cI cJ cZ cR cS q0 a0 a1 a2 a3 a4 a5 a6 a7 none a8 none a9 M0 M1 M2 M3 M4 M5 M6 M7 M8 M9 F G).Perm (lxW cB cI cJ cZ cR cS q0 a0 a1 a2 a3 a4 a5 a6 a7 none a8 none a9 M0 M1 M2 M3 M4 M5 M6 M7 M8 M9 F G ++ (mW cB cI cJ cZ q1 am u ++ [])) := by
    rw [List.append_nil]
    exact List.perm_append_comm
  have hE : lawE p s m meth c b L xs dC dI cB cI cJ cZ cR cS adK adV := ⟨hx, hb, hr, hml, hown, hts, hX, hbl, hlocks, hKx, hR0, hE0, hL⟩
  have hW : lawI s dC dI cB cI cJ cZ cR cS q0 a0 a1 a2 a3 a4 a5 a6 a7 a8 a9 q1 am H4 := law_0 (wP_perm pm hP5) (wD_perm pm hD5) hw4 hw.1 hw.2.1 hw.2.2.1 hw.2.2.2.1 hw.2.2.2.2.1 hw.2.2.2.2.2.2.2.1 hw.2.2.2.2.2.2.2.2.2.2.1 hw.2.2.2.2.2.2.2.2.2.2.2
  refine lv_astore_n (lv' := [(2, .ref q1), (1, .ref q0), (0, .ref b)]) hx hb dL_law_15 rfl hl (by decide) rfl (fun ls hl => ?_)
  refine lv_iconst (v := nI 0) hx hb dL_law_16 (by decide) ?_
  refine lv_istore_n (lv' := [(3, .int (nI 0)), (2, .ref q1), (1, .ref q0), (0, .ref b)]) hx hb dL_law_17 rfl hl (by decide) rfl (fun ls hl => ?_)
  exact law_loop hE (L + 1) 0 (by omega) (by omega) H4 locs4 _ _ ls (by omega) (by omega) hW hS4 (lv_sub hl [3, 2, 1, 0] rfl)
