-- PURE: the law's calls: by rules
set_option maxHeartbeats 4000000 in
set_option maxRecDepth 100000 in
theorem case_run {p : Program} {l : Launch} {e : Env} {s : State} {m : MethodId} {below : List Frame} {meth : Method} {c : Code} {b L : Nat} {xs : Nat → Int32} {dC : Nat → ClassId} {dI : Nat → Nat → Nat} {cB cI cJ cZ cR cS : ClassId} {adK adV : Nat → Nat} {h0 : Nat} {a0 a1 a2 a3 a4 a5 a6 a7 a8 a9 : Nat → Nat} {hm : Nat} {am : Nat → Nat} {H : Heap} {locs : List Loc} {cells slots i : Nat} {Z : State → Prop} {ls : Array Slot} (hE : lawE p s m meth c b L xs dC dI cB cI cJ cZ cR cS adK adV) (hW : lawI s dC dI cB cI cJ cZ cR cS h0 a0 a1 a2 a3 a4 a5 a6 a7 a8 a9 hm am H) (hS : va_S (fun q : Nat => s.heap.size ≤ q) s.heap H locs) (hc : cells + 14 ≤ 600000) (hs : slots + 501 ≤ 7302250) (hl : lv_has ls 4 [(0, .ref b), (1, .ref h0), (2, .ref hm), (3, .int (nI i))]) (hi : i + 6 ≤ L) (kk : ∀ (H1 : Heap) (locs1 : List Loc), lawI s dC dI cB cI cJ cZ cR cS h0 a0 a1 a2 a3 a4 a5 a6 a7 a8 a9 hm am H1 → va_S (fun q : Nat => s.heap.size ≤ q) s.heap H1 locs1 → W p l e room_1 s m #[Value.ref b] below meth c H1 locs1 (cells + 14) (slots + 501) Z (F0 m 880 ls [])) : W p l e room_1 s m #[Value.ref b] below meth c H locs cells slots Z (F0 m 346 ls []) := by
  obtain ⟨hx, hb, hr, hml, hown, hts, hX, hbl, hlocks, hK, hR0, hE0, hL⟩ := id hE
  obtain ⟨M0, M1, M2, M3, M4, M5, M6, M7, M8, M9, o7, o8, F, G, M, n, R, aR, I1, I2, I3, I4, b1, b2, b3, b4, RR, II, hP, hD, hinv, hru, him, hF6, hG4, hRR, hII⟩ := hW
  have hA : ∀ q : Nat, s.heap.size ≤ q → (fun q : Nat => s.heap.size ≤ q) q := fun _ h => h
  have hKc : va_K (dC, dI) vwCl (gT cB cI cJ cZ) s := hK.sub [0, 1, 2, 3] rfl
  obtain ⟨r, N', hkp, hwr, hwc⟩ := t_runX (M5 := M5) (M6 := M6) (M8 := M8) (M9 := M9) hinv hru (xs (i + 1)) (xs (i + 2))
  have tail : ∀ (N0 N1 N2 N3 N4 N5 N6 N7 N8 N9 : gS) (o7' o8' : Option Nat) (R' : Nat → gS) (RR' : va_W) (H1 : Heap) (locs1 : List Loc), inv N' N0 N1 N2 N3 N4 N7 → (∀ k, frC (R k) (R' k)) → RR'.Perm ((List.range 6).flatMap (rulW cB cI cJ cZ F aR R')) → va_P (dC, dI) vwCl (lawW cB cI cJ cZ cR cS h0 a0 a1 a2 a3 a4 a5 a6 a7 o7' a8 o8' a9 hm am N0 N1 N2 N3 N4 N5 N6 N7 N8 N9 F G M RR' II) H1 → va_D (fun q : Nat => s.heap.size ≤ q) (lawW cB cI cJ cZ cR cS h0 a0 a1 a2 a3 a4 a5 a6 a7 o7' a8 o8' a9 hm am N0 N1 N2 N3 N4 N5 N6 N7 N8 N9 F G M RR' II) → va_S (fun q : Nat => s.heap.size ≤ q) s.heap H1 locs1 → W p l e room_1 s m #[Value.ref b] below meth c H1 locs1 (cells + 0) (slots + 0) Z (F0 m 360 ls [.int r]) := by
    intro N0 N1 N2 N3 N4 N5 N6 N7 N8 N9 o7' o8' R' RR' H1 locs1 hi1 hf hRR1 hP1 hD1 hS1
    refine lv_aload_n hx hb dL_law_360 rfl (lv_at hl 2 rfl) ?_
    refine L_arg (k := 1) hE hS1 hl (by omega) (by omega) dL_law_361 dL_law_362 dL_law_363 (by decide) dL_law_364 dL_law_365 ?_
    refine L_arg (k := 2) hE hS1 hl (by omega) (by omega) dL_law_366 dL_law_367 dL_law_368 (by decide) dL_law_369 dL_law_370 ?_
    refine L_m hP1 hD1 hS1 hA (va_runV (As := [.int (xs (i + 1)), .int (xs (i + 2))]) (rest := [.int r]) ⟨hx, hb, hml, hown, hts⟩ (kX12_run l dC dI cB cI cJ cZ hm am H1.size (xs (i + 1)) (xs (i + 2)) M (fun r' N => r' = r ∧ eqM N' N) (hwr _ (fun N h => ⟨rfl, h⟩))) (cwV 2 hts gL_law_X12_run rfl rfl rfl (by decide +kernel) ⟨Nat.le_of_ble_eq_true rfl, Nat.le_of_ble_eq_true rfl⟩) (mpV hKc (wP_left (wP_perm law_m hP1)) (wD_left (wD_perm law_m hD1))) rfl rfl hl.1 rfl (lv_room (Nat.le_of_ble_eq_true rfl)) dL_law_371 ⟨(by show cells + 0 + 0 ≤ 600000; omega), (by show slots + 0 + 0 ≤ 7302250; omega)⟩) (fun r2 N H2 locs2 hq2 hP2 hD2 hS2 => ?_)
    rw [show r2 = r from hq2.1]
    refine lv_icmp_eq (tgt := 880) hx hb dL_law_374 (by decide) (fun _ => ?_) (fun z => absurd rfl z)
    refine W.widen (k := cells + 14) (n := slots + 501) (by omega) (by omega) ?_
    exact kk H2 locs2 ⟨N0, N1, N2, N3, N4, N5, N6, N7, N8, N9, o7', o8', F, G, N, n, R', aR, I1, I2, I3, I4, b1, b2, b3, b4, RR', II, hP2, hD2, inv_eq hq2.2 hi1, ruls_keep hru hkp hq2.2 hf, ims_keep him hkp hq2.2, hF6, hG4, hRR1, hII⟩ hS2
  have hw : c_runX n (xs (i + 1)) (xs (i + 2)) M0 M1 M2 M3 M4 M5 M6 M7 M8 M9 F R (fun r' N0 N1 N2 N3 N4 N5 N6 N7 N8 N9 => r' = r ∧ inv N' N0 N1 N2 N3 N4 N7) := hwc _ (fun N0 N1 N2 N3 N4 N5 N6 N7 N8 N9 h => ⟨rfl, h⟩)
  unfold c_runX at hw
  refine lv_aload_n hx hb dL_law_346 rfl (lv_at hl 1 rfl) ?_
  refine L_arg (k := 1) hE hS hl (by omega) (by omega) dL_law_347 dL_law_348 dL_law_349 (by decide) dL_law_350 dL_law_351 ?_
  refine L_arg (k := 2) hE hS hl (by omega) (by omega) dL_law_352 dL_law_353 dL_law_354 (by decide) dL_law_355 dL_law_356 ?_
  rcases hw with hw | ⟨q1, h11, k1, -, -, eF1, hw⟩ | ⟨q1, h11, k1, -, -, eF1, hw⟩ | ⟨q1, h11, k1, -, -, eF1, hw⟩ | ⟨q1, q2, h11, h12, k1, k2, kne, -, -, eF1, eF2, hw⟩
  · refine L_x0 hP hD hS hA (va_runV (As := [.int (xs (i + 1)), .int (xs (i + 2))]) (rest := []) ⟨hx, hb, hml, hown, hts⟩ (kX11_runnn l dC dI cB cI cJ cZ cR cS h0 a0 a1 a2 a3 a4 a5 a6 a7 o7 a8 o8 a9 H.size (xs (i + 1)) (xs (i + 2)) M0 M1 M2 M3 M4 M5 M6 M7 M8 M9 F _ hw) (cwV 2 hts gL_law_X11_run rfl rfl rfl (by decide +kernel) ⟨Nat.le_of_ble_eq_true rfl, Nat.le_of_ble_eq_true rfl⟩) (x0pV hK (wP_left (wP_perm law_x0 hP)) (wD_left (wD_perm law_x0 hD))) rfl rfl hl.1 rfl (lv_room (Nat.le_of_ble_eq_true rfl)) dL_law_357 ⟨(by show cells + 0 ≤ 600000; omega), (by show slots + 0 ≤ 7302250; omega)⟩) (fun r1 N0 N1 N2 N3 N4 N5 N6 N7 N8 N9 F2 o7' o8' H1 locs1 hq hP1 hD1 hS1 => ?_)
    rw [show r1 = r from hq.2.1]
    have eF : F2 = F := hq.1
    rw [eF] at hP1 hD1
    exact tail N0 N1 N2 N3 N4 N5 N6 N7 N8 N9 o7' o8' R RR H1 locs1 hq.2.2 (fun _ => ⟨rfl, rfl⟩) hRR hP1 hD1 hS1
  · have k61 : q1 < 6 := Nat.lt_of_lt_of_le k1 hru.2.1
    have hT := hRR.trans (rul_take (List.mem_range.2 k61) eF1)
    refine L_x1 hT hP hD hS hA (va_runV (As := [.int (xs (i + 1)), .int (xs (i + 2))]) (rest := []) ⟨hx, hb, hml, hown, hts⟩ (kX11_runan l dC dI cB cI cJ cZ cR cS h0 a0 a1 a2 a3 a4 a5 a6 a7 o7 a8 o8 a9 h11 (aR q1) H.size (xs (i + 1)) (xs (i + 2)) M0 M1 M2 M3 M4 M5 M6 M7 M8 M9 F (R q1) _ hw) (cwV 2 hts gL_law_X11_run rfl rfl rfl (by decide +kernel) ⟨Nat.le_of_ble_eq_true rfl, Nat.le_of_ble_eq_true rfl⟩) (x1pV hK (wP_left (wP_perm (law_x1 hT) hP)) (wD_left (wD_perm (law_x1 hT) hD))) rfl rfl hl.1 rfl (lv_room (Nat.le_of_ble_eq_true rfl)) dL_law_357 ⟨(by show cells + 0 ≤ 600000; omega), (by show slots + 0 ≤ 7302250; omega)⟩) (fun r1 N0 N1 N2 N3 N4 N5 N6 N7 N8 N9 F2 S1 o7' o8' H1 locs1 hq hP1 hD1 hS1 => ?_)
    rw [show r1 = r from hq.2.2.1]
    have eF : F2 = F := hq.1
    rw [eF] at hP1 hD1
    exact tail N0 N1 N2 N3 N4 N5 N6 N7 N8 N9 o7' o8' (va_up R q1 S1) _ H1 locs1 hq.2.2.2 (fr_up hq.2.1) (rul_put (by decide) (List.mem_range.2 k61) eF1 rfl up_eq (fun j hj => ⟨rfl, rfl, up_ne hj⟩)) hP1 hD1 hS1
  · have k61 : q1 < 6 := Nat.lt_of_lt_of_le k1 hru.2.1
    have hT := hRR.trans (rul_take (List.mem_range.2 k61) eF1)
    refine L_x1 hT hP hD hS hA (va_runV (As := [.int (xs (i + 1)), .int (xs (i + 2))]) (rest := []) ⟨hx, hb, hml, hown, hts⟩ (kX11_runna l dC dI cB cI cJ cZ cR cS h0 a0 a1 a2 a3 a4 a5 a6 a7 o7 a8 o8 a9 h11 (aR q1) H.size (xs (i + 1)) (xs (i + 2)) M0 M1 M2 M3 M4 M5 M6 M7 M8 M9 F (R q1) _ hw) (cwV 2 hts gL_law_X11_run rfl rfl rfl (by decide +kernel) ⟨Nat.le_of_ble_eq_true rfl, Nat.le_of_ble_eq_true rfl⟩) (x1pV hK (wP_left (wP_perm (law_x1 hT) hP)) (wD_left (wD_perm (law_x1 hT) hD))) rfl rfl hl.1 rfl (lv_room (Nat.le_of_ble_eq_true rfl)) dL_law_357 ⟨(by show cells + 0 ≤ 600000; omega), (by show slots + 0 ≤ 7302250; omega)⟩) (fun r1 N0 N1 N2 N3 N4 N5 N6 N7 N8 N9 F2 S1 o7' o8' H1 locs1 hq hP1 hD1 hS1 => ?_)
    rw [show r1 = r from hq.2.2.1]
    have eF : F2 = F := hq.1
    rw [eF] at hP1 hD1
    exact tail N0 N1 N2 N3 N4 N5 N6 N7 N8 N9 o7' o8' (va_up R q1 S1) _ H1 locs1 hq.2.2.2 (fr_up hq.2.1) (rul_put (by decide) (List.mem_range.2 k61) eF1 rfl up_eq (fun j hj => ⟨rfl, rfl, up_ne hj⟩)) hP1 hD1 hS1
  · have k61 : q1 < 6 := Nat.lt_of_lt_of_le k1 hru.2.1
    have hT := hRR.trans (rul_take (List.mem_range.2 k61) eF1)
    refine L_x1 hT hP hD hS hA (va_runV (As := [.int (xs (i + 1)), .int (xs (i + 2))]) (rest := []) ⟨hx, hb, hml, hown, hts⟩ (kX11_runaa l dC dI cB cI cJ cZ cR cS h0 a0 a1 a2 a3 a4 a5 a6 a7 o7 a8 o8 a9 h11 (aR q1) H.size (xs (i + 1)) (xs (i + 2)) M0 M1 M2 M3 M4 M5 M6 M7 M8 M9 F (R q1) _ hw) (cwV 2 hts gL_law_X11_run rfl rfl rfl (by decide +kernel) ⟨Nat.le_of_ble_eq_true rfl, Nat.le_of_ble_eq_true rfl⟩) (x1pV hK (wP_left (wP_perm (law_x1 hT) hP)) (wD_left (wD_perm (law_x1 hT) hD))) rfl rfl hl.1 rfl (lv_room (Nat.le_of_ble_eq_true rfl)) dL_law_357 ⟨(by show cells + 0 ≤ 600000; omega), (by show slots + 0 ≤ 7302250; omega)⟩) (fun r1 N0 N1 N2 N3 N4 N5 N6 N7 N8 N9 F2 S1 o7' o8' H1 locs1 hq hP1 hD1 hS1 => ?_)
    rw [show r1 = r from hq.2.2.1]
    have eF : F2 = F := hq.1
    rw [eF] at hP1 hD1
    exact tail N0 N1 N2 N3 N4 N5 N6 N7 N8 N9 o7' o8' (va_up R q1 S1) _ H1 locs1 hq.2.2.2 (fr_up hq.2.1) (rul_put (by decide) (List.mem_range.2 k61) eF1 rfl up_eq (fun j hj => ⟨rfl, rfl, up_ne hj⟩)) hP1 hD1 hS1
  · have k61 : q1 < 6 := Nat.lt_of_lt_of_le k1 hru.2.1
    have k62 : q2 < 6 := Nat.lt_of_lt_of_le k2 hru.2.1
    have hT := rul_take2 hRR k61 k62 kne eF1 eF2
    refine L_x2 hT hP hD hS hA (va_runV (As := [.int (xs (i + 1)), .int (xs (i + 2))]) (rest := []) ⟨hx, hb, hml, hown, hts⟩ (kX11_runab l dC dI cB cI cJ cZ cR cS h0 a0 a1 a2 a3 a4 a5 a6 a7 o7 a8 o8 a9 h11 (aR q1) h12 (aR q2) H.size (xs (i + 1)) (xs (i + 2)) M0 M1 M2 M3 M4 M5 M6 M7 M8 M9 F (R q1) (R q2) _ hw) (cwV 2 hts gL_law_X11_run rfl rfl rfl (by decide +kernel) ⟨Nat.le_of_ble_eq_true rfl, Nat.le_of_ble_eq_true rfl⟩) (x2pV hK (wP_left (wP_perm (law_x2 hT) hP)) (wD_left (wD_perm (law_x2 hT) hD))) rfl rfl hl.1 rfl (lv_room (Nat.le_of_ble_eq_true rfl)) dL_law_357 ⟨(by show cells + 0 ≤ 600000; omega), (by show slots + 0 ≤ 7302250; omega)⟩) (fun r1 N0 N1 N2 N3 N4 N5 N6 N7 N8 N9 F2 S1 S2 o7' o8' H1 locs1 hq hP1 hD1 hS1 => ?_)
    rw [show r1 = r from hq.2.2.2.1]
    have eF : F2 = F := hq.1
    rw [eF] at hP1 hD1
    exact tail N0 N1 N2 N3 N4 N5 N6 N7 N8 N9 o7' o8' (va_up (va_up R q2 S2) q1 S1) _ H1 locs1 hq.2.2.2.2 (fr_up2 kne hq.2.1 hq.2.2.1) (rul_put2 k61 k62 kne eF1 eF2) hP1 hD1 hS1
set_option maxHeartbeats 4000000 in
set_option maxRecDepth 100000 in
theorem case_would {p : Program} {l : Launch} {e : Env} {s : State} {m : MethodId} {below : List Frame} {meth : Method} {c : Code} {b L : Nat} {xs : Nat → Int32} {dC : Nat → ClassId} {dI : Nat → Nat → Nat} {cB cI cJ cZ cR cS : ClassId} {adK adV : Nat → Nat} {h0 : Nat} {a0 a1 a2 a3 a4 a5 a6 a7 a8 a9 : Nat → Nat} {hm : Nat} {am : Nat → Nat} {H : Heap} {locs : List Loc} {cells slots i : Nat} {Z : State → Prop} {ls : Array Slot} (hE : lawE p s m meth c b L xs dC dI cB cI cJ cZ cR cS adK adV) (hW : lawI s dC dI cB cI cJ cZ cR cS h0 a0 a1 a2 a3 a4 a5 a6 a7 a8 a9 hm am H) (hS : va_S (fun q : Nat => s.heap.size ≤ q) s.heap H locs) (hc : cells + 14 ≤ 600000) (hs : slots + 501 ≤ 7302250) (hl : lv_has ls 4 [(0, .ref b), (1, .ref h0), (2, .ref hm), (3, .int (nI i))]) (hi : i + 6 ≤ L) (kk : ∀ (H1 : Heap) (locs1 : List Loc), lawI s dC dI cB cI cJ cZ cR cS h0 a0 a1 a2 a3 a4 a5 a6 a7 a8 a9 hm am H1 → va_S (fun q : Nat => s.heap.size ≤ q) s.heap H1 locs1 → W p l e room_1 s m #[Value.ref b] below meth c H1 locs1 (cells + 14) (slots + 501) Z (F0 m 880 ls [])) : W p l e room_1 s m #[Value.ref b] below meth c H locs cells slots Z (F0 m 379 ls []) := by
  obtain ⟨hx, hb, hr, hml, hown, hts, hX, hbl, hlocks, hK, hR0, hE0, hL⟩ := id hE
  obtain ⟨M0, M1, M2, M3, M4, M5, M6, M7, M8, M9, o7, o8, F, G, M, n, R, aR, I1, I2, I3, I4, b1, b2, b3, b4, RR, II, hP, hD, hinv, hru, him, hF6, hG4, hRR, hII⟩ := hW
  have hA : ∀ q : Nat, s.heap.size ≤ q → (fun q : Nat => s.heap.size ≤ q) q := fun _ h => h
  have hKc : va_K (dC, dI) vwCl (gT cB cI cJ cZ) s := hK.sub [0, 1, 2, 3] rfl
  obtain ⟨r, N', hkp, hwr, hwc⟩ := t_wouldX (M5 := M5) (M6 := M6) (M8 := M8) (M9 := M9) hinv hru (xs (i + 1)) (xs (i + 2)) (xs (i + 3))
  have tail : ∀ (N0 N1 N2 N3 N4 N5 N6 N7 N8 N9 : gS) (o7' o8' : Option Nat) (R' : Nat → gS) (RR' : va_W) (H1 : Heap) (locs1 : List Loc), inv N' N0 N1 N2 N3 N4 N7 → (∀ k, frC (R k) (R' k)) → RR'.Perm ((List.range 6).flatMap (rulW cB cI cJ cZ F aR R')) → va_P (dC, dI) vwCl (lawW cB cI cJ cZ cR cS h0 a0 a1 a2 a3 a4 a5 a6 a7 o7' a8 o8' a9 hm am N0 N1 N2 N3 N4 N5 N6 N7 N8 N9 F G M RR' II) H1 → va_D (fun q : Nat => s.heap.size ≤ q) (lawW cB cI cJ cZ cR cS h0 a0 a1 a2 a3 a4 a5 a6 a7 o7' a8 o8' a9 hm am N0 N1 N2 N3 N4 N5 N6 N7 N8 N9 F G M RR' II) → va_S (fun q : Nat => s.heap.size ≤ q) s.heap H1 locs1 → W p l e room_1 s m #[Value.ref b] below meth c H1 locs1 (cells + 0) (slots + 0) Z (F0 m 398 ls [.int r]) := by
    intro N0 N1 N2 N3 N4 N5 N6 N7 N8 N9 o7' o8' R' RR' H1 locs1 hi1 hf hRR1 hP1 hD1 hS1
    refine lv_aload_n hx hb dL_law_398 rfl (lv_at hl 2 rfl) ?_
    refine L_arg (k := 1) hE hS1 hl (by omega) (by omega) dL_law_399 dL_law_400 dL_law_401 (by decide) dL_law_402 dL_law_403 ?_
    refine L_arg (k := 2) hE hS1 hl (by omega) (by omega) dL_law_404 dL_law_405 dL_law_406 (by decide) dL_law_407 dL_law_408 ?_
    refine L_arg (k := 3) hE hS1 hl (by omega) (by omega) dL_law_409 dL_law_410 dL_law_411 (by decide) dL_law_412 dL_law_413 ?_
    refine L_m hP1 hD1 hS1 hA (va_runV (As := [.int (xs (i + 1)), .int (xs (i + 2)), .int (xs (i + 3))]) (rest := [.int r]) ⟨hx, hb, hml, hown, hts⟩ (kX12_would l dC dI cB cI cJ cZ hm am H1.size (xs (i + 1)) (xs (i + 2)) (xs (i + 3)) M (fun r' N => r' = r ∧ eqM N' N) (hwr _ (fun N h => ⟨rfl, h⟩))) (cwV 3 hts gL_law_X12_would rfl rfl rfl (by decide +kernel) ⟨Nat.le_of_ble_eq_true rfl, Nat.le_of_ble_eq_true rfl⟩) (mpV hKc (wP_left (wP_perm law_m hP1)) (wD_left (wD_perm law_m hD1))) rfl rfl hl.1 rfl (lv_room (Nat.le_of_ble_eq_true rfl)) dL_law_414 ⟨(by show cells + 0 + 0 ≤ 600000; omega), (by show slots + 0 + 0 ≤ 7302250; omega)⟩) (fun r2 N H2 locs2 hq2 hP2 hD2 hS2 => ?_)
    rw [show r2 = r from hq2.1]
    refine lv_icmp_eq (tgt := 880) hx hb dL_law_417 (by decide) (fun _ => ?_) (fun z => absurd rfl z)
    refine W.widen (k := cells + 14) (n := slots + 501) (by omega) (by omega) ?_
    exact kk H2 locs2 ⟨N0, N1, N2, N3, N4, N5, N6, N7, N8, N9, o7', o8', F, G, N, n, R', aR, I1, I2, I3, I4, b1, b2, b3, b4, RR', II, hP2, hD2, inv_eq hq2.2 hi1, ruls_keep hru hkp hq2.2 hf, ims_keep him hkp hq2.2, hF6, hG4, hRR1, hII⟩ hS2
  have hw : c_wouldX n (xs (i + 1)) (xs (i + 2)) (xs (i + 3)) M0 M1 M2 M3 M4 M5 M6 M7 M8 M9 F R (fun r' N0 N1 N2 N3 N4 N5 N6 N7 N8 N9 => r' = r ∧ inv N' N0 N1 N2 N3 N4 N7) := hwc _ (fun N0 N1 N2 N3 N4 N5 N6 N7 N8 N9 h => ⟨rfl, h⟩)
  unfold c_wouldX at hw
  refine lv_aload_n hx hb dL_law_379 rfl (lv_at hl 1 rfl) ?_
  refine L_arg (k := 1) hE hS hl (by omega) (by omega) dL_law_380 dL_law_381 dL_law_382 (by decide) dL_law_383 dL_law_384 ?_
  refine L_arg (k := 2) hE hS hl (by omega) (by omega) dL_law_385 dL_law_386 dL_law_387 (by decide) dL_law_388 dL_law_389 ?_
  refine L_arg (k := 3) hE hS hl (by omega) (by omega) dL_law_390 dL_law_391 dL_law_392 (by decide) dL_law_393 dL_law_394 ?_
  rcases hw with hw | ⟨q1, h11, k1, -, -, eF1, hw⟩ | ⟨q1, h11, k1, -, -, eF1, hw⟩ | ⟨q1, h11, k1, -, -, eF1, hw⟩ | ⟨q1, q2, h11, h12, k1, k2, kne, -, -, eF1, eF2, hw⟩
  · refine L_x0 hP hD hS hA (va_runV (As := [.int (xs (i + 1)), .int (xs (i + 2)), .int (xs (i + 3))]) (rest := []) ⟨hx, hb, hml, hown, hts⟩ (kX11_wouldnn l dC dI cB cI cJ cZ cR cS h0 a0 a1 a2 a3 a4 a5 a6 a7 o7 a8 o8 a9 H.size (xs (i + 1)) (xs (i + 2)) (xs (i + 3)) M0 M1 M2 M3 M4 M5 M6 M7 M8 M9 F _ hw) (cwV 3 hts gL_law_X11_would rfl rfl rfl (by decide +kernel) ⟨Nat.le_of_ble_eq_true rfl, Nat.le_of_ble_eq_true rfl⟩) (x0pV hK (wP_left (wP_perm law_x0 hP)) (wD_left (wD_perm law_x0 hD))) rfl rfl hl.1 rfl (lv_room (Nat.le_of_ble_eq_true rfl)) dL_law_395 ⟨(by show cells + 0 ≤ 600000; omega), (by show slots + 0 ≤ 7302250; omega)⟩) (fun r1 N0 N1 N2 N3 N4 N5 N6 N7 N8 N9 F2 o7' o8' H1 locs1 hq hP1 hD1 hS1 => ?_)
    rw [show r1 = r from hq.2.1]
    have eF : F2 = F := hq.1
    rw [eF] at hP1 hD1
    exact tail N0 N1 N2 N3 N4 N5 N6 N7 N8 N9 o7' o8' R RR H1 locs1 hq.2.2 (fun _ => ⟨rfl, rfl⟩) hRR hP1 hD1 hS1
  · have k61 : q1 < 6 := Nat.lt_of_lt_of_le k1 hru.2.1
    have hT := hRR.trans (rul_take (List.mem_range.2 k61) eF1)
    refine L_x1 hT hP hD hS hA (va_runV (As := [.int (xs (i + 1)), .int (xs (i + 2)), .int (xs (i + 3))]) (rest := []) ⟨hx, hb, hml, hown, hts⟩ (kX11_wouldan l dC dI cB cI cJ cZ cR cS h0 a0 a1 a2 a3 a4 a5 a6 a7 o7 a8 o8 a9 h11 (aR q1) H.size (xs (i + 1)) (xs (i + 2)) (xs (i + 3)) M0 M1 M2 M3 M4 M5 M6 M7 M8 M9 F (R q1) _ hw) (cwV 3 hts gL_law_X11_would rfl rfl rfl (by decide +kernel) ⟨Nat.le_of_ble_eq_true rfl, Nat.le_of_ble_eq_true rfl⟩) (x1pV hK (wP_left (wP_perm (law_x1 hT) hP)) (wD_left (wD_perm (law_x1 hT) hD))) rfl rfl hl.1 rfl (lv_room (Nat.le_of_ble_eq_true rfl)) dL_law_395 ⟨(by show cells + 0 ≤ 600000; omega), (by show slots + 0 ≤ 7302250; omega)⟩) (fun r1 N0 N1 N2 N3 N4 N5 N6 N7 N8 N9 F2 S1 o7' o8' H1 locs1 hq hP1 hD1 hS1 => ?_)
    rw [show r1 = r from hq.2.2.1]
    have eF : F2 = F := hq.1
    rw [eF] at hP1 hD1
    exact tail N0 N1 N2 N3 N4 N5 N6 N7 N8 N9 o7' o8' (va_up R q1 S1) _ H1 locs1 hq.2.2.2 (fr_up hq.2.1) (rul_put (by decide) (List.mem_range.2 k61) eF1 rfl up_eq (fun j hj => ⟨rfl, rfl, up_ne hj⟩)) hP1 hD1 hS1
  · have k61 : q1 < 6 := Nat.lt_of_lt_of_le k1 hru.2.1
    have hT := hRR.trans (rul_take (List.mem_range.2 k61) eF1)
    refine L_x1 hT hP hD hS hA (va_runV (As := [.int (xs (i + 1)), .int (xs (i + 2)), .int (xs (i + 3))]) (rest := []) ⟨hx, hb, hml, hown, hts⟩ (kX11_wouldna l dC dI cB cI cJ cZ cR cS h0 a0 a1 a2 a3 a4 a5 a6 a7 o7 a8 o8 a9 h11 (aR q1) H.size (xs (i + 1)) (xs (i + 2)) (xs (i + 3)) M0 M1 M2 M3 M4 M5 M6 M7 M8 M9 F (R q1) _ hw) (cwV 3 hts gL_law_X11_would rfl rfl rfl (by decide +kernel) ⟨Nat.le_of_ble_eq_true rfl, Nat.le_of_ble_eq_true rfl⟩) (x1pV hK (wP_left (wP_perm (law_x1 hT) hP)) (wD_left (wD_perm (law_x1 hT) hD))) rfl rfl hl.1 rfl (lv_room (Nat.le_of_ble_eq_true rfl)) dL_law_395 ⟨(by show cells + 0 ≤ 600000; omega), (by show slots + 0 ≤ 7302250; omega)⟩) (fun r1 N0 N1 N2 N3 N4 N5 N6 N7 N8 N9 F2 S1 o7' o8' H1 locs1 hq hP1 hD1 hS1 => ?_)
    rw [show r1 = r from hq.2.2.1]
    have eF : F2 = F := hq.1
    rw [eF] at hP1 hD1
    exact tail N0 N1 N2 N3 N4 N5 N6 N7 N8 N9 o7' o8' (va_up R q1 S1) _ H1 locs1 hq.2.2.2 (fr_up hq.2.1) (rul_put (by decide) (List.mem_range.2 k61) eF1 rfl up_eq (fun j hj => ⟨rfl, rfl, up_ne hj⟩)) hP1 hD1 hS1
  · have k61 : q1 < 6 := Nat.lt_of_lt_of_le k1 hru.2.1
    have hT := hRR.trans (rul_take (List.mem_range.2 k61) eF1)
    refine L_x1 hT hP hD hS hA (va_runV (As := [.int (xs (i + 1)), .int (xs (i + 2)), .int (xs (i + 3))]) (rest := []) ⟨hx, hb, hml, hown, hts⟩ (kX11_wouldaa l dC dI cB cI cJ cZ cR cS h0 a0 a1 a2 a3 a4 a5 a6 a7 o7 a8 o8 a9 h11 (aR q1) H.size (xs (i + 1)) (xs (i + 2)) (xs (i + 3)) M0 M1 M2 M3 M4 M5 M6 M7 M8 M9 F (R q1) _ hw) (cwV 3 hts gL_law_X11_would rfl rfl rfl (by decide +kernel) ⟨Nat.le_of_ble_eq_true rfl, Nat.le_of_ble_eq_true rfl⟩) (x1pV hK (wP_left (wP_perm (law_x1 hT) hP)) (wD_left (wD_perm (law_x1 hT) hD))) rfl rfl hl.1 rfl (lv_room (Nat.le_of_ble_eq_true rfl)) dL_law_395 ⟨(by show cells + 0 ≤ 600000; omega), (by show slots + 0 ≤ 7302250; omega)⟩) (fun r1 N0 N1 N2 N3 N4 N5 N6 N7 N8 N9 F2 S1 o7' o8' H1 locs1 hq hP1 hD1 hS1 => ?_)
    rw [show r1 = r from hq.2.2.1]
    have eF : F2 = F := hq.1
    rw [eF] at hP1 hD1
    exact tail N0 N1 N2 N3 N4 N5 N6 N7 N8 N9 o7' o8' (va_up R q1 S1) _ H1 locs1 hq.2.2.2 (fr_up hq.2.1) (rul_put (by decide) (List.mem_range.2 k61) eF1 rfl up_eq (fun j hj => ⟨rfl, rfl, up_ne hj⟩)) hP1 hD1 hS1
  · have k61 : q1 < 6 := Nat.lt_of_lt_of_le k1 hru.2.1
    have k62 : q2 < 6 := Nat.lt_of_lt_of_le k2 hru.2.1
    have hT := rul_take2 hRR k61 k62 kne eF1 eF2
    refine L_x2 hT hP hD hS hA (va_runV (As := [.int (xs (i + 1)), .int (xs (i + 2)), .int (xs (i + 3))]) (rest := []) ⟨hx, hb, hml, hown, hts⟩ (kX11_wouldab l dC dI cB cI cJ cZ cR cS h0 a0 a1 a2 a3 a4 a5 a6 a7 o7 a8 o8 a9 h11 (aR q1) h12 (aR q2) H.size (xs (i + 1)) (xs (i + 2)) (xs (i + 3)) M0 M1 M2 M3 M4 M5 M6 M7 M8 M9 F (R q1) (R q2) _ hw) (cwV 3 hts gL_law_X11_would rfl rfl rfl (by decide +kernel) ⟨Nat.le_of_ble_eq_true rfl, Nat.le_of_ble_eq_true rfl⟩) (x2pV hK (wP_left (wP_perm (law_x2 hT) hP)) (wD_left (wD_perm (law_x2 hT) hD))) rfl rfl hl.1 rfl (lv_room (Nat.le_of_ble_eq_true rfl)) dL_law_395 ⟨(by show cells + 0 ≤ 600000; omega), (by show slots + 0 ≤ 7302250; omega)⟩) (fun r1 N0 N1 N2 N3 N4 N5 N6 N7 N8 N9 F2 S1 S2 o7' o8' H1 locs1 hq hP1 hD1 hS1 => ?_)
    rw [show r1 = r from hq.2.2.2.1]
    have eF : F2 = F := hq.1
    rw [eF] at hP1 hD1
    exact tail N0 N1 N2 N3 N4 N5 N6 N7 N8 N9 o7' o8' (va_up (va_up R q2 S2) q1 S1) _ H1 locs1 hq.2.2.2.2 (fr_up2 kne hq.2.1 hq.2.2.1) (rul_put2 k61 k62 kne eF1 eF2) hP1 hD1 hS1
set_option maxHeartbeats 4000000 in
set_option maxRecDepth 100000 in
theorem case_lots {p : Program} {l : Launch} {e : Env} {s : State} {m : MethodId} {below : List Frame} {meth : Method} {c : Code} {b L : Nat} {xs : Nat → Int32} {dC : Nat → ClassId} {dI : Nat → Nat → Nat} {cB cI cJ cZ cR cS : ClassId} {adK adV : Nat → Nat} {h0 : Nat} {a0 a1 a2 a3 a4 a5 a6 a7 a8 a9 : Nat → Nat} {hm : Nat} {am : Nat → Nat} {H : Heap} {locs : List Loc} {cells slots i : Nat} {Z : State → Prop} {ls : Array Slot} (hE : lawE p s m meth c b L xs dC dI cB cI cJ cZ cR cS adK adV) (hW : lawI s dC dI cB cI cJ cZ cR cS h0 a0 a1 a2 a3 a4 a5 a6 a7 a8 a9 hm am H) (hS : va_S (fun q : Nat => s.heap.size ≤ q) s.heap H locs) (hc : cells + 14 ≤ 600000) (hs : slots + 501 ≤ 7302250) (hl : lv_has ls 4 [(0, .ref b), (1, .ref h0), (2, .ref hm), (3, .int (nI i))]) (hi : i + 6 ≤ L) (kk : ∀ (H1 : Heap) (locs1 : List Loc), lawI s dC dI cB cI cJ cZ cR cS h0 a0 a1 a2 a3 a4 a5 a6 a7 a8 a9 hm am H1 → va_S (fun q : Nat => s.heap.size ≤ q) s.heap H1 locs1 → W p l e room_1 s m #[Value.ref b] below meth c H1 locs1 (cells + 14) (slots + 501) Z (F0 m 880 ls [])) : W p l e room_1 s m #[Value.ref b] below meth c H locs cells slots Z (F0 m 748 ls []) := by
  obtain ⟨hx, hb, hr, hml, hown, hts, hX, hbl, hlocks, hK, hR0, hE0, hL⟩ := id hE
  obtain ⟨M0, M1, M2, M3, M4, M5, M6, M7, M8, M9, o7, o8, F, G, M, n, R, aR, I1, I2, I3, I4, b1, b2, b3, b4, RR, II, hP, hD, hinv, hru, him, hF6, hG4, hRR, hII⟩ := hW
  have hA : ∀ q : Nat, s.heap.size ≤ q → (fun q : Nat => s.heap.size ≤ q) q := fun _ h => h
  have hKc : va_K (dC, dI) vwCl (gT cB cI cJ cZ) s := hK.sub [0, 1, 2, 3] rfl
  obtain ⟨r, N', hkp, hwr, hwc⟩ := t_lotsX (M5 := M5) (M6 := M6) (M8 := M8) (M9 := M9) hinv hru (xs (i + 1)) (xs (i + 2)) (xs (i + 3)) (xs (i + 4)) (xs (i + 5))
  have tail : ∀ (N0 N1 N2 N3 N4 N5 N6 N7 N8 N9 : gS) (o7' o8' : Option Nat) (R' : Nat → gS) (RR' : va_W) (H1 : Heap) (locs1 : List Loc), inv N' N0 N1 N2 N3 N4 N7 → (∀ k, frC (R k) (R' k)) → RR'.Perm ((List.range 6).flatMap (rulW cB cI cJ cZ F aR R')) → va_P (dC, dI) vwCl (lawW cB cI cJ cZ cR cS h0 a0 a1 a2 a3 a4 a5 a6 a7 o7' a8 o8' a9 hm am N0 N1 N2 N3 N4 N5 N6 N7 N8 N9 F G M RR' II) H1 → va_D (fun q : Nat => s.heap.size ≤ q) (lawW cB cI cJ cZ cR cS h0 a0 a1 a2 a3 a4 a5 a6 a7 o7' a8 o8' a9 hm am N0 N1 N2 N3 N4 N5 N6 N7 N8 N9 F G M RR' II) → va_S (fun q : Nat => s.heap.size ≤ q) s.heap H1 locs1 → W p l e room_1 s m #[Value.ref b] below meth c H1 locs1 (cells + 0) (slots + 0) Z (F0 m 777 ls [.int r]) := by
    intro N0 N1 N2 N3 N4 N5 N6 N7 N8 N9 o7' o8' R' RR' H1 locs1 hi1 hf hRR1 hP1 hD1 hS1
    refine lv_aload_n hx hb dL_law_777 rfl (lv_at hl 2 rfl) ?_
    refine L_arg (k := 1) hE hS1 hl (by omega) (by omega) dL_law_778 dL_law_779 dL_law_780 (by decide) dL_law_781 dL_law_782 ?_
    refine L_arg (k := 2) hE hS1 hl (by omega) (by omega) dL_law_783 dL_law_784 dL_law_785 (by decide) dL_law_786 dL_law_787 ?_
    refine L_arg (k := 3) hE hS1 hl (by omega) (by omega) dL_law_788 dL_law_789 dL_law_790 (by decide) dL_law_791 dL_law_792 ?_
    refine L_arg (k := 4) hE hS1 hl (by omega) (by omega) dL_law_793 dL_law_794 dL_law_795 (by decide) dL_law_796 dL_law_797 ?_
    refine L_arg (k := 5) hE hS1 hl (by omega) (by omega) dL_law_798 dL_law_799 dL_law_800 (by decide) dL_law_801 dL_law_802 ?_
    refine L_m hP1 hD1 hS1 hA (va_runV (As := [.int (xs (i + 1)), .int (xs (i + 2)), .int (xs (i + 3)), .int (xs (i + 4)), .int (xs (i + 5))]) (rest := [.int r]) ⟨hx, hb, hml, hown, hts⟩ (kX12_lots l dC dI cB cI cJ cZ hm am H1.size (xs (i + 1)) (xs (i + 2)) (xs (i + 3)) (xs (i + 4)) (xs (i + 5)) M (fun r' N => r' = r ∧ eqM N' N) (hwr _ (fun N h => ⟨rfl, h⟩))) (cwV 5 hts gL_law_X12_lots rfl rfl rfl (by decide +kernel) ⟨Nat.le_of_ble_eq_true rfl, Nat.le_of_ble_eq_true rfl⟩) (mpV hKc (wP_left (wP_perm law_m hP1)) (wD_left (wD_perm law_m hD1))) rfl rfl hl.1 rfl (lv_room (Nat.le_of_ble_eq_true rfl)) dL_law_803 ⟨(by show cells + 0 + 0 ≤ 600000; omega), (by show slots + 0 + 0 ≤ 7302250; omega)⟩) (fun r2 N H2 locs2 hq2 hP2 hD2 hS2 => ?_)
    rw [show r2 = r from hq2.1]
    refine lv_icmp_eq (tgt := 880) hx hb dL_law_806 (by decide) (fun _ => ?_) (fun z => absurd rfl z)
    refine W.widen (k := cells + 14) (n := slots + 501) (by omega) (by omega) ?_
    exact kk H2 locs2 ⟨N0, N1, N2, N3, N4, N5, N6, N7, N8, N9, o7', o8', F, G, N, n, R', aR, I1, I2, I3, I4, b1, b2, b3, b4, RR', II, hP2, hD2, inv_eq hq2.2 hi1, ruls_keep hru hkp hq2.2 hf, ims_keep him hkp hq2.2, hF6, hG4, hRR1, hII⟩ hS2
  have hw : c_lotsX n (xs (i + 1)) (xs (i + 2)) (xs (i + 3)) (xs (i + 4)) (xs (i + 5)) M0 M1 M2 M3 M4 M5 M6 M7 M8 M9 F R (fun r' N0 N1 N2 N3 N4 N5 N6 N7 N8 N9 => r' = r ∧ inv N' N0 N1 N2 N3 N4 N7) := hwc _ (fun N0 N1 N2 N3 N4 N5 N6 N7 N8 N9 h => ⟨rfl, h⟩)
  unfold c_lotsX at hw
  refine lv_aload_n hx hb dL_law_748 rfl (lv_at hl 1 rfl) ?_
  refine L_arg (k := 1) hE hS hl (by omega) (by omega) dL_law_749 dL_law_750 dL_law_751 (by decide) dL_law_752 dL_law_753 ?_
  refine L_arg (k := 2) hE hS hl (by omega) (by omega) dL_law_754 dL_law_755 dL_law_756 (by decide) dL_law_757 dL_law_758 ?_
  refine L_arg (k := 3) hE hS hl (by omega) (by omega) dL_law_759 dL_law_760 dL_law_761 (by decide) dL_law_762 dL_law_763 ?_
  refine L_arg (k := 4) hE hS hl (by omega) (by omega) dL_law_764 dL_law_765 dL_law_766 (by decide) dL_law_767 dL_law_768 ?_
  refine L_arg (k := 5) hE hS hl (by omega) (by omega) dL_law_769 dL_law_770 dL_law_771 (by decide) dL_law_772 dL_law_773 ?_
  rcases hw with hw | ⟨q1, h11, k1, -, -, eF1, hw⟩ | ⟨q1, q2, h11, h12, k1, k2, kne, -, -, eF1, eF2, hw⟩
  · refine L_x0 hP hD hS hA (va_runV (As := [.int (xs (i + 1)), .int (xs (i + 2)), .int (xs (i + 3)), .int (xs (i + 4)), .int (xs (i + 5))]) (rest := []) ⟨hx, hb, hml, hown, hts⟩ (kX11_lotsnn l dC dI cB cI cJ cZ cR cS h0 a0 a1 a2 a3 a4 a5 a6 a7 o7 a8 o8 a9 H.size (xs (i + 1)) (xs (i + 2)) (xs (i + 3)) (xs (i + 4)) (xs (i + 5)) M0 M1 M2 M3 M4 M5 M6 M7 M8 M9 F _ hw) (cwV 5 hts gL_law_X11_lots rfl rfl rfl (by decide +kernel) ⟨Nat.le_of_ble_eq_true rfl, Nat.le_of_ble_eq_true rfl⟩) (x0pV hK (wP_left (wP_perm law_x0 hP)) (wD_left (wD_perm law_x0 hD))) rfl rfl hl.1 rfl (lv_room (Nat.le_of_ble_eq_true rfl)) dL_law_774 ⟨(by show cells + 0 ≤ 600000; omega), (by show slots + 0 ≤ 7302250; omega)⟩) (fun r1 N0 N1 N2 N3 N4 N5 N6 N7 N8 N9 F2 o7' o8' H1 locs1 hq hP1 hD1 hS1 => ?_)
    rw [show r1 = r from hq.2.1]
    have eF : F2 = F := hq.1
    rw [eF] at hP1 hD1
    exact tail N0 N1 N2 N3 N4 N5 N6 N7 N8 N9 o7' o8' R RR H1 locs1 hq.2.2 (fun _ => ⟨rfl, rfl⟩) hRR hP1 hD1 hS1
  · have k61 : q1 < 6 := Nat.lt_of_lt_of_le k1 hru.2.1
    have hT := hRR.trans (rul_take (List.mem_range.2 k61) eF1)
    refine L_x1 hT hP hD hS hA (va_runV (As := [.int (xs (i + 1)), .int (xs (i + 2)), .int (xs (i + 3)), .int (xs (i + 4)), .int (xs (i + 5))]) (rest := []) ⟨hx, hb, hml, hown, hts⟩ (kX11_lotsaa l dC dI cB cI cJ cZ cR cS h0 a0 a1 a2 a3 a4 a5 a6 a7 o7 a8 o8 a9 h11 (aR q1) H.size (xs (i + 1)) (xs (i + 2)) (xs (i + 3)) (xs (i + 4)) (xs (i + 5)) M0 M1 M2 M3 M4 M5 M6 M7 M8 M9 F (R q1) _ hw) (cwV 5 hts gL_law_X11_lots rfl rfl rfl (by decide +kernel) ⟨Nat.le_of_ble_eq_true rfl, Nat.le_of_ble_eq_true rfl⟩) (x1pV hK (wP_left (wP_perm (law_x1 hT) hP)) (wD_left (wD_perm (law_x1 hT) hD))) rfl rfl hl.1 rfl (lv_room (Nat.le_of_ble_eq_true rfl)) dL_law_774 ⟨(by show cells + 0 ≤ 600000; omega), (by show slots + 0 ≤ 7302250; omega)⟩) (fun r1 N0 N1 N2 N3 N4 N5 N6 N7 N8 N9 F2 S1 o7' o8' H1 locs1 hq hP1 hD1 hS1 => ?_)
    rw [show r1 = r from hq.2.2.1]
    have eF : F2 = F := hq.1
    rw [eF] at hP1 hD1
    exact tail N0 N1 N2 N3 N4 N5 N6 N7 N8 N9 o7' o8' (va_up R q1 S1) _ H1 locs1 hq.2.2.2 (fr_up hq.2.1) (rul_put (by decide) (List.mem_range.2 k61) eF1 rfl up_eq (fun j hj => ⟨rfl, rfl, up_ne hj⟩)) hP1 hD1 hS1
  · have k61 : q1 < 6 := Nat.lt_of_lt_of_le k1 hru.2.1
    have k62 : q2 < 6 := Nat.lt_of_lt_of_le k2 hru.2.1
    have hT := rul_take2 hRR k61 k62 kne eF1 eF2
    refine L_x2 hT hP hD hS hA (va_runV (As := [.int (xs (i + 1)), .int (xs (i + 2)), .int (xs (i + 3)), .int (xs (i + 4)), .int (xs (i + 5))]) (rest := []) ⟨hx, hb, hml, hown, hts⟩ (kX11_lotsab l dC dI cB cI cJ cZ cR cS h0 a0 a1 a2 a3 a4 a5 a6 a7 o7 a8 o8 a9 h11 (aR q1) h12 (aR q2) H.size (xs (i + 1)) (xs (i + 2)) (xs (i + 3)) (xs (i + 4)) (xs (i + 5)) M0 M1 M2 M3 M4 M5 M6 M7 M8 M9 F (R q1) (R q2) _ hw) (cwV 5 hts gL_law_X11_lots rfl rfl rfl (by decide +kernel) ⟨Nat.le_of_ble_eq_true rfl, Nat.le_of_ble_eq_true rfl⟩) (x2pV hK (wP_left (wP_perm (law_x2 hT) hP)) (wD_left (wD_perm (law_x2 hT) hD))) rfl rfl hl.1 rfl (lv_room (Nat.le_of_ble_eq_true rfl)) dL_law_774 ⟨(by show cells + 0 ≤ 600000; omega), (by show slots + 0 ≤ 7302250; omega)⟩) (fun r1 N0 N1 N2 N3 N4 N5 N6 N7 N8 N9 F2 S1 S2 o7' o8' H1 locs1 hq hP1 hD1 hS1 => ?_)
    rw [show r1 = r from hq.2.2.2.1]
    have eF : F2 = F := hq.1
    rw [eF] at hP1 hD1
    exact tail N0 N1 N2 N3 N4 N5 N6 N7 N8 N9 o7' o8' (va_up (va_up R q2 S2) q1 S1) _ H1 locs1 hq.2.2.2.2 (fr_up2 kne hq.2.1 hq.2.2.1) (rul_put2 k61 k62 kne eF1 eF2) hP1 hD1 hS1
