-- PURE: the law's calls (0)
set_option maxHeartbeats 4000000 in
set_option maxRecDepth 100000 in
theorem case_begin {p : Program} {l : Launch} {e : Env} {s : State} {m : MethodId} {below : List Frame} {meth : Method} {c : Code} {b L : Nat} {xs : Nat → Int32} {dC : Nat → ClassId} {dI : Nat → Nat → Nat} {cB cI cJ cZ cR cS : ClassId} {adK adV : Nat → Nat} {h0 : Nat} {a0 a1 a2 a3 a4 a5 a6 a7 a8 a9 : Nat → Nat} {hm : Nat} {am : Nat → Nat} {H : Heap} {locs : List Loc} {cells slots i : Nat} {Z : State → Prop} {ls : Array Slot} (hE : lawE p s m meth c b L xs dC dI cB cI cJ cZ cR cS adK adV) (hW : lawI s dC dI cB cI cJ cZ cR cS h0 a0 a1 a2 a3 a4 a5 a6 a7 a8 a9 hm am H) (hS : va_S (fun q : Nat => s.heap.size ≤ q) s.heap H locs) (hc : cells + 14 ≤ 600000) (hs : slots + 501 ≤ 7302250) (hl : lv_has ls 4 [(0, .ref b), (1, .ref h0), (2, .ref hm), (3, .int (nI i))]) (hi : i + 6 ≤ L) (kk : ∀ (H1 : Heap) (locs1 : List Loc), lawI s dC dI cB cI cJ cZ cR cS h0 a0 a1 a2 a3 a4 a5 a6 a7 a8 a9 hm am H1 → va_S (fun q : Nat => s.heap.size ≤ q) s.heap H1 locs1 → W p l e room_1 s m #[Value.ref b] below meth c H1 locs1 (cells + 14) (slots + 501) Z (F0 m 880 ls [])) : W p l e room_1 s m #[Value.ref b] below meth c H locs cells slots Z (F0 m 264 ls []) := by
  obtain ⟨hx, hb, hr, hml, hown, hts, hX, hbl, hlocks, hK, hR0, hE0, hL⟩ := id hE
  obtain ⟨M0, M1, M2, M3, M4, M5, M6, M7, M8, M9, o7, o8, F, G, M, n, R, aR, I1, I2, I3, I4, b1, b2, b3, b4, RR, II, hP, hD, hinv, hru, him, hF6, hG4, hRR, hII⟩ := hW
  have hA : ∀ q : Nat, s.heap.size ≤ q → (fun q : Nat => s.heap.size ≤ q) q := fun _ h => h
  have hKc : va_K (dC, dI) vwCl (gT cB cI cJ cZ) s := hK.sub [0, 1, 2, 3] rfl
  obtain ⟨r, N', hkp, hwr, hwc⟩ := t_begin (M5 := M5) (M6 := M6) (M8 := M8) (M9 := M9) hinv (xs (i + 1)) (xs (i + 2))
  refine lv_aload_n hx hb dL_law_264 rfl (lv_at hl 1 rfl) ?_
  refine L_arg (k := 1) hE hS hl (by omega) (by omega) dL_law_265 dL_law_266 dL_law_267 (by decide) dL_law_268 dL_law_269 ?_
  refine L_arg (k := 2) hE hS hl (by omega) (by omega) dL_law_270 dL_law_271 dL_law_272 (by decide) dL_law_273 dL_law_274 ?_
  refine L_lw hP hD hS hA (va_runV (As := [.int (xs (i + 1)), .int (xs (i + 2))]) (rest := []) ⟨hx, hb, hml, hown, hts⟩ (kX11_begin l dC dI cB cI cJ cZ h0 a0 a1 a2 a3 a4 a5 a6 a7 o7 a8 o8 a9 H.size (xs (i + 1)) (xs (i + 2)) M0 M1 M2 M3 M4 M5 M6 M7 M8 M9 (fun r' N0 N1 N2 N3 N4 N5 N6 N7 N8 N9 => r' = r ∧ inv N' N0 N1 N2 N3 N4 N7) (hwc _ (fun N0 N1 N2 N3 N4 N5 N6 N7 N8 N9 h => ⟨rfl, h⟩))) (cwV 2 hts gL_law_X11_begin rfl rfl rfl (by decide +kernel) ⟨Nat.le_of_ble_eq_true rfl, Nat.le_of_ble_eq_true rfl⟩) (lwpV hKc (wP_left (wP_perm law_lw hP)) (wD_left (wD_perm law_lw hD))) rfl rfl hl.1 rfl (lv_room (Nat.le_of_ble_eq_true rfl)) dL_law_275 ⟨(by show cells + 0 ≤ 600000; omega), (by show slots + 0 ≤ 7302250; omega)⟩) (fun r1 N0 N1 N2 N3 N4 N5 N6 N7 N8 N9 o7' o8' H1 locs1 hq hP1 hD1 hS1 => ?_)
  rw [show r1 = r from hq.1]
  refine lv_aload_n hx hb dL_law_278 rfl (lv_at hl 2 rfl) ?_
  refine L_arg (k := 1) hE hS1 hl (by omega) (by omega) dL_law_279 dL_law_280 dL_law_281 (by decide) dL_law_282 dL_law_283 ?_
  refine L_arg (k := 2) hE hS1 hl (by omega) (by omega) dL_law_284 dL_law_285 dL_law_286 (by decide) dL_law_287 dL_law_288 ?_
  refine L_m hP1 hD1 hS1 hA (va_runV (As := [.int (xs (i + 1)), .int (xs (i + 2))]) (rest := [.int r]) ⟨hx, hb, hml, hown, hts⟩ (kX12_begin l dC dI cB cI cJ cZ hm am H1.size (xs (i + 1)) (xs (i + 2)) M (fun r' N => r' = r ∧ eqM N' N) (hwr _ (fun N h => ⟨rfl, h⟩))) (cwV 2 hts gL_law_X12_begin rfl rfl rfl (by decide +kernel) ⟨Nat.le_of_ble_eq_true rfl, Nat.le_of_ble_eq_true rfl⟩) (mpV hKc (wP_left (wP_perm law_m hP1)) (wD_left (wD_perm law_m hD1))) rfl rfl hl.1 rfl (lv_room (Nat.le_of_ble_eq_true rfl)) dL_law_289 ⟨(by show cells + 0 + 0 ≤ 600000; omega), (by show slots + 0 + 0 ≤ 7302250; omega)⟩) (fun r2 N H2 locs2 hq2 hP2 hD2 hS2 => ?_)
  rw [show r2 = r from hq2.1]
  refine lv_icmp_eq (tgt := 880) hx hb dL_law_292 (by decide) (fun _ => ?_) (fun z => absurd rfl z)
  refine W.widen (k := cells + 14) (n := slots + 501) (by omega) (by omega) ?_
  exact kk H2 locs2 ⟨N0, N1, N2, N3, N4, N5, N6, N7, N8, N9, o7', o8', F, G, N, n, R, aR, I1, I2, I3, I4, b1, b2, b3, b4, RR, II, hP2, hD2, inv_eq hq2.2 hq.2, ruls_keep hru hkp hq2.2 (fun _ => ⟨rfl, rfl⟩), ims_keep him hkp hq2.2, hF6, hG4, hRR, hII⟩ hS2
