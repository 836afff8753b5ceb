-- PURE: the law's calls: rule
set_option maxHeartbeats 4000000 in
set_option maxRecDepth 100000 in
theorem case_rule {p : Program} {l : Launch} {e : Env} {s : State} {m : MethodId} {below : List Frame} {meth : Method} {c : Code} {b L : Nat} {xs : Nat → Int32} {dC : Nat → ClassId} {dI : Nat → Nat → Nat} {cB cI cJ cZ cR cS : ClassId} {adK adV : Nat → Nat} {h0 : Nat} {a0 a1 a2 a3 a4 a5 a6 a7 a8 a9 : Nat → Nat} {hm : Nat} {am : Nat → Nat} {H : Heap} {locs : List Loc} {cells slots i : Nat} {Z : State → Prop} {ls : Array Slot} (hE : lawE p s m meth c b L xs dC dI cB cI cJ cZ cR cS adK adV) (hW : lawI s dC dI cB cI cJ cZ cR cS h0 a0 a1 a2 a3 a4 a5 a6 a7 a8 a9 hm am H) (hS : va_S (fun q : Nat => s.heap.size ≤ q) s.heap H locs) (hc : cells + 14 ≤ 600000) (hs : slots + 501 ≤ 7302250) (hl : lv_has ls 4 [(0, .ref b), (1, .ref h0), (2, .ref hm), (3, .int (nI i))]) (hi : i + 6 ≤ L) (kk : ∀ (H1 : Heap) (locs1 : List Loc), lawI s dC dI cB cI cJ cZ cR cS h0 a0 a1 a2 a3 a4 a5 a6 a7 a8 a9 hm am H1 → va_S (fun q : Nat => s.heap.size ≤ q) s.heap H1 locs1 → W p l e room_1 s m #[Value.ref b] below meth c H1 locs1 (cells + 14) (slots + 501) Z (F0 m 880 ls [])) : W p l e room_1 s m #[Value.ref b] below meth c H locs cells slots Z (F0 m 251 ls []) := by
  obtain ⟨hx, hb, hr, hml, hown, hts, hX, hbl, hlocks, hK, hR0, hE0, hL⟩ := id hE
  obtain ⟨M0, M1, M2, M3, M4, M5, M6, M7, M8, M9, o7, o8, F, G, M, n, R, aR, I1, I2, I3, I4, b1, b2, b3, b4, RR, II, hP, hD, hinv, hru, him, hF6, hG4, hRR, hII⟩ := hW
  have hA : ∀ q : Nat, s.heap.size ≤ q → (fun q : Nat => s.heap.size ≤ q) q := fun _ h => h
  have hKc : va_K (dC, dI) vwCl (gT cB cI cJ cZ) s := hK.sub [0, 1, 2, 3] rfl
  refine lv_aload_n hx hb dL_law_251 rfl (lv_at hl 1 rfl) ?_
  by_cases hn6 : n = 6
  · obtain ⟨hrf, hcl⟩ := t_rule_full (M5 := M5) (M6 := M6) (M8 := M8) (M9 := M9) hinv (by rw [hru.1, hn6])
    obtain ⟨r, er⟩ : ∃ r : Int32, r = -1 := ⟨_, rfl⟩
    have tail0 : (∀ Q : Int32 → gS → Prop, Q r M → wX12_rule  M Q) → ∀ (N0 N1 N2 N3 N4 N5 N6 N7 N8 N9 : gS) (o7' o8' : Option Nat) (H1 : Heap) (locs1 : List Loc), N0 = M0 ∧ N1 = M1 ∧ N2 = M2 ∧ N3 = M3 ∧ N4 = M4 ∧ N7 = M7 → va_P (dC, dI) vwCl (lawW cB cI cJ cZ cR cS h0 a0 a1 a2 a3 a4 a5 a6 a7 o7' a8 o8' a9 hm am N0 N1 N2 N3 N4 N5 N6 N7 N8 N9 F G M RR II) H1 → va_D (fun q : Nat => s.heap.size ≤ q) (lawW cB cI cJ cZ cR cS h0 a0 a1 a2 a3 a4 a5 a6 a7 o7' a8 o8' a9 hm am N0 N1 N2 N3 N4 N5 N6 N7 N8 N9 F G M RR II) → va_S (fun q : Nat => s.heap.size ≤ q) s.heap H1 locs1 → W p l e room_1 s m #[Value.ref b] below meth c H1 locs1 (cells + 0) (slots + 0) Z (F0 m 255 ls [.int r]) := by
      intro href N0 N1 N2 N3 N4 N5 N6 N7 N8 N9 o7' o8' H1 locs1 hsm hP1 hD1 hS1
      obtain ⟨e0, e1, e2, e3, e4, e7⟩ := hsm
      refine lv_aload_n hx hb dL_law_255 rfl (lv_at hl 2 rfl) ?_
      refine L_m hP1 hD1 hS1 hA (va_runV (As := []) (rest := [.int r]) ⟨hx, hb, hml, hown, hts⟩ (kX12_rule l dC dI cB cI cJ cZ hm am H1.size  M (fun r' N => r' = r ∧ N = M) (href _ ⟨rfl, rfl⟩)) (cwV 0 hts gL_law_X12_rule rfl rfl rfl (by decide +kernel) ⟨Nat.le_of_ble_eq_true rfl, Nat.le_of_ble_eq_true rfl⟩) (mpV hKc (wP_left (wP_perm law_m hP1)) (wD_left (wD_perm law_m hD1))) rfl rfl hl.1 rfl (lv_room (Nat.le_of_ble_eq_true rfl)) dL_law_256 ⟨(by show cells + 0 + 0 ≤ 600000; omega), (by show slots + 0 + 0 ≤ 7302250; omega)⟩) (fun r2 N H2 locs2 hq2 hP2 hD2 hS2 => ?_)
      rw [show r2 = r from hq2.1]
      refine lv_icmp_eq (tgt := 880) hx hb dL_law_259 (by decide) (fun _ => ?_) (fun z => absurd rfl z)
      refine W.widen (k := cells + 14) (n := slots + 501) (by omega) (by omega) ?_
      have eN : N = M := hq2.2
      rw [eN] at hP2 hD2
      exact kk H2 locs2 ⟨N0, N1, N2, N3, N4, N5, N6, N7, N8, N9, o7', o8', F, G, M, n, R, aR, I1, I2, I3, I4, b1, b2, b3, b4, RR, II, hP2, hD2, (by rw [e0, e1, e2, e3, e4, e7]; exact hinv), hru, him, hF6, hG4, hRR, hII⟩ hS2
    refine L_x0 hP hD hS hA (va_runV (As := []) (rest := []) ⟨hx, hb, hml, hown, hts⟩ (kX11_rulefull l dC dI cB cI cJ cZ cR cS adK adV h0 a0 a1 a2 a3 a4 a5 a6 a7 o7 a8 o8 a9 H.size M0 M1 M2 M3 M4 M5 M6 M7 M8 M9 F (fun r' N0 N1 N2 N3 N4 N5 N6 N7 N8 N9 F' => r' = r ∧ F' = F ∧ N0 = M0 ∧ N1 = M1 ∧ N2 = M2 ∧ N3 = M3 ∧ N4 = M4 ∧ N7 = M7) (hcl F _ ⟨er.symm, rfl, rfl, rfl, rfl, rfl, rfl, rfl⟩)) (cwV 0 hts gL_law_X11_rule rfl rfl rfl (by decide +kernel) ⟨Nat.le_of_ble_eq_true rfl, Nat.le_of_ble_eq_true rfl⟩) (x0pVS hK (wP_left (wP_perm law_x0 hP)) (wD_left (wD_perm law_x0 hD)) hR0 hE0 hS (w_free (wD_perm law_x0 hD) hS hA)) rfl rfl hl.1 rfl (lv_room (Nat.le_of_ble_eq_true rfl)) dL_law_252 ⟨(by show cells + 0 ≤ 600000; omega), (by show slots + 0 ≤ 7302250; omega)⟩) (fun r1 N0 N1 N2 N3 N4 N5 N6 N7 N8 N9 F2 o7' o8' H1 locs1 hq hP1 hD1 hS1 => ?_)
    rw [show r1 = r from hq.1]
    have eF : F2 = F := hq.2.1
    rw [eF] at hP1 hD1
    exact tail0 (fun Q h => hrf Q (by rw [← er]; exact h)) N0 N1 N2 N3 N4 N5 N6 N7 N8 N9 o7' o8' H1 locs1 hq.2.2 hP1 hD1 hS1
  · have hn : n < 6 := by have := hru.2.1; omega
    obtain ⟨r, PN, PC, hj, hrf, hold, hnew⟩ := t_rule (M5 := M5) (M6 := M6) (M8 := M8) (M9 := M9) hinv hn hru.1
    have tail : ∀ (N0 N1 N2 N3 N4 N5 N6 N7 N8 N9 : gS) (o7' o8' : Option Nat) (F2 : oF) (aR2 : Nat → Nat → Nat) (S : gS) (h : Nat) (RR2 : va_W) (H1 : Heap) (locs1 : List Loc) (cc ss : Nat), cc ≤ cells + 14 → ss ≤ slots + 501 → PC N0 S → N1 = M1 ∧ N2 = M2 ∧ N3 = M3 ∧ N4 = M4 ∧ N7 = M7 → F2 n = some h → (∀ j, j ≠ n → F2 j = F j) → RR2.Perm ((List.range 6).flatMap (rulW cB cI cJ cZ F2 aR2 (va_up R n S))) → va_P (dC, dI) vwCl (lawW cB cI cJ cZ cR cS h0 a0 a1 a2 a3 a4 a5 a6 a7 o7' a8 o8' a9 hm am N0 N1 N2 N3 N4 N5 N6 N7 N8 N9 F2 G M RR2 II) H1 → va_D (fun q : Nat => s.heap.size ≤ q) (lawW cB cI cJ cZ cR cS h0 a0 a1 a2 a3 a4 a5 a6 a7 o7' a8 o8' a9 hm am N0 N1 N2 N3 N4 N5 N6 N7 N8 N9 F2 G M RR2 II) → va_S (fun q : Nat => s.heap.size ≤ q) s.heap H1 locs1 → W p l e room_1 s m #[Value.ref b] below meth c H1 locs1 cc ss Z (F0 m 255 ls [.int r]) := by
      intro N0 N1 N2 N3 N4 N5 N6 N7 N8 N9 o7' o8' F2 aR2 S h RR2 H1 locs1 cc ss hcc hss hpc hsm hFn hFo hRR2 hP1 hD1 hS1
      obtain ⟨e1, e2, e3, e4, e7⟩ := hsm
      refine lv_aload_n hx hb dL_law_255 rfl (lv_at hl 2 rfl) ?_
      refine L_m hP1 hD1 hS1 hA (va_runV (As := []) (rest := [.int r]) ⟨hx, hb, hml, hown, hts⟩ (kX12_rule l dC dI cB cI cJ cZ hm am H1.size  M (fun r' N => r' = r ∧ PN N) (hrf _ (fun N h => ⟨rfl, h⟩))) (cwV 0 hts gL_law_X12_rule rfl rfl rfl (by decide +kernel) ⟨Nat.le_of_ble_eq_true rfl, Nat.le_of_ble_eq_true rfl⟩) (mpV hKc (wP_left (wP_perm law_m hP1)) (wD_left (wD_perm law_m hD1))) rfl rfl hl.1 rfl (lv_room (Nat.le_of_ble_eq_true rfl)) dL_law_256 ⟨(by show cc + 0 ≤ 600000; omega), (by show ss + 0 ≤ 7302250; omega)⟩) (fun r2 N H2 locs2 hq2 hP2 hD2 hS2 => ?_)
      rw [show r2 = r from hq2.1]
      refine lv_icmp_eq (tgt := 880) hx hb dL_law_259 (by decide) (fun _ => ?_) (fun z => absurd rfl z)
      refine W.widen (k := cells + 14) (n := slots + 501) (by omega) (by omega) ?_
      have hp := hj N N0 S hq2.2 hpc
      obtain ⟨n', hru'⟩ := ruls_rule hru hn hp hFn (up_eq (f := R) (v := S)) (fun j z => ⟨hFo j z, up_ne z⟩)
      exact kk H2 locs2 ⟨N0, N1, N2, N3, N4, N5, N6, N7, N8, N9, o7', o8', F2, G, N, n', va_up R n S, aR2, I1, I2, I3, I4, b1, b2, b3, b4, RR2, II, hP2, hD2, (by rw [e1, e2, e3, e4, e7]; exact hp.2.1), hru', (fun k hk => imR_at (him k hk) (hp.1.1 35 (by decide) (by decide) (by decide) (by decide) (by decide)) (hp.1.1 36 (by decide) (by decide) (by decide) (by decide) (by decide))), (fun k hk => (hFo k (by omega)).trans (hF6 k hk)), hG4, hRR2, hII⟩ hS2
    cases hFn : F n with
    | some h11 =>
      have hT := hRR.trans (rul_take (List.mem_range.2 hn) hFn)
      refine L_x1 hT hP hD hS hA (va_runV (As := []) (rest := []) ⟨hx, hb, hml, hown, hts⟩ (kX11_ruleold l dC dI cB cI cJ cZ cR cS adK adV h0 a0 a1 a2 a3 a4 a5 a6 a7 o7 a8 o8 a9 h11 (aR n) H.size M0 M1 M2 M3 M4 M5 M6 M7 M8 M9 F (R n) (fun r' N0 N1 N2 N3 N4 N5 N6 N7 N8 N9 F' S => r' = r ∧ PC N0 S ∧ F' = F ∧ N1 = M1 ∧ N2 = M2 ∧ N3 = M3 ∧ N4 = M4 ∧ N7 = M7) (hold F h11 (R n) _ hFn (fun N0 S h => ⟨rfl, h, rfl, rfl, rfl, rfl, rfl, rfl⟩))) (cwV 0 hts gL_law_X11_rule rfl rfl rfl (by decide +kernel) ⟨Nat.le_of_ble_eq_true rfl, Nat.le_of_ble_eq_true rfl⟩) (x1pVS hK (wP_left (wP_perm (law_x1 hT) hP)) (wD_left (wD_perm (law_x1 hT) hD)) hR0 hE0 hS (w_free (wD_perm (law_x1 hT) hD) hS hA)) rfl rfl hl.1 rfl (lv_room (Nat.le_of_ble_eq_true rfl)) dL_law_252 ⟨(by show cells + 2 ≤ 600000; omega), (by show slots + 11 ≤ 7302250; omega)⟩) (fun r1 N0 N1 N2 N3 N4 N5 N6 N7 N8 N9 F2 S1 o7' o8' H1 locs1 hq hP1 hD1 hS1 => ?_)
      rw [show r1 = r from hq.1]
      have eF : F2 = F := hq.2.2.1
      rw [eF] at hP1 hD1
      exact tail N0 N1 N2 N3 N4 N5 N6 N7 N8 N9 o7' o8' F aR S1 h11 _ H1 locs1 _ _ (by omega) (by omega) hq.2.1 hq.2.2.2 hFn (fun _ _ => rfl) (rul_put (by decide) (List.mem_range.2 hn) hFn rfl up_eq (fun j hj => ⟨rfl, rfl, up_ne hj⟩)) hP1 hD1 hS1
    | none =>
      refine L_xN hP hD hS hA (va_runV (As := []) (rest := []) ⟨hx, hb, hml, hown, hts⟩ (kX11_rulenew l dC dI cB cI cJ cZ cR cS adK adV h0 a0 a1 a2 a3 a4 a5 a6 a7 o7 a8 o8 a9 H.size M0 M1 M2 M3 M4 M5 M6 M7 M8 M9 F (fun r' N0 N1 N2 N3 N4 N5 N6 N7 N8 N9 F' S => r' = r ∧ PC N0 S ∧ (∃ h', F' = va_up F n (some h')) ∧ N1 = M1 ∧ N2 = M2 ∧ N3 = M3 ∧ N4 = M4 ∧ N7 = M7) (hnew F _ hFn (fun h11 N0 S h => ⟨rfl, h, ⟨h11, rfl⟩, rfl, rfl, rfl, rfl, rfl⟩))) (cwV 0 hts gL_law_X11_rule rfl rfl rfl (by decide +kernel) ⟨Nat.le_of_ble_eq_true rfl, Nat.le_of_ble_eq_true rfl⟩) (x0pVS hK (wP_left (wP_perm law_x0 hP)) (wD_left (wD_perm law_x0 hD)) hR0 hE0 hS (w_free (wD_perm law_x0 hD) hS hA)) rfl rfl hl.1 rfl (lv_room (Nat.le_of_ble_eq_true rfl)) dL_law_252 ⟨(by show cells + 7 ≤ 600000; omega), (by show slots + 501 ≤ 7302250; omega)⟩) (fun r1 N0 N1 N2 N3 N4 N5 N6 N7 N8 N9 F2 S1 o7' o8' h11 a11 H1 locs1 hq hx1 hx2 hP1 hD1 hS1 => ?_)
      rw [show r1 = r from hq.1]
      obtain ⟨h', eF⟩ : ∃ h', F2 = va_up F n (some h') := hq.2.2.1
      have y1 := hx2 _ (List.Mem.head _)
      have eF2 : F2 = va_up F n (some h11) := up_new eF hn hF6 (fun j a z1 z2 => rul_old hRR (law_RR_lt hP).1 z1 z2) hx1 y1
      exact tail N0 N1 N2 N3 N4 N5 N6 N7 N8 N9 o7' o8' F2 (va_up aR n a11) S1 h11 _ H1 locs1 _ _ (by omega) (by omega) hq.2.1 hq.2.2.2 (by rw [eF2]; exact up_eq) (fun j z => by rw [eF2]; exact up_ne z) (((hRR.trans (rul_takeN (List.mem_range.2 hn) hFn)).append_left _).trans (rul_put (by decide) (List.mem_range.2 hn) (by rw [eF2]; exact up_eq) up_eq up_eq (fun j z => ⟨by rw [eF2]; exact up_ne z, up_ne z, up_ne z⟩))) hP1 hD1 hS1
