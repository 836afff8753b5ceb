-- PURE: the law's calls: image, back
set_option maxHeartbeats 4000000 in
set_option maxRecDepth 100000 in
theorem case_image {p : Program} {l : Launch} {e : Env} {s : State} {m : MethodId} {below : List Frame} {meth : Method} {c : Code} {b L : Nat} {xs : Nat → Int32} {dC : Nat → ClassId} {dI : Nat → Nat → Nat} {cB cI cJ cZ cR cS : ClassId} {adK adV : Nat → Nat} {h0 : Nat} {a0 a1 a2 a3 a4 a5 a6 a7 a8 a9 : Nat → Nat} {hm : Nat} {am : Nat → Nat} {H : Heap} {locs : List Loc} {cells slots i : Nat} {Z : State → Prop} {ls : Array Slot} (hE : lawE p s m meth c b L xs dC dI cB cI cJ cZ cR cS adK adV) (hW : lawI s dC dI cB cI cJ cZ cR cS h0 a0 a1 a2 a3 a4 a5 a6 a7 a8 a9 hm am H) (hS : va_S (fun q : Nat => s.heap.size ≤ q) s.heap H locs) (hc : cells + 14 ≤ 600000) (hs : slots + 501 ≤ 7302250) (hl : lv_has ls 4 [(0, .ref b), (1, .ref h0), (2, .ref hm), (3, .int (nI i))]) (hi : i + 6 ≤ L) (kk : ∀ (H1 : Heap) (locs1 : List Loc), lawI s dC dI cB cI cJ cZ cR cS h0 a0 a1 a2 a3 a4 a5 a6 a7 a8 a9 hm am H1 → va_S (fun q : Nat => s.heap.size ≤ q) s.heap H1 locs1 → W p l e room_1 s m #[Value.ref b] below meth c H1 locs1 (cells + 14) (slots + 501) Z (F0 m 880 ls [])) : W p l e room_1 s m #[Value.ref b] below meth c H locs cells slots Z (F0 m 834 ls []) := by
  obtain ⟨hx, hb, hr, hml, hown, hts, hX, hbl, hlocks, hK, hR0, hE0, hL⟩ := id hE
  obtain ⟨M0, M1, M2, M3, M4, M5, M6, M7, M8, M9, o7, o8, F, G, M, n, R, aR, I1, I2, I3, I4, b1, b2, b3, b4, RR, II, hP, hD, hinv, hru, him, hF6, hG4, hRR, hII⟩ := hW
  have hA : ∀ q : Nat, s.heap.size ≤ q → (fun q : Nat => s.heap.size ≤ q) q := fun _ h => h
  have hKc : va_K (dC, dI) vwCl (gT cB cI cJ cZ) s := hK.sub [0, 1, 2, 3] rfl
  refine lv_aload_n hx hb dL_law_834 rfl (lv_at hl 1 rfl) ?_
  refine L_arg (k := 1) hE hS hl (by omega) (by omega) dL_law_835 dL_law_836 dL_law_837 (by decide) dL_law_838 dL_law_839 ?_
  by_cases hp : 0 ≤ xs (i + 1) ∧ xs (i + 1) ≤ 3
  · obtain ⟨k, hk4, ek⟩ := i_k hp
    obtain ⟨r, er⟩ : ∃ r : Int32, r = ma M 25 18 + ma M 25 19 := ⟨_, rfl⟩
    have tail : ∀ (N0 N1 N2 N3 N4 N5 N6 N7 N8 N9 : gS) (o7' o8' : Option Nat) (G2 : oF) (c1 c2 c3 c4 : Nat → Nat → Nat) (A1 A2 A3 A4 : gS) (h : Nat) (II2 : va_W) (H1 : Heap) (locs1 : List Loc) (cc ss : Nat), cc ≤ cells + 14 → ss ≤ slots + 501 → N0 = M0 ∧ N1 = M1 ∧ N2 = M2 ∧ N3 = M3 ∧ N4 = M4 ∧ N7 = M7 → relS (ma M 25) A1 A2 A3 A4 → G2 k = some h → (∀ j, j ≠ k → G2 j = G j) → II2.Perm ((List.range 4).flatMap (imgW cB cI cJ cZ G2 c1 c2 c3 c4 (va_up I1 k A1) (va_up I2 k A2) (va_up I3 k A3) (va_up I4 k A4))) → va_P (dC, dI) vwCl (lawW cB cI cJ cZ cR cS h0 a0 a1 a2 a3 a4 a5 a6 a7 o7' a8 o8' a9 hm am N0 N1 N2 N3 N4 N5 N6 N7 N8 N9 F G2 M RR II2) H1 → va_D (fun q : Nat => s.heap.size ≤ q) (lawW cB cI cJ cZ cR cS h0 a0 a1 a2 a3 a4 a5 a6 a7 o7' a8 o8' a9 hm am N0 N1 N2 N3 N4 N5 N6 N7 N8 N9 F G2 M RR II2) → va_S (fun q : Nat => s.heap.size ≤ q) s.heap H1 locs1 → W p l e room_1 s m #[Value.ref b] below meth c H1 locs1 cc ss Z (F0 m 843 ls [.int r]) := by
      intro N0 N1 N2 N3 N4 N5 N6 N7 N8 N9 o7' o8' G2 c1 c2 c3 c4 A1 A2 A3 A4 h II2 H1 locs1 cc ss hcc hss hsm hrel hGk hGo hII2 hP1 hD1 hS1
      obtain ⟨e0, e1, e2, e3, e4, e7⟩ := hsm
      refine lv_aload_n hx hb dL_law_843 rfl (lv_at hl 2 rfl) ?_
      refine L_arg (k := 1) hE hS1 hl (by omega) (by omega) dL_law_844 dL_law_845 dL_law_846 (by decide) dL_law_847 dL_law_848 ?_
      refine L_m hP1 hD1 hS1 hA (va_runV (As := [.int (xs (i + 1))]) (rest := [.int r]) ⟨hx, hb, hml, hown, hts⟩ (kX12_image l dC dI cB cI cJ cZ hm am H1.size (xs (i + 1)) M (fun r' N => r' = r ∧ N = imgM M k) (by rw [ek]; exact m_image hk4 _ ⟨er.symm, rfl⟩)) (cwV 1 hts gL_law_X12_image rfl rfl rfl (by decide +kernel) ⟨Nat.le_of_ble_eq_true rfl, Nat.le_of_ble_eq_true rfl⟩) (mpV hKc (wP_left (wP_perm law_m hP1)) (wD_left (wD_perm law_m hD1))) rfl rfl hl.1 rfl (lv_room (Nat.le_of_ble_eq_true rfl)) dL_law_849 ⟨(by show cc + 0 ≤ 600000; omega), (by show ss + 0 ≤ 7302250; omega)⟩) (fun r2 N H2 locs2 hq2 hP2 hD2 hS2 => ?_)
      rw [show r2 = r from hq2.1]
      refine lv_icmp_eq (tgt := 880) hx hb dL_law_852 (by decide) (fun _ => ?_) (fun z => absurd rfl z)
      refine W.widen (k := cells + 14) (n := slots + 501) (by omega) (by omega) ?_
      have eN : N = imgM M k := hq2.2
      rw [eN] at hP2 hD2
      refine kk H2 locs2 ⟨N0, N1, N2, N3, N4, N5, N6, N7, N8, N9, o7', o8', F, G2, imgM M k, n, R, aR, va_up I1 k A1, va_up I2 k A2, va_up I3 k A3, va_up I4 k A4, c1, c2, c3, c4, RR, II2, hP2, hD2, (by rw [e0, e1, e2, e3, e4, e7]; exact inv_img hinv), ruls_at hru rfl rfl rfl rfl (fun _ => ⟨rfl, rfl⟩), (fun j hj4 => ?_), hF6, (fun j hj4 => (hGo j (by omega)).trans (hG4 j hj4)), hRR, hII2⟩ hS2
      by_cases z : j = k
      · subst z
        rw [hGk, up_eq, up_eq, up_eq, up_eq]
        exact img_this hinv.1 hrel
      · rw [hGo j z, up_ne z, up_ne z, up_ne z, up_ne z]
        exact img_other z (him j hj4)
    cases hGk : G k with
    | some h11 =>
      have hT := hII.trans (img_take (List.mem_range.2 hk4) hGk)
      refine L_i1 hT hP hD hS hA (va_runV (As := [.int (xs (i + 1))]) (rest := []) ⟨hx, hb, hml, hown, hts⟩ (kX11_imageold l dC dI cB cI cJ cZ cR cS adK adV h0 a0 a1 a2 a3 a4 a5 a6 a7 o7 a8 o8 a9 h11 (b1 k) (b2 k) (b3 k) (b4 k) H.size (xs (i + 1)) M0 M1 M2 M3 M4 M5 M6 M7 M8 M9 G (I1 k) (I2 k) (I3 k) (I4 k) (fun r' N0 N1 N2 N3 N4 N5 N6 N7 N8 N9 F' A1 A2 A3 A4 => r' = r ∧ F' = G ∧ relS (ma M 25) A1 A2 A3 A4 ∧ N0 = M0 ∧ N1 = M1 ∧ N2 = M2 ∧ N3 = M3 ∧ N4 = M4 ∧ N7 = M7) (by rw [ek]; exact c_imageold hinv.1.1 hk4 hGk hinv.2.1 _ (fun A1 A2 A3 A4 h => ⟨er.symm, rfl, h, rfl, rfl, rfl, rfl, rfl, rfl⟩))) (cwV 1 hts gL_law_X11_image rfl rfl rfl (by decide +kernel) ⟨Nat.le_of_ble_eq_true rfl, Nat.le_of_ble_eq_true rfl⟩) (i1pVS hK (wP_left (wP_perm (law_i1 hT) hP)) (wD_left (wD_perm (law_i1 hT) hD)) hR0 hE0 hS (w_free (wD_perm (law_i1 hT) hD) hS hA)) rfl rfl hl.1 rfl (lv_room (Nat.le_of_ble_eq_true rfl)) dL_law_840 ⟨(by show cells + 0 ≤ 600000; omega), (by show slots + 0 ≤ 7302250; omega)⟩) (fun r1 N0 N1 N2 N3 N4 N5 N6 N7 N8 N9 F2 A1 A2 A3 A4 o7' o8' H1 locs1 hq hP1 hD1 hS1 => ?_)
      rw [show r1 = r from hq.1]
      have eF : F2 = G := hq.2.1
      rw [eF] at hP1 hD1
      exact tail N0 N1 N2 N3 N4 N5 N6 N7 N8 N9 o7' o8' G b1 b2 b3 b4 A1 A2 A3 A4 h11 _ H1 locs1 _ _ (by omega) (by omega) hq.2.2.2 hq.2.2.1 hGk (fun _ _ => rfl) (img_put (by decide) (List.mem_range.2 hk4) hGk rfl rfl rfl rfl up_eq up_eq up_eq up_eq (fun j hj => ⟨rfl, rfl, rfl, rfl, rfl, up_ne hj, up_ne hj, up_ne hj, up_ne hj⟩)) hP1 hD1 hS1
    | none =>
      refine L_iN hP hD hS hA (va_runV (As := [.int (xs (i + 1))]) (rest := []) ⟨hx, hb, hml, hown, hts⟩ (kX11_imagenew l dC dI cB cI cJ cZ cR cS adK adV h0 a0 a1 a2 a3 a4 a5 a6 a7 o7 a8 o8 a9 H.size (xs (i + 1)) M0 M1 M2 M3 M4 M5 M6 M7 M8 M9 G (fun r' N0 N1 N2 N3 N4 N5 N6 N7 N8 N9 F' A1 A2 A3 A4 => r' = r ∧ (∃ h', F' = va_up G k (some h')) ∧ relS (ma M 25) A1 A2 A3 A4 ∧ N0 = M0 ∧ N1 = M1 ∧ N2 = M2 ∧ N3 = M3 ∧ N4 = M4 ∧ N7 = M7) (by rw [ek]; exact c_imagenew hinv.1.1 hk4 hGk hinv.2.1 _ (fun h11 A1 A2 A3 A4 h => ⟨er.symm, ⟨h11, rfl⟩, h, rfl, rfl, rfl, rfl, rfl, rfl⟩))) (cwV 1 hts gL_law_X11_image rfl rfl rfl (by decide +kernel) ⟨Nat.le_of_ble_eq_true rfl, Nat.le_of_ble_eq_true rfl⟩) (i0pVS hK (wP_left (wP_perm law_i0 hP)) (wD_left (wD_perm law_i0 hD)) hR0 hE0 hS (w_free (wD_perm law_i0 hD) hS hA)) rfl rfl hl.1 rfl (lv_room (Nat.le_of_ble_eq_true rfl)) dL_law_840 ⟨(by show cells + 14 ≤ 600000; omega), (by show slots + 61 ≤ 7302250; omega)⟩) (fun r1 N0 N1 N2 N3 N4 N5 N6 N7 N8 N9 F2 A1 A2 A3 A4 o7' o8' h11 a11 a12 a13 a14 H1 locs1 hq hx1 hx2 hP1 hD1 hS1 => ?_)
      rw [show r1 = r from hq.1]
      obtain ⟨h', eF⟩ : ∃ h', F2 = va_up G k (some h') := hq.2.1
      have y1 := hx2 _ (List.Mem.head _)
      have eF2 : F2 = va_up G k (some h11) := up_new eF hk4 hG4 (fun j a z1 z2 => img_old hII (law_RR_lt hP).2 z1 z2) hx1 y1
      exact tail N0 N1 N2 N3 N4 N5 N6 N7 N8 N9 o7' o8' F2 (va_up b1 k a11) (va_up b2 k a12) (va_up b3 k a13) (va_up b4 k a14) A1 A2 A3 A4 h11 _ H1 locs1 _ _ (by omega) (by omega) hq.2.2.2 hq.2.2.1 (by rw [eF2]; exact up_eq) (fun j z => by rw [eF2]; exact up_ne z) (((hII.trans (img_takeN (List.mem_range.2 hk4) hGk)).append_left _).trans (img_put (by decide) (List.mem_range.2 hk4) (by rw [eF2]; exact up_eq) up_eq up_eq up_eq up_eq up_eq up_eq up_eq up_eq (fun j z => ⟨by rw [eF2]; exact up_ne z, up_ne z, up_ne z, up_ne z, up_ne z, up_ne z, up_ne z, up_ne z, up_ne z⟩))) hP1 hD1 hS1
  · obtain ⟨r, er⟩ : ∃ r : Int32, r = -1 := ⟨_, rfl⟩
    have tail0 : (∀ Q : Int32 → gS → Prop, Q r M → wX12_image (xs (i + 1)) M Q) → ∀ (N0 N1 N2 N3 N4 N5 N6 N7 N8 N9 : gS) (o7' o8' : Option Nat) (H1 : Heap) (locs1 : List Loc), N0 = M0 ∧ N1 = M1 ∧ N2 = M2 ∧ N3 = M3 ∧ N4 = M4 ∧ N7 = M7 → va_P (dC, dI) vwCl (lawW cB cI cJ cZ cR cS h0 a0 a1 a2 a3 a4 a5 a6 a7 o7' a8 o8' a9 hm am N0 N1 N2 N3 N4 N5 N6 N7 N8 N9 F G M RR II) H1 → va_D (fun q : Nat => s.heap.size ≤ q) (lawW cB cI cJ cZ cR cS h0 a0 a1 a2 a3 a4 a5 a6 a7 o7' a8 o8' a9 hm am N0 N1 N2 N3 N4 N5 N6 N7 N8 N9 F G M RR II) → va_S (fun q : Nat => s.heap.size ≤ q) s.heap H1 locs1 → W p l e room_1 s m #[Value.ref b] below meth c H1 locs1 (cells + 0) (slots + 0) Z (F0 m 843 ls [.int r]) := by
      intro href N0 N1 N2 N3 N4 N5 N6 N7 N8 N9 o7' o8' H1 locs1 hsm hP1 hD1 hS1
      obtain ⟨e0, e1, e2, e3, e4, e7⟩ := hsm
      refine lv_aload_n hx hb dL_law_843 rfl (lv_at hl 2 rfl) ?_
      refine L_arg (k := 1) hE hS1 hl (by omega) (by omega) dL_law_844 dL_law_845 dL_law_846 (by decide) dL_law_847 dL_law_848 ?_
      refine L_m hP1 hD1 hS1 hA (va_runV (As := [.int (xs (i + 1))]) (rest := [.int r]) ⟨hx, hb, hml, hown, hts⟩ (kX12_image l dC dI cB cI cJ cZ hm am H1.size (xs (i + 1)) M (fun r' N => r' = r ∧ N = M) (href _ ⟨rfl, rfl⟩)) (cwV 1 hts gL_law_X12_image rfl rfl rfl (by decide +kernel) ⟨Nat.le_of_ble_eq_true rfl, Nat.le_of_ble_eq_true rfl⟩) (mpV hKc (wP_left (wP_perm law_m hP1)) (wD_left (wD_perm law_m hD1))) rfl rfl hl.1 rfl (lv_room (Nat.le_of_ble_eq_true rfl)) dL_law_849 ⟨(by show cells + 0 + 0 ≤ 600000; omega), (by show slots + 0 + 0 ≤ 7302250; omega)⟩) (fun r2 N H2 locs2 hq2 hP2 hD2 hS2 => ?_)
      rw [show r2 = r from hq2.1]
      refine lv_icmp_eq (tgt := 880) hx hb dL_law_852 (by decide) (fun _ => ?_) (fun z => absurd rfl z)
      refine W.widen (k := cells + 14) (n := slots + 501) (by omega) (by omega) ?_
      have eN : N = M := hq2.2
      rw [eN] at hP2 hD2
      exact kk H2 locs2 ⟨N0, N1, N2, N3, N4, N5, N6, N7, N8, N9, o7', o8', F, G, M, n, R, aR, I1, I2, I3, I4, b1, b2, b3, b4, RR, II, hP2, hD2, (by rw [e0, e1, e2, e3, e4, e7]; exact hinv), hru, him, hF6, hG4, hRR, hII⟩ hS2
    refine L_i0 hP hD hS hA (va_runV (As := [.int (xs (i + 1))]) (rest := []) ⟨hx, hb, hml, hown, hts⟩ (kX11_imagefull l dC dI cB cI cJ cZ cR cS adK adV h0 a0 a1 a2 a3 a4 a5 a6 a7 o7 a8 o8 a9 H.size (xs (i + 1)) M0 M1 M2 M3 M4 M5 M6 M7 M8 M9 G (fun r' N0 N1 N2 N3 N4 N5 N6 N7 N8 N9 F' => r' = r ∧ F' = G ∧ N0 = M0 ∧ N1 = M1 ∧ N2 = M2 ∧ N3 = M3 ∧ N4 = M4 ∧ N7 = M7) (c_imagefull hp _ ⟨er.symm, rfl, rfl, rfl, rfl, rfl, rfl, rfl⟩)) (cwV 1 hts gL_law_X11_image rfl rfl rfl (by decide +kernel) ⟨Nat.le_of_ble_eq_true rfl, Nat.le_of_ble_eq_true rfl⟩) (i0pVS hK (wP_left (wP_perm law_i0 hP)) (wD_left (wD_perm law_i0 hD)) hR0 hE0 hS (w_free (wD_perm law_i0 hD) hS hA)) rfl rfl hl.1 rfl (lv_room (Nat.le_of_ble_eq_true rfl)) dL_law_840 ⟨(by show cells + 0 ≤ 600000; omega), (by show slots + 0 ≤ 7302250; omega)⟩) (fun r1 N0 N1 N2 N3 N4 N5 N6 N7 N8 N9 F2 o7' o8' H1 locs1 hq hP1 hD1 hS1 => ?_)
    rw [show r1 = r from hq.1]
    have eF : F2 = G := hq.2.1
    rw [eF] at hP1 hD1
    exact tail0 (fun Q h => m_image_f hp Q (by rw [← er]; exact h)) N0 N1 N2 N3 N4 N5 N6 N7 N8 N9 o7' o8' H1 locs1 hq.2.2 hP1 hD1 hS1
set_option maxHeartbeats 4000000 in
set_option maxRecDepth 100000 in
theorem case_back {p : Program} {l : Launch} {e : Env} {s : State} {m : MethodId} {below : List Frame} {meth : Method} {c : Code} {b L : Nat} {xs : Nat → Int32} {dC : Nat → ClassId} {dI : Nat → Nat → Nat} {cB cI cJ cZ cR cS : ClassId} {adK adV : Nat → Nat} {h0 : Nat} {a0 a1 a2 a3 a4 a5 a6 a7 a8 a9 : Nat → Nat} {hm : Nat} {am : Nat → Nat} {H : Heap} {locs : List Loc} {cells slots i : Nat} {Z : State → Prop} {ls : Array Slot} (hE : lawE p s m meth c b L xs dC dI cB cI cJ cZ cR cS adK adV) (hW : lawI s dC dI cB cI cJ cZ cR cS h0 a0 a1 a2 a3 a4 a5 a6 a7 a8 a9 hm am H) (hS : va_S (fun q : Nat => s.heap.size ≤ q) s.heap H locs) (hc : cells + 14 ≤ 600000) (hs : slots + 501 ≤ 7302250) (hl : lv_has ls 4 [(0, .ref b), (1, .ref h0), (2, .ref hm), (3, .int (nI i))]) (hi : i + 6 ≤ L) (kk : ∀ (H1 : Heap) (locs1 : List Loc), lawI s dC dI cB cI cJ cZ cR cS h0 a0 a1 a2 a3 a4 a5 a6 a7 a8 a9 hm am H1 → va_S (fun q : Nat => s.heap.size ≤ q) s.heap H1 locs1 → W p l e room_1 s m #[Value.ref b] below meth c H1 locs1 (cells + 14) (slots + 501) Z (F0 m 880 ls [])) : W p l e room_1 s m #[Value.ref b] below meth c H locs cells slots Z (F0 m 857 ls []) := by
  obtain ⟨hx, hb, hr, hml, hown, hts, hX, hbl, hlocks, hK, hR0, hE0, hL⟩ := id hE
  obtain ⟨M0, M1, M2, M3, M4, M5, M6, M7, M8, M9, o7, o8, F, G, M, n, R, aR, I1, I2, I3, I4, b1, b2, b3, b4, RR, II, hP, hD, hinv, hru, him, hF6, hG4, hRR, hII⟩ := hW
  have hA : ∀ q : Nat, s.heap.size ≤ q → (fun q : Nat => s.heap.size ≤ q) q := fun _ h => h
  have hKc : va_K (dC, dI) vwCl (gT cB cI cJ cZ) s := hK.sub [0, 1, 2, 3] rfl
  refine lv_aload_n hx hb dL_law_857 rfl (lv_at hl 1 rfl) ?_
  refine L_arg (k := 1) hE hS hl (by omega) (by omega) dL_law_858 dL_law_859 dL_law_860 (by decide) dL_law_861 dL_law_862 ?_
  by_cases hp : 0 ≤ xs (i + 1) ∧ xs (i + 1) ≤ 3
  · obtain ⟨k, hk4, ek⟩ := i_k hp
    rcases him k hk4 with ⟨z1, z2⟩ | ⟨z1, z2, z3, z4⟩
    · obtain ⟨r, er⟩ : ∃ r : Int32, r = -1 := ⟨_, rfl⟩
      have tail0 : (∀ Q : Int32 → gS → Prop, Q r M → wX12_back (xs (i + 1)) M Q) → ∀ (N0 N1 N2 N3 N4 N5 N6 N7 N8 N9 : gS) (o7' o8' : Option Nat) (H1 : Heap) (locs1 : List Loc), N0 = M0 ∧ N1 = M1 ∧ N2 = M2 ∧ N3 = M3 ∧ N4 = M4 ∧ N7 = M7 → va_P (dC, dI) vwCl (lawW cB cI cJ cZ cR cS h0 a0 a1 a2 a3 a4 a5 a6 a7 o7' a8 o8' a9 hm am N0 N1 N2 N3 N4 N5 N6 N7 N8 N9 F G M RR II) H1 → va_D (fun q : Nat => s.heap.size ≤ q) (lawW cB cI cJ cZ cR cS h0 a0 a1 a2 a3 a4 a5 a6 a7 o7' a8 o8' a9 hm am N0 N1 N2 N3 N4 N5 N6 N7 N8 N9 F G M RR II) → va_S (fun q : Nat => s.heap.size ≤ q) s.heap H1 locs1 → W p l e room_1 s m #[Value.ref b] below meth c H1 locs1 (cells + 0) (slots + 0) Z (F0 m 866 ls [.int r]) := by
        intro href N0 N1 N2 N3 N4 N5 N6 N7 N8 N9 o7' o8' H1 locs1 hsm hP1 hD1 hS1
        obtain ⟨e0, e1, e2, e3, e4, e7⟩ := hsm
        refine lv_aload_n hx hb dL_law_866 rfl (lv_at hl 2 rfl) ?_
        refine L_arg (k := 1) hE hS1 hl (by omega) (by omega) dL_law_867 dL_law_868 dL_law_869 (by decide) dL_law_870 dL_law_871 ?_
        refine L_m hP1 hD1 hS1 hA (va_runV (As := [.int (xs (i + 1))]) (rest := [.int r]) ⟨hx, hb, hml, hown, hts⟩ (kX12_back l dC dI cB cI cJ cZ hm am H1.size (xs (i + 1)) M (fun r' N => r' = r ∧ N = M) (href _ ⟨rfl, rfl⟩)) (cwV 1 hts gL_law_X12_back rfl rfl rfl (by decide +kernel) ⟨Nat.le_of_ble_eq_true rfl, Nat.le_of_ble_eq_true rfl⟩) (mpV hKc (wP_left (wP_perm law_m hP1)) (wD_left (wD_perm law_m hD1))) rfl rfl hl.1 rfl (lv_room (Nat.le_of_ble_eq_true rfl)) dL_law_872 ⟨(by show cells + 0 + 0 ≤ 600000; omega), (by show slots + 0 + 0 ≤ 7302250; omega)⟩) (fun r2 N H2 locs2 hq2 hP2 hD2 hS2 => ?_)
        rw [show r2 = r from hq2.1]
        refine lv_icmp_eq (tgt := 880) hx hb dL_law_875 (by decide) (fun _ => ?_) (fun z => absurd rfl z)
        refine W.widen (k := cells + 14) (n := slots + 501) (by omega) (by omega) ?_
        have eN : N = M := hq2.2
        rw [eN] at hP2 hD2
        exact kk H2 locs2 ⟨N0, N1, N2, N3, N4, N5, N6, N7, N8, N9, o7', o8', F, G, M, n, R, aR, I1, I2, I3, I4, b1, b2, b3, b4, RR, II, hP2, hD2, (by rw [e0, e1, e2, e3, e4, e7]; exact hinv), hru, him, hF6, hG4, hRR, hII⟩ hS2
      refine L_i0 hP hD hS hA (va_runV (As := [.int (xs (i + 1))]) (rest := []) ⟨hx, hb, hml, hown, hts⟩ (kX11_backnew l dC dI cB cI cJ cZ cR cS h0 a0 a1 a2 a3 a4 a5 a6 a7 o7 a8 o8 a9 H.size (xs (i + 1)) M0 M1 M2 M3 M4 M5 M6 M7 M8 M9 G (fun r' N0 N1 N2 N3 N4 N5 N6 N7 N8 N9 F' => r' = r ∧ F' = G ∧ N0 = M0 ∧ N1 = M1 ∧ N2 = M2 ∧ N3 = M3 ∧ N4 = M4 ∧ N7 = M7) (by rw [ek]; exact c_backnew hk4 z2 _ ⟨er.symm, rfl, rfl, rfl, rfl, rfl, rfl, rfl⟩)) (cwV 1 hts gL_law_X11_back rfl rfl rfl (by decide +kernel) ⟨Nat.le_of_ble_eq_true rfl, Nat.le_of_ble_eq_true rfl⟩) (i0pV hK (wP_left (wP_perm law_i0 hP)) (wD_left (wD_perm law_i0 hD))) rfl rfl hl.1 rfl (lv_room (Nat.le_of_ble_eq_true rfl)) dL_law_863 ⟨(by show cells + 0 ≤ 600000; omega), (by show slots + 0 ≤ 7302250; omega)⟩) (fun r1 N0 N1 N2 N3 N4 N5 N6 N7 N8 N9 F2 o7' o8' H1 locs1 hq hP1 hD1 hS1 => ?_)
      rw [show r1 = r from hq.1]
      have eF : F2 = G := hq.2.1
      rw [eF] at hP1 hD1
      exact tail0 (fun Q h => by rw [ek]; exact m_back_n hk4 z1 Q (by rw [← er]; exact h)) N0 N1 N2 N3 N4 N5 N6 N7 N8 N9 o7' o8' H1 locs1 hq.2.2 hP1 hD1 hS1
    · obtain ⟨r, er⟩ : ∃ r : Int32, r = imRow M k 18 + imRow M k 19 := ⟨_, rfl⟩
      obtain ⟨h11, hGk⟩ : ∃ h, G k = some h := Option.ne_none_iff_exists'.1 z2
      have hT := hII.trans (img_take (List.mem_range.2 hk4) hGk)
      refine L_i1 hT hP hD hS hA (va_runV (As := [.int (xs (i + 1))]) (rest := []) ⟨hx, hb, hml, hown, hts⟩ (kX11_backold l dC dI cB cI cJ cZ cR cS h0 a0 a1 a2 a3 a4 a5 a6 a7 o7 a8 o8 a9 h11 (b1 k) (b2 k) (b3 k) (b4 k) H.size (xs (i + 1)) M0 M1 M2 M3 M4 M5 M6 M7 M8 M9 G (I1 k) (I2 k) (I3 k) (I4 k) (fun r' N0 N1 N2 N3 N4 N5 N6 N7 N8 N9 F' A1 A2 A3 A4 => r' = r ∧ F' = G ∧ relS (imRow M k) N1 N2 N3 N4 ∧ N0 = M0 ∧ N7 = M7 ∧ A1 = I1 k ∧ A2 = I2 k ∧ A3 = I3 k ∧ A4 = I4 k) (by rw [ek]; exact c_backold z3.1 hk4 hGk z4 _ (fun N1 N2 N3 N4 h => ⟨er.symm, rfl, h, rfl, rfl, rfl, rfl, rfl, rfl⟩))) (cwV 1 hts gL_law_X11_back rfl rfl rfl (by decide +kernel) ⟨Nat.le_of_ble_eq_true rfl, Nat.le_of_ble_eq_true rfl⟩) (i1pV hK (wP_left (wP_perm (law_i1 hT) hP)) (wD_left (wD_perm (law_i1 hT) hD))) rfl rfl hl.1 rfl (lv_room (Nat.le_of_ble_eq_true rfl)) dL_law_863 ⟨(by show cells + 0 ≤ 600000; omega), (by show slots + 0 ≤ 7302250; omega)⟩) (fun r1 N0 N1 N2 N3 N4 N5 N6 N7 N8 N9 F2 A1 A2 A3 A4 o7' o8' H1 locs1 hq hP1 hD1 hS1 => ?_)
      rw [show r1 = r from hq.1]
      have eF : F2 = G := hq.2.1
      have f1 : A1 = I1 k := hq.2.2.2.2.2.1
      have f2 : A2 = I2 k := hq.2.2.2.2.2.2.1
      have f3 : A3 = I3 k := hq.2.2.2.2.2.2.2.1
      have f4 : A4 = I4 k := hq.2.2.2.2.2.2.2.2
      have e0 : N0 = M0 := hq.2.2.2.1
      have e7 : N7 = M7 := hq.2.2.2.2.1
      rw [eF, f1, f2, f3, f4] at hP1 hD1
      refine lv_aload_n hx hb dL_law_866 rfl (lv_at hl 2 rfl) ?_
      refine L_arg (k := 1) hE hS1 hl (by omega) (by omega) dL_law_867 dL_law_868 dL_law_869 (by decide) dL_law_870 dL_law_871 ?_
      refine L_m hP1 hD1 hS1 hA (va_runV (As := [.int (xs (i + 1))]) (rest := [.int r]) ⟨hx, hb, hml, hown, hts⟩ (kX12_back l dC dI cB cI cJ cZ hm am H1.size (xs (i + 1)) M (fun r' N => r' = r ∧ N = sF M 25 (bkF M k 44)) (by rw [ek]; exact m_back hk4 z1 _ ⟨by rw [er, bk_at (j := 18) (by omega), bk_at (j := 19) (by omega)], rfl⟩)) (cwV 1 hts gL_law_X12_back rfl rfl rfl (by decide +kernel) ⟨Nat.le_of_ble_eq_true rfl, Nat.le_of_ble_eq_true rfl⟩) (mpV hKc (wP_left (wP_perm law_m hP1)) (wD_left (wD_perm law_m hD1))) rfl rfl hl.1 rfl (lv_room (Nat.le_of_ble_eq_true rfl)) dL_law_872 ⟨(by show cells + 0 + 0 ≤ 600000; omega), (by show slots + 0 + 0 ≤ 7302250; omega)⟩) (fun r2 N H2 locs2 hq2 hP2 hD2 hS2 => ?_)
      rw [show r2 = r from hq2.1]
      refine lv_icmp_eq (tgt := 880) hx hb dL_law_875 (by decide) (fun _ => ?_) (fun z => absurd rfl z)
      refine W.widen (k := cells + 14) (n := slots + 501) (by omega) (by omega) ?_
      have eN : N = sF M 25 (bkF M k 44) := hq2.2
      rw [eN] at hP2 hD2
      exact kk H2 locs2 ⟨N0, N1, N2, N3, N4, N5, N6, N7, N8, N9, o7', o8', F, G, sF M 25 (bkF M k 44), n, R, aR, I1, I2, I3, I4, b1, b2, b3, b4, RR, _, hP2, hD2, (by rw [e0, e7]; exact inv_bk hinv z3 hq.2.2.1), ruls_at hru rfl rfl rfl rfl (fun _ => ⟨rfl, rfl⟩), (fun j hj4 => imR_at (him j hj4) rfl rfl), hF6, hG4, hRR, (img_take (List.mem_range.2 hk4) hGk).symm⟩ hS2
  · obtain ⟨r, er⟩ : ∃ r : Int32, r = -1 := ⟨_, rfl⟩
    have tail0 : (∀ Q : Int32 → gS → Prop, Q r M → wX12_back (xs (i + 1)) M Q) → ∀ (N0 N1 N2 N3 N4 N5 N6 N7 N8 N9 : gS) (o7' o8' : Option Nat) (H1 : Heap) (locs1 : List Loc), N0 = M0 ∧ N1 = M1 ∧ N2 = M2 ∧ N3 = M3 ∧ N4 = M4 ∧ N7 = M7 → va_P (dC, dI) vwCl (lawW cB cI cJ cZ cR cS h0 a0 a1 a2 a3 a4 a5 a6 a7 o7' a8 o8' a9 hm am N0 N1 N2 N3 N4 N5 N6 N7 N8 N9 F G M RR II) H1 → va_D (fun q : Nat => s.heap.size ≤ q) (lawW cB cI cJ cZ cR cS h0 a0 a1 a2 a3 a4 a5 a6 a7 o7' a8 o8' a9 hm am N0 N1 N2 N3 N4 N5 N6 N7 N8 N9 F G M RR II) → va_S (fun q : Nat => s.heap.size ≤ q) s.heap H1 locs1 → W p l e room_1 s m #[Value.ref b] below meth c H1 locs1 (cells + 0) (slots + 0) Z (F0 m 866 ls [.int r]) := by
      intro href N0 N1 N2 N3 N4 N5 N6 N7 N8 N9 o7' o8' H1 locs1 hsm hP1 hD1 hS1
      obtain ⟨e0, e1, e2, e3, e4, e7⟩ := hsm
      refine lv_aload_n hx hb dL_law_866 rfl (lv_at hl 2 rfl) ?_
      refine L_arg (k := 1) hE hS1 hl (by omega) (by omega) dL_law_867 dL_law_868 dL_law_869 (by decide) dL_law_870 dL_law_871 ?_
      refine L_m hP1 hD1 hS1 hA (va_runV (As := [.int (xs (i + 1))]) (rest := [.int r]) ⟨hx, hb, hml, hown, hts⟩ (kX12_back l dC dI cB cI cJ cZ hm am H1.size (xs (i + 1)) M (fun r' N => r' = r ∧ N = M) (href _ ⟨rfl, rfl⟩)) (cwV 1 hts gL_law_X12_back rfl rfl rfl (by decide +kernel) ⟨Nat.le_of_ble_eq_true rfl, Nat.le_of_ble_eq_true rfl⟩) (mpV hKc (wP_left (wP_perm law_m hP1)) (wD_left (wD_perm law_m hD1))) rfl rfl hl.1 rfl (lv_room (Nat.le_of_ble_eq_true rfl)) dL_law_872 ⟨(by show cells + 0 + 0 ≤ 600000; omega), (by show slots + 0 + 0 ≤ 7302250; omega)⟩) (fun r2 N H2 locs2 hq2 hP2 hD2 hS2 => ?_)
      rw [show r2 = r from hq2.1]
      refine lv_icmp_eq (tgt := 880) hx hb dL_law_875 (by decide) (fun _ => ?_) (fun z => absurd rfl z)
      refine W.widen (k := cells + 14) (n := slots + 501) (by omega) (by omega) ?_
      have eN : N = M := hq2.2
      rw [eN] at hP2 hD2
      exact kk H2 locs2 ⟨N0, N1, N2, N3, N4, N5, N6, N7, N8, N9, o7', o8', F, G, M, n, R, aR, I1, I2, I3, I4, b1, b2, b3, b4, RR, II, hP2, hD2, (by rw [e0, e1, e2, e3, e4, e7]; exact hinv), hru, him, hF6, hG4, hRR, hII⟩ hS2
    refine L_i0 hP hD hS hA (va_runV (As := [.int (xs (i + 1))]) (rest := []) ⟨hx, hb, hml, hown, hts⟩ (kX11_backfull l dC dI cB cI cJ cZ cR cS h0 a0 a1 a2 a3 a4 a5 a6 a7 o7 a8 o8 a9 H.size (xs (i + 1)) M0 M1 M2 M3 M4 M5 M6 M7 M8 M9 G (fun r' N0 N1 N2 N3 N4 N5 N6 N7 N8 N9 F' => r' = r ∧ F' = G ∧ N0 = M0 ∧ N1 = M1 ∧ N2 = M2 ∧ N3 = M3 ∧ N4 = M4 ∧ N7 = M7) (c_backfull hp _ ⟨er.symm, rfl, rfl, rfl, rfl, rfl, rfl, rfl⟩)) (cwV 1 hts gL_law_X11_back rfl rfl rfl (by decide +kernel) ⟨Nat.le_of_ble_eq_true rfl, Nat.le_of_ble_eq_true rfl⟩) (i0pV hK (wP_left (wP_perm law_i0 hP)) (wD_left (wD_perm law_i0 hD))) rfl rfl hl.1 rfl (lv_room (Nat.le_of_ble_eq_true rfl)) dL_law_863 ⟨(by show cells + 0 ≤ 600000; omega), (by show slots + 0 ≤ 7302250; omega)⟩) (fun r1 N0 N1 N2 N3 N4 N5 N6 N7 N8 N9 F2 o7' o8' H1 locs1 hq hP1 hD1 hS1 => ?_)
    rw [show r1 = r from hq.1]
    have eF : F2 = G := hq.2.1
    rw [eF] at hP1 hD1
    exact tail0 (fun Q h => m_back_f hp Q (by rw [← er]; exact h)) N0 N1 N2 N3 N4 N5 N6 N7 N8 N9 o7' o8' H1 locs1 hq.2.2 hP1 hD1 hS1
