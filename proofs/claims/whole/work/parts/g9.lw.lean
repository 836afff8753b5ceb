-- PURE: the law's loop
theorem i6 : Int32.ofInt 6 = nI 6 := by decide
theorem law_le {i L : Nat} (hL : L ≤ 3072) (hi : i ≤ 4000) (h : ¬ nI L - 6 < nI i) : i + 6 ≤ L := by
  refine Nat.le_of_not_lt (fun z => h ?_)
  by_cases h6 : 6 ≤ L
  · obtain ⟨d, rfl⟩ : ∃ d, L = d + 6 := ⟨L - 6, by omega⟩
    have e : nI (d + 6) - 6 = nI d := by
      rw [← nI_add]
      exact Int32.add_sub_cancel (nI d) (nI 6)
    rw [e]
    exact nI_lt (by omega) (by omega)
  · have e : nI L - 6 < 0 := by
      rcases (show L = 0 ∨ L = 1 ∨ L = 2 ∨ L = 3 ∨ L = 4 ∨ L = 5 by omega) with rfl | rfl | rfl | rfl | rfl | rfl <;> decide
    exact Int32.lt_of_lt_of_le e (nI_pos' (by omega))
set_option maxHeartbeats 4000000 in
set_option maxRecDepth 100000 in
theorem law_switch {p : Program} {l : Launch} {e : Env} {s : State} {m : MethodId} {below : List Frame} {meth : Method} {c : Code} {b L : Nat} {xs : Nat → Int32} {dC : Nat → ClassId} {dI : Nat → Nat → Nat} {cB cI cJ cZ cR cS : ClassId} {adK adV : Nat → Nat} {h0 : Nat} {a0 a1 a2 a3 a4 a5 a6 a7 a8 a9 : Nat → Nat} {hm : Nat} {am : Nat → Nat} {H : Heap} {locs : List Loc} {cells slots i : Nat} {Z : State → Prop} {ls : Array Slot} (hE : lawE p s m meth c b L xs dC dI cB cI cJ cZ cR cS adK adV) (hW : lawI s dC dI cB cI cJ cZ cR cS h0 a0 a1 a2 a3 a4 a5 a6 a7 a8 a9 hm am H) (hS : va_S (fun q : Nat => s.heap.size ≤ q) s.heap H locs) (hc : cells + 14 ≤ 600000) (hs : slots + 501 ≤ 7302250) (hl : lv_has ls 4 [(0, .ref b), (1, .ref h0), (2, .ref hm), (3, .int (nI i))]) (hi : i + 6 ≤ L) (kk : ∀ (H1 : Heap) (locs1 : List Loc), lawI s dC dI cB cI cJ cZ cR cS h0 a0 a1 a2 a3 a4 a5 a6 a7 a8 a9 hm am H1 → va_S (fun q : Nat => s.heap.size ≤ q) s.heap H1 locs1 → W p l e room_1 s m #[Value.ref b] below meth c H1 locs1 (cells + 14) (slots + 501) Z (F0 m 880 ls [])) (t : Int32) : W p l e room_1 s m #[Value.ref b] below meth c H locs cells slots Z (F0 m 33 ls [.int t]) := by
  obtain ⟨hx, hb, -⟩ := id hE
  by_cases ho : t.toInt < 0 ∨ 25 < t.toInt
  · exact lv_tableOut (tgt := 880) hx hb dL_law_33 ho (by decide) (W.widen (k := cells + 14) (n := slots + 501) (by omega) (by omega) (kk H locs hW hS))
  · have h1 : ¬ t.toInt < 0 := fun z => ho (Or.inl z)
    have h2 : ¬ 25 < t.toInt := fun z => ho (Or.inr z)
    obtain ⟨k, hk, ek⟩ : ∃ k : Nat, k < 26 ∧ t.toInt = (k : Int) := ⟨t.toInt.toNat, by omega, by omega⟩
    rcases (show k = 0 ∨ k = 1 ∨ k = 2 ∨ k = 3 ∨ k = 4 ∨ k = 5 ∨ k = 6 ∨ k = 7 ∨ k = 8 ∨ k = 9 ∨ k = 10 ∨ k = 11 ∨ k = 12 ∨ k = 13 ∨ k = 14 ∨ k = 15 ∨ k = 16 ∨ k = 17 ∨ k = 18 ∨ k = 19 ∨ k = 20 ∨ k = 21 ∨ k = 22 ∨ k = 23 ∨ k = 24 ∨ k = 25 by omega) with rfl | rfl | rfl | rfl | rfl | rfl | rfl | rfl | rfl | rfl | rfl | rfl | rfl | rfl | rfl | rfl | rfl | rfl | rfl | rfl | rfl | rfl | rfl | rfl | rfl | rfl
    · exact lv_tableIn (off := 119) (tgt := 152) hx hb dL_law_33 h1 h2 (by rw [ek]; rfl) (by decide) (case_feed hE hW hS hc hs hl hi kk)
    · exact lv_tableIn (off := 182) (tgt := 215) hx hb dL_law_33 h1 h2 (by rw [ek]; rfl) (by decide) (case_end hE hW hS hc hs hl hi kk)
    · exact lv_tableIn (off := 205) (tgt := 238) hx hb dL_law_33 h1 h2 (by rw [ek]; rfl) (by decide) (case_corner hE hW hS hc hs hl hi kk)
    · exact lv_tableIn (off := 218) (tgt := 251) hx hb dL_law_33 h1 h2 (by rw [ek]; rfl) (by decide) (case_rule hE hW hS hc hs hl hi kk)
    · exact lv_tableIn (off := 231) (tgt := 264) hx hb dL_law_33 h1 h2 (by rw [ek]; rfl) (by decide) (case_begin hE hW hS hc hs hl hi kk)
    · exact lv_tableIn (off := 264) (tgt := 297) hx hb dL_law_33 h1 h2 (by rw [ek]; rfl) (by decide) (case_speak hE hW hS hc hs hl hi kk)
    · exact lv_tableIn (off := 287) (tgt := 320) hx hb dL_law_33 h1 h2 (by rw [ek]; rfl) (by decide) (case_toss hE hW hS hc hs hl hi kk)
    · exact lv_tableIn (off := 300) (tgt := 333) hx hb dL_law_33 h1 h2 (by rw [ek]; rfl) (by decide) (case_still hE hW hS hc hs hl hi kk)
    · exact lv_tableIn (off := 313) (tgt := 346) hx hb dL_law_33 h1 h2 (by rw [ek]; rfl) (by decide) (case_run hE hW hS hc hs hl hi kk)
    · exact lv_tableIn (off := 346) (tgt := 379) hx hb dL_law_33 h1 h2 (by rw [ek]; rfl) (by decide) (case_would hE hW hS hc hs hl hi kk)
    · exact lv_tableIn (off := 389) (tgt := 422) hx hb dL_law_33 h1 h2 (by rw [ek]; rfl) (by decide) (case_side hE hW hS hc hs hl hi kk)
    · exact lv_tableIn (off := 422) (tgt := 455) hx hb dL_law_33 h1 h2 (by rw [ek]; rfl) (by decide) (case_fill hE hW hS hc hs hl hi kk)
    · exact lv_tableIn (off := 455) (tgt := 488) hx hb dL_law_33 h1 h2 (by rw [ek]; rfl) (by decide) (case_have hE hW hS hc hs hl hi kk)
    · exact lv_tableIn (off := 468) (tgt := 501) hx hb dL_law_33 h1 h2 (by rw [ek]; rfl) (by decide) (case_move hE hW hS hc hs hl hi kk)
    · exact lv_tableIn (off := 481) (tgt := 514) hx hb dL_law_33 h1 h2 (by rw [ek]; rfl) (by decide) (case_enough hE hW hS hc hs hl hi kk)
    · exact lv_tableIn (off := 504) (tgt := 537) hx hb dL_law_33 h1 h2 (by rw [ek]; rfl) (by decide) (case_hidden hE hW hS hc hs hl hi kk)
    · exact lv_tableIn (off := 547) (tgt := 580) hx hb dL_law_33 h1 h2 (by rw [ek]; rfl) (by decide) (case_fair hE hW hS hc hs hl hi kk)
    · exact lv_tableIn (off := 570) (tgt := 603) hx hb dL_law_33 h1 h2 (by rw [ek]; rfl) (by decide) (case_bribe hE hW hS hc hs hl hi kk)
    · exact lv_tableIn (off := 593) (tgt := 626) hx hb dL_law_33 h1 h2 (by rw [ek]; rfl) (by decide) (case_plays hE hW hS hc hs hl hi kk)
    · exact lv_tableIn (off := 636) (tgt := 669) hx hb dL_law_33 h1 h2 (by rw [ek]; rfl) (by decide) (case_waits hE hW hS hc hs hl hi kk)
    · exact lv_tableIn (off := 669) (tgt := 702) hx hb dL_law_33 h1 h2 (by rw [ek]; rfl) (by decide) (case_order hE hW hS hc hs hl hi kk)
    · exact lv_tableIn (off := 692) (tgt := 725) hx hb dL_law_33 h1 h2 (by rw [ek]; rfl) (by decide) (case_seed hE hW hS hc hs hl hi kk)
    · exact lv_tableIn (off := 715) (tgt := 748) hx hb dL_law_33 h1 h2 (by rw [ek]; rfl) (by decide) (case_lots hE hW hS hc hs hl hi kk)
    · exact lv_tableIn (off := 778) (tgt := 811) hx hb dL_law_33 h1 h2 (by rw [ek]; rfl) (by decide) (case_count hE hW hS hc hs hl hi kk)
    · exact lv_tableIn (off := 801) (tgt := 834) hx hb dL_law_33 h1 h2 (by rw [ek]; rfl) (by decide) (case_image hE hW hS hc hs hl hi kk)
    · exact lv_tableIn (off := 824) (tgt := 857) hx hb dL_law_33 h1 h2 (by rw [ek]; rfl) (by decide) (case_back hE hW hS hc hs hl hi kk)
set_option maxHeartbeats 4000000 in
set_option maxRecDepth 100000 in
theorem law_loop {p : Program} {l : Launch} {e : Env} {s : State} {m : MethodId} {below : List Frame} {meth : Method} {c : Code} {b L : Nat} {xs : Nat → Int32} {dC : Nat → ClassId} {dI : Nat → Nat → Nat} {cB cI cJ cZ cR cS : ClassId} {adK adV : Nat → Nat} {h0 : Nat} {a0 a1 a2 a3 a4 a5 a6 a7 a8 a9 : Nat → Nat} {hm : Nat} {am : Nat → Nat} (hE : lawE p s m meth c b L xs dC dI cB cI cJ cZ cR cS adK adV) : ∀ (n j : Nat), 6 * j ≤ L → L < 6 * j + 6 * n → ∀ (H : Heap) (locs : List Loc) (cells slots : Nat) (ls : Array Slot), cells ≤ 60 + 14 * j → slots ≤ 23000 + 501 * j → lawI s dC dI cB cI cJ cZ cR cS h0 a0 a1 a2 a3 a4 a5 a6 a7 a8 a9 hm am H → va_S (fun q : Nat => s.heap.size ≤ q) s.heap H locs → lv_has ls 4 [(0, .ref b), (1, .ref h0), (2, .ref hm), (3, .int (nI (6 * j)))] → W p l e room_1 s m #[Value.ref b] below meth c H locs cells slots (lw_Z below #[Value.ref b] s) (F0 m 18 ls []) := by
  obtain ⟨hx, hb, hr, hml, hown, hts, hX, hbl, hlocks, hK, hR0, hE0, hL⟩ := id hE
  have hbA : ¬ (fun q : Nat => s.heap.size ≤ q) b := Nat.not_le.mpr hbl
  intro n
  induction n with
  | zero => intro j h1 h2; exact absurd h2 (by omega)
  | succ n ih =>
    intro j hj hn H locs cells slots ls hcc hss hW hS hl
    refine lv_iload_n hx hb dL_law_18 rfl (lv_at hl 3 rfl) ?_
    refine lv_aload_n hx hb dL_law_19 rfl (lv_at hl 0 rfl) ?_
    refine va_slen hx hb hX hbl hbA hS dL_law_20 ?_
    refine lv_bipush (v := 6) hx hb dL_law_21 (by decide) ?_
    refine lv_isub hx hb dL_law_23 ?_
    refine lv_icmp_gt (tgt := 886) hx hb dL_law_24 (by decide) (fun _ => ?_) (fun hq => ?_)
    · refine lv_iconst (v := 1) hx hb dL_law_886 (by decide) ?_
      refine va_forget (fun q hq => hS.2.2 q hq) ?_
      refine W.widen (k := 600000) (n := 7302250) (by omega) (by omega) ?_
      exact lw_ret hx hb hr hlocks dL_law_887
    · have hi : 6 * j + 6 ≤ L := law_le hL (by omega) hq
      refine lv_aload_n hx hb dL_law_27 rfl (lv_at hl 0 rfl) ?_
      refine lv_iload_n hx hb dL_law_28 rfl (lv_at hl 3 rfl) ?_
      refine va_sld hx hb hX hbl hbA hS (vp_in_nI (show 6 * j < L by omega) (by omega)) dL_law_29 ?_
      refine lv_bipush (v := 31) hx hb dL_law_30 (by decide) ?_
      refine lv_iand hx hb dL_law_32 ?_
      refine law_switch hE hW hS (by omega) (by omega) hl hi (fun H1 locs1 hW1 hS1 => ?_) _
      refine lv_iinc (v := nI (6 * (j + 1))) (lv' := [(3, .int (nI (6 * (j + 1)))), (0, .ref b), (1, .ref h0), (2, .ref hm)]) hx hb dL_law_880 hl (k := 3) rfl (by rw [i6]; exact Eq.trans (nI_add (6 * j) 6) (congrArg nI (by omega))) (by decide) rfl (fun ls hl => ?_)
      refine lv_goto (tgt := 18) hx hb dL_law_883 (by decide) ?_
      exact ih (j + 1) (by omega) (by omega) H1 locs1 (cells + 14) (slots + 501) ls (by omega) (by omega) hW1 hS1 (lv_sub hl [1, 2, 3, 0] rfl)
