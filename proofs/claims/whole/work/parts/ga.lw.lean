-- PURE: what stands at the law's entry
def sTm : Nat → Term := fun i => match i with | 0 => .string RX2 61 | 1 => .string RX9 41 | 2 => .string RX9 55 | 3 => .string RX9 69 | 4 => .string RX9 71 | _ => .string RX9 104
set_option maxRecDepth 100000 in
theorem sIn0 : ∀ i : Nat, i < 6 → Cond.exactly (sTm i) "java/lang/String" ∈ flatC (Cond.and given_1 narrow_1) ∧ Cond.eq (.field (sTm i) "java/lang/String" "coder" "B") (.int 0) ∈ flatC (Cond.and given_1 narrow_1) ∧ Cond.arrayOf (.field (sTm i) "java/lang/String" "value" "[B") .byte ∈ flatC (Cond.and given_1 narrow_1) ∧ Cond.eq (.length (.field (sTm i) "java/lang/String" "value" "[B")) (.int (Int32.ofNat (sLen.getD i 0))) ∈ flatC (Cond.and given_1 narrow_1) := by decide +kernel
set_option maxRecDepth 100000 in
theorem sIn1 : ∀ i : Nat, i < 6 → ∀ j : Nat, j < sLen.getD i 0 → Cond.eq (.elem (.field (sTm i) "java/lang/String" "value" "[B") (.int (Int32.ofNat j))) (.int ((sByt.getD i []).getD j 0)) ∈ flatC (Cond.and given_1 narrow_1) := by decide +kernel
set_option maxRecDepth 100000 in
theorem sIn2 : ∀ i : Nat, i < 6 → ∀ j : Nat, j < 6 → i ≠ j → (Cond.not (Cond.eq (sTm i) (sTm j)) ∈ flatC (Cond.and given_1 narrow_1) ∨ Cond.not (Cond.eq (sTm j) (sTm i)) ∈ flatC (Cond.and given_1 narrow_1)) := by decide +kernel
set_option maxRecDepth 100000 in
theorem sIn3 : Cond.eq (.static "java/lang/String" "COMPACT_STRINGS" "Z") (.int 1) ∈ flatC (Cond.and given_1 narrow_1) ∧ Cond.isRef (.static "jdk/internal/util/Preconditions" "SIOOBE_FORMATTER" "Ljava/util/function/BiFunction;") ∈ flatC (Cond.and given_1 narrow_1) := by decide +kernel
theorem arr_K {args : Array Value} {s : State} {ty : FieldType} (h : (Cond.arrayClass ty).before args s = true) : ∃ cA : ClassId, ArrOfT s cA ty ∧ s.vm.findClass ("[" ++ ty.toString) = some cA := by
  obtain ⟨cA, kA, comp, h1, h2, h3⟩ := Cond.arrayClass_spec h
  exact ⟨cA, fun n z => ⟨fun k h => (by cases h), kA, h2, comp, h3⟩, h1⟩
set_option maxHeartbeats 4000000 in
set_option maxRecDepth 100000 in
theorem law_env {s : State} {b : Nat} (hT : ∀ (i : Nat) (w : Cond), tables_1[i]? = some w → w.before #[Value.ref b] s = true) (hgv : (Cond.and given_1 narrow_1).before #[Value.ref b] s = true) : ∃ adK adV : Nat → Nat, sR adK s ∧ sE adK adV (fun q : Nat => s.heap.size ≤ q) s s.heap := by
  have hf := flat_of_before _ hgv
  have hAn : ∀ a : Nat, a < s.heap.size → ¬ (fun q : Nat => s.heap.size ≤ q) a := fun a h => Nat.not_le.mpr h
  obtain ⟨adK, adV, hS, hev⟩ := vk_Sof (args := #[Value.ref b]) (s := s) (N := 6) (tm := sTm) (len := sLen) (byt := sByt) (A := (fun q : Nat => s.heap.size ≤ q)) (by decide) (fun i hi => hf _ (sIn0 i hi).1) (fun i hi => hf _ (sIn0 i hi).2.1) (fun i hi => hf _ (sIn0 i hi).2.2.1) (fun i hi => hf _ (sIn0 i hi).2.2.2) (fun i hi j hj => hf _ (sIn1 i hi j hj)) (fun i j hi hj hne => (sIn2 i hi j hj hne).elim (fun z => Or.inl (hf _ z)) (fun z => Or.inr (hf _ z))) hAn
  refine ⟨adK, adV, ⟨vk_R.of (hT 400 (.stringRef RX2 61 "tune word purse again") (by decide +kernel)) (hev 0 (by omega)), vk_R.of (hT 571 (.stringRef RX9 41 "say throw still") (by decide +kernel)) (hev 1 (by omega)), vk_R.of (hT 575 (.stringRef RX9 55 "if") (by decide +kernel)) (hev 2 (by omega)), vk_R.of (hT 615 (.stringRef RX9 69 "and or") (by decide +kernel)) (hev 3 (by omega)), vk_R.of (hT 584 (.stringRef RX9 71 "not") (by decide +kernel)) (hev 4 (by omega)), vk_R.of (hT 602 (.stringRef RX9 104 "side left verse mine theirs last heard said moves") (by decide +kernel)) (hev 5 (by omega)), va_Nw.of rfl (hT 475 (.methodLinkNest RX2 88 yX11_isSide RX11) (by decide +kernel)), va_Nw.of rfl (hT 39 (.methodLinkNest RX10 9 yX1_init RX11) (by decide +kernel)), va_Nw.of rfl (hT 78 (.methodLinkNest RX10 18 yX6_init RX11) (by decide +kernel)), va_Nw.of rfl (hT 132 (.methodLinkNest RX10 25 yX4_init RX11) (by decide +kernel)), va_Nw.of rfl (hT 33 (.methodLinkNest RX11 21 yX10_init RX11) (by decide +kernel)), va_Nw.of rfl (hT 175 (.methodLinkNest RX11 32 yX1_init RX11) (by decide +kernel)), va_Nw.of rfl (hT 177 (.methodLinkNest RX11 39 yX6_init RX11) (by decide +kernel)), va_Nw.of rfl (hT 221 (.methodLinkNest RX11 53 yX5_init RX11) (by decide +kernel)), va_Nw.of rfl (hT 240 (.methodLinkNest RX11 60 yX3_init RX11) (by decide +kernel)), va_Nw.of rfl (hT 519 (.methodLinkNest RX11 101 yX8_init RX11) (by decide +kernel)), va_AO.of (hT 30 (.arrayOver (.object RX8)) (by decide +kernel)), va_AO.of (hT 173 (.arrayOver (.object RX10)) (by decide +kernel))⟩, hS, va_Zof (hT 414 (.laysStatic "java/lang/String" "COMPACT_STRINGS" "Z") (by decide +kernel)) (hT 13 (.initialized "java/lang/String") (by decide +kernel)) (va_eqt (hf _ sIn3.1)) hAn, va_Zqof (hT 430 (.laysStatic "jdk/internal/util/Preconditions" "SIOOBE_FORMATTER" "Ljava/util/function/BiFunction;") (by decide +kernel)) (hT 15 (.initialized "jdk/internal/util/Preconditions") (by decide +kernel)) (hf _ sIn3.2) hAn⟩
set_option maxHeartbeats 4000000 in
set_option maxRecDepth 100000 in
theorem law_K {s : State} {b : Nat} (hts : ∀ w ∈ lw_tbl, w.before #[Value.ref b] s = true) (hT : ∀ (i : Nat) (w : Cond), tables_1[i]? = some w → w.before #[Value.ref b] s = true) : ∃ (dC : Nat → ClassId) (dI : Nat → Nat → Nat) (cB cI cJ cZ : ClassId), va_K (dC, dI) vwCl (gT cB cI cJ cZ) s := by
  obtain ⟨c0, iS0, hKn0⟩ := u_known (C := RX0) (T := TX0) (N := 11) (n := 11) hts inX0 (hT 179 (.instantiable RX0 11) (by decide +kernel))
  obtain ⟨c1, iS1, hKn1⟩ := u_known (C := RX1) (T := TX1) (N := 6) (n := 6) hts inX1 (hT 38 (.instantiable RX1 6) (by decide +kernel))
  obtain ⟨c2, iS2, hKn2⟩ := u_known (C := RX2) (T := TX2) (N := 2) (n := 2) hts inX2 (hT 358 (.instantiable RX2 2) (by decide +kernel))
  obtain ⟨c3, iS3, hKn3⟩ := u_known (C := RX3) (T := TX3) (N := 5) (n := 5) hts inX3 (hT 239 (.instantiable RX3 5) (by decide +kernel))
  obtain ⟨c4, iS4, hKn4⟩ := u_known (C := RX4) (T := TX4) (N := 4) (n := 4) hts inX4 (hT 131 (.instantiable RX4 4) (by decide +kernel))
  obtain ⟨c5, iS5, hKn5⟩ := u_known (C := RX5) (T := TX5) (N := 4) (n := 4) hts inX5 (hT 220 (.instantiable RX5 4) (by decide +kernel))
  obtain ⟨c6, iS6, hKn6⟩ := u_known (C := RX6) (T := TX6) (N := 10) (n := 10) hts inX6 (hT 77 (.instantiable RX6 10) (by decide +kernel))
  obtain ⟨c7, iS7, hKn7⟩ := u_known (C := RX7) (T := TX7) (N := 8) (n := 8) hts inX7 (hT 319 (.instantiable RX7 8) (by decide +kernel))
  obtain ⟨c8, iS8, hKn8⟩ := u_known (C := RX8) (T := TX8) (N := 6) (n := 6) hts inX8 (hT 518 (.instantiable RX8 6) (by decide +kernel))
  obtain ⟨c9, iS9, hKn9⟩ := u_known (C := RX9) (T := TX9) (N := 3) (n := 3) hts inX9 (hT 543 (.instantiable RX9 3) (by decide +kernel))
  obtain ⟨c10, iS10, hKn10⟩ := u_known (C := RX10) (T := TX10) (N := 5) (n := 5) hts inX10 (hT 32 (.instantiable RX10 5) (by decide +kernel))
  obtain ⟨c11, iS11, hKn11⟩ := u_known (C := RX11) (T := TX11) (N := 12) (n := 12) hts inX11 (hT 22 (.instantiable RX11 12) (by decide +kernel))
  obtain ⟨c12, iS12, hKn12⟩ := u_known (C := RX12) (T := TX12) (N := 37) (n := 37) hts inX12 (hT 1004 (.instantiable RX12 37) (by decide +kernel))
  obtain ⟨cB, hB1, hB2⟩ := arr_K (hT 513 (.arrayClass .byte) (by decide +kernel))
  obtain ⟨cI, hI1, hI2⟩ := arr_K (hT 75 (.arrayClass .int) (by decide +kernel))
  obtain ⟨cJ, hJ1, hJ2⟩ := arr_K (hT 218 (.arrayClass .long) (by decide +kernel))
  obtain ⟨cZ, hZ1, hZ2⟩ := arr_K (hT 1121 (.arrayClass .boolean) (by decide +kernel))
  refine ⟨fun k => match k with | 0 => c0 | 1 => c1 | 2 => c2 | 3 => c3 | 4 => c4 | 5 => c5 | 6 => c6 | 7 => c7 | 8 => c8 | 9 => c9 | 10 => c10 | 11 => c11 | _ => c12, fun k => match k with | 0 => iS0 | 1 => iS1 | 2 => iS2 | 3 => iS3 | 4 => iS4 | 5 => iS5 | 6 => iS6 | 7 => iS7 | 8 => iS8 | 9 => iS9 | 10 => iS10 | 11 => iS11 | _ => iS12, cB, cI, cJ, cZ, ?_, ?_⟩
  · intro k q hq
    match k, hq with
    | 0, hq => cases hq; exact hKn0
    | 1, hq => cases hq; exact hKn1
    | 2, hq => cases hq; exact hKn2
    | 3, hq => cases hq; exact hKn3
    | 4, hq => cases hq; exact hKn4
    | 5, hq => cases hq; exact hKn5
    | 6, hq => cases hq; exact hKn6
    | 7, hq => cases hq; exact hKn7
    | 8, hq => cases hq; exact hKn8
    | 9, hq => cases hq; exact hKn9
    | 10, hq => cases hq; exact hKn10
    | 11, hq => cases hq; exact hKn11
    | 12, hq => cases hq; exact hKn12
    | k + 13, hq => simp [vwCl] at hq
  · intro k q hq
    match k, hq with
    | 0, hq => cases hq; exact ⟨hB1, hB2⟩
    | 1, hq => cases hq; exact ⟨hI1, hI2⟩
    | 2, hq => cases hq; exact ⟨hJ1, hJ2⟩
    | 3, hq => cases hq; exact ⟨hZ1, hZ2⟩
    | k + 4, hq => simp at hq
