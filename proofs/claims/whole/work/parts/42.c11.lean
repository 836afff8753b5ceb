abbrev rrW (cB cI cJ cZ : ClassId) (h0 : Nat) (a0 : Nat → Nat) (a1 : Nat → Nat) (a3 : Nat → Nat) (M0 : gS) (M1 : gS) (M2 : gS) (M3 : gS) : va_W := [(h0, .inr (9, [.ref (a0 0), .ref (a0 1), .int (mg M0 2)])), (a0 0, .inr (7, [.ref (a1 0), .int (mg M1 1), .int (mg M1 2), .int (mg M1 3), .int (mg M1 4), .int (mg M1 5), .int (mg M1 6), .int (mg M1 7)])), (a1 0, .inl (cI, 400, .inl (ma M2 0))), (a0 1, .inr (8, [.int (mg M3 0), .ref (a3 1), .ref (a3 2), .ref (a3 3), .int (mg M3 4), .ref (a3 5)])), (a3 1, .inl (cI, 12, .inl (ma M3 1))), (a3 2, .inl (cI, 12, .inl (ma M3 2))), (a3 3, .inl (cI, 400, .inl (ma M3 3))), (a3 5, .inl (cJ, 60, .inr (.inl (ml M3 5))))]
abbrev rrI (dC : Nat → ClassId) (dI : Nat → Nat → Nat) (cB cI cJ cZ : ClassId) (h0 : Nat) (a0 : Nat → Nat) (a1 : Nat → Nat) (a3 : Nat → Nat) (M0 : gS) (M1 : gS) (M2 : gS) (M3 : gS) (sz : Nat) : State → Prop := fun U => U.heap.size = sz ∧ va_P (dC, dI) vwCl (rrW cB cI cJ cZ h0 a0 a1 a3 M0 M1 M2 M3) U.heap ∧ va_K (dC, dI) vwCl (gT cB cI cJ cZ) U ∧ va_D (fun _ => True) (rrW cB cI cJ cZ h0 a0 a1 a3 M0 M1 M2 M3)
abbrev rrB (dC : Nat → ClassId) (dI : Nat → Nat → Nat) (cB cI cJ cZ : ClassId) (h0 : Nat) (a0 : Nat → Nat) (a1 : Nat → Nat) (a3 : Nat → Nat) (A : Nat → Prop) (u : gS × gS × gS × gS) (t : State) : Prop := match u with
  | (M0, M1, M2, M3) => va_P (dC, dI) vwCl (rrW cB cI cJ cZ h0 a0 a1 a3 M0 M1 M2 M3) t.heap ∧ va_K (dC, dI) vwCl (gT cB cI cJ cZ) t ∧ va_D A (rrW cB cI cJ cZ h0 a0 a1 a3 M0 M1 M2 M3)
theorem rrP_0_f2 {D : va_G} {H : Heap} {cB cI cJ cZ : ClassId} {h0 : Nat} {a0 : Nat → Nat} {a1 : Nat → Nat} {a3 : Nat → Nat} {M0 : gS} {M1 : gS} {M2 : gS} {M3 : gS} {v : Int32} (h : va_P D vwCl ((rrW cB cI cJ cZ h0 a0 a1 a3 M0 M1 M2 M3).set 0 (h0, .inr (9, ([.ref (a0 0), .ref (a0 1), .int (mg M0 2)]).set 2 (.int v)))) H) : va_P D vwCl (rrW cB cI cJ cZ h0 a0 a1 a3 (sg M0 2 v) M1 M2 M3) H := h
theorem rrD_0_f2 {A : Nat → Prop} {cB cI cJ cZ : ClassId} {h0 : Nat} {a0 : Nat → Nat} {a1 : Nat → Nat} {a3 : Nat → Nat} {M0 : gS} {M1 : gS} {M2 : gS} {M3 : gS} {v : Int32} (h : va_D A ((rrW cB cI cJ cZ h0 a0 a1 a3 M0 M1 M2 M3).set 0 (h0, .inr (9, ([.ref (a0 0), .ref (a0 1), .int (mg M0 2)]).set 2 (.int v))))) : va_D A (rrW cB cI cJ cZ h0 a0 a1 a3 (sg M0 2 v) M1 M2 M3) := h
theorem rrP_1_f1 {D : va_G} {H : Heap} {cB cI cJ cZ : ClassId} {h0 : Nat} {a0 : Nat → Nat} {a1 : Nat → Nat} {a3 : Nat → Nat} {M0 : gS} {M1 : gS} {M2 : gS} {M3 : gS} {v : Int32} (h : va_P D vwCl ((rrW cB cI cJ cZ h0 a0 a1 a3 M0 M1 M2 M3).set 1 (a0 0, .inr (7, ([.ref (a1 0), .int (mg M1 1), .int (mg M1 2), .int (mg M1 3), .int (mg M1 4), .int (mg M1 5), .int (mg M1 6), .int (mg M1 7)]).set 1 (.int v)))) H) : va_P D vwCl (rrW cB cI cJ cZ h0 a0 a1 a3 M0 (sg M1 1 v) M2 M3) H := h
theorem rrD_1_f1 {A : Nat → Prop} {cB cI cJ cZ : ClassId} {h0 : Nat} {a0 : Nat → Nat} {a1 : Nat → Nat} {a3 : Nat → Nat} {M0 : gS} {M1 : gS} {M2 : gS} {M3 : gS} {v : Int32} (h : va_D A ((rrW cB cI cJ cZ h0 a0 a1 a3 M0 M1 M2 M3).set 1 (a0 0, .inr (7, ([.ref (a1 0), .int (mg M1 1), .int (mg M1 2), .int (mg M1 3), .int (mg M1 4), .int (mg M1 5), .int (mg M1 6), .int (mg M1 7)]).set 1 (.int v))))) : va_D A (rrW cB cI cJ cZ h0 a0 a1 a3 M0 (sg M1 1 v) M2 M3) := h
theorem rrP_1_f2 {D : va_G} {H : Heap} {cB cI cJ cZ : ClassId} {h0 : Nat} {a0 : Nat → Nat} {a1 : Nat → Nat} {a3 : Nat → Nat} {M0 : gS} {M1 : gS} {M2 : gS} {M3 : gS} {v : Int32} (h : va_P D vwCl ((rrW cB cI cJ cZ h0 a0 a1 a3 M0 M1 M2 M3).set 1 (a0 0, .inr (7, ([.ref (a1 0), .int (mg M1 1), .int (mg M1 2), .int (mg M1 3), .int (mg M1 4), .int (mg M1 5), .int (mg M1 6), .int (mg M1 7)]).set 2 (.int v)))) H) : va_P D vwCl (rrW cB cI cJ cZ h0 a0 a1 a3 M0 (sg M1 2 v) M2 M3) H := h
theorem rrD_1_f2 {A : Nat → Prop} {cB cI cJ cZ : ClassId} {h0 : Nat} {a0 : Nat → Nat} {a1 : Nat → Nat} {a3 : Nat → Nat} {M0 : gS} {M1 : gS} {M2 : gS} {M3 : gS} {v : Int32} (h : va_D A ((rrW cB cI cJ cZ h0 a0 a1 a3 M0 M1 M2 M3).set 1 (a0 0, .inr (7, ([.ref (a1 0), .int (mg M1 1), .int (mg M1 2), .int (mg M1 3), .int (mg M1 4), .int (mg M1 5), .int (mg M1 6), .int (mg M1 7)]).set 2 (.int v))))) : va_D A (rrW cB cI cJ cZ h0 a0 a1 a3 M0 (sg M1 2 v) M2 M3) := h
theorem rrP_1_f3 {D : va_G} {H : Heap} {cB cI cJ cZ : ClassId} {h0 : Nat} {a0 : Nat → Nat} {a1 : Nat → Nat} {a3 : Nat → Nat} {M0 : gS} {M1 : gS} {M2 : gS} {M3 : gS} {v : Int32} (h : va_P D vwCl ((rrW cB cI cJ cZ h0 a0 a1 a3 M0 M1 M2 M3).set 1 (a0 0, .inr (7, ([.ref (a1 0), .int (mg M1 1), .int (mg M1 2), .int (mg M1 3), .int (mg M1 4), .int (mg M1 5), .int (mg M1 6), .int (mg M1 7)]).set 3 (.int v)))) H) : va_P D vwCl (rrW cB cI cJ cZ h0 a0 a1 a3 M0 (sg M1 3 v) M2 M3) H := h
theorem rrD_1_f3 {A : Nat → Prop} {cB cI cJ cZ : ClassId} {h0 : Nat} {a0 : Nat → Nat} {a1 : Nat → Nat} {a3 : Nat → Nat} {M0 : gS} {M1 : gS} {M2 : gS} {M3 : gS} {v : Int32} (h : va_D A ((rrW cB cI cJ cZ h0 a0 a1 a3 M0 M1 M2 M3).set 1 (a0 0, .inr (7, ([.ref (a1 0), .int (mg M1 1), .int (mg M1 2), .int (mg M1 3), .int (mg M1 4), .int (mg M1 5), .int (mg M1 6), .int (mg M1 7)]).set 3 (.int v))))) : va_D A (rrW cB cI cJ cZ h0 a0 a1 a3 M0 (sg M1 3 v) M2 M3) := h
theorem rrP_1_f4 {D : va_G} {H : Heap} {cB cI cJ cZ : ClassId} {h0 : Nat} {a0 : Nat → Nat} {a1 : Nat → Nat} {a3 : Nat → Nat} {M0 : gS} {M1 : gS} {M2 : gS} {M3 : gS} {v : Int32} (h : va_P D vwCl ((rrW cB cI cJ cZ h0 a0 a1 a3 M0 M1 M2 M3).set 1 (a0 0, .inr (7, ([.ref (a1 0), .int (mg M1 1), .int (mg M1 2), .int (mg M1 3), .int (mg M1 4), .int (mg M1 5), .int (mg M1 6), .int (mg M1 7)]).set 4 (.int v)))) H) : va_P D vwCl (rrW cB cI cJ cZ h0 a0 a1 a3 M0 (sg M1 4 v) M2 M3) H := h
theorem rrD_1_f4 {A : Nat → Prop} {cB cI cJ cZ : ClassId} {h0 : Nat} {a0 : Nat → Nat} {a1 : Nat → Nat} {a3 : Nat → Nat} {M0 : gS} {M1 : gS} {M2 : gS} {M3 : gS} {v : Int32} (h : va_D A ((rrW cB cI cJ cZ h0 a0 a1 a3 M0 M1 M2 M3).set 1 (a0 0, .inr (7, ([.ref (a1 0), .int (mg M1 1), .int (mg M1 2), .int (mg M1 3), .int (mg M1 4), .int (mg M1 5), .int (mg M1 6), .int (mg M1 7)]).set 4 (.int v))))) : va_D A (rrW cB cI cJ cZ h0 a0 a1 a3 M0 (sg M1 4 v) M2 M3) := h
theorem rrP_1_f5 {D : va_G} {H : Heap} {cB cI cJ cZ : ClassId} {h0 : Nat} {a0 : Nat → Nat} {a1 : Nat → Nat} {a3 : Nat → Nat} {M0 : gS} {M1 : gS} {M2 : gS} {M3 : gS} {v : Int32} (h : va_P D vwCl ((rrW cB cI cJ cZ h0 a0 a1 a3 M0 M1 M2 M3).set 1 (a0 0, .inr (7, ([.ref (a1 0), .int (mg M1 1), .int (mg M1 2), .int (mg M1 3), .int (mg M1 4), .int (mg M1 5), .int (mg M1 6), .int (mg M1 7)]).set 5 (.int v)))) H) : va_P D vwCl (rrW cB cI cJ cZ h0 a0 a1 a3 M0 (sg M1 5 v) M2 M3) H := h
theorem rrD_1_f5 {A : Nat → Prop} {cB cI cJ cZ : ClassId} {h0 : Nat} {a0 : Nat → Nat} {a1 : Nat → Nat} {a3 : Nat → Nat} {M0 : gS} {M1 : gS} {M2 : gS} {M3 : gS} {v : Int32} (h : va_D A ((rrW cB cI cJ cZ h0 a0 a1 a3 M0 M1 M2 M3).set 1 (a0 0, .inr (7, ([.ref (a1 0), .int (mg M1 1), .int (mg M1 2), .int (mg M1 3), .int (mg M1 4), .int (mg M1 5), .int (mg M1 6), .int (mg M1 7)]).set 5 (.int v))))) : va_D A (rrW cB cI cJ cZ h0 a0 a1 a3 M0 (sg M1 5 v) M2 M3) := h
theorem rrP_1_f6 {D : va_G} {H : Heap} {cB cI cJ cZ : ClassId} {h0 : Nat} {a0 : Nat → Nat} {a1 : Nat → Nat} {a3 : Nat → Nat} {M0 : gS} {M1 : gS} {M2 : gS} {M3 : gS} {v : Int32} (h : va_P D vwCl ((rrW cB cI cJ cZ h0 a0 a1 a3 M0 M1 M2 M3).set 1 (a0 0, .inr (7, ([.ref (a1 0), .int (mg M1 1), .int (mg M1 2), .int (mg M1 3), .int (mg M1 4), .int (mg M1 5), .int (mg M1 6), .int (mg M1 7)]).set 6 (.int v)))) H) : va_P D vwCl (rrW cB cI cJ cZ h0 a0 a1 a3 M0 (sg M1 6 v) M2 M3) H := h
theorem rrD_1_f6 {A : Nat → Prop} {cB cI cJ cZ : ClassId} {h0 : Nat} {a0 : Nat → Nat} {a1 : Nat → Nat} {a3 : Nat → Nat} {M0 : gS} {M1 : gS} {M2 : gS} {M3 : gS} {v : Int32} (h : va_D A ((rrW cB cI cJ cZ h0 a0 a1 a3 M0 M1 M2 M3).set 1 (a0 0, .inr (7, ([.ref (a1 0), .int (mg M1 1), .int (mg M1 2), .int (mg M1 3), .int (mg M1 4), .int (mg M1 5), .int (mg M1 6), .int (mg M1 7)]).set 6 (.int v))))) : va_D A (rrW cB cI cJ cZ h0 a0 a1 a3 M0 (sg M1 6 v) M2 M3) := h
theorem rrP_1_f7 {D : va_G} {H : Heap} {cB cI cJ cZ : ClassId} {h0 : Nat} {a0 : Nat → Nat} {a1 : Nat → Nat} {a3 : Nat → Nat} {M0 : gS} {M1 : gS} {M2 : gS} {M3 : gS} {v : Int32} (h : va_P D vwCl ((rrW cB cI cJ cZ h0 a0 a1 a3 M0 M1 M2 M3).set 1 (a0 0, .inr (7, ([.ref (a1 0), .int (mg M1 1), .int (mg M1 2), .int (mg M1 3), .int (mg M1 4), .int (mg M1 5), .int (mg M1 6), .int (mg M1 7)]).set 7 (.int v)))) H) : va_P D vwCl (rrW cB cI cJ cZ h0 a0 a1 a3 M0 (sg M1 7 v) M2 M3) H := h
theorem rrD_1_f7 {A : Nat → Prop} {cB cI cJ cZ : ClassId} {h0 : Nat} {a0 : Nat → Nat} {a1 : Nat → Nat} {a3 : Nat → Nat} {M0 : gS} {M1 : gS} {M2 : gS} {M3 : gS} {v : Int32} (h : va_D A ((rrW cB cI cJ cZ h0 a0 a1 a3 M0 M1 M2 M3).set 1 (a0 0, .inr (7, ([.ref (a1 0), .int (mg M1 1), .int (mg M1 2), .int (mg M1 3), .int (mg M1 4), .int (mg M1 5), .int (mg M1 6), .int (mg M1 7)]).set 7 (.int v))))) : va_D A (rrW cB cI cJ cZ h0 a0 a1 a3 M0 (sg M1 7 v) M2 M3) := h
theorem rrP_2_a0 {D : va_G} {H : Heap} {cB cI cJ cZ : ClassId} {h0 : Nat} {a0 : Nat → Nat} {a1 : Nat → Nat} {a3 : Nat → Nat} {M0 : gS} {M1 : gS} {M2 : gS} {M3 : gS} {j : Nat} {v : Int32} (h : va_P D vwCl ((rrW cB cI cJ cZ h0 a0 a1 a3 M0 M1 M2 M3).set 2 (a1 0, .inl (cI, 400, .inl (upd (ma M2 0) j v)))) H) : va_P D vwCl (rrW cB cI cJ cZ h0 a0 a1 a3 M0 M1 (sa M2 0 j v) M3) H := h
theorem rrD_2_a0 {A : Nat → Prop} {cB cI cJ cZ : ClassId} {h0 : Nat} {a0 : Nat → Nat} {a1 : Nat → Nat} {a3 : Nat → Nat} {M0 : gS} {M1 : gS} {M2 : gS} {M3 : gS} {j : Nat} {v : Int32} (h : va_D A ((rrW cB cI cJ cZ h0 a0 a1 a3 M0 M1 M2 M3).set 2 (a1 0, .inl (cI, 400, .inl (upd (ma M2 0) j v))))) : va_D A (rrW cB cI cJ cZ h0 a0 a1 a3 M0 M1 (sa M2 0 j v) M3) := h
theorem rrP_2_c0 {D : va_G} {H : Heap} {cB cI cJ cZ : ClassId} {h0 : Nat} {a0 : Nat → Nat} {a1 : Nat → Nat} {a3 : Nat → Nat} {M0 : gS} {M1 : gS} {M2 : gS} {M3 : gS} {f : Nat → Int32} (h : va_P D vwCl ((rrW cB cI cJ cZ h0 a0 a1 a3 M0 M1 M2 M3).set 2 (a1 0, .inl (cI, 400, .inl f))) H) : va_P D vwCl (rrW cB cI cJ cZ h0 a0 a1 a3 M0 M1 (sF M2 0 f) M3) H := h
theorem rrD_2_c0 {A : Nat → Prop} {cB cI cJ cZ : ClassId} {h0 : Nat} {a0 : Nat → Nat} {a1 : Nat → Nat} {a3 : Nat → Nat} {M0 : gS} {M1 : gS} {M2 : gS} {M3 : gS} {f : Nat → Int32} (h : va_D A ((rrW cB cI cJ cZ h0 a0 a1 a3 M0 M1 M2 M3).set 2 (a1 0, .inl (cI, 400, .inl f)))) : va_D A (rrW cB cI cJ cZ h0 a0 a1 a3 M0 M1 (sF M2 0 f) M3) := h
theorem rrP_3_f0 {D : va_G} {H : Heap} {cB cI cJ cZ : ClassId} {h0 : Nat} {a0 : Nat → Nat} {a1 : Nat → Nat} {a3 : Nat → Nat} {M0 : gS} {M1 : gS} {M2 : gS} {M3 : gS} {v : Int32} (h : va_P D vwCl ((rrW cB cI cJ cZ h0 a0 a1 a3 M0 M1 M2 M3).set 3 (a0 1, .inr (8, ([.int (mg M3 0), .ref (a3 1), .ref (a3 2), .ref (a3 3), .int (mg M3 4), .ref (a3 5)]).set 0 (.int v)))) H) : va_P D vwCl (rrW cB cI cJ cZ h0 a0 a1 a3 M0 M1 M2 (sg M3 0 v)) H := h
theorem rrD_3_f0 {A : Nat → Prop} {cB cI cJ cZ : ClassId} {h0 : Nat} {a0 : Nat → Nat} {a1 : Nat → Nat} {a3 : Nat → Nat} {M0 : gS} {M1 : gS} {M2 : gS} {M3 : gS} {v : Int32} (h : va_D A ((rrW cB cI cJ cZ h0 a0 a1 a3 M0 M1 M2 M3).set 3 (a0 1, .inr (8, ([.int (mg M3 0), .ref (a3 1), .ref (a3 2), .ref (a3 3), .int (mg M3 4), .ref (a3 5)]).set 0 (.int v))))) : va_D A (rrW cB cI cJ cZ h0 a0 a1 a3 M0 M1 M2 (sg M3 0 v)) := h
theorem rrP_3_f4 {D : va_G} {H : Heap} {cB cI cJ cZ : ClassId} {h0 : Nat} {a0 : Nat → Nat} {a1 : Nat → Nat} {a3 : Nat → Nat} {M0 : gS} {M1 : gS} {M2 : gS} {M3 : gS} {v : Int32} (h : va_P D vwCl ((rrW cB cI cJ cZ h0 a0 a1 a3 M0 M1 M2 M3).set 3 (a0 1, .inr (8, ([.int (mg M3 0), .ref (a3 1), .ref (a3 2), .ref (a3 3), .int (mg M3 4), .ref (a3 5)]).set 4 (.int v)))) H) : va_P D vwCl (rrW cB cI cJ cZ h0 a0 a1 a3 M0 M1 M2 (sg M3 4 v)) H := h
theorem rrD_3_f4 {A : Nat → Prop} {cB cI cJ cZ : ClassId} {h0 : Nat} {a0 : Nat → Nat} {a1 : Nat → Nat} {a3 : Nat → Nat} {M0 : gS} {M1 : gS} {M2 : gS} {M3 : gS} {v : Int32} (h : va_D A ((rrW cB cI cJ cZ h0 a0 a1 a3 M0 M1 M2 M3).set 3 (a0 1, .inr (8, ([.int (mg M3 0), .ref (a3 1), .ref (a3 2), .ref (a3 3), .int (mg M3 4), .ref (a3 5)]).set 4 (.int v))))) : va_D A (rrW cB cI cJ cZ h0 a0 a1 a3 M0 M1 M2 (sg M3 4 v)) := h
theorem rrP_3_a1 {D : va_G} {H : Heap} {cB cI cJ cZ : ClassId} {h0 : Nat} {a0 : Nat → Nat} {a1 : Nat → Nat} {a3 : Nat → Nat} {M0 : gS} {M1 : gS} {M2 : gS} {M3 : gS} {j : Nat} {v : Int32} (h : va_P D vwCl ((rrW cB cI cJ cZ h0 a0 a1 a3 M0 M1 M2 M3).set 4 (a3 1, .inl (cI, 12, .inl (upd (ma M3 1) j v)))) H) : va_P D vwCl (rrW cB cI cJ cZ h0 a0 a1 a3 M0 M1 M2 (sa M3 1 j v)) H := h
theorem rrD_3_a1 {A : Nat → Prop} {cB cI cJ cZ : ClassId} {h0 : Nat} {a0 : Nat → Nat} {a1 : Nat → Nat} {a3 : Nat → Nat} {M0 : gS} {M1 : gS} {M2 : gS} {M3 : gS} {j : Nat} {v : Int32} (h : va_D A ((rrW cB cI cJ cZ h0 a0 a1 a3 M0 M1 M2 M3).set 4 (a3 1, .inl (cI, 12, .inl (upd (ma M3 1) j v))))) : va_D A (rrW cB cI cJ cZ h0 a0 a1 a3 M0 M1 M2 (sa M3 1 j v)) := h
theorem rrP_3_c1 {D : va_G} {H : Heap} {cB cI cJ cZ : ClassId} {h0 : Nat} {a0 : Nat → Nat} {a1 : Nat → Nat} {a3 : Nat → Nat} {M0 : gS} {M1 : gS} {M2 : gS} {M3 : gS} {f : Nat → Int32} (h : va_P D vwCl ((rrW cB cI cJ cZ h0 a0 a1 a3 M0 M1 M2 M3).set 4 (a3 1, .inl (cI, 12, .inl f))) H) : va_P D vwCl (rrW cB cI cJ cZ h0 a0 a1 a3 M0 M1 M2 (sF M3 1 f)) H := h
theorem rrD_3_c1 {A : Nat → Prop} {cB cI cJ cZ : ClassId} {h0 : Nat} {a0 : Nat → Nat} {a1 : Nat → Nat} {a3 : Nat → Nat} {M0 : gS} {M1 : gS} {M2 : gS} {M3 : gS} {f : Nat → Int32} (h : va_D A ((rrW cB cI cJ cZ h0 a0 a1 a3 M0 M1 M2 M3).set 4 (a3 1, .inl (cI, 12, .inl f)))) : va_D A (rrW cB cI cJ cZ h0 a0 a1 a3 M0 M1 M2 (sF M3 1 f)) := h
theorem rrP_3_a2 {D : va_G} {H : Heap} {cB cI cJ cZ : ClassId} {h0 : Nat} {a0 : Nat → Nat} {a1 : Nat → Nat} {a3 : Nat → Nat} {M0 : gS} {M1 : gS} {M2 : gS} {M3 : gS} {j : Nat} {v : Int32} (h : va_P D vwCl ((rrW cB cI cJ cZ h0 a0 a1 a3 M0 M1 M2 M3).set 5 (a3 2, .inl (cI, 12, .inl (upd (ma M3 2) j v)))) H) : va_P D vwCl (rrW cB cI cJ cZ h0 a0 a1 a3 M0 M1 M2 (sa M3 2 j v)) H := h
theorem rrD_3_a2 {A : Nat → Prop} {cB cI cJ cZ : ClassId} {h0 : Nat} {a0 : Nat → Nat} {a1 : Nat → Nat} {a3 : Nat → Nat} {M0 : gS} {M1 : gS} {M2 : gS} {M3 : gS} {j : Nat} {v : Int32} (h : va_D A ((rrW cB cI cJ cZ h0 a0 a1 a3 M0 M1 M2 M3).set 5 (a3 2, .inl (cI, 12, .inl (upd (ma M3 2) j v))))) : va_D A (rrW cB cI cJ cZ h0 a0 a1 a3 M0 M1 M2 (sa M3 2 j v)) := h
theorem rrP_3_c2 {D : va_G} {H : Heap} {cB cI cJ cZ : ClassId} {h0 : Nat} {a0 : Nat → Nat} {a1 : Nat → Nat} {a3 : Nat → Nat} {M0 : gS} {M1 : gS} {M2 : gS} {M3 : gS} {f : Nat → Int32} (h : va_P D vwCl ((rrW cB cI cJ cZ h0 a0 a1 a3 M0 M1 M2 M3).set 5 (a3 2, .inl (cI, 12, .inl f))) H) : va_P D vwCl (rrW cB cI cJ cZ h0 a0 a1 a3 M0 M1 M2 (sF M3 2 f)) H := h
theorem rrD_3_c2 {A : Nat → Prop} {cB cI cJ cZ : ClassId} {h0 : Nat} {a0 : Nat → Nat} {a1 : Nat → Nat} {a3 : Nat → Nat} {M0 : gS} {M1 : gS} {M2 : gS} {M3 : gS} {f : Nat → Int32} (h : va_D A ((rrW cB cI cJ cZ h0 a0 a1 a3 M0 M1 M2 M3).set 5 (a3 2, .inl (cI, 12, .inl f)))) : va_D A (rrW cB cI cJ cZ h0 a0 a1 a3 M0 M1 M2 (sF M3 2 f)) := h
theorem rrP_3_a3 {D : va_G} {H : Heap} {cB cI cJ cZ : ClassId} {h0 : Nat} {a0 : Nat → Nat} {a1 : Nat → Nat} {a3 : Nat → Nat} {M0 : gS} {M1 : gS} {M2 : gS} {M3 : gS} {j : Nat} {v : Int32} (h : va_P D vwCl ((rrW cB cI cJ cZ h0 a0 a1 a3 M0 M1 M2 M3).set 6 (a3 3, .inl (cI, 400, .inl (upd (ma M3 3) j v)))) H) : va_P D vwCl (rrW cB cI cJ cZ h0 a0 a1 a3 M0 M1 M2 (sa M3 3 j v)) H := h
theorem rrD_3_a3 {A : Nat → Prop} {cB cI cJ cZ : ClassId} {h0 : Nat} {a0 : Nat → Nat} {a1 : Nat → Nat} {a3 : Nat → Nat} {M0 : gS} {M1 : gS} {M2 : gS} {M3 : gS} {j : Nat} {v : Int32} (h : va_D A ((rrW cB cI cJ cZ h0 a0 a1 a3 M0 M1 M2 M3).set 6 (a3 3, .inl (cI, 400, .inl (upd (ma M3 3) j v))))) : va_D A (rrW cB cI cJ cZ h0 a0 a1 a3 M0 M1 M2 (sa M3 3 j v)) := h
theorem rrP_3_c3 {D : va_G} {H : Heap} {cB cI cJ cZ : ClassId} {h0 : Nat} {a0 : Nat → Nat} {a1 : Nat → Nat} {a3 : Nat → Nat} {M0 : gS} {M1 : gS} {M2 : gS} {M3 : gS} {f : Nat → Int32} (h : va_P D vwCl ((rrW cB cI cJ cZ h0 a0 a1 a3 M0 M1 M2 M3).set 6 (a3 3, .inl (cI, 400, .inl f))) H) : va_P D vwCl (rrW cB cI cJ cZ h0 a0 a1 a3 M0 M1 M2 (sF M3 3 f)) H := h
theorem rrD_3_c3 {A : Nat → Prop} {cB cI cJ cZ : ClassId} {h0 : Nat} {a0 : Nat → Nat} {a1 : Nat → Nat} {a3 : Nat → Nat} {M0 : gS} {M1 : gS} {M2 : gS} {M3 : gS} {f : Nat → Int32} (h : va_D A ((rrW cB cI cJ cZ h0 a0 a1 a3 M0 M1 M2 M3).set 6 (a3 3, .inl (cI, 400, .inl f)))) : va_D A (rrW cB cI cJ cZ h0 a0 a1 a3 M0 M1 M2 (sF M3 3 f)) := h
theorem rrP_3_a5 {D : va_G} {H : Heap} {cB cI cJ cZ : ClassId} {h0 : Nat} {a0 : Nat → Nat} {a1 : Nat → Nat} {a3 : Nat → Nat} {M0 : gS} {M1 : gS} {M2 : gS} {M3 : gS} {j : Nat} {v : Int64} (h : va_P D vwCl ((rrW cB cI cJ cZ h0 a0 a1 a3 M0 M1 M2 M3).set 7 (a3 5, .inl (cJ, 60, .inr (.inl (vp_updL (ml M3 5) j v))))) H) : va_P D vwCl (rrW cB cI cJ cZ h0 a0 a1 a3 M0 M1 M2 (sl M3 5 j v)) H := h
theorem rrD_3_a5 {A : Nat → Prop} {cB cI cJ cZ : ClassId} {h0 : Nat} {a0 : Nat → Nat} {a1 : Nat → Nat} {a3 : Nat → Nat} {M0 : gS} {M1 : gS} {M2 : gS} {M3 : gS} {j : Nat} {v : Int64} (h : va_D A ((rrW cB cI cJ cZ h0 a0 a1 a3 M0 M1 M2 M3).set 7 (a3 5, .inl (cJ, 60, .inr (.inl (vp_updL (ml M3 5) j v)))))) : va_D A (rrW cB cI cJ cZ h0 a0 a1 a3 M0 M1 M2 (sl M3 5 j v)) := h
theorem rrpV {s : State} {dC : Nat → ClassId} {dI : Nat → Nat → Nat} {A : Nat → Prop} {cB cI cJ cZ : ClassId} {h0 : Nat} {a0 : Nat → Nat} {a1 : Nat → Nat} {a3 : Nat → Nat} {M0 : gS} {M1 : gS} {M2 : gS} {M3 : gS} {H : Heap} {As : List Value} (hK : va_K (dC, dI) vwCl (gT cB cI cJ cZ) s) (hP : va_P (dC, dI) vwCl (rrW cB cI cJ cZ h0 a0 a1 a3 M0 M1 M2 M3) H) (hD : va_D A (rrW cB cI cJ cZ h0 a0 a1 a3 M0 M1 M2 M3)) : PreV s H RX9 h0 (va_Pc (.ref h0 :: As) (rrI dC dI cB cI cJ cZ h0 a0 a1 a3 M0 M1 M2 M3 H.size)) As := ⟨fun a U g mk q => by obtain ⟨q0, q1, qP, qK, qD⟩ := q; exact ⟨q0, q1, qP, va_K.moved (u := U) (U := U.calling g mk a) (Vm.Alike.refl U.vm) qK, qD⟩, va_recv hK hP (ci := 9) (q0 := 0) rfl rfl, fun U hU hW => ⟨rfl, by rw [hU], by rw [hU]; exact hP, va_K.moved hW.alike hK, hD.weaken (fun _ _ _ _ => trivial)⟩⟩
theorem rrpS {s : State} {dC : Nat → ClassId} {dI : Nat → Nat → Nat} {A : Nat → Prop} {cB cI cJ cZ : ClassId} {h0 : Nat} {a0 : Nat → Nat} {a1 : Nat → Nat} {a3 : Nat → Nat} {M0 : gS} {M1 : gS} {M2 : gS} {M3 : gS} {H : Heap} {As : List Value} (hK : va_K (dC, dI) vwCl (gT cB cI cJ cZ) s) (hP : va_P (dC, dI) vwCl (rrW cB cI cJ cZ h0 a0 a1 a3 M0 M1 M2 M3) H) (hD : va_D A (rrW cB cI cJ cZ h0 a0 a1 a3 M0 M1 M2 M3)) : PreS s H (va_Pc As (rrI dC dI cB cI cJ cZ h0 a0 a1 a3 M0 M1 M2 M3 H.size)) As := ⟨fun a U g mk q => by obtain ⟨q0, q1, qP, qK, qD⟩ := q; exact ⟨q0, q1, qP, va_K.moved (u := U) (U := U.calling g mk a) (Vm.Alike.refl U.vm) qK, qD⟩, fun U hU hW => ⟨rfl, by rw [hU], by rw [hU]; exact hP, va_K.moved hW.alike hK, hD.weaken (fun _ _ _ _ => trivial)⟩⟩

abbrev rrIS (dC : Nat → ClassId) (dI : Nat → Nat → Nat) (cB cI cJ cZ : ClassId) (h0 : Nat) (a0 : Nat → Nat) (a1 : Nat → Nat) (a3 : Nat → Nat) (M0 : gS) (M1 : gS) (M2 : gS) (M3 : gS) (adK adV : Nat → Nat) (sz : Nat) : State → Prop := fun U => (U.heap.size = sz ∧ va_P (dC, dI) vwCl (rrW cB cI cJ cZ h0 a0 a1 a3 M0 M1 M2 M3) U.heap ∧ va_K (dC, dI) vwCl (gT cB cI cJ cZ) U ∧ va_D (fun _ => True) (rrW cB cI cJ cZ h0 a0 a1 a3 M0 M1 M2 M3)) ∧ sR adK U ∧ sE adK adV (va_A (rrW cB cI cJ cZ h0 a0 a1 a3 M0 M1 M2 M3) sz) U U.heap
theorem rrpVS {s : State} {dC : Nat → ClassId} {dI : Nat → Nat → Nat} {A A0 : Nat → Prop} {cB cI cJ cZ : ClassId} {h0 : Nat} {a0 : Nat → Nat} {a1 : Nat → Nat} {a3 : Nat → Nat} {M0 : gS} {M1 : gS} {M2 : gS} {M3 : gS} {adK adV : Nat → Nat} {H : Heap} {locs : List Loc} {As : List Value} (hK : va_K (dC, dI) vwCl (gT cB cI cJ cZ) s) (hP : va_P (dC, dI) vwCl (rrW cB cI cJ cZ h0 a0 a1 a3 M0 M1 M2 M3) H) (hD : va_D A (rrW cB cI cJ cZ h0 a0 a1 a3 M0 M1 M2 M3)) (hR : sR adK s) (hE : sE adK adV A0 s s.heap) (hS : va_S A0 s.heap H locs) (hF : ∀ q : Nat, va_A (rrW cB cI cJ cZ h0 a0 a1 a3 M0 M1 M2 M3) H.size q → A0 q) : PreV s H RX9 h0 (va_Pc (.ref h0 :: As) (rrIS dC dI cB cI cJ cZ h0 a0 a1 a3 M0 M1 M2 M3 adK adV H.size)) As := ⟨fun a U g mk q => by obtain ⟨q0, ⟨q1, qP, qK, qD⟩, qR, qE⟩ := q; exact ⟨q0, ⟨q1, qP, va_K.moved (u := U) (U := U.calling g mk a) (Vm.Alike.refl U.vm) qK, qD⟩, sR.same (u := U) (U := U.calling g mk a) rfl qR, sE.moved (u := U) (U := U.calling g mk a) (Vm.Alike.refl U.vm) qE⟩, va_recv hK hP (ci := 9) (q0 := 0) rfl rfl, fun U hU hW => ⟨rfl, ⟨by rw [hU], by rw [hU]; exact hP, va_K.moved hW.alike hK, hD.weaken (fun _ _ _ _ => trivial)⟩, hR.warm hW, by rw [hU]; exact sE.narrow (sE.kept (sE.moved hW.alike hE) hS.2.1) hF⟩⟩

def wX9_comparisonAhead_22  (Q : Int32 → gS → gS → gS → gS → Prop) (z0 : Int32) (M0 : gS) (M1 : gS) (M2 : gS) (M3 : gS) : Prop :=
 ((z0 = (60 : Int32) → (Q (-14 : Int32) M0 M1 M2 M3))
 ∧ (¬ z0 = (60 : Int32) → ((z0 = (61 : Int32) → (Q (-16 : Int32) M0 M1 M2 M3))
 ∧ (¬ z0 = (61 : Int32) → ((z0 = (62 : Int32) → (Q (-18 : Int32) M0 M1 M2 M3))
 ∧ (¬ z0 = (62 : Int32) → ((z0 = (316 : Int32) → (Q (-15 : Int32) M0 M1 M2 M3))
 ∧ (¬ z0 = (316 : Int32) → ((z0 = (318 : Int32) → (Q (-17 : Int32) M0 M1 M2 M3))
 ∧ (¬ z0 = (318 : Int32) → (Q (-100 : Int32) M0 M1 M2 M3)))))))))))
def wX9_comparisonAhead  (M0 : gS) (M1 : gS) (M2 : gS) (M3 : gS) (Q : Int32 → gS → gS → gS → gS → Prop) : Prop :=
 (((mg M1 4) = (3 : Int32) → (wX9_comparisonAhead_22  Q (mg M1 5) M0 M1 M2 M3))
 ∧ (¬ (mg M1 4) = (3 : Int32) → (wX9_comparisonAhead_22  Q (-1 : Int32) M0 M1 M2 M3)))
def rmX9_comparisonAhead : Room := { frames := 0, cells := 0, slots := 0, locals := 0 }
set_option maxHeartbeats 4000000 in
set_option maxRecDepth 100000 in
theorem kX9_comparisonAhead (l : Launch) (dC : Nat → ClassId) (dI : Nat → Nat → Nat) (cB cI cJ cZ : ClassId) (h0 : Nat) (a0 : Nat → Nat) (a1 : Nat → Nat) (a3 : Nat → Nat) (sz : Nat)  (M0 : gS) (M1 : gS) (M2 : gS) (M3 : gS) (Q : Int32 → gS → gS → gS → gS → Prop) (h : wX9_comparisonAhead  M0 M1 M2 M3 Q) : Met l yX9_comparisonAhead wsX9_comparisonAhead rmX9_comparisonAhead (va_Pc [.ref h0] (rrI dC dI cB cI cJ cZ h0 a0 a1 a3 M0 M1 M2 M3 sz)) (va_Qi (fun (r : Int32) (u : gS × gS × gS × gS) => Q r u.1 u.2.1 u.2.2.1 u.2.2.2) (rrB dC dI cB cI cJ cZ h0 a0 a1 a3 (va_A (rrW cB cI cJ cZ h0 a0 a1 a3 M0 M1 M2 M3) sz)) (va_A (rrW cB cI cJ cZ h0 a0 a1 a3 M0 M1 M2 M3) sz)) 0 0 (va_A (rrW cB cI cJ cZ h0 a0 a1 a3 M0 M1 M2 M3) sz) := by
  refine Met.ofW (cc := cX9_comparisonAhead) (maxL := 1) (ret := (some .int)) (by decide) rfl ?_
  intro p e s m args below meth c s₁ B hml hv
  obtain ⟨rfl, hsz, hP, hK, hD0⟩ := hv
  have hx := B.exec
  have hb := B.bytes
  have hr := B.returns
  have hts := atoms_spec (ws := wsX9_comparisonAhead) B.pre
  have hown : s.vm.findClass RX9 = some m.cls := findClass_of_methodNamed B.named
  have hlocks := B.notSynchronized
  subst hsz
  have hD := hD0.self (sz := s.heap.size)
  generalize hAe : va_A (rrW cB cI cJ cZ h0 a0 a1 a3 M0 M1 M2 M3) s.heap.size = A at hD ⊢
  have hA : ∀ q : Nat, s.heap.size ≤ q → A q := fun q h => by rw [← hAe]; exact Or.inr h
  have hS : va_S A s.heap s.heap [] := va_S.rf
  have hinX7 : ∀ w ∈ wsX70, w ∈ wsX9_comparisonAhead := by decide +kernel
  have hinX9 : ∀ w ∈ wsX90, w ∈ wsX9_comparisonAhead := by decide +kernel
  have f1 := hts (.fieldLink RX9 9 "LastWords$RuleReader" "in" "LLastWords$Reader;") (by decide +kernel)
  have f2 := hts (.fieldLink RX9 91 "LastWords$Reader" "kind" "I") (by decide +kernel)
  have f3 := hts (.fieldLink RX9 94 "LastWords$Reader" "sign" "I") (by decide +kernel)
  have b22 : ∀ (z0 : Int32) (M0 : gS) (M1 : gS) (M2 : gS) (M3 : gS) (H : Heap) (locs : List Loc) (ls : Array Slot), va_P (dC, dI) vwCl (rrW cB cI cJ cZ h0 a0 a1 a3 M0 M1 M2 M3) H → va_D A (rrW cB cI cJ cZ h0 a0 a1 a3 M0 M1 M2 M3) → va_S A s.heap H locs → lv_has ls 1 [] → wX9_comparisonAhead_22  Q z0 M0 M1 M2 M3 → W p l e (headSpec wsX9_comparisonAhead rmX9_comparisonAhead).room s m ([.ref h0] : List Value).toArray below meth c H locs 0 0 (MQ below (va_Qi (fun (r : Int32) (u : gS × gS × gS × gS) => Q r u.1 u.2.1 u.2.2.1 u.2.2.2) (rrB dC dI cB cI cJ cZ h0 a0 a1 a3 A) A) ([.ref h0] : List Value).toArray s 0 0 A) (F0 m 22 ls [.int z0]) := by
    intro  z0 M0 M1 M2 M3 H locs ls hP hD hS hl h
    unfold wX9_comparisonAhead_22 at h
    by_cases c1 : z0 = (60 : Int32)
    · have h := h.1 c1
      refine lv_lookup (off := 50) (tgt := 72) hx hb dX9_comparisonAhead_22 (by decide) (by rw [c1]; try rfl) (by decide) ?_
      refine lv_bipush (v := (-14)) hx hb dX9_comparisonAhead_72 (by decide) ?_
      exact W.iret (v := (-14 : Int32)) hx hb hr (fun t ht hW => ⟨⟨_, (M0, M1, M2, M3), rfl, h, by rw [ht]; exact hP, va_K.moved hW.alike hK, hD⟩, hS.F ht⟩) hS.2.2 dX9_comparisonAhead_74
    have h := h.2 c1
    by_cases c2 : z0 = (61 : Int32)
    · have h := h.1 c2
      refine lv_lookup (off := 56) (tgt := 78) hx hb dX9_comparisonAhead_22 (by decide) (by rw [c2]; try rfl) (by decide) ?_
      refine lv_bipush (v := (-16)) hx hb dX9_comparisonAhead_78 (by decide) ?_
      exact W.iret (v := (-16 : Int32)) hx hb hr (fun t ht hW => ⟨⟨_, (M0, M1, M2, M3), rfl, h, by rw [ht]; exact hP, va_K.moved hW.alike hK, hD⟩, hS.F ht⟩) hS.2.2 dX9_comparisonAhead_80
    have h := h.2 c2
    by_cases c3 : z0 = (62 : Int32)
    · have h := h.1 c3
      refine lv_lookup (off := 62) (tgt := 84) hx hb dX9_comparisonAhead_22 (by decide) (by rw [c3]; try rfl) (by decide) ?_
      refine lv_bipush (v := (-18)) hx hb dX9_comparisonAhead_84 (by decide) ?_
      exact W.iret (v := (-18 : Int32)) hx hb hr (fun t ht hW => ⟨⟨_, (M0, M1, M2, M3), rfl, h, by rw [ht]; exact hP, va_K.moved hW.alike hK, hD⟩, hS.F ht⟩) hS.2.2 dX9_comparisonAhead_86
    have h := h.2 c3
    by_cases c4 : z0 = (316 : Int32)
    · have h := h.1 c4
      refine lv_lookup (off := 53) (tgt := 75) hx hb dX9_comparisonAhead_22 (by decide) (by rw [c4]; try rfl) (by decide) ?_
      refine lv_bipush (v := (-15)) hx hb dX9_comparisonAhead_75 (by decide) ?_
      exact W.iret (v := (-15 : Int32)) hx hb hr (fun t ht hW => ⟨⟨_, (M0, M1, M2, M3), rfl, h, by rw [ht]; exact hP, va_K.moved hW.alike hK, hD⟩, hS.F ht⟩) hS.2.2 dX9_comparisonAhead_77
    have h := h.2 c4
    by_cases c5 : z0 = (318 : Int32)
    · have h := h.1 c5
      refine lv_lookup (off := 59) (tgt := 81) hx hb dX9_comparisonAhead_22 (by decide) (by rw [c5]; try rfl) (by decide) ?_
      refine lv_bipush (v := (-17)) hx hb dX9_comparisonAhead_81 (by decide) ?_
      exact W.iret (v := (-17 : Int32)) hx hb hr (fun t ht hW => ⟨⟨_, (M0, M1, M2, M3), rfl, h, by rw [ht]; exact hP, va_K.moved hW.alike hK, hD⟩, hS.F ht⟩) hS.2.2 dX9_comparisonAhead_83
    have h := h.2 c5
    refine lv_lookup (off := 65) (tgt := 87) hx hb dX9_comparisonAhead_22 (by decide) (by show (if (60 : Int) = z0.toInt then (50 : Int) else if (61 : Int) = z0.toInt then (56 : Int) else if (62 : Int) = z0.toInt then (62 : Int) else if (316 : Int) = z0.toInt then (53 : Int) else if (318 : Int) = z0.toInt then (59 : Int) else 65) = 65; rw [if_neg (fun q => c1 (Int32.toInt_inj.mp (q.symm.trans (by decide)))), if_neg (fun q => c2 (Int32.toInt_inj.mp (q.symm.trans (by decide)))), if_neg (fun q => c3 (Int32.toInt_inj.mp (q.symm.trans (by decide)))), if_neg (fun q => c4 (Int32.toInt_inj.mp (q.symm.trans (by decide)))), if_neg (fun q => c5 (Int32.toInt_inj.mp (q.symm.trans (by decide))))]) (by decide) ?_
    refine lv_bipush (v := (-100)) hx hb dX9_comparisonAhead_87 (by decide) ?_
    exact W.iret (v := (-100 : Int32)) hx hb hr (fun t ht hW => ⟨⟨_, (M0, M1, M2, M3), rfl, h, by rw [ht]; exact hP, va_K.moved hW.alike hK, hD⟩, hS.F ht⟩) hS.2.2 dX9_comparisonAhead_89
  have bE : ∀ (M0 : gS) (M1 : gS) (M2 : gS) (M3 : gS) (H : Heap) (locs : List Loc) (ls : Array Slot), va_P (dC, dI) vwCl (rrW cB cI cJ cZ h0 a0 a1 a3 M0 M1 M2 M3) H → va_D A (rrW cB cI cJ cZ h0 a0 a1 a3 M0 M1 M2 M3) → va_S A s.heap H locs → lv_has ls 1 [(0, .ref h0)] → wX9_comparisonAhead  M0 M1 M2 M3 Q → W p l e (headSpec wsX9_comparisonAhead rmX9_comparisonAhead).room s m ([.ref h0] : List Value).toArray below meth c H locs 0 0 (MQ below (va_Qi (fun (r : Int32) (u : gS × gS × gS × gS) => Q r u.1 u.2.1 u.2.2.1 u.2.2.2) (rrB dC dI cB cI cJ cZ h0 a0 a1 a3 A) A) ([.ref h0] : List Value).toArray s 0 0 A) (F0 m 0 ls []) := by
    intro M0 M1 M2 M3 H locs ls hP hD hS hl h
    unfold wX9_comparisonAhead at h
    refine lv_aload_n hx hb dX9_comparisonAhead_0 rfl (lv_at hl 0 rfl) ?_
    refine va_get (D := (dC, dI)) (ci := 9) (v := .ref (a0 0)) (C := RX9) (T := TX9) (N := 3) hx hb hts hinX9 hown hK hP 0 rfl rfl 0 (by decide) f1 (fun _ h9 => h9) rfl dX9_comparisonAhead_1 ?_
    refine va_get (D := (dC, dI)) (ci := 7) (v := .int (mg M1 4)) (C := RX7) (T := TX7) (N := 8) hx hb hts hinX7 hown hK hP 1 rfl rfl 4 (by decide) f2 (fun _ h9 => h9) rfl dX9_comparisonAhead_4 ?_
    refine lv_iconst (v := 3) hx hb dX9_comparisonAhead_7 (by decide) ?_
    refine lv_icmp_ne (tgt := 21) hx hb dX9_comparisonAhead_8 (by decide) (fun c1 => ?_) (fun c1 => ?_)
    · have h := h.2 c1
      refine lv_iconst (v := (-1)) hx hb dX9_comparisonAhead_21 (by decide) ?_
      exact b22  (-1 : Int32) M0 M1 M2 M3 H locs ls hP hD hS (lv_sub hl [] rfl) h
    · have h := h.1 c1
      refine lv_aload_n hx hb dX9_comparisonAhead_11 rfl (lv_at hl 0 rfl) ?_
      refine va_get (D := (dC, dI)) (ci := 9) (v := .ref (a0 0)) (C := RX9) (T := TX9) (N := 3) hx hb hts hinX9 hown hK hP 0 rfl rfl 0 (by decide) f1 (fun _ h9 => h9) rfl dX9_comparisonAhead_12 ?_
      refine va_get (D := (dC, dI)) (ci := 7) (v := .int (mg M1 5)) (C := RX7) (T := TX7) (N := 8) hx hb hts hinX7 hown hK hP 1 rfl rfl 5 (by decide) f3 (fun _ h9 => h9) rfl dX9_comparisonAhead_15 ?_
      refine lv_goto (tgt := 22) hx hb dX9_comparisonAhead_18 (by decide) ?_
      exact b22  (mg M1 5) M0 M1 M2 M3 H locs ls hP hD hS (lv_sub hl [] rfl) h
  have hl := lv_entry ([.ref h0]) (n := 1) (Nat.le_of_ble_eq_true rfl)
  rw [lg_entry_eq]
  generalize (lg_sl ([.ref h0]) ++ List.replicate (1 - (lg_sl ([.ref h0])).length) Slot.unset).toArray = ls at hl ⊢
  have hl : lv_has ls 1 [(0, .ref h0)] := hl
  exact bE M0 M1 M2 M3 s.heap [] ls hP hD hS hl h
def wX9_isRoomForNode  (M0 : gS) (M1 : gS) (M2 : gS) (M3 : gS) (Q : Bool → gS → gS → gS → gS → Prop) : Prop :=
 (∀ x1 : Int32, x1 = ((mg M0 2) + (1 : Int32)) → (∀ N2 : gS, N2 = sg M0 2 x1 → (((mg N2 2) ≤ (60 : Int32) → (Q true N2 M1 M2 M3))
 ∧ (¬ (mg N2 2) ≤ (60 : Int32) → (wX7_fail (3 : Int32) M1 M2 (fun (N5 : gS) (N6 : gS) => (Q false N2 N5 N6 M3)))))))
def rmX9_isRoomForNode : Room := { frames := 1, cells := 0, slots := 0, locals := 21 }
set_option maxHeartbeats 4000000 in
set_option maxRecDepth 100000 in
theorem kX9_isRoomForNode (l : Launch) (dC : Nat → ClassId) (dI : Nat → Nat → Nat) (cB cI cJ cZ : ClassId) (h0 : Nat) (a0 : Nat → Nat) (a1 : Nat → Nat) (a3 : Nat → Nat) (sz : Nat)  (M0 : gS) (M1 : gS) (M2 : gS) (M3 : gS) (Q : Bool → gS → gS → gS → gS → Prop) (h : wX9_isRoomForNode  M0 M1 M2 M3 Q) : Met l yX9_isRoomForNode wsX9_isRoomForNode rmX9_isRoomForNode (va_Pc [.ref h0] (rrI dC dI cB cI cJ cZ h0 a0 a1 a3 M0 M1 M2 M3 sz)) (va_Qi (fun (r : Int32) (u : gS × gS × gS × gS) => ∃ b : Bool, r = bI b ∧ Q b u.1 u.2.1 u.2.2.1 u.2.2.2) (rrB dC dI cB cI cJ cZ h0 a0 a1 a3 (va_A (rrW cB cI cJ cZ h0 a0 a1 a3 M0 M1 M2 M3) sz)) (va_A (rrW cB cI cJ cZ h0 a0 a1 a3 M0 M1 M2 M3) sz)) 0 0 (va_A (rrW cB cI cJ cZ h0 a0 a1 a3 M0 M1 M2 M3) sz) := by
  refine Met.ofW (cc := cX9_isRoomForNode) (maxL := 1) (ret := (some .boolean)) (by decide) rfl ?_
  intro p e s m args below meth c s₁ B hml hv
  obtain ⟨rfl, hsz, hP, hK, hD0⟩ := hv
  have hx := B.exec
  have hb := B.bytes
  have hr := B.returns
  have hts := atoms_spec (ws := wsX9_isRoomForNode) B.pre
  have hown : s.vm.findClass RX9 = some m.cls := findClass_of_methodNamed B.named
  have hlocks := B.notSynchronized
  subst hsz
  have hD := hD0.self (sz := s.heap.size)
  generalize hAe : va_A (rrW cB cI cJ cZ h0 a0 a1 a3 M0 M1 M2 M3) s.heap.size = A at hD ⊢
  have hA : ∀ q : Nat, s.heap.size ≤ q → A q := fun q h => by rw [← hAe]; exact Or.inr h
  have hS : va_S A s.heap s.heap [] := va_S.rf
  have hinX9 : ∀ w ∈ wsX90, w ∈ wsX9_isRoomForNode := by decide +kernel
  have f1 := hts (.fieldLink RX9 109 "LastWords$RuleReader" "nodes" "I") (by decide +kernel)
  have f2 := hts (.fieldLink RX9 9 "LastWords$RuleReader" "in" "LLastWords$Reader;") (by decide +kernel)
  have bE : ∀ (M0 : gS) (M1 : gS) (M2 : gS) (M3 : gS) (H : Heap) (locs : List Loc) (ls : Array Slot), va_P (dC, dI) vwCl (rrW cB cI cJ cZ h0 a0 a1 a3 M0 M1 M2 M3) H → va_D A (rrW cB cI cJ cZ h0 a0 a1 a3 M0 M1 M2 M3) → va_S A s.heap H locs → lv_has ls 1 [(0, .ref h0)] → wX9_isRoomForNode  M0 M1 M2 M3 Q → W p l e (headSpec wsX9_isRoomForNode rmX9_isRoomForNode).room s m ([.ref h0] : List Value).toArray below meth c H locs 0 0 (MQ below (va_Qi (fun (r : Int32) (u : gS × gS × gS × gS) => ∃ b : Bool, r = bI b ∧ Q b u.1 u.2.1 u.2.2.1 u.2.2.2) (rrB dC dI cB cI cJ cZ h0 a0 a1 a3 A) A) ([.ref h0] : List Value).toArray s 0 0 A) (F0 m 0 ls []) := by
    intro M0 M1 M2 M3 H locs ls hP hD hS hl h
    unfold wX9_isRoomForNode at h
    refine lv_aload_n hx hb dX9_isRoomForNode_0 rfl (lv_at hl 0 rfl) ?_
    refine lv_dup hx hb dX9_isRoomForNode_1 rfl ?_
    refine va_get (D := (dC, dI)) (ci := 9) (v := .int (mg M0 2)) (C := RX9) (T := TX9) (N := 3) hx hb hts hinX9 hown hK hP 0 rfl rfl 2 (by decide) f1 (fun _ h9 => h9) rfl dX9_isRoomForNode_2 ?_
    refine lv_iconst (v := 1) hx hb dX9_isRoomForNode_5 (by decide) ?_
    refine lv_iadd hx hb dX9_isRoomForNode_6 ?_
    refine lv_topi (fun x1 ex1 => ?_)
    have h := h x1 ex1
    refine va_put (D := (dC, dI)) (ci := 9) (v := .int x1) (ty := .int) (C := RX9) (T := TX9) (N := 3) hx hb hts hinX9 tyX9 tyX9_ok nmX9 hown hK hP hD hS 0 rfl rfl 2 (by decide) f1 (fun _ h9 => h9) rfl (by decide +kernel) rfl rfl (Nat.le_of_ble_eq_true rfl) dX9_isRoomForNode_7 (fun H locs hP hD hS => ?_)
    have hP := rrP_0_f2 hP
    have hD := rrD_0_f2 hD
    have h := h _ rfl
    generalize sg M0 2 x1 = N2 at hP hD h
    refine lv_aload_n hx hb dX9_isRoomForNode_10 rfl (lv_at hl 0 rfl) ?_
    refine va_get (D := (dC, dI)) (ci := 9) (v := .int (mg N2 2)) (C := RX9) (T := TX9) (N := 3) hx hb hts hinX9 hown hK hP 0 rfl rfl 2 (by decide) f1 (fun _ h9 => h9) rfl dX9_isRoomForNode_11 ?_
    refine lv_bipush (v := (60)) hx hb dX9_isRoomForNode_14 (by decide) ?_
    refine lv_icmp_le (tgt := 29) hx hb dX9_isRoomForNode_16 (by decide) (fun c3 => ?_) (fun c3 => ?_)
    · have h := h.1 c3
      refine lv_iconst (v := 1) hx hb dX9_isRoomForNode_29 (by decide) ?_
      exact W.zret (v := (bI true)) hx hb hr (nar_bI true) (fun t ht hW => ⟨⟨_, (N2, M1, M2, M3), rfl, ⟨true, rfl, h⟩, by rw [ht]; exact hP, va_K.moved hW.alike hK, hD⟩, hS.F ht⟩) hS.2.2 dX9_isRoomForNode_30
    · have h := h.2 c3
      refine lv_aload_n hx hb dX9_isRoomForNode_19 rfl (lv_at hl 0 rfl) ?_
      refine va_get (D := (dC, dI)) (ci := 9) (v := .ref (a0 0)) (C := RX9) (T := TX9) (N := 3) hx hb hts hinX9 hown hK hP 0 rfl rfl 0 (by decide) f2 (fun _ h9 => h9) rfl dX9_isRoomForNode_20 ?_
      refine lv_iconst (v := 3) hx hb dX9_isRoomForNode_23 (by decide) ?_
      have hPc := hP.sub (ws' := (rdW cB cI cJ cZ (a0 0) a1 M1 M2)) [1, 2] rfl
      have hDc := hD.sub (ws' := (rdW cB cI cJ cZ (a0 0) a1 M1 M2)) [1, 2] (by decide) rfl
      have hFc := va_free (wc := (rdW cB cI cJ cZ (a0 0) a1 M1 M2)) hD hS hA [1, 2] rfl
      refine va_callv (va_runV (As := [.int (3 : Int32)]) (rest := []) ⟨hx, hb, hml, hown, hts⟩ (kX7_fail l dC dI cB cI cJ cZ (a0 0) a1 H.size (3 : Int32) M1 M2 _ h) (cwV 1 hts gX9_isRoomForNode_X7_fail rfl rfl rfl (by decide +kernel) ⟨Nat.le_of_ble_eq_true rfl, Nat.le_of_ble_eq_true rfl⟩) (rdpV hK hPc hDc) rfl rfl hl.1 rfl (lv_room (Nat.le_of_ble_eq_true rfl)) dX9_isRoomForNode_24 ⟨Nat.le_of_ble_eq_true rfl, Nat.le_of_ble_eq_true rfl⟩) hS (fun q _ z => hFc q z) hFc (fun u t H1 locs ht hvm hw hB hz1 hk1 hS => ?_)
      obtain ⟨N5, N6⟩ := u
      obtain ⟨hP1, hK1, hD1⟩ := hB
      rw [ht] at hP1
      obtain ⟨hP, hD⟩ := va_join (wr := [(h0, .inr (9, [.ref (a0 0), .ref (a0 1), .int (mg N2 2)])), (a0 1, .inr (8, [.int (mg M3 0), .ref (a3 1), .ref (a3 2), .ref (a3 3), .int (mg M3 4), .ref (a3 5)])), (a3 1, .inl (cI, 12, .inl (ma M3 1))), (a3 2, .inl (cI, 12, .inl (ma M3 2))), (a3 3, .inl (cI, 400, .inl (ma M3 3))), (a3 5, .inl (cJ, 60, .inr (.inl (ml M3 5))))]) (w1 := (rdW cB cI cJ cZ (a0 0) a1 N5 N6)) hP hD [1, 2] [0, 3, 4, 5, 6, 7] rfl rfl (by decide) (by decide) hk1 hFc hP1 hD1
      have hP := hP.sub (ws' := (rrW cB cI cJ cZ h0 a0 a1 a3 N2 N5 N6 M3)) [0, 6, 7, 1, 2, 3, 4, 5] rfl
      have hD := hD.sub (ws' := (rrW cB cI cJ cZ h0 a0 a1 a3 N2 N5 N6 M3)) [0, 6, 7, 1, 2, 3, 4, 5] (by decide) rfl
      generalize H1 = H at hP hS ⊢
      have h := hw
      try dsimp only at h
      refine lv_iconst (v := 0) hx hb dX9_isRoomForNode_27 (by decide) ?_
      exact W.zret (v := (bI false)) hx hb hr (nar_bI false) (fun t ht hW => ⟨⟨_, (N2, N5, N6, M3), rfl, ⟨false, rfl, h⟩, by rw [ht]; exact hP, va_K.moved hW.alike hK, hD⟩, hS.F ht⟩) hS.2.2 dX9_isRoomForNode_28
  have hl := lv_entry ([.ref h0]) (n := 1) (Nat.le_of_ble_eq_true rfl)
  rw [lg_entry_eq]
  generalize (lg_sl ([.ref h0]) ++ List.replicate (1 - (lg_sl ([.ref h0])).length) Slot.unset).toArray = ls at hl ⊢
  have hl : lv_has ls 1 [(0, .ref h0)] := hl
  exact bE M0 M1 M2 M3 s.heap [] ls hP hD hS hl h
def wX9_codeOfSign (p1 : Int32) (p2 : Int32) (p3 : Int32) (p4 : Int32) (M0 : gS) (M1 : gS) (M2 : gS) (M3 : gS) (Q : Int32 → gS → gS → gS → gS → Prop) : Prop :=
 (wX7_isSign p1 M1 M2 (fun (b4 : Bool) (N2 : gS) (N3 : gS) => (((bI b4) = 0 → (wX7_isSign p3 N2 N3 (fun (b9 : Bool) (N7 : gS) (N8 : gS) => (((bI b9) = 0 → (Q (-100 : Int32) M0 N7 N8 M3))
 ∧ (¬ (bI b9) = 0 → (Q p4 M0 N7 N8 M3))))))
 ∧ (¬ (bI b4) = 0 → (Q p2 M0 N2 N3 M3)))))
def rmX9_codeOfSign : Room := { frames := 1, cells := 0, slots := 0, locals := 21 }
set_option maxHeartbeats 4000000 in
set_option maxRecDepth 100000 in
theorem kX9_codeOfSign (l : Launch) (dC : Nat → ClassId) (dI : Nat → Nat → Nat) (cB cI cJ cZ : ClassId) (h0 : Nat) (a0 : Nat → Nat) (a1 : Nat → Nat) (a3 : Nat → Nat) (sz : Nat) (p1 : Int32) (p2 : Int32) (p3 : Int32) (p4 : Int32) (M0 : gS) (M1 : gS) (M2 : gS) (M3 : gS) (Q : Int32 → gS → gS → gS → gS → Prop) (h : wX9_codeOfSign p1 p2 p3 p4 M0 M1 M2 M3 Q) : Met l yX9_codeOfSign wsX9_codeOfSign rmX9_codeOfSign (va_Pc [.ref h0, .int p1, .int p2, .int p3, .int p4] (rrI dC dI cB cI cJ cZ h0 a0 a1 a3 M0 M1 M2 M3 sz)) (va_Qi (fun (r : Int32) (u : gS × gS × gS × gS) => Q r u.1 u.2.1 u.2.2.1 u.2.2.2) (rrB dC dI cB cI cJ cZ h0 a0 a1 a3 (va_A (rrW cB cI cJ cZ h0 a0 a1 a3 M0 M1 M2 M3) sz)) (va_A (rrW cB cI cJ cZ h0 a0 a1 a3 M0 M1 M2 M3) sz)) 0 0 (va_A (rrW cB cI cJ cZ h0 a0 a1 a3 M0 M1 M2 M3) sz) := by
  refine Met.ofW (cc := cX9_codeOfSign) (maxL := 5) (ret := (some .int)) (by decide) rfl ?_
  intro p e s m args below meth c s₁ B hml hv
  obtain ⟨rfl, hsz, hP, hK, hD0⟩ := hv
  have hx := B.exec
  have hb := B.bytes
  have hr := B.returns
  have hts := atoms_spec (ws := wsX9_codeOfSign) B.pre
  have hown : s.vm.findClass RX9 = some m.cls := findClass_of_methodNamed B.named
  have hlocks := B.notSynchronized
  subst hsz
  have hD := hD0.self (sz := s.heap.size)
  generalize hAe : va_A (rrW cB cI cJ cZ h0 a0 a1 a3 M0 M1 M2 M3) s.heap.size = A at hD ⊢
  have hA : ∀ q : Nat, s.heap.size ≤ q → A q := fun q h => by rw [← hAe]; exact Or.inr h
  have hS : va_S A s.heap s.heap [] := va_S.rf
  have hinX9 : ∀ w ∈ wsX90, w ∈ wsX9_codeOfSign := by decide +kernel
  have f1 := hts (.fieldLink RX9 9 "LastWords$RuleReader" "in" "LLastWords$Reader;") (by decide +kernel)
  have bE : ∀ (M0 : gS) (M1 : gS) (M2 : gS) (M3 : gS) (H : Heap) (locs : List Loc) (ls : Array Slot), va_P (dC, dI) vwCl (rrW cB cI cJ cZ h0 a0 a1 a3 M0 M1 M2 M3) H → va_D A (rrW cB cI cJ cZ h0 a0 a1 a3 M0 M1 M2 M3) → va_S A s.heap H locs → lv_has ls 5 [(0, .ref h0), (1, .int p1), (2, .int p2), (3, .int p3), (4, .int p4)] → wX9_codeOfSign p1 p2 p3 p4 M0 M1 M2 M3 Q → W p l e (headSpec wsX9_codeOfSign rmX9_codeOfSign).room s m ([.ref h0, .int p1, .int p2, .int p3, .int p4] : List Value).toArray below meth c H locs 0 0 (MQ below (va_Qi (fun (r : Int32) (u : gS × gS × gS × gS) => Q r u.1 u.2.1 u.2.2.1 u.2.2.2) (rrB dC dI cB cI cJ cZ h0 a0 a1 a3 A) A) ([.ref h0, .int p1, .int p2, .int p3, .int p4] : List Value).toArray s 0 0 A) (F0 m 0 ls []) := by
    intro M0 M1 M2 M3 H locs ls hP hD hS hl h
    unfold wX9_codeOfSign at h
    refine lv_aload_n hx hb dX9_codeOfSign_0 rfl (lv_at hl 0 rfl) ?_
    refine va_get (D := (dC, dI)) (ci := 9) (v := .ref (a0 0)) (C := RX9) (T := TX9) (N := 3) hx hb hts hinX9 hown hK hP 0 rfl rfl 0 (by decide) f1 (fun _ h9 => h9) rfl dX9_codeOfSign_1 ?_
    refine lv_iload_n hx hb dX9_codeOfSign_4 rfl (lv_at hl 1 rfl) ?_
    have hPc := hP.sub (ws' := (rdW cB cI cJ cZ (a0 0) a1 M1 M2)) [1, 2] rfl
    have hDc := hD.sub (ws' := (rdW cB cI cJ cZ (a0 0) a1 M1 M2)) [1, 2] (by decide) rfl
    have hFc := va_free (wc := (rdW cB cI cJ cZ (a0 0) a1 M1 M2)) hD hS hA [1, 2] rfl
    refine va_calli (va_runV (As := [.int p1]) (rest := []) ⟨hx, hb, hml, hown, hts⟩ (kX7_isSign l dC dI cB cI cJ cZ (a0 0) a1 H.size p1 M1 M2 _ h) (cwV 1 hts gX9_codeOfSign_X7_isSign rfl rfl rfl (by decide +kernel) ⟨Nat.le_of_ble_eq_true rfl, Nat.le_of_ble_eq_true rfl⟩) (rdpV hK hPc hDc) rfl rfl hl.1 rfl (lv_room (Nat.le_of_ble_eq_true rfl)) dX9_codeOfSign_5 ⟨Nat.le_of_ble_eq_true rfl, Nat.le_of_ble_eq_true rfl⟩) hS (fun q _ z => hFc q z) hFc (fun r1 u t H1 locs ht hvm hw hB hz1 hk1 hS => ?_)
    obtain ⟨N2, N3⟩ := u
    obtain ⟨hP1, hK1, hD1⟩ := hB
    rw [ht] at hP1
    obtain ⟨hP, hD⟩ := va_join (wr := [(h0, .inr (9, [.ref (a0 0), .ref (a0 1), .int (mg M0 2)])), (a0 1, .inr (8, [.int (mg M3 0), .ref (a3 1), .ref (a3 2), .ref (a3 3), .int (mg M3 4), .ref (a3 5)])), (a3 1, .inl (cI, 12, .inl (ma M3 1))), (a3 2, .inl (cI, 12, .inl (ma M3 2))), (a3 3, .inl (cI, 400, .inl (ma M3 3))), (a3 5, .inl (cJ, 60, .inr (.inl (ml M3 5))))]) (w1 := (rdW cB cI cJ cZ (a0 0) a1 N2 N3)) hP hD [1, 2] [0, 3, 4, 5, 6, 7] rfl rfl (by decide) (by decide) hk1 hFc hP1 hD1
    have hP := hP.sub (ws' := (rrW cB cI cJ cZ h0 a0 a1 a3 M0 N2 N3 M3)) [0, 6, 7, 1, 2, 3, 4, 5] rfl
    have hD := hD.sub (ws' := (rrW cB cI cJ cZ h0 a0 a1 a3 M0 N2 N3 M3)) [0, 6, 7, 1, 2, 3, 4, 5] (by decide) rfl
    generalize H1 = H at hP hS ⊢
    obtain ⟨b4, rfl, h⟩ := hw
    try dsimp only at h
    refine lv_if_eq (tgt := 13) hx hb dX9_codeOfSign_8 (by decide) (fun c5 => ?_) (fun c5 => ?_)
    · have h := h.1 c5
      refine lv_aload_n hx hb dX9_codeOfSign_13 rfl (lv_at hl 0 rfl) ?_
      refine va_get (D := (dC, dI)) (ci := 9) (v := .ref (a0 0)) (C := RX9) (T := TX9) (N := 3) hx hb hts hinX9 hown hK hP 0 rfl rfl 0 (by decide) f1 (fun _ h9 => h9) rfl dX9_codeOfSign_14 ?_
      refine lv_iload_n hx hb dX9_codeOfSign_17 rfl (lv_at hl 3 rfl) ?_
      have hPc := hP.sub (ws' := (rdW cB cI cJ cZ (a0 0) a1 N2 N3)) [1, 2] rfl
      have hDc := hD.sub (ws' := (rdW cB cI cJ cZ (a0 0) a1 N2 N3)) [1, 2] (by decide) rfl
      have hFc := va_free (wc := (rdW cB cI cJ cZ (a0 0) a1 N2 N3)) hD hS hA [1, 2] rfl
      refine va_calli (va_runV (As := [.int p3]) (rest := []) ⟨hx, hb, hml, hown, hts⟩ (kX7_isSign l dC dI cB cI cJ cZ (a0 0) a1 H.size p3 N2 N3 _ h) (cwV 1 hts gX9_codeOfSign_X7_isSign rfl rfl rfl (by decide +kernel) ⟨Nat.le_of_ble_eq_true rfl, Nat.le_of_ble_eq_true rfl⟩) (rdpV hK hPc hDc) rfl rfl hl.1 rfl (lv_room (Nat.le_of_ble_eq_true rfl)) dX9_codeOfSign_18 ⟨Nat.le_of_ble_eq_true rfl, Nat.le_of_ble_eq_true rfl⟩) hS (fun q _ z => hFc q z) hFc (fun r6 u t H1 locs ht hvm hw hB hz1 hk1 hS => ?_)
      obtain ⟨N7, N8⟩ := u
      obtain ⟨hP1, hK1, hD1⟩ := hB
      rw [ht] at hP1
      obtain ⟨hP, hD⟩ := va_join (wr := [(h0, .inr (9, [.ref (a0 0), .ref (a0 1), .int (mg M0 2)])), (a0 1, .inr (8, [.int (mg M3 0), .ref (a3 1), .ref (a3 2), .ref (a3 3), .int (mg M3 4), .ref (a3 5)])), (a3 1, .inl (cI, 12, .inl (ma M3 1))), (a3 2, .inl (cI, 12, .inl (ma M3 2))), (a3 3, .inl (cI, 400, .inl (ma M3 3))), (a3 5, .inl (cJ, 60, .inr (.inl (ml M3 5))))]) (w1 := (rdW cB cI cJ cZ (a0 0) a1 N7 N8)) hP hD [1, 2] [0, 3, 4, 5, 6, 7] rfl rfl (by decide) (by decide) hk1 hFc hP1 hD1
      have hP := hP.sub (ws' := (rrW cB cI cJ cZ h0 a0 a1 a3 M0 N7 N8 M3)) [0, 6, 7, 1, 2, 3, 4, 5] rfl
      have hD := hD.sub (ws' := (rrW cB cI cJ cZ h0 a0 a1 a3 M0 N7 N8 M3)) [0, 6, 7, 1, 2, 3, 4, 5] (by decide) rfl
      generalize H1 = H at hP hS ⊢
      obtain ⟨b9, rfl, h⟩ := hw
      try dsimp only at h
      refine lv_if_eq (tgt := 29) hx hb dX9_codeOfSign_21 (by decide) (fun c10 => ?_) (fun c10 => ?_)
      · have h := h.1 c10
        refine lv_bipush (v := (-100)) hx hb dX9_codeOfSign_29 (by decide) ?_
        exact W.iret (v := (-100 : Int32)) hx hb hr (fun t ht hW => ⟨⟨_, (M0, N7, N8, M3), rfl, h, by rw [ht]; exact hP, va_K.moved hW.alike hK, hD⟩, hS.F ht⟩) hS.2.2 dX9_codeOfSign_31
      · have h := h.2 c10
        refine lv_iload hx hb dX9_codeOfSign_24 (lv_at hl 4 rfl) ?_
        refine lv_goto (tgt := 31) hx hb dX9_codeOfSign_26 (by decide) ?_
        exact W.iret (v := p4) hx hb hr (fun t ht hW => ⟨⟨_, (M0, N7, N8, M3), rfl, h, by rw [ht]; exact hP, va_K.moved hW.alike hK, hD⟩, hS.F ht⟩) hS.2.2 dX9_codeOfSign_31
    · have h := h.2 c5
      refine lv_iload_n hx hb dX9_codeOfSign_11 rfl (lv_at hl 2 rfl) ?_
      exact W.iret (v := p2) hx hb hr (fun t ht hW => ⟨⟨_, (M0, N2, N3, M3), rfl, h, by rw [ht]; exact hP, va_K.moved hW.alike hK, hD⟩, hS.F ht⟩) hS.2.2 dX9_codeOfSign_12
  have hl := lv_entry ([.ref h0, .int p1, .int p2, .int p3, .int p4]) (n := 5) (Nat.le_of_ble_eq_true rfl)
  rw [lg_entry_eq]
  generalize (lg_sl ([.ref h0, .int p1, .int p2, .int p3, .int p4]) ++ List.replicate (5 - (lg_sl ([.ref h0, .int p1, .int p2, .int p3, .int p4])).length) Slot.unset).toArray = ls at hl ⊢
  have hl : lv_has ls 5 [(0, .ref h0), (1, .int p1), (2, .int p2), (3, .int p3), (4, .int p4)] := hl
  exact bE M0 M1 M2 M3 s.heap [] ls hP hD hS hl h
def wX9_valueAhead_70  (Q : Int32 → gS → gS → gS → gS → Prop) (y1 : Int32) (M0 : gS) (M1 : gS) (M2 : gS) (M3 : gS) : Prop :=
 (wX9_isRoomForNode  M0 M1 M2 M3 (fun (b6 : Bool) (N2 : gS) (N3 : gS) (N4 : gS) (N5 : gS) => (((bI b6) = 0 → (Q (-100 : Int32) N2 N3 N4 N5))
 ∧ (¬ (bI b6) = 0 → ((y1 = (-1 : Int32) → (Q (mg N3 6) N2 N3 N4 N5))
 ∧ (¬ y1 = (-1 : Int32) → (Q ((-1 : Int32) - y1) N2 N3 N4 N5)))))))
def wX9_valueAhead_37  (Q : Int32 → gS → gS → gS → gS → Prop) (y1 : Int32) (M0 : gS) (M1 : gS) (M2 : gS) (M3 : gS) : Prop :=
 (((mg M1 4) = (2 : Int32) → (((mg M1 6) = (-1 : Int32) → (wX7_fail (1 : Int32) M1 M2 (fun (N4 : gS) (N5 : gS) => (Q (-100 : Int32) M0 N4 N5 M3))))
 ∧ (¬ (mg M1 6) = (-1 : Int32) → (wX9_valueAhead_70  Q y1 M0 M1 M2 M3))))
 ∧ (¬ (mg M1 4) = (2 : Int32) → (wX9_valueAhead_70  Q y1 M0 M1 M2 M3)))
def wX9_valueAhead  (M0 : gS) (M1 : gS) (M2 : gS) (M3 : gS) (Q : Int32 → gS → gS → gS → gS → Prop) : Prop :=
 (wX7_nameAmong 5 M1 M2 (fun (r1 : Int32) (N2 : gS) (N3 : gS) => (((mg N2 4) = (2 : Int32) → (wX9_valueAhead_37  Q r1 M0 N2 N3 M3))
 ∧ (¬ (mg N2 4) = (2 : Int32) → ((r1 = (-1 : Int32) → (wX7_fail (0 : Int32) N2 N3 (fun (N7 : gS) (N8 : gS) => (Q (-100 : Int32) M0 N7 N8 M3))))
 ∧ (¬ r1 = (-1 : Int32) → (wX9_valueAhead_37  Q r1 M0 N2 N3 M3)))))))
def rmX9_valueAhead : Room := { frames := 5, cells := 0, slots := 0, locals := 109 }
set_option maxHeartbeats 4000000 in
set_option maxRecDepth 100000 in
theorem kX9_valueAhead (l : Launch) (dC : Nat → ClassId) (dI : Nat → Nat → Nat) (cB cI cJ cZ : ClassId) (adK adV : Nat → Nat) (h0 : Nat) (a0 : Nat → Nat) (a1 : Nat → Nat) (a3 : Nat → Nat) (sz : Nat)  (M0 : gS) (M1 : gS) (M2 : gS) (M3 : gS) (Q : Int32 → gS → gS → gS → gS → Prop) (h : wX9_valueAhead  M0 M1 M2 M3 Q) : Met l yX9_valueAhead wsX9_valueAhead rmX9_valueAhead (va_Pc [.ref h0] (rrIS dC dI cB cI cJ cZ h0 a0 a1 a3 M0 M1 M2 M3 adK adV sz)) (va_Qi (fun (r : Int32) (u : gS × gS × gS × gS) => Q r u.1 u.2.1 u.2.2.1 u.2.2.2) (rrB dC dI cB cI cJ cZ h0 a0 a1 a3 (va_A (rrW cB cI cJ cZ h0 a0 a1 a3 M0 M1 M2 M3) sz)) (va_A (rrW cB cI cJ cZ h0 a0 a1 a3 M0 M1 M2 M3) sz)) 0 0 (va_A (rrW cB cI cJ cZ h0 a0 a1 a3 M0 M1 M2 M3) sz) := by
  refine Met.ofW (cc := cX9_valueAhead) (maxL := 2) (ret := (some .int)) (by decide) rfl ?_
  intro p e s m args below meth c s₁ B hml hv
  obtain ⟨rfl, ⟨hsz, hP, hK, hD0⟩, hR, hE⟩ := hv
  have hx := B.exec
  have hb := B.bytes
  have hr := B.returns
  have hts := atoms_spec (ws := wsX9_valueAhead) B.pre
  have hown : s.vm.findClass RX9 = some m.cls := findClass_of_methodNamed B.named
  have hlocks := B.notSynchronized
  subst hsz
  have hD := hD0.self (sz := s.heap.size)
  generalize hAe : va_A (rrW cB cI cJ cZ h0 a0 a1 a3 M0 M1 M2 M3) s.heap.size = A at hD hE ⊢
  have hA : ∀ q : Nat, s.heap.size ≤ q → A q := fun q h => by rw [← hAe]; exact Or.inr h
  have hS : va_S A s.heap s.heap [] := va_S.rf
  have hinX7 : ∀ w ∈ wsX70, w ∈ wsX9_valueAhead := by decide +kernel
  have hinX9 : ∀ w ∈ wsX90, w ∈ wsX9_valueAhead := by decide +kernel
  have f1 := hts (.fieldLink RX9 9 "LastWords$RuleReader" "in" "LLastWords$Reader;") (by decide +kernel)
  have f2 := hts (.fieldLink RX9 106 "LastWords$Reader" "number" "I") (by decide +kernel)
  have f3 := hts (.fieldLink RX9 91 "LastWords$Reader" "kind" "I") (by decide +kernel)
  have b70 : ∀ (y1 : Int32) (M0 : gS) (M1 : gS) (M2 : gS) (M3 : gS) (H : Heap) (locs : List Loc) (ls : Array Slot), va_P (dC, dI) vwCl (rrW cB cI cJ cZ h0 a0 a1 a3 M0 M1 M2 M3) H → va_D A (rrW cB cI cJ cZ h0 a0 a1 a3 M0 M1 M2 M3) → va_S A s.heap H locs → lv_has ls 2 [(0, .ref h0), (1, .int y1)] → wX9_valueAhead_70  Q y1 M0 M1 M2 M3 → W p l e (headSpec wsX9_valueAhead rmX9_valueAhead).room s m ([.ref h0] : List Value).toArray below meth c H locs 0 0 (MQ below (va_Qi (fun (r : Int32) (u : gS × gS × gS × gS) => Q r u.1 u.2.1 u.2.2.1 u.2.2.2) (rrB dC dI cB cI cJ cZ h0 a0 a1 a3 A) A) ([.ref h0] : List Value).toArray s 0 0 A) (F0 m 70 ls []) := by
    intro  y1 M0 M1 M2 M3 H locs ls hP hD hS hl h
    unfold wX9_valueAhead_70 at h
    refine lv_aload_n hx hb dX9_valueAhead_70 rfl (lv_at hl 0 rfl) ?_
    have hFc := gs_free hD hS hA
    refine va_calli (va_runV (As := []) (rest := []) ⟨hx, hb, hml, hown, hts⟩ (kX9_isRoomForNode l dC dI cB cI cJ cZ h0 a0 a1 a3 H.size  M0 M1 M2 M3 _ h) (cwV 0 hts gX9_valueAhead_X9_isRoomForNode rfl rfl rfl (by decide +kernel) ⟨Nat.le_of_ble_eq_true rfl, Nat.le_of_ble_eq_true rfl⟩) (rrpV hK hP hD) rfl rfl hl.1 rfl (lv_room (Nat.le_of_ble_eq_true rfl)) dX9_valueAhead_71 ⟨Nat.le_of_ble_eq_true rfl, Nat.le_of_ble_eq_true rfl⟩) hS (fun q _ z => hFc q z) hFc (fun r1 u t H1 locs ht hvm hw hB hz1 hk1 hS => ?_)
    obtain ⟨N2, N3, N4, N5⟩ := u
    obtain ⟨hP, hD⟩ := gs_back ht hFc hB
    generalize H1 = H at hP hS ⊢
    obtain ⟨b6, rfl, h⟩ := hw
    try dsimp only at h
    refine lv_if_ne (tgt := 80) hx hb dX9_valueAhead_74 (by decide) (fun c7 => ?_) (fun c7 => ?_)
    · have h := h.2 c7
      refine lv_iload_n hx hb dX9_valueAhead_80 rfl (lv_at hl 1 rfl) ?_
      refine lv_iconst (v := (-1)) hx hb dX9_valueAhead_81 (by decide) ?_
      refine lv_icmp_ne (tgt := 95) hx hb dX9_valueAhead_82 (by decide) (fun c8 => ?_) (fun c8 => ?_)
      · have h := h.2 c8
        refine lv_iconst (v := (-1)) hx hb dX9_valueAhead_95 (by decide) ?_
        refine lv_iload_n hx hb dX9_valueAhead_96 rfl (lv_at hl 1 rfl) ?_
        refine lv_isub hx hb dX9_valueAhead_97 ?_
        exact W.iret (v := ((-1 : Int32) - y1)) hx hb hr (fun t ht hW => ⟨⟨_, (N2, N3, N4, N5), rfl, h, by rw [ht]; exact hP, va_K.moved hW.alike hK, hD⟩, hS.F ht⟩) hS.2.2 dX9_valueAhead_98
      · have h := h.1 c8
        refine lv_aload_n hx hb dX9_valueAhead_85 rfl (lv_at hl 0 rfl) ?_
        refine va_get (D := (dC, dI)) (ci := 9) (v := .ref (a0 0)) (C := RX9) (T := TX9) (N := 3) hx hb hts hinX9 hown hK hP 0 rfl rfl 0 (by decide) f1 (fun _ h9 => h9) rfl dX9_valueAhead_86 ?_
        refine va_get (D := (dC, dI)) (ci := 7) (v := .int (mg N3 6)) (C := RX7) (T := TX7) (N := 8) hx hb hts hinX7 hown hK hP 1 rfl rfl 6 (by decide) f2 (fun _ h9 => h9) rfl dX9_valueAhead_89 ?_
        refine lv_goto (tgt := 98) hx hb dX9_valueAhead_92 (by decide) ?_
        exact W.iret (v := (mg N3 6)) hx hb hr (fun t ht hW => ⟨⟨_, (N2, N3, N4, N5), rfl, h, by rw [ht]; exact hP, va_K.moved hW.alike hK, hD⟩, hS.F ht⟩) hS.2.2 dX9_valueAhead_98
    · have h := h.1 c7
      refine lv_bipush (v := (-100)) hx hb dX9_valueAhead_77 (by decide) ?_
      exact W.iret (v := (-100 : Int32)) hx hb hr (fun t ht hW => ⟨⟨_, (N2, N3, N4, N5), rfl, h, by rw [ht]; exact hP, va_K.moved hW.alike hK, hD⟩, hS.F ht⟩) hS.2.2 dX9_valueAhead_79
  have b37 : ∀ (y1 : Int32) (M0 : gS) (M1 : gS) (M2 : gS) (M3 : gS) (H : Heap) (locs : List Loc) (ls : Array Slot), va_P (dC, dI) vwCl (rrW cB cI cJ cZ h0 a0 a1 a3 M0 M1 M2 M3) H → va_D A (rrW cB cI cJ cZ h0 a0 a1 a3 M0 M1 M2 M3) → va_S A s.heap H locs → lv_has ls 2 [(0, .ref h0), (1, .int y1)] → wX9_valueAhead_37  Q y1 M0 M1 M2 M3 → W p l e (headSpec wsX9_valueAhead rmX9_valueAhead).room s m ([.ref h0] : List Value).toArray below meth c H locs 0 0 (MQ below (va_Qi (fun (r : Int32) (u : gS × gS × gS × gS) => Q r u.1 u.2.1 u.2.2.1 u.2.2.2) (rrB dC dI cB cI cJ cZ h0 a0 a1 a3 A) A) ([.ref h0] : List Value).toArray s 0 0 A) (F0 m 37 ls []) := by
    intro  y1 M0 M1 M2 M3 H locs ls hP hD hS hl h
    unfold wX9_valueAhead_37 at h
    refine lv_aload_n hx hb dX9_valueAhead_37 rfl (lv_at hl 0 rfl) ?_
    refine va_get (D := (dC, dI)) (ci := 9) (v := .ref (a0 0)) (C := RX9) (T := TX9) (N := 3) hx hb hts hinX9 hown hK hP 0 rfl rfl 0 (by decide) f1 (fun _ h9 => h9) rfl dX9_valueAhead_38 ?_
    refine va_get (D := (dC, dI)) (ci := 7) (v := .int (mg M1 4)) (C := RX7) (T := TX7) (N := 8) hx hb hts hinX7 hown hK hP 1 rfl rfl 4 (by decide) f3 (fun _ h9 => h9) rfl dX9_valueAhead_41 ?_
    refine lv_iconst (v := 2) hx hb dX9_valueAhead_44 (by decide) ?_
    refine lv_icmp_ne (tgt := 70) hx hb dX9_valueAhead_45 (by decide) (fun c1 => ?_) (fun c1 => ?_)
    · have h := h.2 c1
      exact b70  y1 M0 M1 M2 M3 H locs ls hP hD hS (lv_sub hl [0, 1] rfl) h
    · have h := h.1 c1
      refine lv_aload_n hx hb dX9_valueAhead_48 rfl (lv_at hl 0 rfl) ?_
      refine va_get (D := (dC, dI)) (ci := 9) (v := .ref (a0 0)) (C := RX9) (T := TX9) (N := 3) hx hb hts hinX9 hown hK hP 0 rfl rfl 0 (by decide) f1 (fun _ h9 => h9) rfl dX9_valueAhead_49 ?_
      refine va_get (D := (dC, dI)) (ci := 7) (v := .int (mg M1 6)) (C := RX7) (T := TX7) (N := 8) hx hb hts hinX7 hown hK hP 1 rfl rfl 6 (by decide) f2 (fun _ h9 => h9) rfl dX9_valueAhead_52 ?_
      refine lv_iconst (v := (-1)) hx hb dX9_valueAhead_55 (by decide) ?_
      refine lv_icmp_ne (tgt := 70) hx hb dX9_valueAhead_56 (by decide) (fun c2 => ?_) (fun c2 => ?_)
      · have h := h.2 c2
        exact b70  y1 M0 M1 M2 M3 H locs ls hP hD hS (lv_sub hl [0, 1] rfl) h
      · have h := h.1 c2
        refine lv_aload_n hx hb dX9_valueAhead_59 rfl (lv_at hl 0 rfl) ?_
        refine va_get (D := (dC, dI)) (ci := 9) (v := .ref (a0 0)) (C := RX9) (T := TX9) (N := 3) hx hb hts hinX9 hown hK hP 0 rfl rfl 0 (by decide) f1 (fun _ h9 => h9) rfl dX9_valueAhead_60 ?_
        refine lv_iconst (v := 1) hx hb dX9_valueAhead_63 (by decide) ?_
        have hPc := hP.sub (ws' := (rdW cB cI cJ cZ (a0 0) a1 M1 M2)) [1, 2] rfl
        have hDc := hD.sub (ws' := (rdW cB cI cJ cZ (a0 0) a1 M1 M2)) [1, 2] (by decide) rfl
        have hFc := va_free (wc := (rdW cB cI cJ cZ (a0 0) a1 M1 M2)) hD hS hA [1, 2] rfl
        refine va_callv (va_runV (As := [.int (1 : Int32)]) (rest := []) ⟨hx, hb, hml, hown, hts⟩ (kX7_fail l dC dI cB cI cJ cZ (a0 0) a1 H.size (1 : Int32) M1 M2 _ h) (cwV 1 hts gX9_valueAhead_X7_fail rfl rfl rfl (by decide +kernel) ⟨Nat.le_of_ble_eq_true rfl, Nat.le_of_ble_eq_true rfl⟩) (rdpV hK hPc hDc) rfl rfl hl.1 rfl (lv_room (Nat.le_of_ble_eq_true rfl)) dX9_valueAhead_64 ⟨Nat.le_of_ble_eq_true rfl, Nat.le_of_ble_eq_true rfl⟩) hS (fun q _ z => hFc q z) hFc (fun u t H1 locs ht hvm hw hB hz1 hk1 hS => ?_)
        obtain ⟨N4, N5⟩ := u
        obtain ⟨hP1, hK1, hD1⟩ := hB
        rw [ht] at hP1
        obtain ⟨hP, hD⟩ := va_join (wr := [(h0, .inr (9, [.ref (a0 0), .ref (a0 1), .int (mg M0 2)])), (a0 1, .inr (8, [.int (mg M3 0), .ref (a3 1), .ref (a3 2), .ref (a3 3), .int (mg M3 4), .ref (a3 5)])), (a3 1, .inl (cI, 12, .inl (ma M3 1))), (a3 2, .inl (cI, 12, .inl (ma M3 2))), (a3 3, .inl (cI, 400, .inl (ma M3 3))), (a3 5, .inl (cJ, 60, .inr (.inl (ml M3 5))))]) (w1 := (rdW cB cI cJ cZ (a0 0) a1 N4 N5)) hP hD [1, 2] [0, 3, 4, 5, 6, 7] rfl rfl (by decide) (by decide) hk1 hFc hP1 hD1
        have hP := hP.sub (ws' := (rrW cB cI cJ cZ h0 a0 a1 a3 M0 N4 N5 M3)) [0, 6, 7, 1, 2, 3, 4, 5] rfl
        have hD := hD.sub (ws' := (rrW cB cI cJ cZ h0 a0 a1 a3 M0 N4 N5 M3)) [0, 6, 7, 1, 2, 3, 4, 5] (by decide) rfl
        generalize H1 = H at hP hS ⊢
        have h := hw
        try dsimp only at h
        refine lv_bipush (v := (-100)) hx hb dX9_valueAhead_67 (by decide) ?_
        exact W.iret (v := (-100 : Int32)) hx hb hr (fun t ht hW => ⟨⟨_, (M0, N4, N5, M3), rfl, h, by rw [ht]; exact hP, va_K.moved hW.alike hK, hD⟩, hS.F ht⟩) hS.2.2 dX9_valueAhead_69
  have bE : ∀ (M0 : gS) (M1 : gS) (M2 : gS) (M3 : gS) (H : Heap) (locs : List Loc) (ls : Array Slot), va_P (dC, dI) vwCl (rrW cB cI cJ cZ h0 a0 a1 a3 M0 M1 M2 M3) H → va_D A (rrW cB cI cJ cZ h0 a0 a1 a3 M0 M1 M2 M3) → va_S A s.heap H locs → lv_has ls 2 [(0, .ref h0)] → wX9_valueAhead  M0 M1 M2 M3 Q → W p l e (headSpec wsX9_valueAhead rmX9_valueAhead).room s m ([.ref h0] : List Value).toArray below meth c H locs 0 0 (MQ below (va_Qi (fun (r : Int32) (u : gS × gS × gS × gS) => Q r u.1 u.2.1 u.2.2.1 u.2.2.2) (rrB dC dI cB cI cJ cZ h0 a0 a1 a3 A) A) ([.ref h0] : List Value).toArray s 0 0 A) (F0 m 0 ls []) := by
    intro M0 M1 M2 M3 H locs ls hP hD hS hl h
    unfold wX9_valueAhead at h
    refine lv_aload_n hx hb dX9_valueAhead_0 rfl (lv_at hl 0 rfl) ?_
    refine va_get (D := (dC, dI)) (ci := 9) (v := .ref (a0 0)) (C := RX9) (T := TX9) (N := 3) hx hb hts hinX9 hown hK hP 0 rfl rfl 0 (by decide) f1 (fun _ h9 => h9) rfl dX9_valueAhead_1 ?_
    refine va_ldcS hx hb hown hR.l5 dX9_valueAhead_4 ?_
    have hPc := hP.sub (ws' := (rdW cB cI cJ cZ (a0 0) a1 M1 M2)) [1, 2] rfl
    have hDc := hD.sub (ws' := (rdW cB cI cJ cZ (a0 0) a1 M1 M2)) [1, 2] (by decide) rfl
    have hFc := va_free (wc := (rdW cB cI cJ cZ (a0 0) a1 M1 M2)) hD hS hA [1, 2] rfl
    refine va_calli (va_runV (As := [.ref (adK 5)]) (rest := []) ⟨hx, hb, hml, hown, hts⟩ (kX7_nameAmong l dC dI cB cI cJ cZ adK adV (a0 0) a1 H.size 5 M1 M2 _ h) (cwV 1 hts gX9_valueAhead_X7_nameAmong rfl rfl rfl (by decide +kernel) ⟨Nat.le_of_ble_eq_true rfl, Nat.le_of_ble_eq_true rfl⟩) (rdpVS hK hPc hDc hR hE hS hFc) rfl rfl hl.1 rfl (lv_room (Nat.le_of_ble_eq_true rfl)) dX9_valueAhead_6 ⟨Nat.le_of_ble_eq_true rfl, Nat.le_of_ble_eq_true rfl⟩) hS (fun q _ z => hFc q z) hFc (fun r1 u t H1 locs ht hvm hw hB hz1 hk1 hS => ?_)
    obtain ⟨N2, N3⟩ := u
    obtain ⟨hP1, hK1, hD1⟩ := hB
    rw [ht] at hP1
    obtain ⟨hP, hD⟩ := va_join (wr := [(h0, .inr (9, [.ref (a0 0), .ref (a0 1), .int (mg M0 2)])), (a0 1, .inr (8, [.int (mg M3 0), .ref (a3 1), .ref (a3 2), .ref (a3 3), .int (mg M3 4), .ref (a3 5)])), (a3 1, .inl (cI, 12, .inl (ma M3 1))), (a3 2, .inl (cI, 12, .inl (ma M3 2))), (a3 3, .inl (cI, 400, .inl (ma M3 3))), (a3 5, .inl (cJ, 60, .inr (.inl (ml M3 5))))]) (w1 := (rdW cB cI cJ cZ (a0 0) a1 N2 N3)) hP hD [1, 2] [0, 3, 4, 5, 6, 7] rfl rfl (by decide) (by decide) hk1 hFc hP1 hD1
    have hP := hP.sub (ws' := (rrW cB cI cJ cZ h0 a0 a1 a3 M0 N2 N3 M3)) [0, 6, 7, 1, 2, 3, 4, 5] rfl
    have hD := hD.sub (ws' := (rrW cB cI cJ cZ h0 a0 a1 a3 M0 N2 N3 M3)) [0, 6, 7, 1, 2, 3, 4, 5] (by decide) rfl
    generalize H1 = H at hP hS ⊢
    have h := hw
    try dsimp only at h
    refine lv_istore_n (lv' := [(1, .int r1), (0, .ref h0)]) hx hb dX9_valueAhead_9 rfl hl (by decide) rfl (fun ls hl => ?_)
    refine lv_aload_n hx hb dX9_valueAhead_10 rfl (lv_at hl 1 rfl) ?_
    refine va_get (D := (dC, dI)) (ci := 9) (v := .ref (a0 0)) (C := RX9) (T := TX9) (N := 3) hx hb hts hinX9 hown hK hP 0 rfl rfl 0 (by decide) f1 (fun _ h9 => h9) rfl dX9_valueAhead_11 ?_
    refine va_get (D := (dC, dI)) (ci := 7) (v := .int (mg N2 4)) (C := RX7) (T := TX7) (N := 8) hx hb hts hinX7 hown hK hP 1 rfl rfl 4 (by decide) f3 (fun _ h9 => h9) rfl dX9_valueAhead_14 ?_
    refine lv_iconst (v := 2) hx hb dX9_valueAhead_17 (by decide) ?_
    refine lv_icmp_eq (tgt := 37) hx hb dX9_valueAhead_18 (by decide) (fun c4 => ?_) (fun c4 => ?_)
    · have h := h.1 c4
      exact b37  r1 M0 N2 N3 M3 H locs ls hP hD hS (lv_sub hl [1, 0] rfl) h
    · have h := h.2 c4
      refine lv_iload_n hx hb dX9_valueAhead_21 rfl (lv_at hl 0 rfl) ?_
      refine lv_iconst (v := (-1)) hx hb dX9_valueAhead_22 (by decide) ?_
      refine lv_icmp_ne (tgt := 37) hx hb dX9_valueAhead_23 (by decide) (fun c5 => ?_) (fun c5 => ?_)
      · have h := h.2 c5
        exact b37  r1 M0 N2 N3 M3 H locs ls hP hD hS (lv_sub hl [1, 0] rfl) h
      · have h := h.1 c5
        refine lv_aload_n hx hb dX9_valueAhead_26 rfl (lv_at hl 1 rfl) ?_
        refine va_get (D := (dC, dI)) (ci := 9) (v := .ref (a0 0)) (C := RX9) (T := TX9) (N := 3) hx hb hts hinX9 hown hK hP 0 rfl rfl 0 (by decide) f1 (fun _ h9 => h9) rfl dX9_valueAhead_27 ?_
        refine lv_iconst (v := 0) hx hb dX9_valueAhead_30 (by decide) ?_
        have hPc := hP.sub (ws' := (rdW cB cI cJ cZ (a0 0) a1 N2 N3)) [1, 2] rfl
        have hDc := hD.sub (ws' := (rdW cB cI cJ cZ (a0 0) a1 N2 N3)) [1, 2] (by decide) rfl
        have hFc := va_free (wc := (rdW cB cI cJ cZ (a0 0) a1 N2 N3)) hD hS hA [1, 2] rfl
        refine va_callv (va_runV (As := [.int (0 : Int32)]) (rest := []) ⟨hx, hb, hml, hown, hts⟩ (kX7_fail l dC dI cB cI cJ cZ (a0 0) a1 H.size (0 : Int32) N2 N3 _ h) (cwV 1 hts gX9_valueAhead_X7_fail rfl rfl rfl (by decide +kernel) ⟨Nat.le_of_ble_eq_true rfl, Nat.le_of_ble_eq_true rfl⟩) (rdpV hK hPc hDc) rfl rfl hl.1 rfl (lv_room (Nat.le_of_ble_eq_true rfl)) dX9_valueAhead_31 ⟨Nat.le_of_ble_eq_true rfl, Nat.le_of_ble_eq_true rfl⟩) hS (fun q _ z => hFc q z) hFc (fun u t H1 locs ht hvm hw hB hz1 hk1 hS => ?_)
        obtain ⟨N7, N8⟩ := u
        obtain ⟨hP1, hK1, hD1⟩ := hB
        rw [ht] at hP1
        obtain ⟨hP, hD⟩ := va_join (wr := [(h0, .inr (9, [.ref (a0 0), .ref (a0 1), .int (mg M0 2)])), (a0 1, .inr (8, [.int (mg M3 0), .ref (a3 1), .ref (a3 2), .ref (a3 3), .int (mg M3 4), .ref (a3 5)])), (a3 1, .inl (cI, 12, .inl (ma M3 1))), (a3 2, .inl (cI, 12, .inl (ma M3 2))), (a3 3, .inl (cI, 400, .inl (ma M3 3))), (a3 5, .inl (cJ, 60, .inr (.inl (ml M3 5))))]) (w1 := (rdW cB cI cJ cZ (a0 0) a1 N7 N8)) hP hD [1, 2] [0, 3, 4, 5, 6, 7] rfl rfl (by decide) (by decide) hk1 hFc hP1 hD1
        have hP := hP.sub (ws' := (rrW cB cI cJ cZ h0 a0 a1 a3 M0 N7 N8 M3)) [0, 6, 7, 1, 2, 3, 4, 5] rfl
        have hD := hD.sub (ws' := (rrW cB cI cJ cZ h0 a0 a1 a3 M0 N7 N8 M3)) [0, 6, 7, 1, 2, 3, 4, 5] (by decide) rfl
        generalize H1 = H at hP hS ⊢
        have h := hw
        try dsimp only at h
        refine lv_bipush (v := (-100)) hx hb dX9_valueAhead_34 (by decide) ?_
        exact W.iret (v := (-100 : Int32)) hx hb hr (fun t ht hW => ⟨⟨_, (M0, N7, N8, M3), rfl, h, by rw [ht]; exact hP, va_K.moved hW.alike hK, hD⟩, hS.F ht⟩) hS.2.2 dX9_valueAhead_36
  have hl := lv_entry ([.ref h0]) (n := 2) (Nat.le_of_ble_eq_true rfl)
  rw [lg_entry_eq]
  generalize (lg_sl ([.ref h0]) ++ List.replicate (2 - (lg_sl ([.ref h0])).length) Slot.unset).toArray = ls at hl ⊢
  have hl : lv_has ls 2 [(0, .ref h0)] := hl
  exact bE M0 M1 M2 M3 s.heap [] ls hP hD hS hl h
def wX9_readSum_116 (B8 : Int32 → Int32 → Int32 → gS → gS → gS → gS → Prop) (Q : gS → gS → gS → gS → Prop) (y1 : Int32) (y2 : Int32) (y3 : Int32) (M0 : gS) (M1 : gS) (M2 : gS) (M3 : gS) : Prop :=
 (wX7_advance  M1 M2 (fun (N2 : gS) (N3 : gS) => (∀ x4 : Int32, x4 = y3 + (1 : Int32) → (B8 y1 y2 x4 M0 N2 N3 M3))))
def wX9_readSum_103 (B8 : Int32 → Int32 → Int32 → gS → gS → gS → gS → Prop) (Q : gS → gS → gS → gS → Prop) (y1 : Int32) (y2 : Int32) (y3 : Int32) (M0 : gS) (M1 : gS) (M2 : gS) (M3 : gS) : Prop :=
 ((y1 = (-100 : Int32) → ((y2 = (-100 : Int32) → (Q M0 M1 M2 M3))
 ∧ (¬ y2 = (-100 : Int32) → (wX9_readSum_116 B8 Q y1 y2 y3 M0 M1 M2 M3))))
 ∧ (¬ y1 = (-100 : Int32) → (wX9_readSum_116 B8 Q y1 y2 y3 M0 M1 M2 M3)))
def wX9_readSum_90 (B8 : Int32 → Int32 → Int32 → gS → gS → gS → gS → Prop) (Q : gS → gS → gS → gS → Prop) (y1 : Int32) (y3 : Int32) (M0 : gS) (M1 : gS) (M2 : gS) (M3 : gS) : Prop :=
 (wX9_codeOfSign (43 : Int32) (-10 : Int32) (45 : Int32) (-11 : Int32) M0 M1 M2 M3 (fun (r1 : Int32) (N2 : gS) (N3 : gS) (N4 : gS) (N5 : gS) => (wX9_readSum_103 B8 Q y1 r1 y3 N2 N3 N4 N5)))
def wX9_readSum_57 (B8 : Int32 → Int32 → Int32 → gS → gS → gS → gS → Prop) (Q : gS → gS → gS → gS → Prop) (y2 : Int32) (y3 : Int32) (M0 : gS) (M1 : gS) (M2 : gS) (M3 : gS) : Prop :=
 (wX9_codeOfSign (42 : Int32) (-12 : Int32) (47 : Int32) (-13 : Int32) M0 M1 M2 M3 (fun (r1 : Int32) (N2 : gS) (N3 : gS) (N4 : gS) (N5 : gS) => ((r1 = (-100 : Int32) → ((y2 = (-100 : Int32) → (wX9_readSum_90 B8 Q r1 y3 N2 N3 N4 N5))
 ∧ (¬ y2 = (-100 : Int32) → (wX8_put y2 N5 (fun (N9 : gS) => (wX9_readSum_90 B8 Q r1 y3 N2 N3 N4 N9))))))
 ∧ (¬ r1 = (-100 : Int32) → (wX9_readSum_103 B8 Q r1 y2 y3 N2 N3 N4 N5)))))
def wX9_readSum_8  (Q : gS → gS → gS → gS → Prop) : Nat → Int32 → Int32 → Int32 → gS → gS → gS → gS → Prop
 | 0, _, _, _, _, _, _, _ => False
 | n + 1, y1, y2, y3, M0, M1, M2, M3 => (((400 : Int32) ≤ y3 → (Q M0 M1 M2 M3))
 ∧ (¬ (400 : Int32) ≤ y3 → (((mg M1 7) = 0 → (wX9_valueAhead  M0 M1 M2 M3 (fun (r3 : Int32) (N4 : gS) (N5 : gS) (N6 : gS) (N7 : gS) => (wX8_put r3 N7 (fun (N9 : gS) => (wX7_advance  N5 N6 (fun (N11 : gS) (N12 : gS) => ((y1 = (-100 : Int32) → (wX9_readSum_57 (fun (y1 : Int32) (y2 : Int32) (y3 : Int32) (M0 : gS) (M1 : gS) (M2 : gS) (M3 : gS) => wX9_readSum_8  Q n y1 y2 y3 M0 M1 M2 M3) Q y2 y3 N4 N11 N12 N9))
 ∧ (¬ y1 = (-100 : Int32) → (wX8_put y1 N9 (fun (N15 : gS) => (wX9_readSum_57 (fun (y1 : Int32) (y2 : Int32) (y3 : Int32) (M0 : gS) (M1 : gS) (M2 : gS) (M3 : gS) => wX9_readSum_8  Q n y1 y2 y3 M0 M1 M2 M3) Q y2 y3 N4 N11 N12 N15))))))))))))
 ∧ (¬ (mg M1 7) = 0 → (Q M0 M1 M2 M3)))))
def wX9_readSum  (M0 : gS) (M1 : gS) (M2 : gS) (M3 : gS) (Q : gS → gS → gS → gS → Prop) : Prop :=
 (∃ k8 : Nat, wX9_readSum_8  Q k8 (-100 : Int32) (-100 : Int32) (0 : Int32) M0 M1 M2 M3)
def rmX9_readSum : Room := { frames := 6, cells := 0, slots := 0, locals := 130 }
set_option maxHeartbeats 4000000 in
set_option maxRecDepth 100000 in
theorem kX9_readSum (l : Launch) (dC : Nat → ClassId) (dI : Nat → Nat → Nat) (cB cI cJ cZ : ClassId) (adK adV : Nat → Nat) (h0 : Nat) (a0 : Nat → Nat) (a1 : Nat → Nat) (a3 : Nat → Nat) (sz : Nat)  (M0 : gS) (M1 : gS) (M2 : gS) (M3 : gS) (Q : gS → gS → gS → gS → Prop) (h : wX9_readSum  M0 M1 M2 M3 Q) : Met l yX9_readSum wsX9_readSum rmX9_readSum (va_Pc [.ref h0] (rrIS dC dI cB cI cJ cZ h0 a0 a1 a3 M0 M1 M2 M3 adK adV sz)) (va_Qv (fun (u : gS × gS × gS × gS) => Q u.1 u.2.1 u.2.2.1 u.2.2.2) (rrB dC dI cB cI cJ cZ h0 a0 a1 a3 (va_A (rrW cB cI cJ cZ h0 a0 a1 a3 M0 M1 M2 M3) sz)) (va_A (rrW cB cI cJ cZ h0 a0 a1 a3 M0 M1 M2 M3) sz)) 0 0 (va_A (rrW cB cI cJ cZ h0 a0 a1 a3 M0 M1 M2 M3) sz) := by
  refine Met.ofW (cc := cX9_readSum) (maxL := 4) (ret := none) (by decide) rfl ?_
  intro p e s m args below meth c s₁ B hml hv
  obtain ⟨rfl, ⟨hsz, hP, hK, hD0⟩, hR, hE⟩ := hv
  have hx := B.exec
  have hb := B.bytes
  have hr := B.returns
  have hts := atoms_spec (ws := wsX9_readSum) B.pre
  have hown : s.vm.findClass RX9 = some m.cls := findClass_of_methodNamed B.named
  have hlocks := B.notSynchronized
  subst hsz
  have hD := hD0.self (sz := s.heap.size)
  generalize hAe : va_A (rrW cB cI cJ cZ h0 a0 a1 a3 M0 M1 M2 M3) s.heap.size = A at hD hE ⊢
  have hA : ∀ q : Nat, s.heap.size ≤ q → A q := fun q h => by rw [← hAe]; exact Or.inr h
  have hS : va_S A s.heap s.heap [] := va_S.rf
  have hinX7 : ∀ w ∈ wsX70, w ∈ wsX9_readSum := by decide +kernel
  have hinX9 : ∀ w ∈ wsX90, w ∈ wsX9_readSum := by decide +kernel
  have f1 := hts (.fieldLink RX9 9 "LastWords$RuleReader" "in" "LLastWords$Reader;") (by decide +kernel)
  have f2 := hts (.fieldLink RX9 15 "LastWords$RuleReader" "rule" "LLastWords$Rule;") (by decide +kernel)
  have f3 := hts (.fieldLink RX9 37 "LastWords$Reader" "fault" "I") (by decide +kernel)
  have b116 : ∀ (B8 : Int32 → Int32 → Int32 → gS → gS → gS → gS → Prop) (hB8 : ∀ (y1 : Int32) (y2 : Int32) (y3 : Int32) (M0 : gS) (M1 : gS) (M2 : gS) (M3 : gS) (H : Heap) (locs : List Loc) (ls : Array Slot), va_P (dC, dI) vwCl (rrW cB cI cJ cZ h0 a0 a1 a3 M0 M1 M2 M3) H → va_D A (rrW cB cI cJ cZ h0 a0 a1 a3 M0 M1 M2 M3) → va_S A s.heap H locs → lv_has ls 4 [(0, .ref h0), (1, .int y1), (2, .int y2), (3, .int y3)] → B8 y1 y2 y3 M0 M1 M2 M3 → W p l e (headSpec wsX9_readSum rmX9_readSum).room s m ([.ref h0] : List Value).toArray below meth c H locs 0 0 (MQ below (va_Qv (fun (u : gS × gS × gS × gS) => Q u.1 u.2.1 u.2.2.1 u.2.2.2) (rrB dC dI cB cI cJ cZ h0 a0 a1 a3 A) A) ([.ref h0] : List Value).toArray s 0 0 A) (F0 m 8 ls [])) (y1 : Int32) (y2 : Int32) (y3 : Int32) (M0 : gS) (M1 : gS) (M2 : gS) (M3 : gS) (H : Heap) (locs : List Loc) (ls : Array Slot), va_P (dC, dI) vwCl (rrW cB cI cJ cZ h0 a0 a1 a3 M0 M1 M2 M3) H → va_D A (rrW cB cI cJ cZ h0 a0 a1 a3 M0 M1 M2 M3) → va_S A s.heap H locs → lv_has ls 4 [(0, .ref h0), (1, .int y1), (2, .int y2), (3, .int y3)] → wX9_readSum_116 B8 Q y1 y2 y3 M0 M1 M2 M3 → W p l e (headSpec wsX9_readSum rmX9_readSum).room s m ([.ref h0] : List Value).toArray below meth c H locs 0 0 (MQ below (va_Qv (fun (u : gS × gS × gS × gS) => Q u.1 u.2.1 u.2.2.1 u.2.2.2) (rrB dC dI cB cI cJ cZ h0 a0 a1 a3 A) A) ([.ref h0] : List Value).toArray s 0 0 A) (F0 m 116 ls []) := by
    intro B8 hB8 y1 y2 y3 M0 M1 M2 M3 H locs ls hP hD hS hl h
    unfold wX9_readSum_116 at h
    refine lv_aload_n hx hb dX9_readSum_116 rfl (lv_at hl 0 rfl) ?_
    refine va_get (D := (dC, dI)) (ci := 9) (v := .ref (a0 0)) (C := RX9) (T := TX9) (N := 3) hx hb hts hinX9 hown hK hP 0 rfl rfl 0 (by decide) f1 (fun _ h9 => h9) rfl dX9_readSum_117 ?_
    have hPc := hP.sub (ws' := (rdW cB cI cJ cZ (a0 0) a1 M1 M2)) [1, 2] rfl
    have hDc := hD.sub (ws' := (rdW cB cI cJ cZ (a0 0) a1 M1 M2)) [1, 2] (by decide) rfl
    have hFc := va_free (wc := (rdW cB cI cJ cZ (a0 0) a1 M1 M2)) hD hS hA [1, 2] rfl
    refine va_callv (va_runV (As := []) (rest := []) ⟨hx, hb, hml, hown, hts⟩ (kX7_advance l dC dI cB cI cJ cZ (a0 0) a1 H.size  M1 M2 _ h) (cwV 0 hts gX9_readSum_X7_advance rfl rfl rfl (by decide +kernel) ⟨Nat.le_of_ble_eq_true rfl, Nat.le_of_ble_eq_true rfl⟩) (rdpV hK hPc hDc) rfl rfl hl.1 rfl (lv_room (Nat.le_of_ble_eq_true rfl)) dX9_readSum_120 ⟨Nat.le_of_ble_eq_true rfl, Nat.le_of_ble_eq_true rfl⟩) hS (fun q _ z => hFc q z) hFc (fun u t H1 locs ht hvm hw hB hz1 hk1 hS => ?_)
    obtain ⟨N2, N3⟩ := u
    obtain ⟨hP1, hK1, hD1⟩ := hB
    rw [ht] at hP1
    obtain ⟨hP, hD⟩ := va_join (wr := [(h0, .inr (9, [.ref (a0 0), .ref (a0 1), .int (mg M0 2)])), (a0 1, .inr (8, [.int (mg M3 0), .ref (a3 1), .ref (a3 2), .ref (a3 3), .int (mg M3 4), .ref (a3 5)])), (a3 1, .inl (cI, 12, .inl (ma M3 1))), (a3 2, .inl (cI, 12, .inl (ma M3 2))), (a3 3, .inl (cI, 400, .inl (ma M3 3))), (a3 5, .inl (cJ, 60, .inr (.inl (ml M3 5))))]) (w1 := (rdW cB cI cJ cZ (a0 0) a1 N2 N3)) hP hD [1, 2] [0, 3, 4, 5, 6, 7] rfl rfl (by decide) (by decide) hk1 hFc hP1 hD1
    have hP := hP.sub (ws' := (rrW cB cI cJ cZ h0 a0 a1 a3 M0 N2 N3 M3)) [0, 6, 7, 1, 2, 3, 4, 5] rfl
    have hD := hD.sub (ws' := (rrW cB cI cJ cZ h0 a0 a1 a3 M0 N2 N3 M3)) [0, 6, 7, 1, 2, 3, 4, 5] (by decide) rfl
    generalize H1 = H at hP hS ⊢
    have h := hw
    try dsimp only at h
    obtain ⟨x4, ex4⟩ : ∃ y : Int32, y = y3 + (1 : Int32) := ⟨_, rfl⟩
    have h := h x4 ex4
    refine lv_iinc (v := x4) (lv' := [(3, .int x4), (0, .ref h0), (1, .int y1), (2, .int y2)]) hx hb dX9_readSum_123 hl (k := 3) rfl (by rw [ex4]; rfl) (by decide) rfl (fun ls hl => ?_)
    refine lv_goto (tgt := 8) hx hb dX9_readSum_126 (by decide) ?_
    exact hB8 y1 y2 x4 M0 N2 N3 M3 H locs ls hP hD hS (lv_sub hl [1, 2, 3, 0] rfl) h
  have b103 : ∀ (B8 : Int32 → Int32 → Int32 → gS → gS → gS → gS → Prop) (hB8 : ∀ (y1 : Int32) (y2 : Int32) (y3 : Int32) (M0 : gS) (M1 : gS) (M2 : gS) (M3 : gS) (H : Heap) (locs : List Loc) (ls : Array Slot), va_P (dC, dI) vwCl (rrW cB cI cJ cZ h0 a0 a1 a3 M0 M1 M2 M3) H → va_D A (rrW cB cI cJ cZ h0 a0 a1 a3 M0 M1 M2 M3) → va_S A s.heap H locs → lv_has ls 4 [(0, .ref h0), (1, .int y1), (2, .int y2), (3, .int y3)] → B8 y1 y2 y3 M0 M1 M2 M3 → W p l e (headSpec wsX9_readSum rmX9_readSum).room s m ([.ref h0] : List Value).toArray below meth c H locs 0 0 (MQ below (va_Qv (fun (u : gS × gS × gS × gS) => Q u.1 u.2.1 u.2.2.1 u.2.2.2) (rrB dC dI cB cI cJ cZ h0 a0 a1 a3 A) A) ([.ref h0] : List Value).toArray s 0 0 A) (F0 m 8 ls [])) (y1 : Int32) (y2 : Int32) (y3 : Int32) (M0 : gS) (M1 : gS) (M2 : gS) (M3 : gS) (H : Heap) (locs : List Loc) (ls : Array Slot), va_P (dC, dI) vwCl (rrW cB cI cJ cZ h0 a0 a1 a3 M0 M1 M2 M3) H → va_D A (rrW cB cI cJ cZ h0 a0 a1 a3 M0 M1 M2 M3) → va_S A s.heap H locs → lv_has ls 4 [(0, .ref h0), (1, .int y1), (2, .int y2), (3, .int y3)] → wX9_readSum_103 B8 Q y1 y2 y3 M0 M1 M2 M3 → W p l e (headSpec wsX9_readSum rmX9_readSum).room s m ([.ref h0] : List Value).toArray below meth c H locs 0 0 (MQ below (va_Qv (fun (u : gS × gS × gS × gS) => Q u.1 u.2.1 u.2.2.1 u.2.2.2) (rrB dC dI cB cI cJ cZ h0 a0 a1 a3 A) A) ([.ref h0] : List Value).toArray s 0 0 A) (F0 m 103 ls []) := by
    intro B8 hB8 y1 y2 y3 M0 M1 M2 M3 H locs ls hP hD hS hl h
    unfold wX9_readSum_103 at h
    refine lv_iload_n hx hb dX9_readSum_103 rfl (lv_at hl 1 rfl) ?_
    refine lv_bipush (v := (-100)) hx hb dX9_readSum_104 (by decide) ?_
    refine lv_icmp_ne (tgt := 116) hx hb dX9_readSum_106 (by decide) (fun c1 => ?_) (fun c1 => ?_)
    · have h := h.2 c1
      exact b116 _ hB8 y1 y2 y3 M0 M1 M2 M3 H locs ls hP hD hS (lv_sub hl [0, 1, 2, 3] rfl) h
    · have h := h.1 c1
      refine lv_iload_n hx hb dX9_readSum_109 rfl (lv_at hl 2 rfl) ?_
      refine lv_bipush (v := (-100)) hx hb dX9_readSum_110 (by decide) ?_
      refine lv_icmp_ne (tgt := 116) hx hb dX9_readSum_112 (by decide) (fun c2 => ?_) (fun c2 => ?_)
      · have h := h.2 c2
        exact b116 _ hB8 y1 y2 y3 M0 M1 M2 M3 H locs ls hP hD hS (lv_sub hl [0, 1, 2, 3] rfl) h
      · have h := h.1 c2
        exact W.vret hx hb hr (fun t ht hW => ⟨⟨(M0, M1, M2, M3), rfl, h, by rw [ht]; exact hP, va_K.moved hW.alike hK, hD⟩, hS.F ht⟩) hS.2.2 dX9_readSum_115
  have b90 : ∀ (B8 : Int32 → Int32 → Int32 → gS → gS → gS → gS → Prop) (hB8 : ∀ (y1 : Int32) (y2 : Int32) (y3 : Int32) (M0 : gS) (M1 : gS) (M2 : gS) (M3 : gS) (H : Heap) (locs : List Loc) (ls : Array Slot), va_P (dC, dI) vwCl (rrW cB cI cJ cZ h0 a0 a1 a3 M0 M1 M2 M3) H → va_D A (rrW cB cI cJ cZ h0 a0 a1 a3 M0 M1 M2 M3) → va_S A s.heap H locs → lv_has ls 4 [(0, .ref h0), (1, .int y1), (2, .int y2), (3, .int y3)] → B8 y1 y2 y3 M0 M1 M2 M3 → W p l e (headSpec wsX9_readSum rmX9_readSum).room s m ([.ref h0] : List Value).toArray below meth c H locs 0 0 (MQ below (va_Qv (fun (u : gS × gS × gS × gS) => Q u.1 u.2.1 u.2.2.1 u.2.2.2) (rrB dC dI cB cI cJ cZ h0 a0 a1 a3 A) A) ([.ref h0] : List Value).toArray s 0 0 A) (F0 m 8 ls [])) (y1 : Int32) (y3 : Int32) (M0 : gS) (M1 : gS) (M2 : gS) (M3 : gS) (H : Heap) (locs : List Loc) (ls : Array Slot), va_P (dC, dI) vwCl (rrW cB cI cJ cZ h0 a0 a1 a3 M0 M1 M2 M3) H → va_D A (rrW cB cI cJ cZ h0 a0 a1 a3 M0 M1 M2 M3) → va_S A s.heap H locs → lv_has ls 4 [(0, .ref h0), (1, .int y1), (3, .int y3)] → wX9_readSum_90 B8 Q y1 y3 M0 M1 M2 M3 → W p l e (headSpec wsX9_readSum rmX9_readSum).room s m ([.ref h0] : List Value).toArray below meth c H locs 0 0 (MQ below (va_Qv (fun (u : gS × gS × gS × gS) => Q u.1 u.2.1 u.2.2.1 u.2.2.2) (rrB dC dI cB cI cJ cZ h0 a0 a1 a3 A) A) ([.ref h0] : List Value).toArray s 0 0 A) (F0 m 90 ls []) := by
    intro B8 hB8 y1 y3 M0 M1 M2 M3 H locs ls hP hD hS hl h
    unfold wX9_readSum_90 at h
    refine lv_aload_n hx hb dX9_readSum_90 rfl (lv_at hl 0 rfl) ?_
    refine lv_bipush (v := (43)) hx hb dX9_readSum_91 (by decide) ?_
    refine lv_bipush (v := (-10)) hx hb dX9_readSum_93 (by decide) ?_
    refine lv_bipush (v := (45)) hx hb dX9_readSum_95 (by decide) ?_
    refine lv_bipush (v := (-11)) hx hb dX9_readSum_97 (by decide) ?_
    have hFc := gs_free hD hS hA
    refine va_calli (va_runV (As := [.int (43 : Int32), .int (-10 : Int32), .int (45 : Int32), .int (-11 : Int32)]) (rest := []) ⟨hx, hb, hml, hown, hts⟩ (kX9_codeOfSign l dC dI cB cI cJ cZ h0 a0 a1 a3 H.size (43 : Int32) (-10 : Int32) (45 : Int32) (-11 : Int32) M0 M1 M2 M3 _ h) (cwV 4 hts gX9_readSum_X9_codeOfSign rfl rfl rfl (by decide +kernel) ⟨Nat.le_of_ble_eq_true rfl, Nat.le_of_ble_eq_true rfl⟩) (rrpV hK hP hD) rfl rfl hl.1 rfl (lv_room (Nat.le_of_ble_eq_true rfl)) dX9_readSum_99 ⟨Nat.le_of_ble_eq_true rfl, Nat.le_of_ble_eq_true rfl⟩) hS (fun q _ z => hFc q z) hFc (fun r1 u t H1 locs ht hvm hw hB hz1 hk1 hS => ?_)
    obtain ⟨N2, N3, N4, N5⟩ := u
    obtain ⟨hP, hD⟩ := gs_back ht hFc hB
    generalize H1 = H at hP hS ⊢
    have h := hw
    try dsimp only at h
    refine lv_istore_n (lv' := [(2, .int r1), (0, .ref h0), (1, .int y1), (3, .int y3)]) hx hb dX9_readSum_102 rfl hl (by decide) rfl (fun ls hl => ?_)
    exact b103 _ hB8 y1 r1 y3 N2 N3 N4 N5 H locs ls hP hD hS (lv_sub hl [1, 2, 0, 3] rfl) h
  have b57 : ∀ (B8 : Int32 → Int32 → Int32 → gS → gS → gS → gS → Prop) (hB8 : ∀ (y1 : Int32) (y2 : Int32) (y3 : Int32) (M0 : gS) (M1 : gS) (M2 : gS) (M3 : gS) (H : Heap) (locs : List Loc) (ls : Array Slot), va_P (dC, dI) vwCl (rrW cB cI cJ cZ h0 a0 a1 a3 M0 M1 M2 M3) H → va_D A (rrW cB cI cJ cZ h0 a0 a1 a3 M0 M1 M2 M3) → va_S A s.heap H locs → lv_has ls 4 [(0, .ref h0), (1, .int y1), (2, .int y2), (3, .int y3)] → B8 y1 y2 y3 M0 M1 M2 M3 → W p l e (headSpec wsX9_readSum rmX9_readSum).room s m ([.ref h0] : List Value).toArray below meth c H locs 0 0 (MQ below (va_Qv (fun (u : gS × gS × gS × gS) => Q u.1 u.2.1 u.2.2.1 u.2.2.2) (rrB dC dI cB cI cJ cZ h0 a0 a1 a3 A) A) ([.ref h0] : List Value).toArray s 0 0 A) (F0 m 8 ls [])) (y2 : Int32) (y3 : Int32) (M0 : gS) (M1 : gS) (M2 : gS) (M3 : gS) (H : Heap) (locs : List Loc) (ls : Array Slot), va_P (dC, dI) vwCl (rrW cB cI cJ cZ h0 a0 a1 a3 M0 M1 M2 M3) H → va_D A (rrW cB cI cJ cZ h0 a0 a1 a3 M0 M1 M2 M3) → va_S A s.heap H locs → lv_has ls 4 [(0, .ref h0), (2, .int y2), (3, .int y3)] → wX9_readSum_57 B8 Q y2 y3 M0 M1 M2 M3 → W p l e (headSpec wsX9_readSum rmX9_readSum).room s m ([.ref h0] : List Value).toArray below meth c H locs 0 0 (MQ below (va_Qv (fun (u : gS × gS × gS × gS) => Q u.1 u.2.1 u.2.2.1 u.2.2.2) (rrB dC dI cB cI cJ cZ h0 a0 a1 a3 A) A) ([.ref h0] : List Value).toArray s 0 0 A) (F0 m 57 ls []) := by
    intro B8 hB8 y2 y3 M0 M1 M2 M3 H locs ls hP hD hS hl h
    unfold wX9_readSum_57 at h
    refine lv_aload_n hx hb dX9_readSum_57 rfl (lv_at hl 0 rfl) ?_
    refine lv_bipush (v := (42)) hx hb dX9_readSum_58 (by decide) ?_
    refine lv_bipush (v := (-12)) hx hb dX9_readSum_60 (by decide) ?_
    refine lv_bipush (v := (47)) hx hb dX9_readSum_62 (by decide) ?_
    refine lv_bipush (v := (-13)) hx hb dX9_readSum_64 (by decide) ?_
    have hFc := gs_free hD hS hA
    refine va_calli (va_runV (As := [.int (42 : Int32), .int (-12 : Int32), .int (47 : Int32), .int (-13 : Int32)]) (rest := []) ⟨hx, hb, hml, hown, hts⟩ (kX9_codeOfSign l dC dI cB cI cJ cZ h0 a0 a1 a3 H.size (42 : Int32) (-12 : Int32) (47 : Int32) (-13 : Int32) M0 M1 M2 M3 _ h) (cwV 4 hts gX9_readSum_X9_codeOfSign rfl rfl rfl (by decide +kernel) ⟨Nat.le_of_ble_eq_true rfl, Nat.le_of_ble_eq_true rfl⟩) (rrpV hK hP hD) rfl rfl hl.1 rfl (lv_room (Nat.le_of_ble_eq_true rfl)) dX9_readSum_66 ⟨Nat.le_of_ble_eq_true rfl, Nat.le_of_ble_eq_true rfl⟩) hS (fun q _ z => hFc q z) hFc (fun r1 u t H1 locs ht hvm hw hB hz1 hk1 hS => ?_)
    obtain ⟨N2, N3, N4, N5⟩ := u
    obtain ⟨hP, hD⟩ := gs_back ht hFc hB
    generalize H1 = H at hP hS ⊢
    have h := hw
    try dsimp only at h
    refine lv_istore_n (lv' := [(1, .int r1), (0, .ref h0), (2, .int y2), (3, .int y3)]) hx hb dX9_readSum_69 rfl hl (by decide) rfl (fun ls hl => ?_)
    refine lv_iload_n hx hb dX9_readSum_70 rfl (lv_at hl 0 rfl) ?_
    refine lv_bipush (v := (-100)) hx hb dX9_readSum_71 (by decide) ?_
    refine lv_icmp_ne (tgt := 103) hx hb dX9_readSum_73 (by decide) (fun c6 => ?_) (fun c6 => ?_)
    · have h := h.2 c6
      exact b103 _ hB8 r1 y2 y3 N2 N3 N4 N5 H locs ls hP hD hS (lv_sub hl [1, 0, 2, 3] rfl) h
    · have h := h.1 c6
      refine lv_iload_n hx hb dX9_readSum_76 rfl (lv_at hl 2 rfl) ?_
      refine lv_bipush (v := (-100)) hx hb dX9_readSum_77 (by decide) ?_
      refine lv_icmp_eq (tgt := 90) hx hb dX9_readSum_79 (by decide) (fun c7 => ?_) (fun c7 => ?_)
      · have h := h.1 c7
        exact b90 _ hB8 r1 y3 N2 N3 N4 N5 H locs ls hP hD hS (lv_sub hl [1, 0, 3] rfl) h
      · have h := h.2 c7
        refine lv_aload_n hx hb dX9_readSum_82 rfl (lv_at hl 1 rfl) ?_
        refine va_get (D := (dC, dI)) (ci := 9) (v := .ref (a0 1)) (C := RX9) (T := TX9) (N := 3) hx hb hts hinX9 hown hK hP 0 rfl rfl 1 (by decide) f2 (fun _ h9 => h9) rfl dX9_readSum_83 ?_
        refine lv_iload_n hx hb dX9_readSum_86 rfl (lv_at hl 2 rfl) ?_
        have hPc := hP.sub (ws' := (ruW cB cI cJ cZ (a0 1) a3 N5)) [3, 4, 5, 6, 7] rfl
        have hDc := hD.sub (ws' := (ruW cB cI cJ cZ (a0 1) a3 N5)) [3, 4, 5, 6, 7] (by decide) rfl
        have hFc := va_free (wc := (ruW cB cI cJ cZ (a0 1) a3 N5)) hD hS hA [3, 4, 5, 6, 7] rfl
        refine va_callv (va_runV (As := [.int y2]) (rest := []) ⟨hx, hb, hml, hown, hts⟩ (kX8_put l dC dI cB cI cJ cZ (a0 1) a3 H.size y2 N5 _ h) (cwV 1 hts gX9_readSum_X8_put rfl rfl rfl (by decide +kernel) ⟨Nat.le_of_ble_eq_true rfl, Nat.le_of_ble_eq_true rfl⟩) (rupV hK hPc hDc) rfl rfl hl.1 rfl (lv_room (Nat.le_of_ble_eq_true rfl)) dX9_readSum_87 ⟨Nat.le_of_ble_eq_true rfl, Nat.le_of_ble_eq_true rfl⟩) hS (fun q _ z => hFc q z) hFc (fun u t H1 locs ht hvm hw hB hz1 hk1 hS => ?_)
        obtain ⟨N9, rfl⟩ : ∃ z, z = u := ⟨_, rfl⟩
        obtain ⟨hP1, hK1, hD1⟩ := hB
        rw [ht] at hP1
        obtain ⟨hP, hD⟩ := va_join (wr := [(h0, .inr (9, [.ref (a0 0), .ref (a0 1), .int (mg N2 2)])), (a0 0, .inr (7, [.ref (a1 0), .int (mg N3 1), .int (mg N3 2), .int (mg N3 3), .int (mg N3 4), .int (mg N3 5), .int (mg N3 6), .int (mg N3 7)])), (a1 0, .inl (cI, 400, .inl (ma N4 0)))]) (w1 := (ruW cB cI cJ cZ (a0 1) a3 N9)) hP hD [3, 4, 5, 6, 7] [0, 1, 2] rfl rfl (by decide) (by decide) hk1 hFc hP1 hD1
        have hP := hP.sub (ws' := (rrW cB cI cJ cZ h0 a0 a1 a3 N2 N3 N4 N9)) [0, 1, 2, 3, 4, 5, 6, 7] rfl
        have hD := hD.sub (ws' := (rrW cB cI cJ cZ h0 a0 a1 a3 N2 N3 N4 N9)) [0, 1, 2, 3, 4, 5, 6, 7] (by decide) rfl
        generalize H1 = H at hP hS ⊢
        have h := hw
        try dsimp only at h
        exact b90 _ hB8 r1 y3 N2 N3 N4 N9 H locs ls hP hD hS (lv_sub hl [1, 0, 3] rfl) h
  have b8 : ∀ (n : Nat) (y1 : Int32) (y2 : Int32) (y3 : Int32) (M0 : gS) (M1 : gS) (M2 : gS) (M3 : gS) (H : Heap) (locs : List Loc) (ls : Array Slot), va_P (dC, dI) vwCl (rrW cB cI cJ cZ h0 a0 a1 a3 M0 M1 M2 M3) H → va_D A (rrW cB cI cJ cZ h0 a0 a1 a3 M0 M1 M2 M3) → va_S A s.heap H locs → lv_has ls 4 [(0, .ref h0), (1, .int y1), (2, .int y2), (3, .int y3)] → wX9_readSum_8  Q n y1 y2 y3 M0 M1 M2 M3 → W p l e (headSpec wsX9_readSum rmX9_readSum).room s m ([.ref h0] : List Value).toArray below meth c H locs 0 0 (MQ below (va_Qv (fun (u : gS × gS × gS × gS) => Q u.1 u.2.1 u.2.2.1 u.2.2.2) (rrB dC dI cB cI cJ cZ h0 a0 a1 a3 A) A) ([.ref h0] : List Value).toArray s 0 0 A) (F0 m 8 ls []) := by
    intro  n
    induction n with
    | zero => intro y1 y2 y3 M0 M1 M2 M3 H locs ls hP hD hS hl h; exact absurd h (by simp [wX9_readSum_8])
    | succ n hB80 =>
      intro y1 y2 y3 M0 M1 M2 M3 H locs ls hP hD hS hl h
      have hB8 := hB80
      rw [wX9_readSum_8] at h
      refine lv_iload_n hx hb dX9_readSum_8 rfl (lv_at hl 3 rfl) ?_
      refine lv_sipush (v := (400)) hx hb dX9_readSum_9 (by decide) ?_
      refine lv_icmp_ge (tgt := 129) hx hb dX9_readSum_12 (by decide) (fun c1 => ?_) (fun c1 => ?_)
      · have h := h.1 c1
        exact W.vret hx hb hr (fun t ht hW => ⟨⟨(M0, M1, M2, M3), rfl, h, by rw [ht]; exact hP, va_K.moved hW.alike hK, hD⟩, hS.F ht⟩) hS.2.2 dX9_readSum_129
      · have h := h.2 c1
        refine lv_aload_n hx hb dX9_readSum_15 rfl (lv_at hl 0 rfl) ?_
        refine va_get (D := (dC, dI)) (ci := 9) (v := .ref (a0 0)) (C := RX9) (T := TX9) (N := 3) hx hb hts hinX9 hown hK hP 0 rfl rfl 0 (by decide) f1 (fun _ h9 => h9) rfl dX9_readSum_16 ?_
        refine va_get (D := (dC, dI)) (ci := 7) (v := .int (mg M1 7)) (C := RX7) (T := TX7) (N := 8) hx hb hts hinX7 hown hK hP 1 rfl rfl 7 (by decide) f3 (fun _ h9 => h9) rfl dX9_readSum_19 ?_
        refine lv_if_ne (tgt := 129) hx hb dX9_readSum_22 (by decide) (fun c2 => ?_) (fun c2 => ?_)
        · have h := h.2 c2
          exact W.vret hx hb hr (fun t ht hW => ⟨⟨(M0, M1, M2, M3), rfl, h, by rw [ht]; exact hP, va_K.moved hW.alike hK, hD⟩, hS.F ht⟩) hS.2.2 dX9_readSum_129
        · have h := h.1 c2
          refine lv_aload_n hx hb dX9_readSum_25 rfl (lv_at hl 0 rfl) ?_
          refine va_get (D := (dC, dI)) (ci := 9) (v := .ref (a0 1)) (C := RX9) (T := TX9) (N := 3) hx hb hts hinX9 hown hK hP 0 rfl rfl 1 (by decide) f2 (fun _ h9 => h9) rfl dX9_readSum_26 ?_
          refine lv_aload_n hx hb dX9_readSum_29 rfl (lv_at hl 0 rfl) ?_
          have hFc := gs_free hD hS hA
          refine va_calli (va_runV (As := []) (rest := [.ref (a0 1)]) ⟨hx, hb, hml, hown, hts⟩ (kX9_valueAhead l dC dI cB cI cJ cZ adK adV h0 a0 a1 a3 H.size  M0 M1 M2 M3 _ h) (cwV 0 hts gX9_readSum_X9_valueAhead rfl rfl rfl (by decide +kernel) ⟨Nat.le_of_ble_eq_true rfl, Nat.le_of_ble_eq_true rfl⟩) (rrpVS hK hP hD hR hE hS hFc) rfl rfl hl.1 rfl (lv_room (Nat.le_of_ble_eq_true rfl)) dX9_readSum_30 ⟨Nat.le_of_ble_eq_true rfl, Nat.le_of_ble_eq_true rfl⟩) hS (fun q _ z => hFc q z) hFc (fun r3 u t H1 locs ht hvm hw hB hz1 hk1 hS => ?_)
          obtain ⟨N4, N5, N6, N7⟩ := u
          obtain ⟨hP, hD⟩ := gs_back ht hFc hB
          generalize H1 = H at hP hS ⊢
          have h := hw
          try dsimp only at h
          have hPc := hP.sub (ws' := (ruW cB cI cJ cZ (a0 1) a3 N7)) [3, 4, 5, 6, 7] rfl
          have hDc := hD.sub (ws' := (ruW cB cI cJ cZ (a0 1) a3 N7)) [3, 4, 5, 6, 7] (by decide) rfl
          have hFc := va_free (wc := (ruW cB cI cJ cZ (a0 1) a3 N7)) hD hS hA [3, 4, 5, 6, 7] rfl
          refine va_callv (va_runV (As := [.int r3]) (rest := []) ⟨hx, hb, hml, hown, hts⟩ (kX8_put l dC dI cB cI cJ cZ (a0 1) a3 H.size r3 N7 _ h) (cwV 1 hts gX9_readSum_X8_put rfl rfl rfl (by decide +kernel) ⟨Nat.le_of_ble_eq_true rfl, Nat.le_of_ble_eq_true rfl⟩) (rupV hK hPc hDc) rfl rfl hl.1 rfl (lv_room (Nat.le_of_ble_eq_true rfl)) dX9_readSum_33 ⟨Nat.le_of_ble_eq_true rfl, Nat.le_of_ble_eq_true rfl⟩) hS (fun q _ z => hFc q z) hFc (fun u t H1 locs ht hvm hw hB hz1 hk1 hS => ?_)
          obtain ⟨N9, rfl⟩ : ∃ z, z = u := ⟨_, rfl⟩
          obtain ⟨hP1, hK1, hD1⟩ := hB
          rw [ht] at hP1
          obtain ⟨hP, hD⟩ := va_join (wr := [(h0, .inr (9, [.ref (a0 0), .ref (a0 1), .int (mg N4 2)])), (a0 0, .inr (7, [.ref (a1 0), .int (mg N5 1), .int (mg N5 2), .int (mg N5 3), .int (mg N5 4), .int (mg N5 5), .int (mg N5 6), .int (mg N5 7)])), (a1 0, .inl (cI, 400, .inl (ma N6 0)))]) (w1 := (ruW cB cI cJ cZ (a0 1) a3 N9)) hP hD [3, 4, 5, 6, 7] [0, 1, 2] rfl rfl (by decide) (by decide) hk1 hFc hP1 hD1
          have hP := hP.sub (ws' := (rrW cB cI cJ cZ h0 a0 a1 a3 N4 N5 N6 N9)) [0, 1, 2, 3, 4, 5, 6, 7] rfl
          have hD := hD.sub (ws' := (rrW cB cI cJ cZ h0 a0 a1 a3 N4 N5 N6 N9)) [0, 1, 2, 3, 4, 5, 6, 7] (by decide) rfl
          generalize H1 = H at hP hS ⊢
          have h := hw
          try dsimp only at h
          refine lv_aload_n hx hb dX9_readSum_36 rfl (lv_at hl 0 rfl) ?_
          refine va_get (D := (dC, dI)) (ci := 9) (v := .ref (a0 0)) (C := RX9) (T := TX9) (N := 3) hx hb hts hinX9 hown hK hP 0 rfl rfl 0 (by decide) f1 (fun _ h9 => h9) rfl dX9_readSum_37 ?_
          have hPc := hP.sub (ws' := (rdW cB cI cJ cZ (a0 0) a1 N5 N6)) [1, 2] rfl
          have hDc := hD.sub (ws' := (rdW cB cI cJ cZ (a0 0) a1 N5 N6)) [1, 2] (by decide) rfl
          have hFc := va_free (wc := (rdW cB cI cJ cZ (a0 0) a1 N5 N6)) hD hS hA [1, 2] rfl
          refine va_callv (va_runV (As := []) (rest := []) ⟨hx, hb, hml, hown, hts⟩ (kX7_advance l dC dI cB cI cJ cZ (a0 0) a1 H.size  N5 N6 _ h) (cwV 0 hts gX9_readSum_X7_advance rfl rfl rfl (by decide +kernel) ⟨Nat.le_of_ble_eq_true rfl, Nat.le_of_ble_eq_true rfl⟩) (rdpV hK hPc hDc) rfl rfl hl.1 rfl (lv_room (Nat.le_of_ble_eq_true rfl)) dX9_readSum_40 ⟨Nat.le_of_ble_eq_true rfl, Nat.le_of_ble_eq_true rfl⟩) hS (fun q _ z => hFc q z) hFc (fun u t H1 locs ht hvm hw hB hz1 hk1 hS => ?_)
          obtain ⟨N11, N12⟩ := u
          obtain ⟨hP1, hK1, hD1⟩ := hB
          rw [ht] at hP1
          obtain ⟨hP, hD⟩ := va_join (wr := [(h0, .inr (9, [.ref (a0 0), .ref (a0 1), .int (mg N4 2)])), (a0 1, .inr (8, [.int (mg N9 0), .ref (a3 1), .ref (a3 2), .ref (a3 3), .int (mg N9 4), .ref (a3 5)])), (a3 1, .inl (cI, 12, .inl (ma N9 1))), (a3 2, .inl (cI, 12, .inl (ma N9 2))), (a3 3, .inl (cI, 400, .inl (ma N9 3))), (a3 5, .inl (cJ, 60, .inr (.inl (ml N9 5))))]) (w1 := (rdW cB cI cJ cZ (a0 0) a1 N11 N12)) hP hD [1, 2] [0, 3, 4, 5, 6, 7] rfl rfl (by decide) (by decide) hk1 hFc hP1 hD1
          have hP := hP.sub (ws' := (rrW cB cI cJ cZ h0 a0 a1 a3 N4 N11 N12 N9)) [0, 6, 7, 1, 2, 3, 4, 5] rfl
          have hD := hD.sub (ws' := (rrW cB cI cJ cZ h0 a0 a1 a3 N4 N11 N12 N9)) [0, 6, 7, 1, 2, 3, 4, 5] (by decide) rfl
          generalize H1 = H at hP hS ⊢
          have h := hw
          try dsimp only at h
          refine lv_iload_n hx hb dX9_readSum_43 rfl (lv_at hl 1 rfl) ?_
          refine lv_bipush (v := (-100)) hx hb dX9_readSum_44 (by decide) ?_
          refine lv_icmp_eq (tgt := 57) hx hb dX9_readSum_46 (by decide) (fun c13 => ?_) (fun c13 => ?_)
          · have h := h.1 c13
            exact b57 _ hB8 y2 y3 N4 N11 N12 N9 H locs ls hP hD hS (lv_sub hl [0, 2, 3] rfl) h
          · have h := h.2 c13
            refine lv_aload_n hx hb dX9_readSum_49 rfl (lv_at hl 0 rfl) ?_
            refine va_get (D := (dC, dI)) (ci := 9) (v := .ref (a0 1)) (C := RX9) (T := TX9) (N := 3) hx hb hts hinX9 hown hK hP 0 rfl rfl 1 (by decide) f2 (fun _ h9 => h9) rfl dX9_readSum_50 ?_
            refine lv_iload_n hx hb dX9_readSum_53 rfl (lv_at hl 1 rfl) ?_
            have hPc := hP.sub (ws' := (ruW cB cI cJ cZ (a0 1) a3 N9)) [3, 4, 5, 6, 7] rfl
            have hDc := hD.sub (ws' := (ruW cB cI cJ cZ (a0 1) a3 N9)) [3, 4, 5, 6, 7] (by decide) rfl
            have hFc := va_free (wc := (ruW cB cI cJ cZ (a0 1) a3 N9)) hD hS hA [3, 4, 5, 6, 7] rfl
            refine va_callv (va_runV (As := [.int y1]) (rest := []) ⟨hx, hb, hml, hown, hts⟩ (kX8_put l dC dI cB cI cJ cZ (a0 1) a3 H.size y1 N9 _ h) (cwV 1 hts gX9_readSum_X8_put rfl rfl rfl (by decide +kernel) ⟨Nat.le_of_ble_eq_true rfl, Nat.le_of_ble_eq_true rfl⟩) (rupV hK hPc hDc) rfl rfl hl.1 rfl (lv_room (Nat.le_of_ble_eq_true rfl)) dX9_readSum_54 ⟨Nat.le_of_ble_eq_true rfl, Nat.le_of_ble_eq_true rfl⟩) hS (fun q _ z => hFc q z) hFc (fun u t H1 locs ht hvm hw hB hz1 hk1 hS => ?_)
            obtain ⟨N15, rfl⟩ : ∃ z, z = u := ⟨_, rfl⟩
            obtain ⟨hP1, hK1, hD1⟩ := hB
            rw [ht] at hP1
            obtain ⟨hP, hD⟩ := va_join (wr := [(h0, .inr (9, [.ref (a0 0), .ref (a0 1), .int (mg N4 2)])), (a0 0, .inr (7, [.ref (a1 0), .int (mg N11 1), .int (mg N11 2), .int (mg N11 3), .int (mg N11 4), .int (mg N11 5), .int (mg N11 6), .int (mg N11 7)])), (a1 0, .inl (cI, 400, .inl (ma N12 0)))]) (w1 := (ruW cB cI cJ cZ (a0 1) a3 N15)) hP hD [3, 4, 5, 6, 7] [0, 1, 2] rfl rfl (by decide) (by decide) hk1 hFc hP1 hD1
            have hP := hP.sub (ws' := (rrW cB cI cJ cZ h0 a0 a1 a3 N4 N11 N12 N15)) [0, 1, 2, 3, 4, 5, 6, 7] rfl
            have hD := hD.sub (ws' := (rrW cB cI cJ cZ h0 a0 a1 a3 N4 N11 N12 N15)) [0, 1, 2, 3, 4, 5, 6, 7] (by decide) rfl
            generalize H1 = H at hP hS ⊢
            have h := hw
            try dsimp only at h
            exact b57 _ hB8 y2 y3 N4 N11 N12 N15 H locs ls hP hD hS (lv_sub hl [0, 2, 3] rfl) h
  have bE : ∀ (M0 : gS) (M1 : gS) (M2 : gS) (M3 : gS) (H : Heap) (locs : List Loc) (ls : Array Slot), va_P (dC, dI) vwCl (rrW cB cI cJ cZ h0 a0 a1 a3 M0 M1 M2 M3) H → va_D A (rrW cB cI cJ cZ h0 a0 a1 a3 M0 M1 M2 M3) → va_S A s.heap H locs → lv_has ls 4 [(0, .ref h0)] → wX9_readSum  M0 M1 M2 M3 Q → W p l e (headSpec wsX9_readSum rmX9_readSum).room s m ([.ref h0] : List Value).toArray below meth c H locs 0 0 (MQ below (va_Qv (fun (u : gS × gS × gS × gS) => Q u.1 u.2.1 u.2.2.1 u.2.2.2) (rrB dC dI cB cI cJ cZ h0 a0 a1 a3 A) A) ([.ref h0] : List Value).toArray s 0 0 A) (F0 m 0 ls []) := by
    intro M0 M1 M2 M3 H locs ls hP hD hS hl h
    unfold wX9_readSum at h
    refine lv_bipush (v := (-100)) hx hb dX9_readSum_0 (by decide) ?_
    refine lv_istore_n (lv' := [(1, .int (-100 : Int32)), (0, .ref h0)]) hx hb dX9_readSum_2 rfl hl (by decide) rfl (fun ls hl => ?_)
    refine lv_bipush (v := (-100)) hx hb dX9_readSum_3 (by decide) ?_
    refine lv_istore_n (lv' := [(2, .int (-100 : Int32)), (1, .int (-100 : Int32)), (0, .ref h0)]) hx hb dX9_readSum_5 rfl hl (by decide) rfl (fun ls hl => ?_)
    refine lv_iconst (v := 0) hx hb dX9_readSum_6 (by decide) ?_
    refine lv_istore_n (lv' := [(3, .int (0 : Int32)), (2, .int (-100 : Int32)), (1, .int (-100 : Int32)), (0, .ref h0)]) hx hb dX9_readSum_7 rfl hl (by decide) rfl (fun ls hl => ?_)
    obtain ⟨n9, h⟩ := h
    exact b8  n9 (-100 : Int32) (-100 : Int32) (0 : Int32) M0 M1 M2 M3 H locs ls hP hD hS (lv_sub hl [3, 2, 1, 0] rfl) h
  have hl := lv_entry ([.ref h0]) (n := 4) (Nat.le_of_ble_eq_true rfl)
  rw [lg_entry_eq]
  generalize (lg_sl ([.ref h0]) ++ List.replicate (4 - (lg_sl ([.ref h0])).length) Slot.unset).toArray = ls at hl ⊢
  have hl : lv_has ls 4 [(0, .ref h0)] := hl
  exact bE M0 M1 M2 M3 s.heap [] ls hP hD hS hl h
