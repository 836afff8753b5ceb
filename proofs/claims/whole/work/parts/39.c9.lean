abbrev q1W (cB cI cJ cZ : ClassId) (h0 : Nat) (a0 : Nat → Nat) (h1 : Nat) (a1 : Nat → Nat) (h2 : Nat) (a2 : Nat → Nat) (M0 : gS) (M1 : gS) (M2 : gS) : va_W := [(h0, .inr (6, [.int (mg M0 0), .int (mg M0 1), .int (mg M0 2), .int (mg M0 3), .int (mg M0 4), .int (mg M0 5), .int (mg M0 6), .ref (a0 7), .ref (a0 8), .ref (a0 9)])), (a0 7, .inl (cI, 2, .inl (ma M0 7))), (a0 8, .inl (cI, 2, .inl (ma M0 8))), (a0 9, .inl (cI, 2, .inl (ma M0 9))), (h1, .inr (1, [.int (mg M1 0), .ref (a1 1), .int (mg M1 2), .ref (a1 3), .int (mg M1 4), .ref (a1 5)])), (a1 1, .inl (cI, 4, .inl (ma M1 1))), (a1 3, .inl (cI, 4, .inl (ma M1 3))), (a1 5, .inl (cI, 2, .inl (ma M1 5))), (h2, .inr (8, [.int (mg M2 0), .ref (a2 1), .ref (a2 2), .ref (a2 3), .int (mg M2 4), .ref (a2 5)])), (a2 1, .inl (cI, 12, .inl (ma M2 1))), (a2 2, .inl (cI, 12, .inl (ma M2 2))), (a2 3, .inl (cI, 400, .inl (ma M2 3))), (a2 5, .inl (cJ, 60, .inr (.inl (ml M2 5))))]
abbrev q1I (dC : Nat → ClassId) (dI : Nat → Nat → Nat) (cB cI cJ cZ : ClassId) (h0 : Nat) (a0 : Nat → Nat) (h1 : Nat) (a1 : Nat → Nat) (h2 : Nat) (a2 : Nat → Nat) (M0 : gS) (M1 : gS) (M2 : gS) (sz : Nat) : State → Prop := fun U => U.heap.size = sz ∧ va_P (dC, dI) vwCl (q1W cB cI cJ cZ h0 a0 h1 a1 h2 a2 M0 M1 M2) U.heap ∧ va_K (dC, dI) vwCl (gT cB cI cJ cZ) U ∧ va_D (fun _ => True) (q1W cB cI cJ cZ h0 a0 h1 a1 h2 a2 M0 M1 M2)
abbrev q1B (dC : Nat → ClassId) (dI : Nat → Nat → Nat) (cB cI cJ cZ : ClassId) (h0 : Nat) (a0 : Nat → Nat) (h1 : Nat) (a1 : Nat → Nat) (h2 : Nat) (a2 : Nat → Nat) (A : Nat → Prop) (u : gS × gS × gS) (t : State) : Prop := match u with
  | (M0, M1, M2) => va_P (dC, dI) vwCl (q1W cB cI cJ cZ h0 a0 h1 a1 h2 a2 M0 M1 M2) t.heap ∧ va_K (dC, dI) vwCl (gT cB cI cJ cZ) t ∧ va_D A (q1W cB cI cJ cZ h0 a0 h1 a1 h2 a2 M0 M1 M2)
theorem q1P_0_f0 {D : va_G} {H : Heap} {cB cI cJ cZ : ClassId} {h0 : Nat} {a0 : Nat → Nat} {h1 : Nat} {a1 : Nat → Nat} {h2 : Nat} {a2 : Nat → Nat} {M0 : gS} {M1 : gS} {M2 : gS} {v : Int32} (h : va_P D vwCl ((q1W cB cI cJ cZ h0 a0 h1 a1 h2 a2 M0 M1 M2).set 0 (h0, .inr (6, ([.int (mg M0 0), .int (mg M0 1), .int (mg M0 2), .int (mg M0 3), .int (mg M0 4), .int (mg M0 5), .int (mg M0 6), .ref (a0 7), .ref (a0 8), .ref (a0 9)]).set 0 (.int v)))) H) : va_P D vwCl (q1W cB cI cJ cZ h0 a0 h1 a1 h2 a2 (sg M0 0 v) M1 M2) H := h
theorem q1D_0_f0 {A : Nat → Prop} {cB cI cJ cZ : ClassId} {h0 : Nat} {a0 : Nat → Nat} {h1 : Nat} {a1 : Nat → Nat} {h2 : Nat} {a2 : Nat → Nat} {M0 : gS} {M1 : gS} {M2 : gS} {v : Int32} (h : va_D A ((q1W cB cI cJ cZ h0 a0 h1 a1 h2 a2 M0 M1 M2).set 0 (h0, .inr (6, ([.int (mg M0 0), .int (mg M0 1), .int (mg M0 2), .int (mg M0 3), .int (mg M0 4), .int (mg M0 5), .int (mg M0 6), .ref (a0 7), .ref (a0 8), .ref (a0 9)]).set 0 (.int v))))) : va_D A (q1W cB cI cJ cZ h0 a0 h1 a1 h2 a2 (sg M0 0 v) M1 M2) := h
theorem q1P_0_f1 {D : va_G} {H : Heap} {cB cI cJ cZ : ClassId} {h0 : Nat} {a0 : Nat → Nat} {h1 : Nat} {a1 : Nat → Nat} {h2 : Nat} {a2 : Nat → Nat} {M0 : gS} {M1 : gS} {M2 : gS} {v : Int32} (h : va_P D vwCl ((q1W cB cI cJ cZ h0 a0 h1 a1 h2 a2 M0 M1 M2).set 0 (h0, .inr (6, ([.int (mg M0 0), .int (mg M0 1), .int (mg M0 2), .int (mg M0 3), .int (mg M0 4), .int (mg M0 5), .int (mg M0 6), .ref (a0 7), .ref (a0 8), .ref (a0 9)]).set 1 (.int v)))) H) : va_P D vwCl (q1W cB cI cJ cZ h0 a0 h1 a1 h2 a2 (sg M0 1 v) M1 M2) H := h
theorem q1D_0_f1 {A : Nat → Prop} {cB cI cJ cZ : ClassId} {h0 : Nat} {a0 : Nat → Nat} {h1 : Nat} {a1 : Nat → Nat} {h2 : Nat} {a2 : Nat → Nat} {M0 : gS} {M1 : gS} {M2 : gS} {v : Int32} (h : va_D A ((q1W cB cI cJ cZ h0 a0 h1 a1 h2 a2 M0 M1 M2).set 0 (h0, .inr (6, ([.int (mg M0 0), .int (mg M0 1), .int (mg M0 2), .int (mg M0 3), .int (mg M0 4), .int (mg M0 5), .int (mg M0 6), .ref (a0 7), .ref (a0 8), .ref (a0 9)]).set 1 (.int v))))) : va_D A (q1W cB cI cJ cZ h0 a0 h1 a1 h2 a2 (sg M0 1 v) M1 M2) := h
theorem q1P_0_f2 {D : va_G} {H : Heap} {cB cI cJ cZ : ClassId} {h0 : Nat} {a0 : Nat → Nat} {h1 : Nat} {a1 : Nat → Nat} {h2 : Nat} {a2 : Nat → Nat} {M0 : gS} {M1 : gS} {M2 : gS} {v : Int32} (h : va_P D vwCl ((q1W cB cI cJ cZ h0 a0 h1 a1 h2 a2 M0 M1 M2).set 0 (h0, .inr (6, ([.int (mg M0 0), .int (mg M0 1), .int (mg M0 2), .int (mg M0 3), .int (mg M0 4), .int (mg M0 5), .int (mg M0 6), .ref (a0 7), .ref (a0 8), .ref (a0 9)]).set 2 (.int v)))) H) : va_P D vwCl (q1W cB cI cJ cZ h0 a0 h1 a1 h2 a2 (sg M0 2 v) M1 M2) H := h
theorem q1D_0_f2 {A : Nat → Prop} {cB cI cJ cZ : ClassId} {h0 : Nat} {a0 : Nat → Nat} {h1 : Nat} {a1 : Nat → Nat} {h2 : Nat} {a2 : Nat → Nat} {M0 : gS} {M1 : gS} {M2 : gS} {v : Int32} (h : va_D A ((q1W cB cI cJ cZ h0 a0 h1 a1 h2 a2 M0 M1 M2).set 0 (h0, .inr (6, ([.int (mg M0 0), .int (mg M0 1), .int (mg M0 2), .int (mg M0 3), .int (mg M0 4), .int (mg M0 5), .int (mg M0 6), .ref (a0 7), .ref (a0 8), .ref (a0 9)]).set 2 (.int v))))) : va_D A (q1W cB cI cJ cZ h0 a0 h1 a1 h2 a2 (sg M0 2 v) M1 M2) := h
theorem q1P_0_f3 {D : va_G} {H : Heap} {cB cI cJ cZ : ClassId} {h0 : Nat} {a0 : Nat → Nat} {h1 : Nat} {a1 : Nat → Nat} {h2 : Nat} {a2 : Nat → Nat} {M0 : gS} {M1 : gS} {M2 : gS} {v : Int32} (h : va_P D vwCl ((q1W cB cI cJ cZ h0 a0 h1 a1 h2 a2 M0 M1 M2).set 0 (h0, .inr (6, ([.int (mg M0 0), .int (mg M0 1), .int (mg M0 2), .int (mg M0 3), .int (mg M0 4), .int (mg M0 5), .int (mg M0 6), .ref (a0 7), .ref (a0 8), .ref (a0 9)]).set 3 (.int v)))) H) : va_P D vwCl (q1W cB cI cJ cZ h0 a0 h1 a1 h2 a2 (sg M0 3 v) M1 M2) H := h
theorem q1D_0_f3 {A : Nat → Prop} {cB cI cJ cZ : ClassId} {h0 : Nat} {a0 : Nat → Nat} {h1 : Nat} {a1 : Nat → Nat} {h2 : Nat} {a2 : Nat → Nat} {M0 : gS} {M1 : gS} {M2 : gS} {v : Int32} (h : va_D A ((q1W cB cI cJ cZ h0 a0 h1 a1 h2 a2 M0 M1 M2).set 0 (h0, .inr (6, ([.int (mg M0 0), .int (mg M0 1), .int (mg M0 2), .int (mg M0 3), .int (mg M0 4), .int (mg M0 5), .int (mg M0 6), .ref (a0 7), .ref (a0 8), .ref (a0 9)]).set 3 (.int v))))) : va_D A (q1W cB cI cJ cZ h0 a0 h1 a1 h2 a2 (sg M0 3 v) M1 M2) := h
theorem q1P_0_f4 {D : va_G} {H : Heap} {cB cI cJ cZ : ClassId} {h0 : Nat} {a0 : Nat → Nat} {h1 : Nat} {a1 : Nat → Nat} {h2 : Nat} {a2 : Nat → Nat} {M0 : gS} {M1 : gS} {M2 : gS} {v : Int32} (h : va_P D vwCl ((q1W cB cI cJ cZ h0 a0 h1 a1 h2 a2 M0 M1 M2).set 0 (h0, .inr (6, ([.int (mg M0 0), .int (mg M0 1), .int (mg M0 2), .int (mg M0 3), .int (mg M0 4), .int (mg M0 5), .int (mg M0 6), .ref (a0 7), .ref (a0 8), .ref (a0 9)]).set 4 (.int v)))) H) : va_P D vwCl (q1W cB cI cJ cZ h0 a0 h1 a1 h2 a2 (sg M0 4 v) M1 M2) H := h
theorem q1D_0_f4 {A : Nat → Prop} {cB cI cJ cZ : ClassId} {h0 : Nat} {a0 : Nat → Nat} {h1 : Nat} {a1 : Nat → Nat} {h2 : Nat} {a2 : Nat → Nat} {M0 : gS} {M1 : gS} {M2 : gS} {v : Int32} (h : va_D A ((q1W cB cI cJ cZ h0 a0 h1 a1 h2 a2 M0 M1 M2).set 0 (h0, .inr (6, ([.int (mg M0 0), .int (mg M0 1), .int (mg M0 2), .int (mg M0 3), .int (mg M0 4), .int (mg M0 5), .int (mg M0 6), .ref (a0 7), .ref (a0 8), .ref (a0 9)]).set 4 (.int v))))) : va_D A (q1W cB cI cJ cZ h0 a0 h1 a1 h2 a2 (sg M0 4 v) M1 M2) := h
theorem q1P_0_f5 {D : va_G} {H : Heap} {cB cI cJ cZ : ClassId} {h0 : Nat} {a0 : Nat → Nat} {h1 : Nat} {a1 : Nat → Nat} {h2 : Nat} {a2 : Nat → Nat} {M0 : gS} {M1 : gS} {M2 : gS} {v : Int32} (h : va_P D vwCl ((q1W cB cI cJ cZ h0 a0 h1 a1 h2 a2 M0 M1 M2).set 0 (h0, .inr (6, ([.int (mg M0 0), .int (mg M0 1), .int (mg M0 2), .int (mg M0 3), .int (mg M0 4), .int (mg M0 5), .int (mg M0 6), .ref (a0 7), .ref (a0 8), .ref (a0 9)]).set 5 (.int v)))) H) : va_P D vwCl (q1W cB cI cJ cZ h0 a0 h1 a1 h2 a2 (sg M0 5 v) M1 M2) H := h
theorem q1D_0_f5 {A : Nat → Prop} {cB cI cJ cZ : ClassId} {h0 : Nat} {a0 : Nat → Nat} {h1 : Nat} {a1 : Nat → Nat} {h2 : Nat} {a2 : Nat → Nat} {M0 : gS} {M1 : gS} {M2 : gS} {v : Int32} (h : va_D A ((q1W cB cI cJ cZ h0 a0 h1 a1 h2 a2 M0 M1 M2).set 0 (h0, .inr (6, ([.int (mg M0 0), .int (mg M0 1), .int (mg M0 2), .int (mg M0 3), .int (mg M0 4), .int (mg M0 5), .int (mg M0 6), .ref (a0 7), .ref (a0 8), .ref (a0 9)]).set 5 (.int v))))) : va_D A (q1W cB cI cJ cZ h0 a0 h1 a1 h2 a2 (sg M0 5 v) M1 M2) := h
theorem q1P_0_f6 {D : va_G} {H : Heap} {cB cI cJ cZ : ClassId} {h0 : Nat} {a0 : Nat → Nat} {h1 : Nat} {a1 : Nat → Nat} {h2 : Nat} {a2 : Nat → Nat} {M0 : gS} {M1 : gS} {M2 : gS} {v : Int32} (h : va_P D vwCl ((q1W cB cI cJ cZ h0 a0 h1 a1 h2 a2 M0 M1 M2).set 0 (h0, .inr (6, ([.int (mg M0 0), .int (mg M0 1), .int (mg M0 2), .int (mg M0 3), .int (mg M0 4), .int (mg M0 5), .int (mg M0 6), .ref (a0 7), .ref (a0 8), .ref (a0 9)]).set 6 (.int v)))) H) : va_P D vwCl (q1W cB cI cJ cZ h0 a0 h1 a1 h2 a2 (sg M0 6 v) M1 M2) H := h
theorem q1D_0_f6 {A : Nat → Prop} {cB cI cJ cZ : ClassId} {h0 : Nat} {a0 : Nat → Nat} {h1 : Nat} {a1 : Nat → Nat} {h2 : Nat} {a2 : Nat → Nat} {M0 : gS} {M1 : gS} {M2 : gS} {v : Int32} (h : va_D A ((q1W cB cI cJ cZ h0 a0 h1 a1 h2 a2 M0 M1 M2).set 0 (h0, .inr (6, ([.int (mg M0 0), .int (mg M0 1), .int (mg M0 2), .int (mg M0 3), .int (mg M0 4), .int (mg M0 5), .int (mg M0 6), .ref (a0 7), .ref (a0 8), .ref (a0 9)]).set 6 (.int v))))) : va_D A (q1W cB cI cJ cZ h0 a0 h1 a1 h2 a2 (sg M0 6 v) M1 M2) := h
theorem q1P_0_a7 {D : va_G} {H : Heap} {cB cI cJ cZ : ClassId} {h0 : Nat} {a0 : Nat → Nat} {h1 : Nat} {a1 : Nat → Nat} {h2 : Nat} {a2 : Nat → Nat} {M0 : gS} {M1 : gS} {M2 : gS} {j : Nat} {v : Int32} (h : va_P D vwCl ((q1W cB cI cJ cZ h0 a0 h1 a1 h2 a2 M0 M1 M2).set 1 (a0 7, .inl (cI, 2, .inl (upd (ma M0 7) j v)))) H) : va_P D vwCl (q1W cB cI cJ cZ h0 a0 h1 a1 h2 a2 (sa M0 7 j v) M1 M2) H := h
theorem q1D_0_a7 {A : Nat → Prop} {cB cI cJ cZ : ClassId} {h0 : Nat} {a0 : Nat → Nat} {h1 : Nat} {a1 : Nat → Nat} {h2 : Nat} {a2 : Nat → Nat} {M0 : gS} {M1 : gS} {M2 : gS} {j : Nat} {v : Int32} (h : va_D A ((q1W cB cI cJ cZ h0 a0 h1 a1 h2 a2 M0 M1 M2).set 1 (a0 7, .inl (cI, 2, .inl (upd (ma M0 7) j v))))) : va_D A (q1W cB cI cJ cZ h0 a0 h1 a1 h2 a2 (sa M0 7 j v) M1 M2) := h
theorem q1P_0_c7 {D : va_G} {H : Heap} {cB cI cJ cZ : ClassId} {h0 : Nat} {a0 : Nat → Nat} {h1 : Nat} {a1 : Nat → Nat} {h2 : Nat} {a2 : Nat → Nat} {M0 : gS} {M1 : gS} {M2 : gS} {f : Nat → Int32} (h : va_P D vwCl ((q1W cB cI cJ cZ h0 a0 h1 a1 h2 a2 M0 M1 M2).set 1 (a0 7, .inl (cI, 2, .inl f))) H) : va_P D vwCl (q1W cB cI cJ cZ h0 a0 h1 a1 h2 a2 (sF M0 7 f) M1 M2) H := h
theorem q1D_0_c7 {A : Nat → Prop} {cB cI cJ cZ : ClassId} {h0 : Nat} {a0 : Nat → Nat} {h1 : Nat} {a1 : Nat → Nat} {h2 : Nat} {a2 : Nat → Nat} {M0 : gS} {M1 : gS} {M2 : gS} {f : Nat → Int32} (h : va_D A ((q1W cB cI cJ cZ h0 a0 h1 a1 h2 a2 M0 M1 M2).set 1 (a0 7, .inl (cI, 2, .inl f)))) : va_D A (q1W cB cI cJ cZ h0 a0 h1 a1 h2 a2 (sF M0 7 f) M1 M2) := h
theorem q1P_0_a8 {D : va_G} {H : Heap} {cB cI cJ cZ : ClassId} {h0 : Nat} {a0 : Nat → Nat} {h1 : Nat} {a1 : Nat → Nat} {h2 : Nat} {a2 : Nat → Nat} {M0 : gS} {M1 : gS} {M2 : gS} {j : Nat} {v : Int32} (h : va_P D vwCl ((q1W cB cI cJ cZ h0 a0 h1 a1 h2 a2 M0 M1 M2).set 2 (a0 8, .inl (cI, 2, .inl (upd (ma M0 8) j v)))) H) : va_P D vwCl (q1W cB cI cJ cZ h0 a0 h1 a1 h2 a2 (sa M0 8 j v) M1 M2) H := h
theorem q1D_0_a8 {A : Nat → Prop} {cB cI cJ cZ : ClassId} {h0 : Nat} {a0 : Nat → Nat} {h1 : Nat} {a1 : Nat → Nat} {h2 : Nat} {a2 : Nat → Nat} {M0 : gS} {M1 : gS} {M2 : gS} {j : Nat} {v : Int32} (h : va_D A ((q1W cB cI cJ cZ h0 a0 h1 a1 h2 a2 M0 M1 M2).set 2 (a0 8, .inl (cI, 2, .inl (upd (ma M0 8) j v))))) : va_D A (q1W cB cI cJ cZ h0 a0 h1 a1 h2 a2 (sa M0 8 j v) M1 M2) := h
theorem q1P_0_c8 {D : va_G} {H : Heap} {cB cI cJ cZ : ClassId} {h0 : Nat} {a0 : Nat → Nat} {h1 : Nat} {a1 : Nat → Nat} {h2 : Nat} {a2 : Nat → Nat} {M0 : gS} {M1 : gS} {M2 : gS} {f : Nat → Int32} (h : va_P D vwCl ((q1W cB cI cJ cZ h0 a0 h1 a1 h2 a2 M0 M1 M2).set 2 (a0 8, .inl (cI, 2, .inl f))) H) : va_P D vwCl (q1W cB cI cJ cZ h0 a0 h1 a1 h2 a2 (sF M0 8 f) M1 M2) H := h
theorem q1D_0_c8 {A : Nat → Prop} {cB cI cJ cZ : ClassId} {h0 : Nat} {a0 : Nat → Nat} {h1 : Nat} {a1 : Nat → Nat} {h2 : Nat} {a2 : Nat → Nat} {M0 : gS} {M1 : gS} {M2 : gS} {f : Nat → Int32} (h : va_D A ((q1W cB cI cJ cZ h0 a0 h1 a1 h2 a2 M0 M1 M2).set 2 (a0 8, .inl (cI, 2, .inl f)))) : va_D A (q1W cB cI cJ cZ h0 a0 h1 a1 h2 a2 (sF M0 8 f) M1 M2) := h
theorem q1P_0_a9 {D : va_G} {H : Heap} {cB cI cJ cZ : ClassId} {h0 : Nat} {a0 : Nat → Nat} {h1 : Nat} {a1 : Nat → Nat} {h2 : Nat} {a2 : Nat → Nat} {M0 : gS} {M1 : gS} {M2 : gS} {j : Nat} {v : Int32} (h : va_P D vwCl ((q1W cB cI cJ cZ h0 a0 h1 a1 h2 a2 M0 M1 M2).set 3 (a0 9, .inl (cI, 2, .inl (upd (ma M0 9) j v)))) H) : va_P D vwCl (q1W cB cI cJ cZ h0 a0 h1 a1 h2 a2 (sa M0 9 j v) M1 M2) H := h
theorem q1D_0_a9 {A : Nat → Prop} {cB cI cJ cZ : ClassId} {h0 : Nat} {a0 : Nat → Nat} {h1 : Nat} {a1 : Nat → Nat} {h2 : Nat} {a2 : Nat → Nat} {M0 : gS} {M1 : gS} {M2 : gS} {j : Nat} {v : Int32} (h : va_D A ((q1W cB cI cJ cZ h0 a0 h1 a1 h2 a2 M0 M1 M2).set 3 (a0 9, .inl (cI, 2, .inl (upd (ma M0 9) j v))))) : va_D A (q1W cB cI cJ cZ h0 a0 h1 a1 h2 a2 (sa M0 9 j v) M1 M2) := h
theorem q1P_0_c9 {D : va_G} {H : Heap} {cB cI cJ cZ : ClassId} {h0 : Nat} {a0 : Nat → Nat} {h1 : Nat} {a1 : Nat → Nat} {h2 : Nat} {a2 : Nat → Nat} {M0 : gS} {M1 : gS} {M2 : gS} {f : Nat → Int32} (h : va_P D vwCl ((q1W cB cI cJ cZ h0 a0 h1 a1 h2 a2 M0 M1 M2).set 3 (a0 9, .inl (cI, 2, .inl f))) H) : va_P D vwCl (q1W cB cI cJ cZ h0 a0 h1 a1 h2 a2 (sF M0 9 f) M1 M2) H := h
theorem q1D_0_c9 {A : Nat → Prop} {cB cI cJ cZ : ClassId} {h0 : Nat} {a0 : Nat → Nat} {h1 : Nat} {a1 : Nat → Nat} {h2 : Nat} {a2 : Nat → Nat} {M0 : gS} {M1 : gS} {M2 : gS} {f : Nat → Int32} (h : va_D A ((q1W cB cI cJ cZ h0 a0 h1 a1 h2 a2 M0 M1 M2).set 3 (a0 9, .inl (cI, 2, .inl f)))) : va_D A (q1W cB cI cJ cZ h0 a0 h1 a1 h2 a2 (sF M0 9 f) M1 M2) := h
theorem q1P_1_f0 {D : va_G} {H : Heap} {cB cI cJ cZ : ClassId} {h0 : Nat} {a0 : Nat → Nat} {h1 : Nat} {a1 : Nat → Nat} {h2 : Nat} {a2 : Nat → Nat} {M0 : gS} {M1 : gS} {M2 : gS} {v : Int32} (h : va_P D vwCl ((q1W cB cI cJ cZ h0 a0 h1 a1 h2 a2 M0 M1 M2).set 4 (h1, .inr (1, ([.int (mg M1 0), .ref (a1 1), .int (mg M1 2), .ref (a1 3), .int (mg M1 4), .ref (a1 5)]).set 0 (.int v)))) H) : va_P D vwCl (q1W cB cI cJ cZ h0 a0 h1 a1 h2 a2 M0 (sg M1 0 v) M2) H := h
theorem q1D_1_f0 {A : Nat → Prop} {cB cI cJ cZ : ClassId} {h0 : Nat} {a0 : Nat → Nat} {h1 : Nat} {a1 : Nat → Nat} {h2 : Nat} {a2 : Nat → Nat} {M0 : gS} {M1 : gS} {M2 : gS} {v : Int32} (h : va_D A ((q1W cB cI cJ cZ h0 a0 h1 a1 h2 a2 M0 M1 M2).set 4 (h1, .inr (1, ([.int (mg M1 0), .ref (a1 1), .int (mg M1 2), .ref (a1 3), .int (mg M1 4), .ref (a1 5)]).set 0 (.int v))))) : va_D A (q1W cB cI cJ cZ h0 a0 h1 a1 h2 a2 M0 (sg M1 0 v) M2) := h
theorem q1P_1_f2 {D : va_G} {H : Heap} {cB cI cJ cZ : ClassId} {h0 : Nat} {a0 : Nat → Nat} {h1 : Nat} {a1 : Nat → Nat} {h2 : Nat} {a2 : Nat → Nat} {M0 : gS} {M1 : gS} {M2 : gS} {v : Int32} (h : va_P D vwCl ((q1W cB cI cJ cZ h0 a0 h1 a1 h2 a2 M0 M1 M2).set 4 (h1, .inr (1, ([.int (mg M1 0), .ref (a1 1), .int (mg M1 2), .ref (a1 3), .int (mg M1 4), .ref (a1 5)]).set 2 (.int v)))) H) : va_P D vwCl (q1W cB cI cJ cZ h0 a0 h1 a1 h2 a2 M0 (sg M1 2 v) M2) H := h
theorem q1D_1_f2 {A : Nat → Prop} {cB cI cJ cZ : ClassId} {h0 : Nat} {a0 : Nat → Nat} {h1 : Nat} {a1 : Nat → Nat} {h2 : Nat} {a2 : Nat → Nat} {M0 : gS} {M1 : gS} {M2 : gS} {v : Int32} (h : va_D A ((q1W cB cI cJ cZ h0 a0 h1 a1 h2 a2 M0 M1 M2).set 4 (h1, .inr (1, ([.int (mg M1 0), .ref (a1 1), .int (mg M1 2), .ref (a1 3), .int (mg M1 4), .ref (a1 5)]).set 2 (.int v))))) : va_D A (q1W cB cI cJ cZ h0 a0 h1 a1 h2 a2 M0 (sg M1 2 v) M2) := h
theorem q1P_1_f4 {D : va_G} {H : Heap} {cB cI cJ cZ : ClassId} {h0 : Nat} {a0 : Nat → Nat} {h1 : Nat} {a1 : Nat → Nat} {h2 : Nat} {a2 : Nat → Nat} {M0 : gS} {M1 : gS} {M2 : gS} {v : Int32} (h : va_P D vwCl ((q1W cB cI cJ cZ h0 a0 h1 a1 h2 a2 M0 M1 M2).set 4 (h1, .inr (1, ([.int (mg M1 0), .ref (a1 1), .int (mg M1 2), .ref (a1 3), .int (mg M1 4), .ref (a1 5)]).set 4 (.int v)))) H) : va_P D vwCl (q1W cB cI cJ cZ h0 a0 h1 a1 h2 a2 M0 (sg M1 4 v) M2) H := h
theorem q1D_1_f4 {A : Nat → Prop} {cB cI cJ cZ : ClassId} {h0 : Nat} {a0 : Nat → Nat} {h1 : Nat} {a1 : Nat → Nat} {h2 : Nat} {a2 : Nat → Nat} {M0 : gS} {M1 : gS} {M2 : gS} {v : Int32} (h : va_D A ((q1W cB cI cJ cZ h0 a0 h1 a1 h2 a2 M0 M1 M2).set 4 (h1, .inr (1, ([.int (mg M1 0), .ref (a1 1), .int (mg M1 2), .ref (a1 3), .int (mg M1 4), .ref (a1 5)]).set 4 (.int v))))) : va_D A (q1W cB cI cJ cZ h0 a0 h1 a1 h2 a2 M0 (sg M1 4 v) M2) := h
theorem q1P_1_a1 {D : va_G} {H : Heap} {cB cI cJ cZ : ClassId} {h0 : Nat} {a0 : Nat → Nat} {h1 : Nat} {a1 : Nat → Nat} {h2 : Nat} {a2 : Nat → Nat} {M0 : gS} {M1 : gS} {M2 : gS} {j : Nat} {v : Int32} (h : va_P D vwCl ((q1W cB cI cJ cZ h0 a0 h1 a1 h2 a2 M0 M1 M2).set 5 (a1 1, .inl (cI, 4, .inl (upd (ma M1 1) j v)))) H) : va_P D vwCl (q1W cB cI cJ cZ h0 a0 h1 a1 h2 a2 M0 (sa M1 1 j v) M2) H := h
theorem q1D_1_a1 {A : Nat → Prop} {cB cI cJ cZ : ClassId} {h0 : Nat} {a0 : Nat → Nat} {h1 : Nat} {a1 : Nat → Nat} {h2 : Nat} {a2 : Nat → Nat} {M0 : gS} {M1 : gS} {M2 : gS} {j : Nat} {v : Int32} (h : va_D A ((q1W cB cI cJ cZ h0 a0 h1 a1 h2 a2 M0 M1 M2).set 5 (a1 1, .inl (cI, 4, .inl (upd (ma M1 1) j v))))) : va_D A (q1W cB cI cJ cZ h0 a0 h1 a1 h2 a2 M0 (sa M1 1 j v) M2) := h
theorem q1P_1_c1 {D : va_G} {H : Heap} {cB cI cJ cZ : ClassId} {h0 : Nat} {a0 : Nat → Nat} {h1 : Nat} {a1 : Nat → Nat} {h2 : Nat} {a2 : Nat → Nat} {M0 : gS} {M1 : gS} {M2 : gS} {f : Nat → Int32} (h : va_P D vwCl ((q1W cB cI cJ cZ h0 a0 h1 a1 h2 a2 M0 M1 M2).set 5 (a1 1, .inl (cI, 4, .inl f))) H) : va_P D vwCl (q1W cB cI cJ cZ h0 a0 h1 a1 h2 a2 M0 (sF M1 1 f) M2) H := h
theorem q1D_1_c1 {A : Nat → Prop} {cB cI cJ cZ : ClassId} {h0 : Nat} {a0 : Nat → Nat} {h1 : Nat} {a1 : Nat → Nat} {h2 : Nat} {a2 : Nat → Nat} {M0 : gS} {M1 : gS} {M2 : gS} {f : Nat → Int32} (h : va_D A ((q1W cB cI cJ cZ h0 a0 h1 a1 h2 a2 M0 M1 M2).set 5 (a1 1, .inl (cI, 4, .inl f)))) : va_D A (q1W cB cI cJ cZ h0 a0 h1 a1 h2 a2 M0 (sF M1 1 f) M2) := h
theorem q1P_1_a3 {D : va_G} {H : Heap} {cB cI cJ cZ : ClassId} {h0 : Nat} {a0 : Nat → Nat} {h1 : Nat} {a1 : Nat → Nat} {h2 : Nat} {a2 : Nat → Nat} {M0 : gS} {M1 : gS} {M2 : gS} {j : Nat} {v : Int32} (h : va_P D vwCl ((q1W cB cI cJ cZ h0 a0 h1 a1 h2 a2 M0 M1 M2).set 6 (a1 3, .inl (cI, 4, .inl (upd (ma M1 3) j v)))) H) : va_P D vwCl (q1W cB cI cJ cZ h0 a0 h1 a1 h2 a2 M0 (sa M1 3 j v) M2) H := h
theorem q1D_1_a3 {A : Nat → Prop} {cB cI cJ cZ : ClassId} {h0 : Nat} {a0 : Nat → Nat} {h1 : Nat} {a1 : Nat → Nat} {h2 : Nat} {a2 : Nat → Nat} {M0 : gS} {M1 : gS} {M2 : gS} {j : Nat} {v : Int32} (h : va_D A ((q1W cB cI cJ cZ h0 a0 h1 a1 h2 a2 M0 M1 M2).set 6 (a1 3, .inl (cI, 4, .inl (upd (ma M1 3) j v))))) : va_D A (q1W cB cI cJ cZ h0 a0 h1 a1 h2 a2 M0 (sa M1 3 j v) M2) := h
theorem q1P_1_c3 {D : va_G} {H : Heap} {cB cI cJ cZ : ClassId} {h0 : Nat} {a0 : Nat → Nat} {h1 : Nat} {a1 : Nat → Nat} {h2 : Nat} {a2 : Nat → Nat} {M0 : gS} {M1 : gS} {M2 : gS} {f : Nat → Int32} (h : va_P D vwCl ((q1W cB cI cJ cZ h0 a0 h1 a1 h2 a2 M0 M1 M2).set 6 (a1 3, .inl (cI, 4, .inl f))) H) : va_P D vwCl (q1W cB cI cJ cZ h0 a0 h1 a1 h2 a2 M0 (sF M1 3 f) M2) H := h
theorem q1D_1_c3 {A : Nat → Prop} {cB cI cJ cZ : ClassId} {h0 : Nat} {a0 : Nat → Nat} {h1 : Nat} {a1 : Nat → Nat} {h2 : Nat} {a2 : Nat → Nat} {M0 : gS} {M1 : gS} {M2 : gS} {f : Nat → Int32} (h : va_D A ((q1W cB cI cJ cZ h0 a0 h1 a1 h2 a2 M0 M1 M2).set 6 (a1 3, .inl (cI, 4, .inl f)))) : va_D A (q1W cB cI cJ cZ h0 a0 h1 a1 h2 a2 M0 (sF M1 3 f) M2) := h
theorem q1P_1_a5 {D : va_G} {H : Heap} {cB cI cJ cZ : ClassId} {h0 : Nat} {a0 : Nat → Nat} {h1 : Nat} {a1 : Nat → Nat} {h2 : Nat} {a2 : Nat → Nat} {M0 : gS} {M1 : gS} {M2 : gS} {j : Nat} {v : Int32} (h : va_P D vwCl ((q1W cB cI cJ cZ h0 a0 h1 a1 h2 a2 M0 M1 M2).set 7 (a1 5, .inl (cI, 2, .inl (upd (ma M1 5) j v)))) H) : va_P D vwCl (q1W cB cI cJ cZ h0 a0 h1 a1 h2 a2 M0 (sa M1 5 j v) M2) H := h
theorem q1D_1_a5 {A : Nat → Prop} {cB cI cJ cZ : ClassId} {h0 : Nat} {a0 : Nat → Nat} {h1 : Nat} {a1 : Nat → Nat} {h2 : Nat} {a2 : Nat → Nat} {M0 : gS} {M1 : gS} {M2 : gS} {j : Nat} {v : Int32} (h : va_D A ((q1W cB cI cJ cZ h0 a0 h1 a1 h2 a2 M0 M1 M2).set 7 (a1 5, .inl (cI, 2, .inl (upd (ma M1 5) j v))))) : va_D A (q1W cB cI cJ cZ h0 a0 h1 a1 h2 a2 M0 (sa M1 5 j v) M2) := h
theorem q1P_1_c5 {D : va_G} {H : Heap} {cB cI cJ cZ : ClassId} {h0 : Nat} {a0 : Nat → Nat} {h1 : Nat} {a1 : Nat → Nat} {h2 : Nat} {a2 : Nat → Nat} {M0 : gS} {M1 : gS} {M2 : gS} {f : Nat → Int32} (h : va_P D vwCl ((q1W cB cI cJ cZ h0 a0 h1 a1 h2 a2 M0 M1 M2).set 7 (a1 5, .inl (cI, 2, .inl f))) H) : va_P D vwCl (q1W cB cI cJ cZ h0 a0 h1 a1 h2 a2 M0 (sF M1 5 f) M2) H := h
theorem q1D_1_c5 {A : Nat → Prop} {cB cI cJ cZ : ClassId} {h0 : Nat} {a0 : Nat → Nat} {h1 : Nat} {a1 : Nat → Nat} {h2 : Nat} {a2 : Nat → Nat} {M0 : gS} {M1 : gS} {M2 : gS} {f : Nat → Int32} (h : va_D A ((q1W cB cI cJ cZ h0 a0 h1 a1 h2 a2 M0 M1 M2).set 7 (a1 5, .inl (cI, 2, .inl f)))) : va_D A (q1W cB cI cJ cZ h0 a0 h1 a1 h2 a2 M0 (sF M1 5 f) M2) := h
theorem q1P_2_f0 {D : va_G} {H : Heap} {cB cI cJ cZ : ClassId} {h0 : Nat} {a0 : Nat → Nat} {h1 : Nat} {a1 : Nat → Nat} {h2 : Nat} {a2 : Nat → Nat} {M0 : gS} {M1 : gS} {M2 : gS} {v : Int32} (h : va_P D vwCl ((q1W cB cI cJ cZ h0 a0 h1 a1 h2 a2 M0 M1 M2).set 8 (h2, .inr (8, ([.int (mg M2 0), .ref (a2 1), .ref (a2 2), .ref (a2 3), .int (mg M2 4), .ref (a2 5)]).set 0 (.int v)))) H) : va_P D vwCl (q1W cB cI cJ cZ h0 a0 h1 a1 h2 a2 M0 M1 (sg M2 0 v)) H := h
theorem q1D_2_f0 {A : Nat → Prop} {cB cI cJ cZ : ClassId} {h0 : Nat} {a0 : Nat → Nat} {h1 : Nat} {a1 : Nat → Nat} {h2 : Nat} {a2 : Nat → Nat} {M0 : gS} {M1 : gS} {M2 : gS} {v : Int32} (h : va_D A ((q1W cB cI cJ cZ h0 a0 h1 a1 h2 a2 M0 M1 M2).set 8 (h2, .inr (8, ([.int (mg M2 0), .ref (a2 1), .ref (a2 2), .ref (a2 3), .int (mg M2 4), .ref (a2 5)]).set 0 (.int v))))) : va_D A (q1W cB cI cJ cZ h0 a0 h1 a1 h2 a2 M0 M1 (sg M2 0 v)) := h
theorem q1P_2_f4 {D : va_G} {H : Heap} {cB cI cJ cZ : ClassId} {h0 : Nat} {a0 : Nat → Nat} {h1 : Nat} {a1 : Nat → Nat} {h2 : Nat} {a2 : Nat → Nat} {M0 : gS} {M1 : gS} {M2 : gS} {v : Int32} (h : va_P D vwCl ((q1W cB cI cJ cZ h0 a0 h1 a1 h2 a2 M0 M1 M2).set 8 (h2, .inr (8, ([.int (mg M2 0), .ref (a2 1), .ref (a2 2), .ref (a2 3), .int (mg M2 4), .ref (a2 5)]).set 4 (.int v)))) H) : va_P D vwCl (q1W cB cI cJ cZ h0 a0 h1 a1 h2 a2 M0 M1 (sg M2 4 v)) H := h
theorem q1D_2_f4 {A : Nat → Prop} {cB cI cJ cZ : ClassId} {h0 : Nat} {a0 : Nat → Nat} {h1 : Nat} {a1 : Nat → Nat} {h2 : Nat} {a2 : Nat → Nat} {M0 : gS} {M1 : gS} {M2 : gS} {v : Int32} (h : va_D A ((q1W cB cI cJ cZ h0 a0 h1 a1 h2 a2 M0 M1 M2).set 8 (h2, .inr (8, ([.int (mg M2 0), .ref (a2 1), .ref (a2 2), .ref (a2 3), .int (mg M2 4), .ref (a2 5)]).set 4 (.int v))))) : va_D A (q1W cB cI cJ cZ h0 a0 h1 a1 h2 a2 M0 M1 (sg M2 4 v)) := h
theorem q1P_2_a1 {D : va_G} {H : Heap} {cB cI cJ cZ : ClassId} {h0 : Nat} {a0 : Nat → Nat} {h1 : Nat} {a1 : Nat → Nat} {h2 : Nat} {a2 : Nat → Nat} {M0 : gS} {M1 : gS} {M2 : gS} {j : Nat} {v : Int32} (h : va_P D vwCl ((q1W cB cI cJ cZ h0 a0 h1 a1 h2 a2 M0 M1 M2).set 9 (a2 1, .inl (cI, 12, .inl (upd (ma M2 1) j v)))) H) : va_P D vwCl (q1W cB cI cJ cZ h0 a0 h1 a1 h2 a2 M0 M1 (sa M2 1 j v)) H := h
theorem q1D_2_a1 {A : Nat → Prop} {cB cI cJ cZ : ClassId} {h0 : Nat} {a0 : Nat → Nat} {h1 : Nat} {a1 : Nat → Nat} {h2 : Nat} {a2 : Nat → Nat} {M0 : gS} {M1 : gS} {M2 : gS} {j : Nat} {v : Int32} (h : va_D A ((q1W cB cI cJ cZ h0 a0 h1 a1 h2 a2 M0 M1 M2).set 9 (a2 1, .inl (cI, 12, .inl (upd (ma M2 1) j v))))) : va_D A (q1W cB cI cJ cZ h0 a0 h1 a1 h2 a2 M0 M1 (sa M2 1 j v)) := h
theorem q1P_2_c1 {D : va_G} {H : Heap} {cB cI cJ cZ : ClassId} {h0 : Nat} {a0 : Nat → Nat} {h1 : Nat} {a1 : Nat → Nat} {h2 : Nat} {a2 : Nat → Nat} {M0 : gS} {M1 : gS} {M2 : gS} {f : Nat → Int32} (h : va_P D vwCl ((q1W cB cI cJ cZ h0 a0 h1 a1 h2 a2 M0 M1 M2).set 9 (a2 1, .inl (cI, 12, .inl f))) H) : va_P D vwCl (q1W cB cI cJ cZ h0 a0 h1 a1 h2 a2 M0 M1 (sF M2 1 f)) H := h
theorem q1D_2_c1 {A : Nat → Prop} {cB cI cJ cZ : ClassId} {h0 : Nat} {a0 : Nat → Nat} {h1 : Nat} {a1 : Nat → Nat} {h2 : Nat} {a2 : Nat → Nat} {M0 : gS} {M1 : gS} {M2 : gS} {f : Nat → Int32} (h : va_D A ((q1W cB cI cJ cZ h0 a0 h1 a1 h2 a2 M0 M1 M2).set 9 (a2 1, .inl (cI, 12, .inl f)))) : va_D A (q1W cB cI cJ cZ h0 a0 h1 a1 h2 a2 M0 M1 (sF M2 1 f)) := h
theorem q1P_2_a2 {D : va_G} {H : Heap} {cB cI cJ cZ : ClassId} {h0 : Nat} {a0 : Nat → Nat} {h1 : Nat} {a1 : Nat → Nat} {h2 : Nat} {a2 : Nat → Nat} {M0 : gS} {M1 : gS} {M2 : gS} {j : Nat} {v : Int32} (h : va_P D vwCl ((q1W cB cI cJ cZ h0 a0 h1 a1 h2 a2 M0 M1 M2).set 10 (a2 2, .inl (cI, 12, .inl (upd (ma M2 2) j v)))) H) : va_P D vwCl (q1W cB cI cJ cZ h0 a0 h1 a1 h2 a2 M0 M1 (sa M2 2 j v)) H := h
theorem q1D_2_a2 {A : Nat → Prop} {cB cI cJ cZ : ClassId} {h0 : Nat} {a0 : Nat → Nat} {h1 : Nat} {a1 : Nat → Nat} {h2 : Nat} {a2 : Nat → Nat} {M0 : gS} {M1 : gS} {M2 : gS} {j : Nat} {v : Int32} (h : va_D A ((q1W cB cI cJ cZ h0 a0 h1 a1 h2 a2 M0 M1 M2).set 10 (a2 2, .inl (cI, 12, .inl (upd (ma M2 2) j v))))) : va_D A (q1W cB cI cJ cZ h0 a0 h1 a1 h2 a2 M0 M1 (sa M2 2 j v)) := h
theorem q1P_2_c2 {D : va_G} {H : Heap} {cB cI cJ cZ : ClassId} {h0 : Nat} {a0 : Nat → Nat} {h1 : Nat} {a1 : Nat → Nat} {h2 : Nat} {a2 : Nat → Nat} {M0 : gS} {M1 : gS} {M2 : gS} {f : Nat → Int32} (h : va_P D vwCl ((q1W cB cI cJ cZ h0 a0 h1 a1 h2 a2 M0 M1 M2).set 10 (a2 2, .inl (cI, 12, .inl f))) H) : va_P D vwCl (q1W cB cI cJ cZ h0 a0 h1 a1 h2 a2 M0 M1 (sF M2 2 f)) H := h
theorem q1D_2_c2 {A : Nat → Prop} {cB cI cJ cZ : ClassId} {h0 : Nat} {a0 : Nat → Nat} {h1 : Nat} {a1 : Nat → Nat} {h2 : Nat} {a2 : Nat → Nat} {M0 : gS} {M1 : gS} {M2 : gS} {f : Nat → Int32} (h : va_D A ((q1W cB cI cJ cZ h0 a0 h1 a1 h2 a2 M0 M1 M2).set 10 (a2 2, .inl (cI, 12, .inl f)))) : va_D A (q1W cB cI cJ cZ h0 a0 h1 a1 h2 a2 M0 M1 (sF M2 2 f)) := h
theorem q1P_2_a3 {D : va_G} {H : Heap} {cB cI cJ cZ : ClassId} {h0 : Nat} {a0 : Nat → Nat} {h1 : Nat} {a1 : Nat → Nat} {h2 : Nat} {a2 : Nat → Nat} {M0 : gS} {M1 : gS} {M2 : gS} {j : Nat} {v : Int32} (h : va_P D vwCl ((q1W cB cI cJ cZ h0 a0 h1 a1 h2 a2 M0 M1 M2).set 11 (a2 3, .inl (cI, 400, .inl (upd (ma M2 3) j v)))) H) : va_P D vwCl (q1W cB cI cJ cZ h0 a0 h1 a1 h2 a2 M0 M1 (sa M2 3 j v)) H := h
theorem q1D_2_a3 {A : Nat → Prop} {cB cI cJ cZ : ClassId} {h0 : Nat} {a0 : Nat → Nat} {h1 : Nat} {a1 : Nat → Nat} {h2 : Nat} {a2 : Nat → Nat} {M0 : gS} {M1 : gS} {M2 : gS} {j : Nat} {v : Int32} (h : va_D A ((q1W cB cI cJ cZ h0 a0 h1 a1 h2 a2 M0 M1 M2).set 11 (a2 3, .inl (cI, 400, .inl (upd (ma M2 3) j v))))) : va_D A (q1W cB cI cJ cZ h0 a0 h1 a1 h2 a2 M0 M1 (sa M2 3 j v)) := h
theorem q1P_2_c3 {D : va_G} {H : Heap} {cB cI cJ cZ : ClassId} {h0 : Nat} {a0 : Nat → Nat} {h1 : Nat} {a1 : Nat → Nat} {h2 : Nat} {a2 : Nat → Nat} {M0 : gS} {M1 : gS} {M2 : gS} {f : Nat → Int32} (h : va_P D vwCl ((q1W cB cI cJ cZ h0 a0 h1 a1 h2 a2 M0 M1 M2).set 11 (a2 3, .inl (cI, 400, .inl f))) H) : va_P D vwCl (q1W cB cI cJ cZ h0 a0 h1 a1 h2 a2 M0 M1 (sF M2 3 f)) H := h
theorem q1D_2_c3 {A : Nat → Prop} {cB cI cJ cZ : ClassId} {h0 : Nat} {a0 : Nat → Nat} {h1 : Nat} {a1 : Nat → Nat} {h2 : Nat} {a2 : Nat → Nat} {M0 : gS} {M1 : gS} {M2 : gS} {f : Nat → Int32} (h : va_D A ((q1W cB cI cJ cZ h0 a0 h1 a1 h2 a2 M0 M1 M2).set 11 (a2 3, .inl (cI, 400, .inl f)))) : va_D A (q1W cB cI cJ cZ h0 a0 h1 a1 h2 a2 M0 M1 (sF M2 3 f)) := h
theorem q1P_2_a5 {D : va_G} {H : Heap} {cB cI cJ cZ : ClassId} {h0 : Nat} {a0 : Nat → Nat} {h1 : Nat} {a1 : Nat → Nat} {h2 : Nat} {a2 : Nat → Nat} {M0 : gS} {M1 : gS} {M2 : gS} {j : Nat} {v : Int64} (h : va_P D vwCl ((q1W cB cI cJ cZ h0 a0 h1 a1 h2 a2 M0 M1 M2).set 12 (a2 5, .inl (cJ, 60, .inr (.inl (vp_updL (ml M2 5) j v))))) H) : va_P D vwCl (q1W cB cI cJ cZ h0 a0 h1 a1 h2 a2 M0 M1 (sl M2 5 j v)) H := h
theorem q1D_2_a5 {A : Nat → Prop} {cB cI cJ cZ : ClassId} {h0 : Nat} {a0 : Nat → Nat} {h1 : Nat} {a1 : Nat → Nat} {h2 : Nat} {a2 : Nat → Nat} {M0 : gS} {M1 : gS} {M2 : gS} {j : Nat} {v : Int64} (h : va_D A ((q1W cB cI cJ cZ h0 a0 h1 a1 h2 a2 M0 M1 M2).set 12 (a2 5, .inl (cJ, 60, .inr (.inl (vp_updL (ml M2 5) j v)))))) : va_D A (q1W cB cI cJ cZ h0 a0 h1 a1 h2 a2 M0 M1 (sl M2 5 j v)) := h
theorem q1pV {s : State} {dC : Nat → ClassId} {dI : Nat → Nat → Nat} {A : Nat → Prop} {cB cI cJ cZ : ClassId} {h0 : Nat} {a0 : Nat → Nat} {h1 : Nat} {a1 : Nat → Nat} {h2 : Nat} {a2 : Nat → Nat} {M0 : gS} {M1 : gS} {M2 : gS} {H : Heap} {As : List Value} (hK : va_K (dC, dI) vwCl (gT cB cI cJ cZ) s) (hP : va_P (dC, dI) vwCl (q1W cB cI cJ cZ h0 a0 h1 a1 h2 a2 M0 M1 M2) H) (hD : va_D A (q1W cB cI cJ cZ h0 a0 h1 a1 h2 a2 M0 M1 M2)) : PreV s H RX6 h0 (va_Pc (.ref h0 :: As) (q1I dC dI cB cI cJ cZ h0 a0 h1 a1 h2 a2 M0 M1 M2 H.size)) As := ⟨fun a U g mk q => by obtain ⟨q0, q1, qP, qK, qD⟩ := q; exact ⟨q0, q1, qP, va_K.moved (u := U) (U := U.calling g mk a) (Vm.Alike.refl U.vm) qK, qD⟩, va_recv hK hP (ci := 6) (q0 := 0) rfl rfl, fun U hU hW => ⟨rfl, by rw [hU], by rw [hU]; exact hP, va_K.moved hW.alike hK, hD.weaken (fun _ _ _ _ => trivial)⟩⟩
theorem q1pS {s : State} {dC : Nat → ClassId} {dI : Nat → Nat → Nat} {A : Nat → Prop} {cB cI cJ cZ : ClassId} {h0 : Nat} {a0 : Nat → Nat} {h1 : Nat} {a1 : Nat → Nat} {h2 : Nat} {a2 : Nat → Nat} {M0 : gS} {M1 : gS} {M2 : gS} {H : Heap} {As : List Value} (hK : va_K (dC, dI) vwCl (gT cB cI cJ cZ) s) (hP : va_P (dC, dI) vwCl (q1W cB cI cJ cZ h0 a0 h1 a1 h2 a2 M0 M1 M2) H) (hD : va_D A (q1W cB cI cJ cZ h0 a0 h1 a1 h2 a2 M0 M1 M2)) : PreS s H (va_Pc As (q1I dC dI cB cI cJ cZ h0 a0 h1 a1 h2 a2 M0 M1 M2 H.size)) As := ⟨fun a U g mk q => by obtain ⟨q0, q1, qP, qK, qD⟩ := q; exact ⟨q0, q1, qP, va_K.moved (u := U) (U := U.calling g mk a) (Vm.Alike.refl U.vm) qK, qD⟩, fun U hU hW => ⟨rfl, by rw [hU], by rw [hU]; exact hP, va_K.moved hW.alike hK, hD.weaken (fun _ _ _ _ => trivial)⟩⟩

abbrev q2W (cB cI cJ cZ : ClassId) (h0 : Nat) (a0 : Nat → Nat) (h1 : Nat) (a1 : Nat → Nat) (h2 : Nat) (a2 : Nat → Nat) (h3 : Nat) (a3 : Nat → Nat) (M0 : gS) (M1 : gS) (M2 : gS) (M3 : gS) : va_W := [(h0, .inr (6, [.int (mg M0 0), .int (mg M0 1), .int (mg M0 2), .int (mg M0 3), .int (mg M0 4), .int (mg M0 5), .int (mg M0 6), .ref (a0 7), .ref (a0 8), .ref (a0 9)])), (a0 7, .inl (cI, 2, .inl (ma M0 7))), (a0 8, .inl (cI, 2, .inl (ma M0 8))), (a0 9, .inl (cI, 2, .inl (ma M0 9))), (h1, .inr (1, [.int (mg M1 0), .ref (a1 1), .int (mg M1 2), .ref (a1 3), .int (mg M1 4), .ref (a1 5)])), (a1 1, .inl (cI, 4, .inl (ma M1 1))), (a1 3, .inl (cI, 4, .inl (ma M1 3))), (a1 5, .inl (cI, 2, .inl (ma M1 5))), (h2, .inr (8, [.int (mg M2 0), .ref (a2 1), .ref (a2 2), .ref (a2 3), .int (mg M2 4), .ref (a2 5)])), (a2 1, .inl (cI, 12, .inl (ma M2 1))), (a2 2, .inl (cI, 12, .inl (ma M2 2))), (a2 3, .inl (cI, 400, .inl (ma M2 3))), (a2 5, .inl (cJ, 60, .inr (.inl (ml M2 5)))), (h3, .inr (8, [.int (mg M3 0), .ref (a3 1), .ref (a3 2), .ref (a3 3), .int (mg M3 4), .ref (a3 5)])), (a3 1, .inl (cI, 12, .inl (ma M3 1))), (a3 2, .inl (cI, 12, .inl (ma M3 2))), (a3 3, .inl (cI, 400, .inl (ma M3 3))), (a3 5, .inl (cJ, 60, .inr (.inl (ml M3 5))))]
abbrev q2I (dC : Nat → ClassId) (dI : Nat → Nat → Nat) (cB cI cJ cZ : ClassId) (h0 : Nat) (a0 : Nat → Nat) (h1 : Nat) (a1 : Nat → Nat) (h2 : Nat) (a2 : Nat → Nat) (h3 : Nat) (a3 : Nat → Nat) (M0 : gS) (M1 : gS) (M2 : gS) (M3 : gS) (sz : Nat) : State → Prop := fun U => U.heap.size = sz ∧ va_P (dC, dI) vwCl (q2W cB cI cJ cZ h0 a0 h1 a1 h2 a2 h3 a3 M0 M1 M2 M3) U.heap ∧ va_K (dC, dI) vwCl (gT cB cI cJ cZ) U ∧ va_D (fun _ => True) (q2W cB cI cJ cZ h0 a0 h1 a1 h2 a2 h3 a3 M0 M1 M2 M3)
abbrev q2B (dC : Nat → ClassId) (dI : Nat → Nat → Nat) (cB cI cJ cZ : ClassId) (h0 : Nat) (a0 : Nat → Nat) (h1 : Nat) (a1 : Nat → Nat) (h2 : Nat) (a2 : Nat → Nat) (h3 : Nat) (a3 : Nat → Nat) (A : Nat → Prop) (u : gS × gS × gS × gS) (t : State) : Prop := match u with
  | (M0, M1, M2, M3) => va_P (dC, dI) vwCl (q2W cB cI cJ cZ h0 a0 h1 a1 h2 a2 h3 a3 M0 M1 M2 M3) t.heap ∧ va_K (dC, dI) vwCl (gT cB cI cJ cZ) t ∧ va_D A (q2W cB cI cJ cZ h0 a0 h1 a1 h2 a2 h3 a3 M0 M1 M2 M3)
theorem q2P_0_f0 {D : va_G} {H : Heap} {cB cI cJ cZ : ClassId} {h0 : Nat} {a0 : Nat → Nat} {h1 : Nat} {a1 : Nat → Nat} {h2 : Nat} {a2 : Nat → Nat} {h3 : Nat} {a3 : Nat → Nat} {M0 : gS} {M1 : gS} {M2 : gS} {M3 : gS} {v : Int32} (h : va_P D vwCl ((q2W cB cI cJ cZ h0 a0 h1 a1 h2 a2 h3 a3 M0 M1 M2 M3).set 0 (h0, .inr (6, ([.int (mg M0 0), .int (mg M0 1), .int (mg M0 2), .int (mg M0 3), .int (mg M0 4), .int (mg M0 5), .int (mg M0 6), .ref (a0 7), .ref (a0 8), .ref (a0 9)]).set 0 (.int v)))) H) : va_P D vwCl (q2W cB cI cJ cZ h0 a0 h1 a1 h2 a2 h3 a3 (sg M0 0 v) M1 M2 M3) H := h
theorem q2D_0_f0 {A : Nat → Prop} {cB cI cJ cZ : ClassId} {h0 : Nat} {a0 : Nat → Nat} {h1 : Nat} {a1 : Nat → Nat} {h2 : Nat} {a2 : Nat → Nat} {h3 : Nat} {a3 : Nat → Nat} {M0 : gS} {M1 : gS} {M2 : gS} {M3 : gS} {v : Int32} (h : va_D A ((q2W cB cI cJ cZ h0 a0 h1 a1 h2 a2 h3 a3 M0 M1 M2 M3).set 0 (h0, .inr (6, ([.int (mg M0 0), .int (mg M0 1), .int (mg M0 2), .int (mg M0 3), .int (mg M0 4), .int (mg M0 5), .int (mg M0 6), .ref (a0 7), .ref (a0 8), .ref (a0 9)]).set 0 (.int v))))) : va_D A (q2W cB cI cJ cZ h0 a0 h1 a1 h2 a2 h3 a3 (sg M0 0 v) M1 M2 M3) := h
theorem q2P_0_f1 {D : va_G} {H : Heap} {cB cI cJ cZ : ClassId} {h0 : Nat} {a0 : Nat → Nat} {h1 : Nat} {a1 : Nat → Nat} {h2 : Nat} {a2 : Nat → Nat} {h3 : Nat} {a3 : Nat → Nat} {M0 : gS} {M1 : gS} {M2 : gS} {M3 : gS} {v : Int32} (h : va_P D vwCl ((q2W cB cI cJ cZ h0 a0 h1 a1 h2 a2 h3 a3 M0 M1 M2 M3).set 0 (h0, .inr (6, ([.int (mg M0 0), .int (mg M0 1), .int (mg M0 2), .int (mg M0 3), .int (mg M0 4), .int (mg M0 5), .int (mg M0 6), .ref (a0 7), .ref (a0 8), .ref (a0 9)]).set 1 (.int v)))) H) : va_P D vwCl (q2W cB cI cJ cZ h0 a0 h1 a1 h2 a2 h3 a3 (sg M0 1 v) M1 M2 M3) H := h
theorem q2D_0_f1 {A : Nat → Prop} {cB cI cJ cZ : ClassId} {h0 : Nat} {a0 : Nat → Nat} {h1 : Nat} {a1 : Nat → Nat} {h2 : Nat} {a2 : Nat → Nat} {h3 : Nat} {a3 : Nat → Nat} {M0 : gS} {M1 : gS} {M2 : gS} {M3 : gS} {v : Int32} (h : va_D A ((q2W cB cI cJ cZ h0 a0 h1 a1 h2 a2 h3 a3 M0 M1 M2 M3).set 0 (h0, .inr (6, ([.int (mg M0 0), .int (mg M0 1), .int (mg M0 2), .int (mg M0 3), .int (mg M0 4), .int (mg M0 5), .int (mg M0 6), .ref (a0 7), .ref (a0 8), .ref (a0 9)]).set 1 (.int v))))) : va_D A (q2W cB cI cJ cZ h0 a0 h1 a1 h2 a2 h3 a3 (sg M0 1 v) M1 M2 M3) := h
theorem q2P_0_f2 {D : va_G} {H : Heap} {cB cI cJ cZ : ClassId} {h0 : Nat} {a0 : Nat → Nat} {h1 : Nat} {a1 : Nat → Nat} {h2 : Nat} {a2 : Nat → Nat} {h3 : Nat} {a3 : Nat → Nat} {M0 : gS} {M1 : gS} {M2 : gS} {M3 : gS} {v : Int32} (h : va_P D vwCl ((q2W cB cI cJ cZ h0 a0 h1 a1 h2 a2 h3 a3 M0 M1 M2 M3).set 0 (h0, .inr (6, ([.int (mg M0 0), .int (mg M0 1), .int (mg M0 2), .int (mg M0 3), .int (mg M0 4), .int (mg M0 5), .int (mg M0 6), .ref (a0 7), .ref (a0 8), .ref (a0 9)]).set 2 (.int v)))) H) : va_P D vwCl (q2W cB cI cJ cZ h0 a0 h1 a1 h2 a2 h3 a3 (sg M0 2 v) M1 M2 M3) H := h
theorem q2D_0_f2 {A : Nat → Prop} {cB cI cJ cZ : ClassId} {h0 : Nat} {a0 : Nat → Nat} {h1 : Nat} {a1 : Nat → Nat} {h2 : Nat} {a2 : Nat → Nat} {h3 : Nat} {a3 : Nat → Nat} {M0 : gS} {M1 : gS} {M2 : gS} {M3 : gS} {v : Int32} (h : va_D A ((q2W cB cI cJ cZ h0 a0 h1 a1 h2 a2 h3 a3 M0 M1 M2 M3).set 0 (h0, .inr (6, ([.int (mg M0 0), .int (mg M0 1), .int (mg M0 2), .int (mg M0 3), .int (mg M0 4), .int (mg M0 5), .int (mg M0 6), .ref (a0 7), .ref (a0 8), .ref (a0 9)]).set 2 (.int v))))) : va_D A (q2W cB cI cJ cZ h0 a0 h1 a1 h2 a2 h3 a3 (sg M0 2 v) M1 M2 M3) := h
theorem q2P_0_f3 {D : va_G} {H : Heap} {cB cI cJ cZ : ClassId} {h0 : Nat} {a0 : Nat → Nat} {h1 : Nat} {a1 : Nat → Nat} {h2 : Nat} {a2 : Nat → Nat} {h3 : Nat} {a3 : Nat → Nat} {M0 : gS} {M1 : gS} {M2 : gS} {M3 : gS} {v : Int32} (h : va_P D vwCl ((q2W cB cI cJ cZ h0 a0 h1 a1 h2 a2 h3 a3 M0 M1 M2 M3).set 0 (h0, .inr (6, ([.int (mg M0 0), .int (mg M0 1), .int (mg M0 2), .int (mg M0 3), .int (mg M0 4), .int (mg M0 5), .int (mg M0 6), .ref (a0 7), .ref (a0 8), .ref (a0 9)]).set 3 (.int v)))) H) : va_P D vwCl (q2W cB cI cJ cZ h0 a0 h1 a1 h2 a2 h3 a3 (sg M0 3 v) M1 M2 M3) H := h
theorem q2D_0_f3 {A : Nat → Prop} {cB cI cJ cZ : ClassId} {h0 : Nat} {a0 : Nat → Nat} {h1 : Nat} {a1 : Nat → Nat} {h2 : Nat} {a2 : Nat → Nat} {h3 : Nat} {a3 : Nat → Nat} {M0 : gS} {M1 : gS} {M2 : gS} {M3 : gS} {v : Int32} (h : va_D A ((q2W cB cI cJ cZ h0 a0 h1 a1 h2 a2 h3 a3 M0 M1 M2 M3).set 0 (h0, .inr (6, ([.int (mg M0 0), .int (mg M0 1), .int (mg M0 2), .int (mg M0 3), .int (mg M0 4), .int (mg M0 5), .int (mg M0 6), .ref (a0 7), .ref (a0 8), .ref (a0 9)]).set 3 (.int v))))) : va_D A (q2W cB cI cJ cZ h0 a0 h1 a1 h2 a2 h3 a3 (sg M0 3 v) M1 M2 M3) := h
theorem q2P_0_f4 {D : va_G} {H : Heap} {cB cI cJ cZ : ClassId} {h0 : Nat} {a0 : Nat → Nat} {h1 : Nat} {a1 : Nat → Nat} {h2 : Nat} {a2 : Nat → Nat} {h3 : Nat} {a3 : Nat → Nat} {M0 : gS} {M1 : gS} {M2 : gS} {M3 : gS} {v : Int32} (h : va_P D vwCl ((q2W cB cI cJ cZ h0 a0 h1 a1 h2 a2 h3 a3 M0 M1 M2 M3).set 0 (h0, .inr (6, ([.int (mg M0 0), .int (mg M0 1), .int (mg M0 2), .int (mg M0 3), .int (mg M0 4), .int (mg M0 5), .int (mg M0 6), .ref (a0 7), .ref (a0 8), .ref (a0 9)]).set 4 (.int v)))) H) : va_P D vwCl (q2W cB cI cJ cZ h0 a0 h1 a1 h2 a2 h3 a3 (sg M0 4 v) M1 M2 M3) H := h
theorem q2D_0_f4 {A : Nat → Prop} {cB cI cJ cZ : ClassId} {h0 : Nat} {a0 : Nat → Nat} {h1 : Nat} {a1 : Nat → Nat} {h2 : Nat} {a2 : Nat → Nat} {h3 : Nat} {a3 : Nat → Nat} {M0 : gS} {M1 : gS} {M2 : gS} {M3 : gS} {v : Int32} (h : va_D A ((q2W cB cI cJ cZ h0 a0 h1 a1 h2 a2 h3 a3 M0 M1 M2 M3).set 0 (h0, .inr (6, ([.int (mg M0 0), .int (mg M0 1), .int (mg M0 2), .int (mg M0 3), .int (mg M0 4), .int (mg M0 5), .int (mg M0 6), .ref (a0 7), .ref (a0 8), .ref (a0 9)]).set 4 (.int v))))) : va_D A (q2W cB cI cJ cZ h0 a0 h1 a1 h2 a2 h3 a3 (sg M0 4 v) M1 M2 M3) := h
theorem q2P_0_f5 {D : va_G} {H : Heap} {cB cI cJ cZ : ClassId} {h0 : Nat} {a0 : Nat → Nat} {h1 : Nat} {a1 : Nat → Nat} {h2 : Nat} {a2 : Nat → Nat} {h3 : Nat} {a3 : Nat → Nat} {M0 : gS} {M1 : gS} {M2 : gS} {M3 : gS} {v : Int32} (h : va_P D vwCl ((q2W cB cI cJ cZ h0 a0 h1 a1 h2 a2 h3 a3 M0 M1 M2 M3).set 0 (h0, .inr (6, ([.int (mg M0 0), .int (mg M0 1), .int (mg M0 2), .int (mg M0 3), .int (mg M0 4), .int (mg M0 5), .int (mg M0 6), .ref (a0 7), .ref (a0 8), .ref (a0 9)]).set 5 (.int v)))) H) : va_P D vwCl (q2W cB cI cJ cZ h0 a0 h1 a1 h2 a2 h3 a3 (sg M0 5 v) M1 M2 M3) H := h
theorem q2D_0_f5 {A : Nat → Prop} {cB cI cJ cZ : ClassId} {h0 : Nat} {a0 : Nat → Nat} {h1 : Nat} {a1 : Nat → Nat} {h2 : Nat} {a2 : Nat → Nat} {h3 : Nat} {a3 : Nat → Nat} {M0 : gS} {M1 : gS} {M2 : gS} {M3 : gS} {v : Int32} (h : va_D A ((q2W cB cI cJ cZ h0 a0 h1 a1 h2 a2 h3 a3 M0 M1 M2 M3).set 0 (h0, .inr (6, ([.int (mg M0 0), .int (mg M0 1), .int (mg M0 2), .int (mg M0 3), .int (mg M0 4), .int (mg M0 5), .int (mg M0 6), .ref (a0 7), .ref (a0 8), .ref (a0 9)]).set 5 (.int v))))) : va_D A (q2W cB cI cJ cZ h0 a0 h1 a1 h2 a2 h3 a3 (sg M0 5 v) M1 M2 M3) := h
theorem q2P_0_f6 {D : va_G} {H : Heap} {cB cI cJ cZ : ClassId} {h0 : Nat} {a0 : Nat → Nat} {h1 : Nat} {a1 : Nat → Nat} {h2 : Nat} {a2 : Nat → Nat} {h3 : Nat} {a3 : Nat → Nat} {M0 : gS} {M1 : gS} {M2 : gS} {M3 : gS} {v : Int32} (h : va_P D vwCl ((q2W cB cI cJ cZ h0 a0 h1 a1 h2 a2 h3 a3 M0 M1 M2 M3).set 0 (h0, .inr (6, ([.int (mg M0 0), .int (mg M0 1), .int (mg M0 2), .int (mg M0 3), .int (mg M0 4), .int (mg M0 5), .int (mg M0 6), .ref (a0 7), .ref (a0 8), .ref (a0 9)]).set 6 (.int v)))) H) : va_P D vwCl (q2W cB cI cJ cZ h0 a0 h1 a1 h2 a2 h3 a3 (sg M0 6 v) M1 M2 M3) H := h
theorem q2D_0_f6 {A : Nat → Prop} {cB cI cJ cZ : ClassId} {h0 : Nat} {a0 : Nat → Nat} {h1 : Nat} {a1 : Nat → Nat} {h2 : Nat} {a2 : Nat → Nat} {h3 : Nat} {a3 : Nat → Nat} {M0 : gS} {M1 : gS} {M2 : gS} {M3 : gS} {v : Int32} (h : va_D A ((q2W cB cI cJ cZ h0 a0 h1 a1 h2 a2 h3 a3 M0 M1 M2 M3).set 0 (h0, .inr (6, ([.int (mg M0 0), .int (mg M0 1), .int (mg M0 2), .int (mg M0 3), .int (mg M0 4), .int (mg M0 5), .int (mg M0 6), .ref (a0 7), .ref (a0 8), .ref (a0 9)]).set 6 (.int v))))) : va_D A (q2W cB cI cJ cZ h0 a0 h1 a1 h2 a2 h3 a3 (sg M0 6 v) M1 M2 M3) := h
theorem q2P_0_a7 {D : va_G} {H : Heap} {cB cI cJ cZ : ClassId} {h0 : Nat} {a0 : Nat → Nat} {h1 : Nat} {a1 : Nat → Nat} {h2 : Nat} {a2 : Nat → Nat} {h3 : Nat} {a3 : Nat → Nat} {M0 : gS} {M1 : gS} {M2 : gS} {M3 : gS} {j : Nat} {v : Int32} (h : va_P D vwCl ((q2W cB cI cJ cZ h0 a0 h1 a1 h2 a2 h3 a3 M0 M1 M2 M3).set 1 (a0 7, .inl (cI, 2, .inl (upd (ma M0 7) j v)))) H) : va_P D vwCl (q2W cB cI cJ cZ h0 a0 h1 a1 h2 a2 h3 a3 (sa M0 7 j v) M1 M2 M3) H := h
theorem q2D_0_a7 {A : Nat → Prop} {cB cI cJ cZ : ClassId} {h0 : Nat} {a0 : Nat → Nat} {h1 : Nat} {a1 : Nat → Nat} {h2 : Nat} {a2 : Nat → Nat} {h3 : Nat} {a3 : Nat → Nat} {M0 : gS} {M1 : gS} {M2 : gS} {M3 : gS} {j : Nat} {v : Int32} (h : va_D A ((q2W cB cI cJ cZ h0 a0 h1 a1 h2 a2 h3 a3 M0 M1 M2 M3).set 1 (a0 7, .inl (cI, 2, .inl (upd (ma M0 7) j v))))) : va_D A (q2W cB cI cJ cZ h0 a0 h1 a1 h2 a2 h3 a3 (sa M0 7 j v) M1 M2 M3) := h
theorem q2P_0_c7 {D : va_G} {H : Heap} {cB cI cJ cZ : ClassId} {h0 : Nat} {a0 : Nat → Nat} {h1 : Nat} {a1 : Nat → Nat} {h2 : Nat} {a2 : Nat → Nat} {h3 : Nat} {a3 : Nat → Nat} {M0 : gS} {M1 : gS} {M2 : gS} {M3 : gS} {f : Nat → Int32} (h : va_P D vwCl ((q2W cB cI cJ cZ h0 a0 h1 a1 h2 a2 h3 a3 M0 M1 M2 M3).set 1 (a0 7, .inl (cI, 2, .inl f))) H) : va_P D vwCl (q2W cB cI cJ cZ h0 a0 h1 a1 h2 a2 h3 a3 (sF M0 7 f) M1 M2 M3) H := h
theorem q2D_0_c7 {A : Nat → Prop} {cB cI cJ cZ : ClassId} {h0 : Nat} {a0 : Nat → Nat} {h1 : Nat} {a1 : Nat → Nat} {h2 : Nat} {a2 : Nat → Nat} {h3 : Nat} {a3 : Nat → Nat} {M0 : gS} {M1 : gS} {M2 : gS} {M3 : gS} {f : Nat → Int32} (h : va_D A ((q2W cB cI cJ cZ h0 a0 h1 a1 h2 a2 h3 a3 M0 M1 M2 M3).set 1 (a0 7, .inl (cI, 2, .inl f)))) : va_D A (q2W cB cI cJ cZ h0 a0 h1 a1 h2 a2 h3 a3 (sF M0 7 f) M1 M2 M3) := h
theorem q2P_0_a8 {D : va_G} {H : Heap} {cB cI cJ cZ : ClassId} {h0 : Nat} {a0 : Nat → Nat} {h1 : Nat} {a1 : Nat → Nat} {h2 : Nat} {a2 : Nat → Nat} {h3 : Nat} {a3 : Nat → Nat} {M0 : gS} {M1 : gS} {M2 : gS} {M3 : gS} {j : Nat} {v : Int32} (h : va_P D vwCl ((q2W cB cI cJ cZ h0 a0 h1 a1 h2 a2 h3 a3 M0 M1 M2 M3).set 2 (a0 8, .inl (cI, 2, .inl (upd (ma M0 8) j v)))) H) : va_P D vwCl (q2W cB cI cJ cZ h0 a0 h1 a1 h2 a2 h3 a3 (sa M0 8 j v) M1 M2 M3) H := h
theorem q2D_0_a8 {A : Nat → Prop} {cB cI cJ cZ : ClassId} {h0 : Nat} {a0 : Nat → Nat} {h1 : Nat} {a1 : Nat → Nat} {h2 : Nat} {a2 : Nat → Nat} {h3 : Nat} {a3 : Nat → Nat} {M0 : gS} {M1 : gS} {M2 : gS} {M3 : gS} {j : Nat} {v : Int32} (h : va_D A ((q2W cB cI cJ cZ h0 a0 h1 a1 h2 a2 h3 a3 M0 M1 M2 M3).set 2 (a0 8, .inl (cI, 2, .inl (upd (ma M0 8) j v))))) : va_D A (q2W cB cI cJ cZ h0 a0 h1 a1 h2 a2 h3 a3 (sa M0 8 j v) M1 M2 M3) := h
theorem q2P_0_c8 {D : va_G} {H : Heap} {cB cI cJ cZ : ClassId} {h0 : Nat} {a0 : Nat → Nat} {h1 : Nat} {a1 : Nat → Nat} {h2 : Nat} {a2 : Nat → Nat} {h3 : Nat} {a3 : Nat → Nat} {M0 : gS} {M1 : gS} {M2 : gS} {M3 : gS} {f : Nat → Int32} (h : va_P D vwCl ((q2W cB cI cJ cZ h0 a0 h1 a1 h2 a2 h3 a3 M0 M1 M2 M3).set 2 (a0 8, .inl (cI, 2, .inl f))) H) : va_P D vwCl (q2W cB cI cJ cZ h0 a0 h1 a1 h2 a2 h3 a3 (sF M0 8 f) M1 M2 M3) H := h
theorem q2D_0_c8 {A : Nat → Prop} {cB cI cJ cZ : ClassId} {h0 : Nat} {a0 : Nat → Nat} {h1 : Nat} {a1 : Nat → Nat} {h2 : Nat} {a2 : Nat → Nat} {h3 : Nat} {a3 : Nat → Nat} {M0 : gS} {M1 : gS} {M2 : gS} {M3 : gS} {f : Nat → Int32} (h : va_D A ((q2W cB cI cJ cZ h0 a0 h1 a1 h2 a2 h3 a3 M0 M1 M2 M3).set 2 (a0 8, .inl (cI, 2, .inl f)))) : va_D A (q2W cB cI cJ cZ h0 a0 h1 a1 h2 a2 h3 a3 (sF M0 8 f) M1 M2 M3) := h
theorem q2P_0_a9 {D : va_G} {H : Heap} {cB cI cJ cZ : ClassId} {h0 : Nat} {a0 : Nat → Nat} {h1 : Nat} {a1 : Nat → Nat} {h2 : Nat} {a2 : Nat → Nat} {h3 : Nat} {a3 : Nat → Nat} {M0 : gS} {M1 : gS} {M2 : gS} {M3 : gS} {j : Nat} {v : Int32} (h : va_P D vwCl ((q2W cB cI cJ cZ h0 a0 h1 a1 h2 a2 h3 a3 M0 M1 M2 M3).set 3 (a0 9, .inl (cI, 2, .inl (upd (ma M0 9) j v)))) H) : va_P D vwCl (q2W cB cI cJ cZ h0 a0 h1 a1 h2 a2 h3 a3 (sa M0 9 j v) M1 M2 M3) H := h
theorem q2D_0_a9 {A : Nat → Prop} {cB cI cJ cZ : ClassId} {h0 : Nat} {a0 : Nat → Nat} {h1 : Nat} {a1 : Nat → Nat} {h2 : Nat} {a2 : Nat → Nat} {h3 : Nat} {a3 : Nat → Nat} {M0 : gS} {M1 : gS} {M2 : gS} {M3 : gS} {j : Nat} {v : Int32} (h : va_D A ((q2W cB cI cJ cZ h0 a0 h1 a1 h2 a2 h3 a3 M0 M1 M2 M3).set 3 (a0 9, .inl (cI, 2, .inl (upd (ma M0 9) j v))))) : va_D A (q2W cB cI cJ cZ h0 a0 h1 a1 h2 a2 h3 a3 (sa M0 9 j v) M1 M2 M3) := h
theorem q2P_0_c9 {D : va_G} {H : Heap} {cB cI cJ cZ : ClassId} {h0 : Nat} {a0 : Nat → Nat} {h1 : Nat} {a1 : Nat → Nat} {h2 : Nat} {a2 : Nat → Nat} {h3 : Nat} {a3 : Nat → Nat} {M0 : gS} {M1 : gS} {M2 : gS} {M3 : gS} {f : Nat → Int32} (h : va_P D vwCl ((q2W cB cI cJ cZ h0 a0 h1 a1 h2 a2 h3 a3 M0 M1 M2 M3).set 3 (a0 9, .inl (cI, 2, .inl f))) H) : va_P D vwCl (q2W cB cI cJ cZ h0 a0 h1 a1 h2 a2 h3 a3 (sF M0 9 f) M1 M2 M3) H := h
theorem q2D_0_c9 {A : Nat → Prop} {cB cI cJ cZ : ClassId} {h0 : Nat} {a0 : Nat → Nat} {h1 : Nat} {a1 : Nat → Nat} {h2 : Nat} {a2 : Nat → Nat} {h3 : Nat} {a3 : Nat → Nat} {M0 : gS} {M1 : gS} {M2 : gS} {M3 : gS} {f : Nat → Int32} (h : va_D A ((q2W cB cI cJ cZ h0 a0 h1 a1 h2 a2 h3 a3 M0 M1 M2 M3).set 3 (a0 9, .inl (cI, 2, .inl f)))) : va_D A (q2W cB cI cJ cZ h0 a0 h1 a1 h2 a2 h3 a3 (sF M0 9 f) M1 M2 M3) := h
theorem q2P_1_f0 {D : va_G} {H : Heap} {cB cI cJ cZ : ClassId} {h0 : Nat} {a0 : Nat → Nat} {h1 : Nat} {a1 : Nat → Nat} {h2 : Nat} {a2 : Nat → Nat} {h3 : Nat} {a3 : Nat → Nat} {M0 : gS} {M1 : gS} {M2 : gS} {M3 : gS} {v : Int32} (h : va_P D vwCl ((q2W cB cI cJ cZ h0 a0 h1 a1 h2 a2 h3 a3 M0 M1 M2 M3).set 4 (h1, .inr (1, ([.int (mg M1 0), .ref (a1 1), .int (mg M1 2), .ref (a1 3), .int (mg M1 4), .ref (a1 5)]).set 0 (.int v)))) H) : va_P D vwCl (q2W cB cI cJ cZ h0 a0 h1 a1 h2 a2 h3 a3 M0 (sg M1 0 v) M2 M3) H := h
theorem q2D_1_f0 {A : Nat → Prop} {cB cI cJ cZ : ClassId} {h0 : Nat} {a0 : Nat → Nat} {h1 : Nat} {a1 : Nat → Nat} {h2 : Nat} {a2 : Nat → Nat} {h3 : Nat} {a3 : Nat → Nat} {M0 : gS} {M1 : gS} {M2 : gS} {M3 : gS} {v : Int32} (h : va_D A ((q2W cB cI cJ cZ h0 a0 h1 a1 h2 a2 h3 a3 M0 M1 M2 M3).set 4 (h1, .inr (1, ([.int (mg M1 0), .ref (a1 1), .int (mg M1 2), .ref (a1 3), .int (mg M1 4), .ref (a1 5)]).set 0 (.int v))))) : va_D A (q2W cB cI cJ cZ h0 a0 h1 a1 h2 a2 h3 a3 M0 (sg M1 0 v) M2 M3) := h
theorem q2P_1_f2 {D : va_G} {H : Heap} {cB cI cJ cZ : ClassId} {h0 : Nat} {a0 : Nat → Nat} {h1 : Nat} {a1 : Nat → Nat} {h2 : Nat} {a2 : Nat → Nat} {h3 : Nat} {a3 : Nat → Nat} {M0 : gS} {M1 : gS} {M2 : gS} {M3 : gS} {v : Int32} (h : va_P D vwCl ((q2W cB cI cJ cZ h0 a0 h1 a1 h2 a2 h3 a3 M0 M1 M2 M3).set 4 (h1, .inr (1, ([.int (mg M1 0), .ref (a1 1), .int (mg M1 2), .ref (a1 3), .int (mg M1 4), .ref (a1 5)]).set 2 (.int v)))) H) : va_P D vwCl (q2W cB cI cJ cZ h0 a0 h1 a1 h2 a2 h3 a3 M0 (sg M1 2 v) M2 M3) H := h
theorem q2D_1_f2 {A : Nat → Prop} {cB cI cJ cZ : ClassId} {h0 : Nat} {a0 : Nat → Nat} {h1 : Nat} {a1 : Nat → Nat} {h2 : Nat} {a2 : Nat → Nat} {h3 : Nat} {a3 : Nat → Nat} {M0 : gS} {M1 : gS} {M2 : gS} {M3 : gS} {v : Int32} (h : va_D A ((q2W cB cI cJ cZ h0 a0 h1 a1 h2 a2 h3 a3 M0 M1 M2 M3).set 4 (h1, .inr (1, ([.int (mg M1 0), .ref (a1 1), .int (mg M1 2), .ref (a1 3), .int (mg M1 4), .ref (a1 5)]).set 2 (.int v))))) : va_D A (q2W cB cI cJ cZ h0 a0 h1 a1 h2 a2 h3 a3 M0 (sg M1 2 v) M2 M3) := h
theorem q2P_1_f4 {D : va_G} {H : Heap} {cB cI cJ cZ : ClassId} {h0 : Nat} {a0 : Nat → Nat} {h1 : Nat} {a1 : Nat → Nat} {h2 : Nat} {a2 : Nat → Nat} {h3 : Nat} {a3 : Nat → Nat} {M0 : gS} {M1 : gS} {M2 : gS} {M3 : gS} {v : Int32} (h : va_P D vwCl ((q2W cB cI cJ cZ h0 a0 h1 a1 h2 a2 h3 a3 M0 M1 M2 M3).set 4 (h1, .inr (1, ([.int (mg M1 0), .ref (a1 1), .int (mg M1 2), .ref (a1 3), .int (mg M1 4), .ref (a1 5)]).set 4 (.int v)))) H) : va_P D vwCl (q2W cB cI cJ cZ h0 a0 h1 a1 h2 a2 h3 a3 M0 (sg M1 4 v) M2 M3) H := h
theorem q2D_1_f4 {A : Nat → Prop} {cB cI cJ cZ : ClassId} {h0 : Nat} {a0 : Nat → Nat} {h1 : Nat} {a1 : Nat → Nat} {h2 : Nat} {a2 : Nat → Nat} {h3 : Nat} {a3 : Nat → Nat} {M0 : gS} {M1 : gS} {M2 : gS} {M3 : gS} {v : Int32} (h : va_D A ((q2W cB cI cJ cZ h0 a0 h1 a1 h2 a2 h3 a3 M0 M1 M2 M3).set 4 (h1, .inr (1, ([.int (mg M1 0), .ref (a1 1), .int (mg M1 2), .ref (a1 3), .int (mg M1 4), .ref (a1 5)]).set 4 (.int v))))) : va_D A (q2W cB cI cJ cZ h0 a0 h1 a1 h2 a2 h3 a3 M0 (sg M1 4 v) M2 M3) := h
theorem q2P_1_a1 {D : va_G} {H : Heap} {cB cI cJ cZ : ClassId} {h0 : Nat} {a0 : Nat → Nat} {h1 : Nat} {a1 : Nat → Nat} {h2 : Nat} {a2 : Nat → Nat} {h3 : Nat} {a3 : Nat → Nat} {M0 : gS} {M1 : gS} {M2 : gS} {M3 : gS} {j : Nat} {v : Int32} (h : va_P D vwCl ((q2W cB cI cJ cZ h0 a0 h1 a1 h2 a2 h3 a3 M0 M1 M2 M3).set 5 (a1 1, .inl (cI, 4, .inl (upd (ma M1 1) j v)))) H) : va_P D vwCl (q2W cB cI cJ cZ h0 a0 h1 a1 h2 a2 h3 a3 M0 (sa M1 1 j v) M2 M3) H := h
theorem q2D_1_a1 {A : Nat → Prop} {cB cI cJ cZ : ClassId} {h0 : Nat} {a0 : Nat → Nat} {h1 : Nat} {a1 : Nat → Nat} {h2 : Nat} {a2 : Nat → Nat} {h3 : Nat} {a3 : Nat → Nat} {M0 : gS} {M1 : gS} {M2 : gS} {M3 : gS} {j : Nat} {v : Int32} (h : va_D A ((q2W cB cI cJ cZ h0 a0 h1 a1 h2 a2 h3 a3 M0 M1 M2 M3).set 5 (a1 1, .inl (cI, 4, .inl (upd (ma M1 1) j v))))) : va_D A (q2W cB cI cJ cZ h0 a0 h1 a1 h2 a2 h3 a3 M0 (sa M1 1 j v) M2 M3) := h
theorem q2P_1_c1 {D : va_G} {H : Heap} {cB cI cJ cZ : ClassId} {h0 : Nat} {a0 : Nat → Nat} {h1 : Nat} {a1 : Nat → Nat} {h2 : Nat} {a2 : Nat → Nat} {h3 : Nat} {a3 : Nat → Nat} {M0 : gS} {M1 : gS} {M2 : gS} {M3 : gS} {f : Nat → Int32} (h : va_P D vwCl ((q2W cB cI cJ cZ h0 a0 h1 a1 h2 a2 h3 a3 M0 M1 M2 M3).set 5 (a1 1, .inl (cI, 4, .inl f))) H) : va_P D vwCl (q2W cB cI cJ cZ h0 a0 h1 a1 h2 a2 h3 a3 M0 (sF M1 1 f) M2 M3) H := h
theorem q2D_1_c1 {A : Nat → Prop} {cB cI cJ cZ : ClassId} {h0 : Nat} {a0 : Nat → Nat} {h1 : Nat} {a1 : Nat → Nat} {h2 : Nat} {a2 : Nat → Nat} {h3 : Nat} {a3 : Nat → Nat} {M0 : gS} {M1 : gS} {M2 : gS} {M3 : gS} {f : Nat → Int32} (h : va_D A ((q2W cB cI cJ cZ h0 a0 h1 a1 h2 a2 h3 a3 M0 M1 M2 M3).set 5 (a1 1, .inl (cI, 4, .inl f)))) : va_D A (q2W cB cI cJ cZ h0 a0 h1 a1 h2 a2 h3 a3 M0 (sF M1 1 f) M2 M3) := h
theorem q2P_1_a3 {D : va_G} {H : Heap} {cB cI cJ cZ : ClassId} {h0 : Nat} {a0 : Nat → Nat} {h1 : Nat} {a1 : Nat → Nat} {h2 : Nat} {a2 : Nat → Nat} {h3 : Nat} {a3 : Nat → Nat} {M0 : gS} {M1 : gS} {M2 : gS} {M3 : gS} {j : Nat} {v : Int32} (h : va_P D vwCl ((q2W cB cI cJ cZ h0 a0 h1 a1 h2 a2 h3 a3 M0 M1 M2 M3).set 6 (a1 3, .inl (cI, 4, .inl (upd (ma M1 3) j v)))) H) : va_P D vwCl (q2W cB cI cJ cZ h0 a0 h1 a1 h2 a2 h3 a3 M0 (sa M1 3 j v) M2 M3) H := h
theorem q2D_1_a3 {A : Nat → Prop} {cB cI cJ cZ : ClassId} {h0 : Nat} {a0 : Nat → Nat} {h1 : Nat} {a1 : Nat → Nat} {h2 : Nat} {a2 : Nat → Nat} {h3 : Nat} {a3 : Nat → Nat} {M0 : gS} {M1 : gS} {M2 : gS} {M3 : gS} {j : Nat} {v : Int32} (h : va_D A ((q2W cB cI cJ cZ h0 a0 h1 a1 h2 a2 h3 a3 M0 M1 M2 M3).set 6 (a1 3, .inl (cI, 4, .inl (upd (ma M1 3) j v))))) : va_D A (q2W cB cI cJ cZ h0 a0 h1 a1 h2 a2 h3 a3 M0 (sa M1 3 j v) M2 M3) := h
theorem q2P_1_c3 {D : va_G} {H : Heap} {cB cI cJ cZ : ClassId} {h0 : Nat} {a0 : Nat → Nat} {h1 : Nat} {a1 : Nat → Nat} {h2 : Nat} {a2 : Nat → Nat} {h3 : Nat} {a3 : Nat → Nat} {M0 : gS} {M1 : gS} {M2 : gS} {M3 : gS} {f : Nat → Int32} (h : va_P D vwCl ((q2W cB cI cJ cZ h0 a0 h1 a1 h2 a2 h3 a3 M0 M1 M2 M3).set 6 (a1 3, .inl (cI, 4, .inl f))) H) : va_P D vwCl (q2W cB cI cJ cZ h0 a0 h1 a1 h2 a2 h3 a3 M0 (sF M1 3 f) M2 M3) H := h
theorem q2D_1_c3 {A : Nat → Prop} {cB cI cJ cZ : ClassId} {h0 : Nat} {a0 : Nat → Nat} {h1 : Nat} {a1 : Nat → Nat} {h2 : Nat} {a2 : Nat → Nat} {h3 : Nat} {a3 : Nat → Nat} {M0 : gS} {M1 : gS} {M2 : gS} {M3 : gS} {f : Nat → Int32} (h : va_D A ((q2W cB cI cJ cZ h0 a0 h1 a1 h2 a2 h3 a3 M0 M1 M2 M3).set 6 (a1 3, .inl (cI, 4, .inl f)))) : va_D A (q2W cB cI cJ cZ h0 a0 h1 a1 h2 a2 h3 a3 M0 (sF M1 3 f) M2 M3) := h
theorem q2P_1_a5 {D : va_G} {H : Heap} {cB cI cJ cZ : ClassId} {h0 : Nat} {a0 : Nat → Nat} {h1 : Nat} {a1 : Nat → Nat} {h2 : Nat} {a2 : Nat → Nat} {h3 : Nat} {a3 : Nat → Nat} {M0 : gS} {M1 : gS} {M2 : gS} {M3 : gS} {j : Nat} {v : Int32} (h : va_P D vwCl ((q2W cB cI cJ cZ h0 a0 h1 a1 h2 a2 h3 a3 M0 M1 M2 M3).set 7 (a1 5, .inl (cI, 2, .inl (upd (ma M1 5) j v)))) H) : va_P D vwCl (q2W cB cI cJ cZ h0 a0 h1 a1 h2 a2 h3 a3 M0 (sa M1 5 j v) M2 M3) H := h
theorem q2D_1_a5 {A : Nat → Prop} {cB cI cJ cZ : ClassId} {h0 : Nat} {a0 : Nat → Nat} {h1 : Nat} {a1 : Nat → Nat} {h2 : Nat} {a2 : Nat → Nat} {h3 : Nat} {a3 : Nat → Nat} {M0 : gS} {M1 : gS} {M2 : gS} {M3 : gS} {j : Nat} {v : Int32} (h : va_D A ((q2W cB cI cJ cZ h0 a0 h1 a1 h2 a2 h3 a3 M0 M1 M2 M3).set 7 (a1 5, .inl (cI, 2, .inl (upd (ma M1 5) j v))))) : va_D A (q2W cB cI cJ cZ h0 a0 h1 a1 h2 a2 h3 a3 M0 (sa M1 5 j v) M2 M3) := h
theorem q2P_1_c5 {D : va_G} {H : Heap} {cB cI cJ cZ : ClassId} {h0 : Nat} {a0 : Nat → Nat} {h1 : Nat} {a1 : Nat → Nat} {h2 : Nat} {a2 : Nat → Nat} {h3 : Nat} {a3 : Nat → Nat} {M0 : gS} {M1 : gS} {M2 : gS} {M3 : gS} {f : Nat → Int32} (h : va_P D vwCl ((q2W cB cI cJ cZ h0 a0 h1 a1 h2 a2 h3 a3 M0 M1 M2 M3).set 7 (a1 5, .inl (cI, 2, .inl f))) H) : va_P D vwCl (q2W cB cI cJ cZ h0 a0 h1 a1 h2 a2 h3 a3 M0 (sF M1 5 f) M2 M3) H := h
theorem q2D_1_c5 {A : Nat → Prop} {cB cI cJ cZ : ClassId} {h0 : Nat} {a0 : Nat → Nat} {h1 : Nat} {a1 : Nat → Nat} {h2 : Nat} {a2 : Nat → Nat} {h3 : Nat} {a3 : Nat → Nat} {M0 : gS} {M1 : gS} {M2 : gS} {M3 : gS} {f : Nat → Int32} (h : va_D A ((q2W cB cI cJ cZ h0 a0 h1 a1 h2 a2 h3 a3 M0 M1 M2 M3).set 7 (a1 5, .inl (cI, 2, .inl f)))) : va_D A (q2W cB cI cJ cZ h0 a0 h1 a1 h2 a2 h3 a3 M0 (sF M1 5 f) M2 M3) := h
theorem q2P_2_f0 {D : va_G} {H : Heap} {cB cI cJ cZ : ClassId} {h0 : Nat} {a0 : Nat → Nat} {h1 : Nat} {a1 : Nat → Nat} {h2 : Nat} {a2 : Nat → Nat} {h3 : Nat} {a3 : Nat → Nat} {M0 : gS} {M1 : gS} {M2 : gS} {M3 : gS} {v : Int32} (h : va_P D vwCl ((q2W cB cI cJ cZ h0 a0 h1 a1 h2 a2 h3 a3 M0 M1 M2 M3).set 8 (h2, .inr (8, ([.int (mg M2 0), .ref (a2 1), .ref (a2 2), .ref (a2 3), .int (mg M2 4), .ref (a2 5)]).set 0 (.int v)))) H) : va_P D vwCl (q2W cB cI cJ cZ h0 a0 h1 a1 h2 a2 h3 a3 M0 M1 (sg M2 0 v) M3) H := h
theorem q2D_2_f0 {A : Nat → Prop} {cB cI cJ cZ : ClassId} {h0 : Nat} {a0 : Nat → Nat} {h1 : Nat} {a1 : Nat → Nat} {h2 : Nat} {a2 : Nat → Nat} {h3 : Nat} {a3 : Nat → Nat} {M0 : gS} {M1 : gS} {M2 : gS} {M3 : gS} {v : Int32} (h : va_D A ((q2W cB cI cJ cZ h0 a0 h1 a1 h2 a2 h3 a3 M0 M1 M2 M3).set 8 (h2, .inr (8, ([.int (mg M2 0), .ref (a2 1), .ref (a2 2), .ref (a2 3), .int (mg M2 4), .ref (a2 5)]).set 0 (.int v))))) : va_D A (q2W cB cI cJ cZ h0 a0 h1 a1 h2 a2 h3 a3 M0 M1 (sg M2 0 v) M3) := h
theorem q2P_2_f4 {D : va_G} {H : Heap} {cB cI cJ cZ : ClassId} {h0 : Nat} {a0 : Nat → Nat} {h1 : Nat} {a1 : Nat → Nat} {h2 : Nat} {a2 : Nat → Nat} {h3 : Nat} {a3 : Nat → Nat} {M0 : gS} {M1 : gS} {M2 : gS} {M3 : gS} {v : Int32} (h : va_P D vwCl ((q2W cB cI cJ cZ h0 a0 h1 a1 h2 a2 h3 a3 M0 M1 M2 M3).set 8 (h2, .inr (8, ([.int (mg M2 0), .ref (a2 1), .ref (a2 2), .ref (a2 3), .int (mg M2 4), .ref (a2 5)]).set 4 (.int v)))) H) : va_P D vwCl (q2W cB cI cJ cZ h0 a0 h1 a1 h2 a2 h3 a3 M0 M1 (sg M2 4 v) M3) H := h
theorem q2D_2_f4 {A : Nat → Prop} {cB cI cJ cZ : ClassId} {h0 : Nat} {a0 : Nat → Nat} {h1 : Nat} {a1 : Nat → Nat} {h2 : Nat} {a2 : Nat → Nat} {h3 : Nat} {a3 : Nat → Nat} {M0 : gS} {M1 : gS} {M2 : gS} {M3 : gS} {v : Int32} (h : va_D A ((q2W cB cI cJ cZ h0 a0 h1 a1 h2 a2 h3 a3 M0 M1 M2 M3).set 8 (h2, .inr (8, ([.int (mg M2 0), .ref (a2 1), .ref (a2 2), .ref (a2 3), .int (mg M2 4), .ref (a2 5)]).set 4 (.int v))))) : va_D A (q2W cB cI cJ cZ h0 a0 h1 a1 h2 a2 h3 a3 M0 M1 (sg M2 4 v) M3) := h
theorem q2P_2_a1 {D : va_G} {H : Heap} {cB cI cJ cZ : ClassId} {h0 : Nat} {a0 : Nat → Nat} {h1 : Nat} {a1 : Nat → Nat} {h2 : Nat} {a2 : Nat → Nat} {h3 : Nat} {a3 : Nat → Nat} {M0 : gS} {M1 : gS} {M2 : gS} {M3 : gS} {j : Nat} {v : Int32} (h : va_P D vwCl ((q2W cB cI cJ cZ h0 a0 h1 a1 h2 a2 h3 a3 M0 M1 M2 M3).set 9 (a2 1, .inl (cI, 12, .inl (upd (ma M2 1) j v)))) H) : va_P D vwCl (q2W cB cI cJ cZ h0 a0 h1 a1 h2 a2 h3 a3 M0 M1 (sa M2 1 j v) M3) H := h
theorem q2D_2_a1 {A : Nat → Prop} {cB cI cJ cZ : ClassId} {h0 : Nat} {a0 : Nat → Nat} {h1 : Nat} {a1 : Nat → Nat} {h2 : Nat} {a2 : Nat → Nat} {h3 : Nat} {a3 : Nat → Nat} {M0 : gS} {M1 : gS} {M2 : gS} {M3 : gS} {j : Nat} {v : Int32} (h : va_D A ((q2W cB cI cJ cZ h0 a0 h1 a1 h2 a2 h3 a3 M0 M1 M2 M3).set 9 (a2 1, .inl (cI, 12, .inl (upd (ma M2 1) j v))))) : va_D A (q2W cB cI cJ cZ h0 a0 h1 a1 h2 a2 h3 a3 M0 M1 (sa M2 1 j v) M3) := h
theorem q2P_2_c1 {D : va_G} {H : Heap} {cB cI cJ cZ : ClassId} {h0 : Nat} {a0 : Nat → Nat} {h1 : Nat} {a1 : Nat → Nat} {h2 : Nat} {a2 : Nat → Nat} {h3 : Nat} {a3 : Nat → Nat} {M0 : gS} {M1 : gS} {M2 : gS} {M3 : gS} {f : Nat → Int32} (h : va_P D vwCl ((q2W cB cI cJ cZ h0 a0 h1 a1 h2 a2 h3 a3 M0 M1 M2 M3).set 9 (a2 1, .inl (cI, 12, .inl f))) H) : va_P D vwCl (q2W cB cI cJ cZ h0 a0 h1 a1 h2 a2 h3 a3 M0 M1 (sF M2 1 f) M3) H := h
theorem q2D_2_c1 {A : Nat → Prop} {cB cI cJ cZ : ClassId} {h0 : Nat} {a0 : Nat → Nat} {h1 : Nat} {a1 : Nat → Nat} {h2 : Nat} {a2 : Nat → Nat} {h3 : Nat} {a3 : Nat → Nat} {M0 : gS} {M1 : gS} {M2 : gS} {M3 : gS} {f : Nat → Int32} (h : va_D A ((q2W cB cI cJ cZ h0 a0 h1 a1 h2 a2 h3 a3 M0 M1 M2 M3).set 9 (a2 1, .inl (cI, 12, .inl f)))) : va_D A (q2W cB cI cJ cZ h0 a0 h1 a1 h2 a2 h3 a3 M0 M1 (sF M2 1 f) M3) := h
theorem q2P_2_a2 {D : va_G} {H : Heap} {cB cI cJ cZ : ClassId} {h0 : Nat} {a0 : Nat → Nat} {h1 : Nat} {a1 : Nat → Nat} {h2 : Nat} {a2 : Nat → Nat} {h3 : Nat} {a3 : Nat → Nat} {M0 : gS} {M1 : gS} {M2 : gS} {M3 : gS} {j : Nat} {v : Int32} (h : va_P D vwCl ((q2W cB cI cJ cZ h0 a0 h1 a1 h2 a2 h3 a3 M0 M1 M2 M3).set 10 (a2 2, .inl (cI, 12, .inl (upd (ma M2 2) j v)))) H) : va_P D vwCl (q2W cB cI cJ cZ h0 a0 h1 a1 h2 a2 h3 a3 M0 M1 (sa M2 2 j v) M3) H := h
theorem q2D_2_a2 {A : Nat → Prop} {cB cI cJ cZ : ClassId} {h0 : Nat} {a0 : Nat → Nat} {h1 : Nat} {a1 : Nat → Nat} {h2 : Nat} {a2 : Nat → Nat} {h3 : Nat} {a3 : Nat → Nat} {M0 : gS} {M1 : gS} {M2 : gS} {M3 : gS} {j : Nat} {v : Int32} (h : va_D A ((q2W cB cI cJ cZ h0 a0 h1 a1 h2 a2 h3 a3 M0 M1 M2 M3).set 10 (a2 2, .inl (cI, 12, .inl (upd (ma M2 2) j v))))) : va_D A (q2W cB cI cJ cZ h0 a0 h1 a1 h2 a2 h3 a3 M0 M1 (sa M2 2 j v) M3) := h
theorem q2P_2_c2 {D : va_G} {H : Heap} {cB cI cJ cZ : ClassId} {h0 : Nat} {a0 : Nat → Nat} {h1 : Nat} {a1 : Nat → Nat} {h2 : Nat} {a2 : Nat → Nat} {h3 : Nat} {a3 : Nat → Nat} {M0 : gS} {M1 : gS} {M2 : gS} {M3 : gS} {f : Nat → Int32} (h : va_P D vwCl ((q2W cB cI cJ cZ h0 a0 h1 a1 h2 a2 h3 a3 M0 M1 M2 M3).set 10 (a2 2, .inl (cI, 12, .inl f))) H) : va_P D vwCl (q2W cB cI cJ cZ h0 a0 h1 a1 h2 a2 h3 a3 M0 M1 (sF M2 2 f) M3) H := h
theorem q2D_2_c2 {A : Nat → Prop} {cB cI cJ cZ : ClassId} {h0 : Nat} {a0 : Nat → Nat} {h1 : Nat} {a1 : Nat → Nat} {h2 : Nat} {a2 : Nat → Nat} {h3 : Nat} {a3 : Nat → Nat} {M0 : gS} {M1 : gS} {M2 : gS} {M3 : gS} {f : Nat → Int32} (h : va_D A ((q2W cB cI cJ cZ h0 a0 h1 a1 h2 a2 h3 a3 M0 M1 M2 M3).set 10 (a2 2, .inl (cI, 12, .inl f)))) : va_D A (q2W cB cI cJ cZ h0 a0 h1 a1 h2 a2 h3 a3 M0 M1 (sF M2 2 f) M3) := h
theorem q2P_2_a3 {D : va_G} {H : Heap} {cB cI cJ cZ : ClassId} {h0 : Nat} {a0 : Nat → Nat} {h1 : Nat} {a1 : Nat → Nat} {h2 : Nat} {a2 : Nat → Nat} {h3 : Nat} {a3 : Nat → Nat} {M0 : gS} {M1 : gS} {M2 : gS} {M3 : gS} {j : Nat} {v : Int32} (h : va_P D vwCl ((q2W cB cI cJ cZ h0 a0 h1 a1 h2 a2 h3 a3 M0 M1 M2 M3).set 11 (a2 3, .inl (cI, 400, .inl (upd (ma M2 3) j v)))) H) : va_P D vwCl (q2W cB cI cJ cZ h0 a0 h1 a1 h2 a2 h3 a3 M0 M1 (sa M2 3 j v) M3) H := h
theorem q2D_2_a3 {A : Nat → Prop} {cB cI cJ cZ : ClassId} {h0 : Nat} {a0 : Nat → Nat} {h1 : Nat} {a1 : Nat → Nat} {h2 : Nat} {a2 : Nat → Nat} {h3 : Nat} {a3 : Nat → Nat} {M0 : gS} {M1 : gS} {M2 : gS} {M3 : gS} {j : Nat} {v : Int32} (h : va_D A ((q2W cB cI cJ cZ h0 a0 h1 a1 h2 a2 h3 a3 M0 M1 M2 M3).set 11 (a2 3, .inl (cI, 400, .inl (upd (ma M2 3) j v))))) : va_D A (q2W cB cI cJ cZ h0 a0 h1 a1 h2 a2 h3 a3 M0 M1 (sa M2 3 j v) M3) := h
theorem q2P_2_c3 {D : va_G} {H : Heap} {cB cI cJ cZ : ClassId} {h0 : Nat} {a0 : Nat → Nat} {h1 : Nat} {a1 : Nat → Nat} {h2 : Nat} {a2 : Nat → Nat} {h3 : Nat} {a3 : Nat → Nat} {M0 : gS} {M1 : gS} {M2 : gS} {M3 : gS} {f : Nat → Int32} (h : va_P D vwCl ((q2W cB cI cJ cZ h0 a0 h1 a1 h2 a2 h3 a3 M0 M1 M2 M3).set 11 (a2 3, .inl (cI, 400, .inl f))) H) : va_P D vwCl (q2W cB cI cJ cZ h0 a0 h1 a1 h2 a2 h3 a3 M0 M1 (sF M2 3 f) M3) H := h
theorem q2D_2_c3 {A : Nat → Prop} {cB cI cJ cZ : ClassId} {h0 : Nat} {a0 : Nat → Nat} {h1 : Nat} {a1 : Nat → Nat} {h2 : Nat} {a2 : Nat → Nat} {h3 : Nat} {a3 : Nat → Nat} {M0 : gS} {M1 : gS} {M2 : gS} {M3 : gS} {f : Nat → Int32} (h : va_D A ((q2W cB cI cJ cZ h0 a0 h1 a1 h2 a2 h3 a3 M0 M1 M2 M3).set 11 (a2 3, .inl (cI, 400, .inl f)))) : va_D A (q2W cB cI cJ cZ h0 a0 h1 a1 h2 a2 h3 a3 M0 M1 (sF M2 3 f) M3) := h
theorem q2P_2_a5 {D : va_G} {H : Heap} {cB cI cJ cZ : ClassId} {h0 : Nat} {a0 : Nat → Nat} {h1 : Nat} {a1 : Nat → Nat} {h2 : Nat} {a2 : Nat → Nat} {h3 : Nat} {a3 : Nat → Nat} {M0 : gS} {M1 : gS} {M2 : gS} {M3 : gS} {j : Nat} {v : Int64} (h : va_P D vwCl ((q2W cB cI cJ cZ h0 a0 h1 a1 h2 a2 h3 a3 M0 M1 M2 M3).set 12 (a2 5, .inl (cJ, 60, .inr (.inl (vp_updL (ml M2 5) j v))))) H) : va_P D vwCl (q2W cB cI cJ cZ h0 a0 h1 a1 h2 a2 h3 a3 M0 M1 (sl M2 5 j v) M3) H := h
theorem q2D_2_a5 {A : Nat → Prop} {cB cI cJ cZ : ClassId} {h0 : Nat} {a0 : Nat → Nat} {h1 : Nat} {a1 : Nat → Nat} {h2 : Nat} {a2 : Nat → Nat} {h3 : Nat} {a3 : Nat → Nat} {M0 : gS} {M1 : gS} {M2 : gS} {M3 : gS} {j : Nat} {v : Int64} (h : va_D A ((q2W cB cI cJ cZ h0 a0 h1 a1 h2 a2 h3 a3 M0 M1 M2 M3).set 12 (a2 5, .inl (cJ, 60, .inr (.inl (vp_updL (ml M2 5) j v)))))) : va_D A (q2W cB cI cJ cZ h0 a0 h1 a1 h2 a2 h3 a3 M0 M1 (sl M2 5 j v) M3) := h
theorem q2P_3_f0 {D : va_G} {H : Heap} {cB cI cJ cZ : ClassId} {h0 : Nat} {a0 : Nat → Nat} {h1 : Nat} {a1 : Nat → Nat} {h2 : Nat} {a2 : Nat → Nat} {h3 : Nat} {a3 : Nat → Nat} {M0 : gS} {M1 : gS} {M2 : gS} {M3 : gS} {v : Int32} (h : va_P D vwCl ((q2W cB cI cJ cZ h0 a0 h1 a1 h2 a2 h3 a3 M0 M1 M2 M3).set 13 (h3, .inr (8, ([.int (mg M3 0), .ref (a3 1), .ref (a3 2), .ref (a3 3), .int (mg M3 4), .ref (a3 5)]).set 0 (.int v)))) H) : va_P D vwCl (q2W cB cI cJ cZ h0 a0 h1 a1 h2 a2 h3 a3 M0 M1 M2 (sg M3 0 v)) H := h
theorem q2D_3_f0 {A : Nat → Prop} {cB cI cJ cZ : ClassId} {h0 : Nat} {a0 : Nat → Nat} {h1 : Nat} {a1 : Nat → Nat} {h2 : Nat} {a2 : Nat → Nat} {h3 : Nat} {a3 : Nat → Nat} {M0 : gS} {M1 : gS} {M2 : gS} {M3 : gS} {v : Int32} (h : va_D A ((q2W cB cI cJ cZ h0 a0 h1 a1 h2 a2 h3 a3 M0 M1 M2 M3).set 13 (h3, .inr (8, ([.int (mg M3 0), .ref (a3 1), .ref (a3 2), .ref (a3 3), .int (mg M3 4), .ref (a3 5)]).set 0 (.int v))))) : va_D A (q2W cB cI cJ cZ h0 a0 h1 a1 h2 a2 h3 a3 M0 M1 M2 (sg M3 0 v)) := h
theorem q2P_3_f4 {D : va_G} {H : Heap} {cB cI cJ cZ : ClassId} {h0 : Nat} {a0 : Nat → Nat} {h1 : Nat} {a1 : Nat → Nat} {h2 : Nat} {a2 : Nat → Nat} {h3 : Nat} {a3 : Nat → Nat} {M0 : gS} {M1 : gS} {M2 : gS} {M3 : gS} {v : Int32} (h : va_P D vwCl ((q2W cB cI cJ cZ h0 a0 h1 a1 h2 a2 h3 a3 M0 M1 M2 M3).set 13 (h3, .inr (8, ([.int (mg M3 0), .ref (a3 1), .ref (a3 2), .ref (a3 3), .int (mg M3 4), .ref (a3 5)]).set 4 (.int v)))) H) : va_P D vwCl (q2W cB cI cJ cZ h0 a0 h1 a1 h2 a2 h3 a3 M0 M1 M2 (sg M3 4 v)) H := h
theorem q2D_3_f4 {A : Nat → Prop} {cB cI cJ cZ : ClassId} {h0 : Nat} {a0 : Nat → Nat} {h1 : Nat} {a1 : Nat → Nat} {h2 : Nat} {a2 : Nat → Nat} {h3 : Nat} {a3 : Nat → Nat} {M0 : gS} {M1 : gS} {M2 : gS} {M3 : gS} {v : Int32} (h : va_D A ((q2W cB cI cJ cZ h0 a0 h1 a1 h2 a2 h3 a3 M0 M1 M2 M3).set 13 (h3, .inr (8, ([.int (mg M3 0), .ref (a3 1), .ref (a3 2), .ref (a3 3), .int (mg M3 4), .ref (a3 5)]).set 4 (.int v))))) : va_D A (q2W cB cI cJ cZ h0 a0 h1 a1 h2 a2 h3 a3 M0 M1 M2 (sg M3 4 v)) := h
theorem q2P_3_a1 {D : va_G} {H : Heap} {cB cI cJ cZ : ClassId} {h0 : Nat} {a0 : Nat → Nat} {h1 : Nat} {a1 : Nat → Nat} {h2 : Nat} {a2 : Nat → Nat} {h3 : Nat} {a3 : Nat → Nat} {M0 : gS} {M1 : gS} {M2 : gS} {M3 : gS} {j : Nat} {v : Int32} (h : va_P D vwCl ((q2W cB cI cJ cZ h0 a0 h1 a1 h2 a2 h3 a3 M0 M1 M2 M3).set 14 (a3 1, .inl (cI, 12, .inl (upd (ma M3 1) j v)))) H) : va_P D vwCl (q2W cB cI cJ cZ h0 a0 h1 a1 h2 a2 h3 a3 M0 M1 M2 (sa M3 1 j v)) H := h
theorem q2D_3_a1 {A : Nat → Prop} {cB cI cJ cZ : ClassId} {h0 : Nat} {a0 : Nat → Nat} {h1 : Nat} {a1 : Nat → Nat} {h2 : Nat} {a2 : Nat → Nat} {h3 : Nat} {a3 : Nat → Nat} {M0 : gS} {M1 : gS} {M2 : gS} {M3 : gS} {j : Nat} {v : Int32} (h : va_D A ((q2W cB cI cJ cZ h0 a0 h1 a1 h2 a2 h3 a3 M0 M1 M2 M3).set 14 (a3 1, .inl (cI, 12, .inl (upd (ma M3 1) j v))))) : va_D A (q2W cB cI cJ cZ h0 a0 h1 a1 h2 a2 h3 a3 M0 M1 M2 (sa M3 1 j v)) := h
theorem q2P_3_c1 {D : va_G} {H : Heap} {cB cI cJ cZ : ClassId} {h0 : Nat} {a0 : Nat → Nat} {h1 : Nat} {a1 : Nat → Nat} {h2 : Nat} {a2 : Nat → Nat} {h3 : Nat} {a3 : Nat → Nat} {M0 : gS} {M1 : gS} {M2 : gS} {M3 : gS} {f : Nat → Int32} (h : va_P D vwCl ((q2W cB cI cJ cZ h0 a0 h1 a1 h2 a2 h3 a3 M0 M1 M2 M3).set 14 (a3 1, .inl (cI, 12, .inl f))) H) : va_P D vwCl (q2W cB cI cJ cZ h0 a0 h1 a1 h2 a2 h3 a3 M0 M1 M2 (sF M3 1 f)) H := h
theorem q2D_3_c1 {A : Nat → Prop} {cB cI cJ cZ : ClassId} {h0 : Nat} {a0 : Nat → Nat} {h1 : Nat} {a1 : Nat → Nat} {h2 : Nat} {a2 : Nat → Nat} {h3 : Nat} {a3 : Nat → Nat} {M0 : gS} {M1 : gS} {M2 : gS} {M3 : gS} {f : Nat → Int32} (h : va_D A ((q2W cB cI cJ cZ h0 a0 h1 a1 h2 a2 h3 a3 M0 M1 M2 M3).set 14 (a3 1, .inl (cI, 12, .inl f)))) : va_D A (q2W cB cI cJ cZ h0 a0 h1 a1 h2 a2 h3 a3 M0 M1 M2 (sF M3 1 f)) := h
theorem q2P_3_a2 {D : va_G} {H : Heap} {cB cI cJ cZ : ClassId} {h0 : Nat} {a0 : Nat → Nat} {h1 : Nat} {a1 : Nat → Nat} {h2 : Nat} {a2 : Nat → Nat} {h3 : Nat} {a3 : Nat → Nat} {M0 : gS} {M1 : gS} {M2 : gS} {M3 : gS} {j : Nat} {v : Int32} (h : va_P D vwCl ((q2W cB cI cJ cZ h0 a0 h1 a1 h2 a2 h3 a3 M0 M1 M2 M3).set 15 (a3 2, .inl (cI, 12, .inl (upd (ma M3 2) j v)))) H) : va_P D vwCl (q2W cB cI cJ cZ h0 a0 h1 a1 h2 a2 h3 a3 M0 M1 M2 (sa M3 2 j v)) H := h
theorem q2D_3_a2 {A : Nat → Prop} {cB cI cJ cZ : ClassId} {h0 : Nat} {a0 : Nat → Nat} {h1 : Nat} {a1 : Nat → Nat} {h2 : Nat} {a2 : Nat → Nat} {h3 : Nat} {a3 : Nat → Nat} {M0 : gS} {M1 : gS} {M2 : gS} {M3 : gS} {j : Nat} {v : Int32} (h : va_D A ((q2W cB cI cJ cZ h0 a0 h1 a1 h2 a2 h3 a3 M0 M1 M2 M3).set 15 (a3 2, .inl (cI, 12, .inl (upd (ma M3 2) j v))))) : va_D A (q2W cB cI cJ cZ h0 a0 h1 a1 h2 a2 h3 a3 M0 M1 M2 (sa M3 2 j v)) := h
theorem q2P_3_c2 {D : va_G} {H : Heap} {cB cI cJ cZ : ClassId} {h0 : Nat} {a0 : Nat → Nat} {h1 : Nat} {a1 : Nat → Nat} {h2 : Nat} {a2 : Nat → Nat} {h3 : Nat} {a3 : Nat → Nat} {M0 : gS} {M1 : gS} {M2 : gS} {M3 : gS} {f : Nat → Int32} (h : va_P D vwCl ((q2W cB cI cJ cZ h0 a0 h1 a1 h2 a2 h3 a3 M0 M1 M2 M3).set 15 (a3 2, .inl (cI, 12, .inl f))) H) : va_P D vwCl (q2W cB cI cJ cZ h0 a0 h1 a1 h2 a2 h3 a3 M0 M1 M2 (sF M3 2 f)) H := h
theorem q2D_3_c2 {A : Nat → Prop} {cB cI cJ cZ : ClassId} {h0 : Nat} {a0 : Nat → Nat} {h1 : Nat} {a1 : Nat → Nat} {h2 : Nat} {a2 : Nat → Nat} {h3 : Nat} {a3 : Nat → Nat} {M0 : gS} {M1 : gS} {M2 : gS} {M3 : gS} {f : Nat → Int32} (h : va_D A ((q2W cB cI cJ cZ h0 a0 h1 a1 h2 a2 h3 a3 M0 M1 M2 M3).set 15 (a3 2, .inl (cI, 12, .inl f)))) : va_D A (q2W cB cI cJ cZ h0 a0 h1 a1 h2 a2 h3 a3 M0 M1 M2 (sF M3 2 f)) := h
theorem q2P_3_a3 {D : va_G} {H : Heap} {cB cI cJ cZ : ClassId} {h0 : Nat} {a0 : Nat → Nat} {h1 : Nat} {a1 : Nat → Nat} {h2 : Nat} {a2 : Nat → Nat} {h3 : Nat} {a3 : Nat → Nat} {M0 : gS} {M1 : gS} {M2 : gS} {M3 : gS} {j : Nat} {v : Int32} (h : va_P D vwCl ((q2W cB cI cJ cZ h0 a0 h1 a1 h2 a2 h3 a3 M0 M1 M2 M3).set 16 (a3 3, .inl (cI, 400, .inl (upd (ma M3 3) j v)))) H) : va_P D vwCl (q2W cB cI cJ cZ h0 a0 h1 a1 h2 a2 h3 a3 M0 M1 M2 (sa M3 3 j v)) H := h
theorem q2D_3_a3 {A : Nat → Prop} {cB cI cJ cZ : ClassId} {h0 : Nat} {a0 : Nat → Nat} {h1 : Nat} {a1 : Nat → Nat} {h2 : Nat} {a2 : Nat → Nat} {h3 : Nat} {a3 : Nat → Nat} {M0 : gS} {M1 : gS} {M2 : gS} {M3 : gS} {j : Nat} {v : Int32} (h : va_D A ((q2W cB cI cJ cZ h0 a0 h1 a1 h2 a2 h3 a3 M0 M1 M2 M3).set 16 (a3 3, .inl (cI, 400, .inl (upd (ma M3 3) j v))))) : va_D A (q2W cB cI cJ cZ h0 a0 h1 a1 h2 a2 h3 a3 M0 M1 M2 (sa M3 3 j v)) := h
theorem q2P_3_c3 {D : va_G} {H : Heap} {cB cI cJ cZ : ClassId} {h0 : Nat} {a0 : Nat → Nat} {h1 : Nat} {a1 : Nat → Nat} {h2 : Nat} {a2 : Nat → Nat} {h3 : Nat} {a3 : Nat → Nat} {M0 : gS} {M1 : gS} {M2 : gS} {M3 : gS} {f : Nat → Int32} (h : va_P D vwCl ((q2W cB cI cJ cZ h0 a0 h1 a1 h2 a2 h3 a3 M0 M1 M2 M3).set 16 (a3 3, .inl (cI, 400, .inl f))) H) : va_P D vwCl (q2W cB cI cJ cZ h0 a0 h1 a1 h2 a2 h3 a3 M0 M1 M2 (sF M3 3 f)) H := h
theorem q2D_3_c3 {A : Nat → Prop} {cB cI cJ cZ : ClassId} {h0 : Nat} {a0 : Nat → Nat} {h1 : Nat} {a1 : Nat → Nat} {h2 : Nat} {a2 : Nat → Nat} {h3 : Nat} {a3 : Nat → Nat} {M0 : gS} {M1 : gS} {M2 : gS} {M3 : gS} {f : Nat → Int32} (h : va_D A ((q2W cB cI cJ cZ h0 a0 h1 a1 h2 a2 h3 a3 M0 M1 M2 M3).set 16 (a3 3, .inl (cI, 400, .inl f)))) : va_D A (q2W cB cI cJ cZ h0 a0 h1 a1 h2 a2 h3 a3 M0 M1 M2 (sF M3 3 f)) := h
theorem q2P_3_a5 {D : va_G} {H : Heap} {cB cI cJ cZ : ClassId} {h0 : Nat} {a0 : Nat → Nat} {h1 : Nat} {a1 : Nat → Nat} {h2 : Nat} {a2 : Nat → Nat} {h3 : Nat} {a3 : Nat → Nat} {M0 : gS} {M1 : gS} {M2 : gS} {M3 : gS} {j : Nat} {v : Int64} (h : va_P D vwCl ((q2W cB cI cJ cZ h0 a0 h1 a1 h2 a2 h3 a3 M0 M1 M2 M3).set 17 (a3 5, .inl (cJ, 60, .inr (.inl (vp_updL (ml M3 5) j v))))) H) : va_P D vwCl (q2W cB cI cJ cZ h0 a0 h1 a1 h2 a2 h3 a3 M0 M1 M2 (sl M3 5 j v)) H := h
theorem q2D_3_a5 {A : Nat → Prop} {cB cI cJ cZ : ClassId} {h0 : Nat} {a0 : Nat → Nat} {h1 : Nat} {a1 : Nat → Nat} {h2 : Nat} {a2 : Nat → Nat} {h3 : Nat} {a3 : Nat → Nat} {M0 : gS} {M1 : gS} {M2 : gS} {M3 : gS} {j : Nat} {v : Int64} (h : va_D A ((q2W cB cI cJ cZ h0 a0 h1 a1 h2 a2 h3 a3 M0 M1 M2 M3).set 17 (a3 5, .inl (cJ, 60, .inr (.inl (vp_updL (ml M3 5) j v)))))) : va_D A (q2W cB cI cJ cZ h0 a0 h1 a1 h2 a2 h3 a3 M0 M1 M2 (sl M3 5 j v)) := h
theorem q2pV {s : State} {dC : Nat → ClassId} {dI : Nat → Nat → Nat} {A : Nat → Prop} {cB cI cJ cZ : ClassId} {h0 : Nat} {a0 : Nat → Nat} {h1 : Nat} {a1 : Nat → Nat} {h2 : Nat} {a2 : Nat → Nat} {h3 : Nat} {a3 : Nat → Nat} {M0 : gS} {M1 : gS} {M2 : gS} {M3 : gS} {H : Heap} {As : List Value} (hK : va_K (dC, dI) vwCl (gT cB cI cJ cZ) s) (hP : va_P (dC, dI) vwCl (q2W cB cI cJ cZ h0 a0 h1 a1 h2 a2 h3 a3 M0 M1 M2 M3) H) (hD : va_D A (q2W cB cI cJ cZ h0 a0 h1 a1 h2 a2 h3 a3 M0 M1 M2 M3)) : PreV s H RX6 h0 (va_Pc (.ref h0 :: As) (q2I dC dI cB cI cJ cZ h0 a0 h1 a1 h2 a2 h3 a3 M0 M1 M2 M3 H.size)) As := ⟨fun a U g mk q => by obtain ⟨q0, q1, qP, qK, qD⟩ := q; exact ⟨q0, q1, qP, va_K.moved (u := U) (U := U.calling g mk a) (Vm.Alike.refl U.vm) qK, qD⟩, va_recv hK hP (ci := 6) (q0 := 0) rfl rfl, fun U hU hW => ⟨rfl, by rw [hU], by rw [hU]; exact hP, va_K.moved hW.alike hK, hD.weaken (fun _ _ _ _ => trivial)⟩⟩
theorem q2pS {s : State} {dC : Nat → ClassId} {dI : Nat → Nat → Nat} {A : Nat → Prop} {cB cI cJ cZ : ClassId} {h0 : Nat} {a0 : Nat → Nat} {h1 : Nat} {a1 : Nat → Nat} {h2 : Nat} {a2 : Nat → Nat} {h3 : Nat} {a3 : Nat → Nat} {M0 : gS} {M1 : gS} {M2 : gS} {M3 : gS} {H : Heap} {As : List Value} (hK : va_K (dC, dI) vwCl (gT cB cI cJ cZ) s) (hP : va_P (dC, dI) vwCl (q2W cB cI cJ cZ h0 a0 h1 a1 h2 a2 h3 a3 M0 M1 M2 M3) H) (hD : va_D A (q2W cB cI cJ cZ h0 a0 h1 a1 h2 a2 h3 a3 M0 M1 M2 M3)) : PreS s H (va_Pc As (q2I dC dI cB cI cJ cZ h0 a0 h1 a1 h2 a2 h3 a3 M0 M1 M2 M3 H.size)) As := ⟨fun a U g mk q => by obtain ⟨q0, q1, qP, qK, qD⟩ := q; exact ⟨q0, q1, qP, va_K.moved (u := U) (U := U.calling g mk a) (Vm.Alike.refl U.vm) qK, qD⟩, fun U hU hW => ⟨rfl, by rw [hU], by rw [hU]; exact hP, va_K.moved hW.alike hK, hD.weaken (fun _ _ _ _ => trivial)⟩⟩

def wX6_goByRulesnn_84 (B3 : Int32 → gS → gS → Prop) (Q : gS → gS → Prop) (y4 : Int32) (M0 : gS) (M1 : gS) : Prop :=
 (∀ x1 : Int32, x1 = y4 + (1 : Int32) → (B3 x1 M0 M1))
def wX6_goByRulesnn_48 (B3 : Int32 → gS → gS → Prop) (Q : gS → gS → Prop) (y4 : Int32) (z0 : Int32) (M0 : gS) (M1 : gS) : Prop :=
 ((z0 = (-1 : Int32) → (wX6_beStill  M0 (fun (N10 : gS) => (wX6_goByRulesnn_84 B3 Q y4 N10 M1))))
 ∧ (¬ z0 = (-1 : Int32) → ((z0 = (4 : Int32) → (wX6_throwPenny  M0 M1 (fun (N7 : gS) (N8 : gS) => (wX6_goByRulesnn_84 B3 Q y4 N7 N8))))
 ∧ (¬ z0 = (4 : Int32) → (wX6_say z0 M0 M1 (fun (N4 : gS) (N5 : gS) => (wX6_goByRulesnn_84 B3 Q y4 N4 N5)))))))
def wX6_goByRulesnn_3  (Q : gS → gS → Prop) : Nat → Int32 → gS → gS → Prop
 | 0, _, _, _ => False
 | n + 1, y4, M0, M1 => (((10000 : Int32) ≤ y4 → (Q M0 M1))
 ∧ (¬ (10000 : Int32) ≤ y4 → (((mg M0 0) = 0 → (Q M0 M1))
 ∧ (¬ (mg M0 0) = 0 → (((mg M0 3) = 0 → (wX6_goByRulesnn_48 (fun (y4 : Int32) (M0 : gS) (M1 : gS) => wX6_goByRulesnn_3  Q n y4 M0 M1) Q y4 (-1 : Int32) M0 M1))
 ∧ (¬ (mg M0 3) = 0 → (wX6_goByRulesnn_48 (fun (y4 : Int32) (M0 : gS) (M1 : gS) => wX6_goByRulesnn_3  Q n y4 M0 M1) Q y4 (-1 : Int32) M0 M1)))))))
def wX6_goByRulesnn  (M0 : gS) (M1 : gS) (Q : gS → gS → Prop) : Prop :=
 (∃ k3 : Nat, wX6_goByRulesnn_3  Q k3 (0 : Int32) M0 M1)
def rmX6_goByRulesnn : Room := { frames := 4, cells := 0, slots := 0, locals := 88 }
set_option maxHeartbeats 4000000 in
set_option maxRecDepth 100000 in
theorem kX6_goByRulesnn (l : Launch) (dC : Nat → ClassId) (dI : Nat → Nat → Nat) (cB cI cJ cZ : ClassId) (h0 : Nat) (a0 : Nat → Nat) (h1 : Nat) (a1 : Nat → Nat) (sz : Nat)  (M0 : gS) (M1 : gS) (Q : gS → gS → Prop) (h : wX6_goByRulesnn  M0 M1 Q) : Met l yX6_goByRules wsX6_goByRules rmX6_goByRulesnn (va_Pc [.ref h0, .ref h1, .null, .null] (qcI dC dI cB cI cJ cZ h0 a0 h1 a1 M0 M1 sz)) (va_Qv (fun (u : gS × gS) => Q u.1 u.2) (qcB dC dI cB cI cJ cZ h0 a0 h1 a1 (va_A (qcW cB cI cJ cZ h0 a0 h1 a1 M0 M1) sz)) (va_A (qcW cB cI cJ cZ h0 a0 h1 a1 M0 M1) sz)) 0 0 (va_A (qcW cB cI cJ cZ h0 a0 h1 a1 M0 M1) sz) := by
  refine Met.ofW (cc := cX6_goByRules) (maxL := 7) (ret := none) (by decide) rfl ?_
  intro p e s m args below meth c s₁ B hml hv
  obtain ⟨rfl, hsz, hP, hK, hD0⟩ := hv
  have hx := B.exec
  have hb := B.bytes
  have hr := B.returns
  have hts := atoms_spec (ws := wsX6_goByRules) B.pre
  have hown : s.vm.findClass RX6 = some m.cls := findClass_of_methodNamed B.named
  have hlocks := B.notSynchronized
  subst hsz
  have hD := hD0.self (sz := s.heap.size)
  generalize hAe : va_A (qcW cB cI cJ cZ h0 a0 h1 a1 M0 M1) s.heap.size = A at hD ⊢
  have hA : ∀ q : Nat, s.heap.size ≤ q → A q := fun q h => by rw [← hAe]; exact Or.inr h
  have hS : va_S A s.heap s.heap [] := va_S.rf
  have hinX6 : ∀ w ∈ wsX60, w ∈ wsX6_goByRules := by decide +kernel
  have f1 := hts (.fieldLink RX6 28 "LastWords$Quarrel" "goesOn" "Z") (by decide +kernel)
  have f2 := hts (.fieldLink RX6 35 "LastWords$Quarrel" "turn" "I") (by decide +kernel)
  have b84 : ∀ (B3 : Int32 → gS → gS → Prop) (hB3 : ∀ (y4 : Int32) (M0 : gS) (M1 : gS) (H : Heap) (locs : List Loc) (ls : Array Slot), va_P (dC, dI) vwCl (qcW cB cI cJ cZ h0 a0 h1 a1 M0 M1) H → va_D A (qcW cB cI cJ cZ h0 a0 h1 a1 M0 M1) → va_S A s.heap H locs → lv_has ls 7 [(0, .ref h0), (1, .ref h1), (2, .null), (3, .null), (4, .int y4)] → B3 y4 M0 M1 → W p l e (headSpec wsX6_goByRules rmX6_goByRulesnn).room s m ([.ref h0, .ref h1, .null, .null] : List Value).toArray below meth c H locs 0 0 (MQ below (va_Qv (fun (u : gS × gS) => Q u.1 u.2) (qcB dC dI cB cI cJ cZ h0 a0 h1 a1 A) A) ([.ref h0, .ref h1, .null, .null] : List Value).toArray s 0 0 A) (F0 m 3 ls [])) (y4 : Int32) (M0 : gS) (M1 : gS) (H : Heap) (locs : List Loc) (ls : Array Slot), va_P (dC, dI) vwCl (qcW cB cI cJ cZ h0 a0 h1 a1 M0 M1) H → va_D A (qcW cB cI cJ cZ h0 a0 h1 a1 M0 M1) → va_S A s.heap H locs → lv_has ls 7 [(0, .ref h0), (1, .ref h1), (2, .null), (3, .null), (4, .int y4)] → wX6_goByRulesnn_84 B3 Q y4 M0 M1 → W p l e (headSpec wsX6_goByRules rmX6_goByRulesnn).room s m ([.ref h0, .ref h1, .null, .null] : List Value).toArray below meth c H locs 0 0 (MQ below (va_Qv (fun (u : gS × gS) => Q u.1 u.2) (qcB dC dI cB cI cJ cZ h0 a0 h1 a1 A) A) ([.ref h0, .ref h1, .null, .null] : List Value).toArray s 0 0 A) (F0 m 84 ls []) := by
    intro B3 hB3 y4 M0 M1 H locs ls hP hD hS hl h
    unfold wX6_goByRulesnn_84 at h
    obtain ⟨x1, ex1⟩ : ∃ y : Int32, y = y4 + (1 : Int32) := ⟨_, rfl⟩
    have h := h x1 ex1
    refine lv_iinc (v := x1) (lv' := [(4, .int x1), (0, .ref h0), (1, .ref h1), (2, .null), (3, .null)]) hx hb dX6_goByRules_84 hl (k := 4) rfl (by rw [ex1]; rfl) (by decide) rfl (fun ls hl => ?_)
    refine lv_goto (tgt := 3) hx hb dX6_goByRules_87 (by decide) ?_
    exact hB3 x1 M0 M1 H locs ls hP hD hS (lv_sub hl [1, 2, 3, 4, 0] rfl) h
  have b48 : ∀ (B3 : Int32 → gS → gS → Prop) (hB3 : ∀ (y4 : Int32) (M0 : gS) (M1 : gS) (H : Heap) (locs : List Loc) (ls : Array Slot), va_P (dC, dI) vwCl (qcW cB cI cJ cZ h0 a0 h1 a1 M0 M1) H → va_D A (qcW cB cI cJ cZ h0 a0 h1 a1 M0 M1) → va_S A s.heap H locs → lv_has ls 7 [(0, .ref h0), (1, .ref h1), (2, .null), (3, .null), (4, .int y4)] → B3 y4 M0 M1 → W p l e (headSpec wsX6_goByRules rmX6_goByRulesnn).room s m ([.ref h0, .ref h1, .null, .null] : List Value).toArray below meth c H locs 0 0 (MQ below (va_Qv (fun (u : gS × gS) => Q u.1 u.2) (qcB dC dI cB cI cJ cZ h0 a0 h1 a1 A) A) ([.ref h0, .ref h1, .null, .null] : List Value).toArray s 0 0 A) (F0 m 3 ls [])) (y4 : Int32) (z0 : Int32) (M0 : gS) (M1 : gS) (H : Heap) (locs : List Loc) (ls : Array Slot), va_P (dC, dI) vwCl (qcW cB cI cJ cZ h0 a0 h1 a1 M0 M1) H → va_D A (qcW cB cI cJ cZ h0 a0 h1 a1 M0 M1) → va_S A s.heap H locs → lv_has ls 7 [(0, .ref h0), (1, .ref h1), (2, .null), (3, .null), (4, .int y4)] → wX6_goByRulesnn_48 B3 Q y4 z0 M0 M1 → W p l e (headSpec wsX6_goByRules rmX6_goByRulesnn).room s m ([.ref h0, .ref h1, .null, .null] : List Value).toArray below meth c H locs 0 0 (MQ below (va_Qv (fun (u : gS × gS) => Q u.1 u.2) (qcB dC dI cB cI cJ cZ h0 a0 h1 a1 A) A) ([.ref h0, .ref h1, .null, .null] : List Value).toArray s 0 0 A) (F0 m 48 ls [.int z0]) := by
    intro B3 hB3 y4 z0 M0 M1 H locs ls hP hD hS hl h
    unfold wX6_goByRulesnn_48 at h
    refine lv_istore (lv' := [(6, .int z0), (0, .ref h0), (1, .ref h1), (2, .null), (3, .null), (4, .int y4)]) hx hb dX6_goByRules_48 hl (by decide) rfl (fun ls hl => ?_)
    refine lv_iload hx hb dX6_goByRules_50 (lv_at hl 0 rfl) ?_
    refine lv_iconst (v := (-1)) hx hb dX6_goByRules_52 (by decide) ?_
    refine lv_icmp_ne (tgt := 63) hx hb dX6_goByRules_53 (by decide) (fun c1 => ?_) (fun c1 => ?_)
    · have h := h.2 c1
      refine lv_iload hx hb dX6_goByRules_63 (lv_at hl 0 rfl) ?_
      refine lv_iconst (v := 4) hx hb dX6_goByRules_65 (by decide) ?_
      refine lv_icmp_ne (tgt := 77) hx hb dX6_goByRules_66 (by decide) (fun c2 => ?_) (fun c2 => ?_)
      · have h := h.2 c2
        refine lv_aload_n hx hb dX6_goByRules_77 rfl (lv_at hl 1 rfl) ?_
        refine lv_aload_n hx hb dX6_goByRules_78 rfl (lv_at hl 2 rfl) ?_
        refine lv_iload hx hb dX6_goByRules_79 (lv_at hl 0 rfl) ?_
        have hFc := gs_free hD hS hA
        refine va_callv (va_runV (As := [.ref h1, .int z0]) (rest := []) ⟨hx, hb, hml, hown, hts⟩ (kX6_say l dC dI cB cI cJ cZ h0 a0 h1 a1 H.size z0 M0 M1 _ h) (cwV 2 hts gX6_goByRules_X6_say rfl rfl rfl (by decide +kernel) ⟨Nat.le_of_ble_eq_true rfl, Nat.le_of_ble_eq_true rfl⟩) (qcpV hK hP hD) rfl rfl hl.1 rfl (lv_room (Nat.le_of_ble_eq_true rfl)) dX6_goByRules_81 ⟨Nat.le_of_ble_eq_true rfl, Nat.le_of_ble_eq_true rfl⟩) hS (fun q _ z => hFc q z) hFc (fun u t H1 locs ht hvm hw hB hz1 hk1 hS => ?_)
        obtain ⟨N4, N5⟩ := u
        obtain ⟨hP, hD⟩ := gs_back ht hFc hB
        generalize H1 = H at hP hS ⊢
        have h := hw
        try dsimp only at h
        exact b84 _ hB3 y4 N4 N5 H locs ls hP hD hS (lv_sub hl [1, 2, 3, 4, 5] rfl) h
      · have h := h.1 c2
        refine lv_aload_n hx hb dX6_goByRules_69 rfl (lv_at hl 1 rfl) ?_
        refine lv_aload_n hx hb dX6_goByRules_70 rfl (lv_at hl 2 rfl) ?_
        have hFc := gs_free hD hS hA
        refine va_callv (va_runV (As := [.ref h1]) (rest := []) ⟨hx, hb, hml, hown, hts⟩ (kX6_throwPenny l dC dI cB cI cJ cZ h0 a0 h1 a1 H.size  M0 M1 _ h) (cwV 1 hts gX6_goByRules_X6_throwPenny rfl rfl rfl (by decide +kernel) ⟨Nat.le_of_ble_eq_true rfl, Nat.le_of_ble_eq_true rfl⟩) (qcpV hK hP hD) rfl rfl hl.1 rfl (lv_room (Nat.le_of_ble_eq_true rfl)) dX6_goByRules_71 ⟨Nat.le_of_ble_eq_true rfl, Nat.le_of_ble_eq_true rfl⟩) hS (fun q _ z => hFc q z) hFc (fun u t H1 locs ht hvm hw hB hz1 hk1 hS => ?_)
        obtain ⟨N7, N8⟩ := u
        obtain ⟨hP, hD⟩ := gs_back ht hFc hB
        generalize H1 = H at hP hS ⊢
        have h := hw
        try dsimp only at h
        refine lv_goto (tgt := 84) hx hb dX6_goByRules_74 (by decide) ?_
        exact b84 _ hB3 y4 N7 N8 H locs ls hP hD hS (lv_sub hl [1, 2, 3, 4, 5] rfl) h
    · have h := h.1 c1
      refine lv_aload_n hx hb dX6_goByRules_56 rfl (lv_at hl 1 rfl) ?_
      have hPc := hP.sub (ws' := (qrW cB cI cJ cZ h0 a0 M0)) [0, 1, 2, 3] rfl
      have hDc := hD.sub (ws' := (qrW cB cI cJ cZ h0 a0 M0)) [0, 1, 2, 3] (by decide) rfl
      have hFc := va_free (wc := (qrW cB cI cJ cZ h0 a0 M0)) hD hS hA [0, 1, 2, 3] rfl
      refine va_callv (va_runV (As := []) (rest := []) ⟨hx, hb, hml, hown, hts⟩ (kX6_beStill l dC dI cB cI cJ cZ h0 a0 H.size  M0 _ h) (cwV 0 hts gX6_goByRules_X6_beStill rfl rfl rfl (by decide +kernel) ⟨Nat.le_of_ble_eq_true rfl, Nat.le_of_ble_eq_true rfl⟩) (qrpV hK hPc hDc) rfl rfl hl.1 rfl (lv_room (Nat.le_of_ble_eq_true rfl)) dX6_goByRules_57 ⟨Nat.le_of_ble_eq_true rfl, Nat.le_of_ble_eq_true rfl⟩) hS (fun q _ z => hFc q z) hFc (fun u t H1 locs ht hvm hw hB hz1 hk1 hS => ?_)
      obtain ⟨N10, rfl⟩ : ∃ z, z = u := ⟨_, rfl⟩
      obtain ⟨hP1, hK1, hD1⟩ := hB
      rw [ht] at hP1
      obtain ⟨hP, hD⟩ := va_join (wr := [(h1, .inr (1, [.int (mg M1 0), .ref (a1 1), .int (mg M1 2), .ref (a1 3), .int (mg M1 4), .ref (a1 5)])), (a1 1, .inl (cI, 4, .inl (ma M1 1))), (a1 3, .inl (cI, 4, .inl (ma M1 3))), (a1 5, .inl (cI, 2, .inl (ma M1 5)))]) (w1 := (qrW cB cI cJ cZ h0 a0 N10)) hP hD [0, 1, 2, 3] [4, 5, 6, 7] rfl rfl (by decide) (by decide) hk1 hFc hP1 hD1
      have hP := hP.sub (ws' := (qcW cB cI cJ cZ h0 a0 h1 a1 N10 M1)) [4, 5, 6, 7, 0, 1, 2, 3] rfl
      have hD := hD.sub (ws' := (qcW cB cI cJ cZ h0 a0 h1 a1 N10 M1)) [4, 5, 6, 7, 0, 1, 2, 3] (by decide) rfl
      generalize H1 = H at hP hS ⊢
      have h := hw
      try dsimp only at h
      refine lv_goto (tgt := 84) hx hb dX6_goByRules_60 (by decide) ?_
      exact b84 _ hB3 y4 N10 M1 H locs ls hP hD hS (lv_sub hl [1, 2, 3, 4, 5] rfl) h
  have b3 : ∀ (n : Nat) (y4 : Int32) (M0 : gS) (M1 : gS) (H : Heap) (locs : List Loc) (ls : Array Slot), va_P (dC, dI) vwCl (qcW cB cI cJ cZ h0 a0 h1 a1 M0 M1) H → va_D A (qcW cB cI cJ cZ h0 a0 h1 a1 M0 M1) → va_S A s.heap H locs → lv_has ls 7 [(0, .ref h0), (1, .ref h1), (2, .null), (3, .null), (4, .int y4)] → wX6_goByRulesnn_3  Q n y4 M0 M1 → W p l e (headSpec wsX6_goByRules rmX6_goByRulesnn).room s m ([.ref h0, .ref h1, .null, .null] : List Value).toArray below meth c H locs 0 0 (MQ below (va_Qv (fun (u : gS × gS) => Q u.1 u.2) (qcB dC dI cB cI cJ cZ h0 a0 h1 a1 A) A) ([.ref h0, .ref h1, .null, .null] : List Value).toArray s 0 0 A) (F0 m 3 ls []) := by
    intro  n
    induction n with
    | zero => intro y4 M0 M1 H locs ls hP hD hS hl h; exact absurd h (by simp [wX6_goByRulesnn_3])
    | succ n hB30 =>
      intro y4 M0 M1 H locs ls hP hD hS hl h
      have hB3 := hB30
      rw [wX6_goByRulesnn_3] at h
      refine lv_iload hx hb dX6_goByRules_3 (lv_at hl 4 rfl) ?_
      refine lv_sipush (v := (10000)) hx hb dX6_goByRules_5 (by decide) ?_
      refine lv_icmp_ge (tgt := 90) hx hb dX6_goByRules_8 (by decide) (fun c1 => ?_) (fun c1 => ?_)
      · have h := h.1 c1
        exact W.vret hx hb hr (fun t ht hW => ⟨⟨(M0, M1), rfl, h, by rw [ht]; exact hP, va_K.moved hW.alike hK, hD⟩, hS.F ht⟩) hS.2.2 dX6_goByRules_90
      · have h := h.2 c1
        refine lv_aload_n hx hb dX6_goByRules_11 rfl (lv_at hl 0 rfl) ?_
        refine va_get (D := (dC, dI)) (ci := 6) (v := .int (mg M0 0)) (C := RX6) (T := TX6) (N := 10) hx hb hts hinX6 hown hK hP 0 rfl rfl 0 (by decide) f1 (fun _ h9 => h9) rfl dX6_goByRules_12 ?_
        refine lv_if_eq (tgt := 90) hx hb dX6_goByRules_15 (by decide) (fun c2 => ?_) (fun c2 => ?_)
        · have h := h.1 c2
          exact W.vret hx hb hr (fun t ht hW => ⟨⟨(M0, M1), rfl, h, by rw [ht]; exact hP, va_K.moved hW.alike hK, hD⟩, hS.F ht⟩) hS.2.2 dX6_goByRules_90
        · have h := h.2 c2
          refine lv_aload_n hx hb dX6_goByRules_18 rfl (lv_at hl 0 rfl) ?_
          refine va_get (D := (dC, dI)) (ci := 6) (v := .int (mg M0 3)) (C := RX6) (T := TX6) (N := 10) hx hb hts hinX6 hown hK hP 0 rfl rfl 3 (by decide) f2 (fun _ h9 => h9) rfl dX6_goByRules_19 ?_
          refine lv_if_ne (tgt := 29) hx hb dX6_goByRules_22 (by decide) (fun c3 => ?_) (fun c3 => ?_)
          · have h := h.2 c3
            refine lv_aload_nN hx hb dX6_goByRules_29 rfl (lv_at hl 3 rfl) ?_
            refine lv_astoreN (lv' := [(5, .null), (0, .ref h0), (1, .ref h1), (2, .null), (3, .null), (4, .int y4)]) hx hb dX6_goByRules_30 hl (by decide) rfl (fun ls hl => ?_)
            refine lv_aloadN hx hb dX6_goByRules_32 (lv_at hl 0 rfl) ?_
            refine lv_ifnonnullN hx hb dX6_goByRules_34 ?_
            refine lv_iconst (v := (-1)) hx hb dX6_goByRules_37 (by decide) ?_
            refine lv_goto (tgt := 48) hx hb dX6_goByRules_38 (by decide) ?_
            exact b48 _ hB3 y4 (-1 : Int32) M0 M1 H locs ls hP hD hS (lv_sub hl [1, 2, 3, 4, 5] rfl) h
          · have h := h.1 c3
            refine lv_aload_nN hx hb dX6_goByRules_25 rfl (lv_at hl 2 rfl) ?_
            refine lv_goto (tgt := 30) hx hb dX6_goByRules_26 (by decide) ?_
            refine lv_astoreN (lv' := [(5, .null), (0, .ref h0), (1, .ref h1), (2, .null), (3, .null), (4, .int y4)]) hx hb dX6_goByRules_30 hl (by decide) rfl (fun ls hl => ?_)
            refine lv_aloadN hx hb dX6_goByRules_32 (lv_at hl 0 rfl) ?_
            refine lv_ifnonnullN hx hb dX6_goByRules_34 ?_
            refine lv_iconst (v := (-1)) hx hb dX6_goByRules_37 (by decide) ?_
            refine lv_goto (tgt := 48) hx hb dX6_goByRules_38 (by decide) ?_
            exact b48 _ hB3 y4 (-1 : Int32) M0 M1 H locs ls hP hD hS (lv_sub hl [1, 2, 3, 4, 5] rfl) h
  have bE : ∀ (M0 : gS) (M1 : gS) (H : Heap) (locs : List Loc) (ls : Array Slot), va_P (dC, dI) vwCl (qcW cB cI cJ cZ h0 a0 h1 a1 M0 M1) H → va_D A (qcW cB cI cJ cZ h0 a0 h1 a1 M0 M1) → va_S A s.heap H locs → lv_has ls 7 [(0, .ref h0), (1, .ref h1), (2, .null), (3, .null)] → wX6_goByRulesnn  M0 M1 Q → W p l e (headSpec wsX6_goByRules rmX6_goByRulesnn).room s m ([.ref h0, .ref h1, .null, .null] : List Value).toArray below meth c H locs 0 0 (MQ below (va_Qv (fun (u : gS × gS) => Q u.1 u.2) (qcB dC dI cB cI cJ cZ h0 a0 h1 a1 A) A) ([.ref h0, .ref h1, .null, .null] : List Value).toArray s 0 0 A) (F0 m 0 ls []) := by
    intro M0 M1 H locs ls hP hD hS hl h
    unfold wX6_goByRulesnn at h
    refine lv_iconst (v := 0) hx hb dX6_goByRules_0 (by decide) ?_
    refine lv_istore (lv' := [(4, .int (0 : Int32)), (0, .ref h0), (1, .ref h1), (2, .null), (3, .null)]) hx hb dX6_goByRules_1 hl (by decide) rfl (fun ls hl => ?_)
    obtain ⟨n9, h⟩ := h
    exact b3  n9 (0 : Int32) M0 M1 H locs ls hP hD hS (lv_sub hl [1, 2, 3, 4, 0] rfl) h
  have hl := lv_entry ([.ref h0, .ref h1, .null, .null]) (n := 7) (Nat.le_of_ble_eq_true rfl)
  rw [lg_entry_eq]
  generalize (lg_sl ([.ref h0, .ref h1, .null, .null]) ++ List.replicate (7 - (lg_sl ([.ref h0, .ref h1, .null, .null])).length) Slot.unset).toArray = ls at hl ⊢
  have hl : lv_has ls 7 [(0, .ref h0), (1, .ref h1), (2, .null), (3, .null)] := hl
  exact bE M0 M1 s.heap [] ls hP hD hS hl h
def wX6_goByRulesan_84 (B3 : Int32 → gS → gS → gS → Prop) (Q : gS → gS → gS → Prop) (y4 : Int32) (M0 : gS) (M1 : gS) (M2 : gS) : Prop :=
 (∀ x1 : Int32, x1 = y4 + (1 : Int32) → (B3 x1 M0 M1 M2))
def wX6_goByRulesan_48 (B3 : Int32 → gS → gS → gS → Prop) (Q : gS → gS → gS → Prop) (y4 : Int32) (z0 : Int32) (M0 : gS) (M1 : gS) (M2 : gS) : Prop :=
 ((z0 = (-1 : Int32) → (wX6_beStill  M0 (fun (N10 : gS) => (wX6_goByRulesan_84 B3 Q y4 N10 M1 M2))))
 ∧ (¬ z0 = (-1 : Int32) → ((z0 = (4 : Int32) → (wX6_throwPenny  M0 M1 (fun (N7 : gS) (N8 : gS) => (wX6_goByRulesan_84 B3 Q y4 N7 N8 M2))))
 ∧ (¬ z0 = (4 : Int32) → (wX6_say z0 M0 M1 (fun (N4 : gS) (N5 : gS) => (wX6_goByRulesan_84 B3 Q y4 N4 N5 M2)))))))
def wX6_goByRulesan_3  (Q : gS → gS → gS → Prop) : Nat → Int32 → gS → gS → gS → Prop
 | 0, _, _, _, _ => False
 | n + 1, y4, M0, M1, M2 => (((10000 : Int32) ≤ y4 → (Q M0 M1 M2))
 ∧ (¬ (10000 : Int32) ≤ y4 → (((mg M0 0) = 0 → (Q M0 M1 M2))
 ∧ (¬ (mg M0 0) = 0 → (((mg M0 3) = 0 → (wX8_choose  M2 M1 M0 (fun (r4 : Int32) (N5 : gS) (N6 : gS) (N7 : gS) => (wX6_goByRulesan_48 (fun (y4 : Int32) (M0 : gS) (M1 : gS) (M2 : gS) => wX6_goByRulesan_3  Q n y4 M0 M1 M2) Q y4 r4 N7 N6 N5))))
 ∧ (¬ (mg M0 3) = 0 → (wX6_goByRulesan_48 (fun (y4 : Int32) (M0 : gS) (M1 : gS) (M2 : gS) => wX6_goByRulesan_3  Q n y4 M0 M1 M2) Q y4 (-1 : Int32) M0 M1 M2)))))))
def wX6_goByRulesan  (M0 : gS) (M1 : gS) (M2 : gS) (Q : gS → gS → gS → Prop) : Prop :=
 (∃ k3 : Nat, wX6_goByRulesan_3  Q k3 (0 : Int32) M0 M1 M2)
def rmX6_goByRulesan : Room := { frames := 4, cells := 0, slots := 0, locals := 98 }
set_option maxHeartbeats 4000000 in
set_option maxRecDepth 100000 in
theorem kX6_goByRulesan (l : Launch) (dC : Nat → ClassId) (dI : Nat → Nat → Nat) (cB cI cJ cZ : ClassId) (h0 : Nat) (a0 : Nat → Nat) (h1 : Nat) (a1 : Nat → Nat) (h2 : Nat) (a2 : Nat → Nat) (sz : Nat)  (M0 : gS) (M1 : gS) (M2 : gS) (Q : gS → gS → gS → Prop) (h : wX6_goByRulesan  M0 M1 M2 Q) : Met l yX6_goByRules wsX6_goByRules rmX6_goByRulesan (va_Pc [.ref h0, .ref h1, .ref h2, .null] (q1I dC dI cB cI cJ cZ h0 a0 h1 a1 h2 a2 M0 M1 M2 sz)) (va_Qv (fun (u : gS × gS × gS) => Q u.1 u.2.1 u.2.2) (q1B dC dI cB cI cJ cZ h0 a0 h1 a1 h2 a2 (va_A (q1W cB cI cJ cZ h0 a0 h1 a1 h2 a2 M0 M1 M2) sz)) (va_A (q1W cB cI cJ cZ h0 a0 h1 a1 h2 a2 M0 M1 M2) sz)) 0 0 (va_A (q1W cB cI cJ cZ h0 a0 h1 a1 h2 a2 M0 M1 M2) sz) := by
  refine Met.ofW (cc := cX6_goByRules) (maxL := 7) (ret := none) (by decide) rfl ?_
  intro p e s m args below meth c s₁ B hml hv
  obtain ⟨rfl, hsz, hP, hK, hD0⟩ := hv
  have hx := B.exec
  have hb := B.bytes
  have hr := B.returns
  have hts := atoms_spec (ws := wsX6_goByRules) B.pre
  have hown : s.vm.findClass RX6 = some m.cls := findClass_of_methodNamed B.named
  have hlocks := B.notSynchronized
  subst hsz
  have hD := hD0.self (sz := s.heap.size)
  generalize hAe : va_A (q1W cB cI cJ cZ h0 a0 h1 a1 h2 a2 M0 M1 M2) s.heap.size = A at hD ⊢
  have hA : ∀ q : Nat, s.heap.size ≤ q → A q := fun q h => by rw [← hAe]; exact Or.inr h
  have hS : va_S A s.heap s.heap [] := va_S.rf
  have hinX6 : ∀ w ∈ wsX60, w ∈ wsX6_goByRules := by decide +kernel
  have f1 := hts (.fieldLink RX6 28 "LastWords$Quarrel" "goesOn" "Z") (by decide +kernel)
  have f2 := hts (.fieldLink RX6 35 "LastWords$Quarrel" "turn" "I") (by decide +kernel)
  have b84 : ∀ (B3 : Int32 → gS → gS → gS → Prop) (hB3 : ∀ (y4 : Int32) (M0 : gS) (M1 : gS) (M2 : gS) (H : Heap) (locs : List Loc) (ls : Array Slot), va_P (dC, dI) vwCl (q1W cB cI cJ cZ h0 a0 h1 a1 h2 a2 M0 M1 M2) H → va_D A (q1W cB cI cJ cZ h0 a0 h1 a1 h2 a2 M0 M1 M2) → va_S A s.heap H locs → lv_has ls 7 [(0, .ref h0), (1, .ref h1), (2, .ref h2), (3, .null), (4, .int y4)] → B3 y4 M0 M1 M2 → W p l e (headSpec wsX6_goByRules rmX6_goByRulesan).room s m ([.ref h0, .ref h1, .ref h2, .null] : List Value).toArray below meth c H locs 0 0 (MQ below (va_Qv (fun (u : gS × gS × gS) => Q u.1 u.2.1 u.2.2) (q1B dC dI cB cI cJ cZ h0 a0 h1 a1 h2 a2 A) A) ([.ref h0, .ref h1, .ref h2, .null] : List Value).toArray s 0 0 A) (F0 m 3 ls [])) (y4 : Int32) (M0 : gS) (M1 : gS) (M2 : gS) (H : Heap) (locs : List Loc) (ls : Array Slot), va_P (dC, dI) vwCl (q1W cB cI cJ cZ h0 a0 h1 a1 h2 a2 M0 M1 M2) H → va_D A (q1W cB cI cJ cZ h0 a0 h1 a1 h2 a2 M0 M1 M2) → va_S A s.heap H locs → lv_has ls 7 [(0, .ref h0), (1, .ref h1), (2, .ref h2), (3, .null), (4, .int y4)] → wX6_goByRulesan_84 B3 Q y4 M0 M1 M2 → W p l e (headSpec wsX6_goByRules rmX6_goByRulesan).room s m ([.ref h0, .ref h1, .ref h2, .null] : List Value).toArray below meth c H locs 0 0 (MQ below (va_Qv (fun (u : gS × gS × gS) => Q u.1 u.2.1 u.2.2) (q1B dC dI cB cI cJ cZ h0 a0 h1 a1 h2 a2 A) A) ([.ref h0, .ref h1, .ref h2, .null] : List Value).toArray s 0 0 A) (F0 m 84 ls []) := by
    intro B3 hB3 y4 M0 M1 M2 H locs ls hP hD hS hl h
    unfold wX6_goByRulesan_84 at h
    obtain ⟨x1, ex1⟩ : ∃ y : Int32, y = y4 + (1 : Int32) := ⟨_, rfl⟩
    have h := h x1 ex1
    refine lv_iinc (v := x1) (lv' := [(4, .int x1), (0, .ref h0), (1, .ref h1), (2, .ref h2), (3, .null)]) hx hb dX6_goByRules_84 hl (k := 4) rfl (by rw [ex1]; rfl) (by decide) rfl (fun ls hl => ?_)
    refine lv_goto (tgt := 3) hx hb dX6_goByRules_87 (by decide) ?_
    exact hB3 x1 M0 M1 M2 H locs ls hP hD hS (lv_sub hl [1, 2, 3, 4, 0] rfl) h
  have b48 : ∀ (B3 : Int32 → gS → gS → gS → Prop) (hB3 : ∀ (y4 : Int32) (M0 : gS) (M1 : gS) (M2 : gS) (H : Heap) (locs : List Loc) (ls : Array Slot), va_P (dC, dI) vwCl (q1W cB cI cJ cZ h0 a0 h1 a1 h2 a2 M0 M1 M2) H → va_D A (q1W cB cI cJ cZ h0 a0 h1 a1 h2 a2 M0 M1 M2) → va_S A s.heap H locs → lv_has ls 7 [(0, .ref h0), (1, .ref h1), (2, .ref h2), (3, .null), (4, .int y4)] → B3 y4 M0 M1 M2 → W p l e (headSpec wsX6_goByRules rmX6_goByRulesan).room s m ([.ref h0, .ref h1, .ref h2, .null] : List Value).toArray below meth c H locs 0 0 (MQ below (va_Qv (fun (u : gS × gS × gS) => Q u.1 u.2.1 u.2.2) (q1B dC dI cB cI cJ cZ h0 a0 h1 a1 h2 a2 A) A) ([.ref h0, .ref h1, .ref h2, .null] : List Value).toArray s 0 0 A) (F0 m 3 ls [])) (y4 : Int32) (z0 : Int32) (M0 : gS) (M1 : gS) (M2 : gS) (H : Heap) (locs : List Loc) (ls : Array Slot), va_P (dC, dI) vwCl (q1W cB cI cJ cZ h0 a0 h1 a1 h2 a2 M0 M1 M2) H → va_D A (q1W cB cI cJ cZ h0 a0 h1 a1 h2 a2 M0 M1 M2) → va_S A s.heap H locs → lv_has ls 7 [(0, .ref h0), (1, .ref h1), (2, .ref h2), (3, .null), (4, .int y4)] → wX6_goByRulesan_48 B3 Q y4 z0 M0 M1 M2 → W p l e (headSpec wsX6_goByRules rmX6_goByRulesan).room s m ([.ref h0, .ref h1, .ref h2, .null] : List Value).toArray below meth c H locs 0 0 (MQ below (va_Qv (fun (u : gS × gS × gS) => Q u.1 u.2.1 u.2.2) (q1B dC dI cB cI cJ cZ h0 a0 h1 a1 h2 a2 A) A) ([.ref h0, .ref h1, .ref h2, .null] : List Value).toArray s 0 0 A) (F0 m 48 ls [.int z0]) := by
    intro B3 hB3 y4 z0 M0 M1 M2 H locs ls hP hD hS hl h
    unfold wX6_goByRulesan_48 at h
    refine lv_istore (lv' := [(6, .int z0), (0, .ref h0), (1, .ref h1), (2, .ref h2), (3, .null), (4, .int y4)]) hx hb dX6_goByRules_48 hl (by decide) rfl (fun ls hl => ?_)
    refine lv_iload hx hb dX6_goByRules_50 (lv_at hl 0 rfl) ?_
    refine lv_iconst (v := (-1)) hx hb dX6_goByRules_52 (by decide) ?_
    refine lv_icmp_ne (tgt := 63) hx hb dX6_goByRules_53 (by decide) (fun c1 => ?_) (fun c1 => ?_)
    · have h := h.2 c1
      refine lv_iload hx hb dX6_goByRules_63 (lv_at hl 0 rfl) ?_
      refine lv_iconst (v := 4) hx hb dX6_goByRules_65 (by decide) ?_
      refine lv_icmp_ne (tgt := 77) hx hb dX6_goByRules_66 (by decide) (fun c2 => ?_) (fun c2 => ?_)
      · have h := h.2 c2
        refine lv_aload_n hx hb dX6_goByRules_77 rfl (lv_at hl 1 rfl) ?_
        refine lv_aload_n hx hb dX6_goByRules_78 rfl (lv_at hl 2 rfl) ?_
        refine lv_iload hx hb dX6_goByRules_79 (lv_at hl 0 rfl) ?_
        have hPc := hP.sub (ws' := (qcW cB cI cJ cZ h0 a0 h1 a1 M0 M1)) [0, 1, 2, 3, 4, 5, 6, 7] rfl
        have hDc := hD.sub (ws' := (qcW cB cI cJ cZ h0 a0 h1 a1 M0 M1)) [0, 1, 2, 3, 4, 5, 6, 7] (by decide) rfl
        have hFc := va_free (wc := (qcW cB cI cJ cZ h0 a0 h1 a1 M0 M1)) hD hS hA [0, 1, 2, 3, 4, 5, 6, 7] rfl
        refine va_callv (va_runV (As := [.ref h1, .int z0]) (rest := []) ⟨hx, hb, hml, hown, hts⟩ (kX6_say l dC dI cB cI cJ cZ h0 a0 h1 a1 H.size z0 M0 M1 _ h) (cwV 2 hts gX6_goByRules_X6_say rfl rfl rfl (by decide +kernel) ⟨Nat.le_of_ble_eq_true rfl, Nat.le_of_ble_eq_true rfl⟩) (qcpV hK hPc hDc) rfl rfl hl.1 rfl (lv_room (Nat.le_of_ble_eq_true rfl)) dX6_goByRules_81 ⟨Nat.le_of_ble_eq_true rfl, Nat.le_of_ble_eq_true rfl⟩) hS (fun q _ z => hFc q z) hFc (fun u t H1 locs ht hvm hw hB hz1 hk1 hS => ?_)
        obtain ⟨N4, N5⟩ := u
        obtain ⟨hP1, hK1, hD1⟩ := hB
        rw [ht] at hP1
        obtain ⟨hP, hD⟩ := va_join (wr := [(h2, .inr (8, [.int (mg M2 0), .ref (a2 1), .ref (a2 2), .ref (a2 3), .int (mg M2 4), .ref (a2 5)])), (a2 1, .inl (cI, 12, .inl (ma M2 1))), (a2 2, .inl (cI, 12, .inl (ma M2 2))), (a2 3, .inl (cI, 400, .inl (ma M2 3))), (a2 5, .inl (cJ, 60, .inr (.inl (ml M2 5))))]) (w1 := (qcW cB cI cJ cZ h0 a0 h1 a1 N4 N5)) hP hD [0, 1, 2, 3, 4, 5, 6, 7] [8, 9, 10, 11, 12] rfl rfl (by decide) (by decide) hk1 hFc hP1 hD1
        have hP := hP.sub (ws' := (q1W cB cI cJ cZ h0 a0 h1 a1 h2 a2 N4 N5 M2)) [5, 6, 7, 8, 9, 10, 11, 12, 0, 1, 2, 3, 4] rfl
        have hD := hD.sub (ws' := (q1W cB cI cJ cZ h0 a0 h1 a1 h2 a2 N4 N5 M2)) [5, 6, 7, 8, 9, 10, 11, 12, 0, 1, 2, 3, 4] (by decide) rfl
        generalize H1 = H at hP hS ⊢
        have h := hw
        try dsimp only at h
        exact b84 _ hB3 y4 N4 N5 M2 H locs ls hP hD hS (lv_sub hl [1, 2, 3, 4, 5] rfl) h
      · have h := h.1 c2
        refine lv_aload_n hx hb dX6_goByRules_69 rfl (lv_at hl 1 rfl) ?_
        refine lv_aload_n hx hb dX6_goByRules_70 rfl (lv_at hl 2 rfl) ?_
        have hPc := hP.sub (ws' := (qcW cB cI cJ cZ h0 a0 h1 a1 M0 M1)) [0, 1, 2, 3, 4, 5, 6, 7] rfl
        have hDc := hD.sub (ws' := (qcW cB cI cJ cZ h0 a0 h1 a1 M0 M1)) [0, 1, 2, 3, 4, 5, 6, 7] (by decide) rfl
        have hFc := va_free (wc := (qcW cB cI cJ cZ h0 a0 h1 a1 M0 M1)) hD hS hA [0, 1, 2, 3, 4, 5, 6, 7] rfl
        refine va_callv (va_runV (As := [.ref h1]) (rest := []) ⟨hx, hb, hml, hown, hts⟩ (kX6_throwPenny l dC dI cB cI cJ cZ h0 a0 h1 a1 H.size  M0 M1 _ h) (cwV 1 hts gX6_goByRules_X6_throwPenny rfl rfl rfl (by decide +kernel) ⟨Nat.le_of_ble_eq_true rfl, Nat.le_of_ble_eq_true rfl⟩) (qcpV hK hPc hDc) rfl rfl hl.1 rfl (lv_room (Nat.le_of_ble_eq_true rfl)) dX6_goByRules_71 ⟨Nat.le_of_ble_eq_true rfl, Nat.le_of_ble_eq_true rfl⟩) hS (fun q _ z => hFc q z) hFc (fun u t H1 locs ht hvm hw hB hz1 hk1 hS => ?_)
        obtain ⟨N7, N8⟩ := u
        obtain ⟨hP1, hK1, hD1⟩ := hB
        rw [ht] at hP1
        obtain ⟨hP, hD⟩ := va_join (wr := [(h2, .inr (8, [.int (mg M2 0), .ref (a2 1), .ref (a2 2), .ref (a2 3), .int (mg M2 4), .ref (a2 5)])), (a2 1, .inl (cI, 12, .inl (ma M2 1))), (a2 2, .inl (cI, 12, .inl (ma M2 2))), (a2 3, .inl (cI, 400, .inl (ma M2 3))), (a2 5, .inl (cJ, 60, .inr (.inl (ml M2 5))))]) (w1 := (qcW cB cI cJ cZ h0 a0 h1 a1 N7 N8)) hP hD [0, 1, 2, 3, 4, 5, 6, 7] [8, 9, 10, 11, 12] rfl rfl (by decide) (by decide) hk1 hFc hP1 hD1
        have hP := hP.sub (ws' := (q1W cB cI cJ cZ h0 a0 h1 a1 h2 a2 N7 N8 M2)) [5, 6, 7, 8, 9, 10, 11, 12, 0, 1, 2, 3, 4] rfl
        have hD := hD.sub (ws' := (q1W cB cI cJ cZ h0 a0 h1 a1 h2 a2 N7 N8 M2)) [5, 6, 7, 8, 9, 10, 11, 12, 0, 1, 2, 3, 4] (by decide) rfl
        generalize H1 = H at hP hS ⊢
        have h := hw
        try dsimp only at h
        refine lv_goto (tgt := 84) hx hb dX6_goByRules_74 (by decide) ?_
        exact b84 _ hB3 y4 N7 N8 M2 H locs ls hP hD hS (lv_sub hl [1, 2, 3, 4, 5] rfl) h
    · have h := h.1 c1
      refine lv_aload_n hx hb dX6_goByRules_56 rfl (lv_at hl 1 rfl) ?_
      have hPc := hP.sub (ws' := (qrW cB cI cJ cZ h0 a0 M0)) [0, 1, 2, 3] rfl
      have hDc := hD.sub (ws' := (qrW cB cI cJ cZ h0 a0 M0)) [0, 1, 2, 3] (by decide) rfl
      have hFc := va_free (wc := (qrW cB cI cJ cZ h0 a0 M0)) hD hS hA [0, 1, 2, 3] rfl
      refine va_callv (va_runV (As := []) (rest := []) ⟨hx, hb, hml, hown, hts⟩ (kX6_beStill l dC dI cB cI cJ cZ h0 a0 H.size  M0 _ h) (cwV 0 hts gX6_goByRules_X6_beStill rfl rfl rfl (by decide +kernel) ⟨Nat.le_of_ble_eq_true rfl, Nat.le_of_ble_eq_true rfl⟩) (qrpV hK hPc hDc) rfl rfl hl.1 rfl (lv_room (Nat.le_of_ble_eq_true rfl)) dX6_goByRules_57 ⟨Nat.le_of_ble_eq_true rfl, Nat.le_of_ble_eq_true rfl⟩) hS (fun q _ z => hFc q z) hFc (fun u t H1 locs ht hvm hw hB hz1 hk1 hS => ?_)
      obtain ⟨N10, rfl⟩ : ∃ z, z = u := ⟨_, rfl⟩
      obtain ⟨hP1, hK1, hD1⟩ := hB
      rw [ht] at hP1
      obtain ⟨hP, hD⟩ := va_join (wr := [(h1, .inr (1, [.int (mg M1 0), .ref (a1 1), .int (mg M1 2), .ref (a1 3), .int (mg M1 4), .ref (a1 5)])), (a1 1, .inl (cI, 4, .inl (ma M1 1))), (a1 3, .inl (cI, 4, .inl (ma M1 3))), (a1 5, .inl (cI, 2, .inl (ma M1 5))), (h2, .inr (8, [.int (mg M2 0), .ref (a2 1), .ref (a2 2), .ref (a2 3), .int (mg M2 4), .ref (a2 5)])), (a2 1, .inl (cI, 12, .inl (ma M2 1))), (a2 2, .inl (cI, 12, .inl (ma M2 2))), (a2 3, .inl (cI, 400, .inl (ma M2 3))), (a2 5, .inl (cJ, 60, .inr (.inl (ml M2 5))))]) (w1 := (qrW cB cI cJ cZ h0 a0 N10)) hP hD [0, 1, 2, 3] [4, 5, 6, 7, 8, 9, 10, 11, 12] rfl rfl (by decide) (by decide) hk1 hFc hP1 hD1
      have hP := hP.sub (ws' := (q1W cB cI cJ cZ h0 a0 h1 a1 h2 a2 N10 M1 M2)) [9, 10, 11, 12, 0, 1, 2, 3, 4, 5, 6, 7, 8] rfl
      have hD := hD.sub (ws' := (q1W cB cI cJ cZ h0 a0 h1 a1 h2 a2 N10 M1 M2)) [9, 10, 11, 12, 0, 1, 2, 3, 4, 5, 6, 7, 8] (by decide) rfl
      generalize H1 = H at hP hS ⊢
      have h := hw
      try dsimp only at h
      refine lv_goto (tgt := 84) hx hb dX6_goByRules_60 (by decide) ?_
      exact b84 _ hB3 y4 N10 M1 M2 H locs ls hP hD hS (lv_sub hl [1, 2, 3, 4, 5] rfl) h
  have b3 : ∀ (n : Nat) (y4 : Int32) (M0 : gS) (M1 : gS) (M2 : gS) (H : Heap) (locs : List Loc) (ls : Array Slot), va_P (dC, dI) vwCl (q1W cB cI cJ cZ h0 a0 h1 a1 h2 a2 M0 M1 M2) H → va_D A (q1W cB cI cJ cZ h0 a0 h1 a1 h2 a2 M0 M1 M2) → va_S A s.heap H locs → lv_has ls 7 [(0, .ref h0), (1, .ref h1), (2, .ref h2), (3, .null), (4, .int y4)] → wX6_goByRulesan_3  Q n y4 M0 M1 M2 → W p l e (headSpec wsX6_goByRules rmX6_goByRulesan).room s m ([.ref h0, .ref h1, .ref h2, .null] : List Value).toArray below meth c H locs 0 0 (MQ below (va_Qv (fun (u : gS × gS × gS) => Q u.1 u.2.1 u.2.2) (q1B dC dI cB cI cJ cZ h0 a0 h1 a1 h2 a2 A) A) ([.ref h0, .ref h1, .ref h2, .null] : List Value).toArray s 0 0 A) (F0 m 3 ls []) := by
    intro  n
    induction n with
    | zero => intro y4 M0 M1 M2 H locs ls hP hD hS hl h; exact absurd h (by simp [wX6_goByRulesan_3])
    | succ n hB30 =>
      intro y4 M0 M1 M2 H locs ls hP hD hS hl h
      have hB3 := hB30
      rw [wX6_goByRulesan_3] at h
      refine lv_iload hx hb dX6_goByRules_3 (lv_at hl 4 rfl) ?_
      refine lv_sipush (v := (10000)) hx hb dX6_goByRules_5 (by decide) ?_
      refine lv_icmp_ge (tgt := 90) hx hb dX6_goByRules_8 (by decide) (fun c1 => ?_) (fun c1 => ?_)
      · have h := h.1 c1
        exact W.vret hx hb hr (fun t ht hW => ⟨⟨(M0, M1, M2), rfl, h, by rw [ht]; exact hP, va_K.moved hW.alike hK, hD⟩, hS.F ht⟩) hS.2.2 dX6_goByRules_90
      · have h := h.2 c1
        refine lv_aload_n hx hb dX6_goByRules_11 rfl (lv_at hl 0 rfl) ?_
        refine va_get (D := (dC, dI)) (ci := 6) (v := .int (mg M0 0)) (C := RX6) (T := TX6) (N := 10) hx hb hts hinX6 hown hK hP 0 rfl rfl 0 (by decide) f1 (fun _ h9 => h9) rfl dX6_goByRules_12 ?_
        refine lv_if_eq (tgt := 90) hx hb dX6_goByRules_15 (by decide) (fun c2 => ?_) (fun c2 => ?_)
        · have h := h.1 c2
          exact W.vret hx hb hr (fun t ht hW => ⟨⟨(M0, M1, M2), rfl, h, by rw [ht]; exact hP, va_K.moved hW.alike hK, hD⟩, hS.F ht⟩) hS.2.2 dX6_goByRules_90
        · have h := h.2 c2
          refine lv_aload_n hx hb dX6_goByRules_18 rfl (lv_at hl 0 rfl) ?_
          refine va_get (D := (dC, dI)) (ci := 6) (v := .int (mg M0 3)) (C := RX6) (T := TX6) (N := 10) hx hb hts hinX6 hown hK hP 0 rfl rfl 3 (by decide) f2 (fun _ h9 => h9) rfl dX6_goByRules_19 ?_
          refine lv_if_ne (tgt := 29) hx hb dX6_goByRules_22 (by decide) (fun c3 => ?_) (fun c3 => ?_)
          · have h := h.2 c3
            refine lv_aload_nN hx hb dX6_goByRules_29 rfl (lv_at hl 3 rfl) ?_
            refine lv_astoreN (lv' := [(5, .null), (0, .ref h0), (1, .ref h1), (2, .ref h2), (3, .null), (4, .int y4)]) hx hb dX6_goByRules_30 hl (by decide) rfl (fun ls hl => ?_)
            refine lv_aloadN hx hb dX6_goByRules_32 (lv_at hl 0 rfl) ?_
            refine lv_ifnonnullN hx hb dX6_goByRules_34 ?_
            refine lv_iconst (v := (-1)) hx hb dX6_goByRules_37 (by decide) ?_
            refine lv_goto (tgt := 48) hx hb dX6_goByRules_38 (by decide) ?_
            exact b48 _ hB3 y4 (-1 : Int32) M0 M1 M2 H locs ls hP hD hS (lv_sub hl [1, 2, 3, 4, 5] rfl) h
          · have h := h.1 c3
            refine lv_aload_n hx hb dX6_goByRules_25 rfl (lv_at hl 2 rfl) ?_
            refine lv_goto (tgt := 30) hx hb dX6_goByRules_26 (by decide) ?_
            refine lv_astore (lv' := [(5, .ref h2), (0, .ref h0), (1, .ref h1), (2, .ref h2), (3, .null), (4, .int y4)]) hx hb dX6_goByRules_30 hl (by decide) rfl (fun ls hl => ?_)
            refine lv_aload hx hb dX6_goByRules_32 (lv_at hl 0 rfl) ?_
            refine lv_ifnonnull (tgt := 41) hx hb dX6_goByRules_34 (by decide) ?_
            refine lv_aload hx hb dX6_goByRules_41 (lv_at hl 0 rfl) ?_
            refine lv_aload_n hx hb dX6_goByRules_43 rfl (lv_at hl 2 rfl) ?_
            refine lv_aload_n hx hb dX6_goByRules_44 rfl (lv_at hl 1 rfl) ?_
            have hPc := hP.sub (ws' := (rcW cB cI cJ cZ h2 a2 h1 a1 h0 a0 M2 M1 M0)) [8, 9, 10, 11, 12, 4, 5, 6, 7, 0, 1, 2, 3] rfl
            have hDc := hD.sub (ws' := (rcW cB cI cJ cZ h2 a2 h1 a1 h0 a0 M2 M1 M0)) [8, 9, 10, 11, 12, 4, 5, 6, 7, 0, 1, 2, 3] (by decide) rfl
            have hFc := va_free (wc := (rcW cB cI cJ cZ h2 a2 h1 a1 h0 a0 M2 M1 M0)) hD hS hA [8, 9, 10, 11, 12, 4, 5, 6, 7, 0, 1, 2, 3] rfl
            refine va_calli (va_runV (As := [.ref h1, .ref h0]) (rest := []) ⟨hx, hb, hml, hown, hts⟩ (kX8_choose l dC dI cB cI cJ cZ h2 a2 h1 a1 h0 a0 H.size  M2 M1 M0 _ h) (cwV 2 hts gX6_goByRules_X8_choose rfl rfl rfl (by decide +kernel) ⟨Nat.le_of_ble_eq_true rfl, Nat.le_of_ble_eq_true rfl⟩) (rcpV hK hPc hDc) rfl rfl hl.1 rfl (lv_room (Nat.le_of_ble_eq_true rfl)) dX6_goByRules_45 ⟨Nat.le_of_ble_eq_true rfl, Nat.le_of_ble_eq_true rfl⟩) hS (fun q _ z => hFc q z) hFc (fun r4 u t H1 locs ht hvm hw hB hz1 hk1 hS => ?_)
            obtain ⟨N5, N6, N7⟩ := u
            obtain ⟨hP1, hK1, hD1⟩ := hB
            rw [ht] at hP1
            obtain ⟨hP, hD⟩ := va_join (wr := []) (w1 := (rcW cB cI cJ cZ h2 a2 h1 a1 h0 a0 N5 N6 N7)) hP hD [8, 9, 10, 11, 12, 4, 5, 6, 7, 0, 1, 2, 3] [] rfl rfl (by decide) (by decide) hk1 hFc hP1 hD1
            have hP := hP.sub (ws' := (q1W cB cI cJ cZ h0 a0 h1 a1 h2 a2 N7 N6 N5)) [9, 10, 11, 12, 5, 6, 7, 8, 0, 1, 2, 3, 4] rfl
            have hD := hD.sub (ws' := (q1W cB cI cJ cZ h0 a0 h1 a1 h2 a2 N7 N6 N5)) [9, 10, 11, 12, 5, 6, 7, 8, 0, 1, 2, 3, 4] (by decide) rfl
            generalize H1 = H at hP hS ⊢
            have h := hw
            try dsimp only at h
            exact b48 _ hB3 y4 r4 N7 N6 N5 H locs ls hP hD hS (lv_sub hl [1, 2, 3, 4, 5] rfl) h
  have bE : ∀ (M0 : gS) (M1 : gS) (M2 : gS) (H : Heap) (locs : List Loc) (ls : Array Slot), va_P (dC, dI) vwCl (q1W cB cI cJ cZ h0 a0 h1 a1 h2 a2 M0 M1 M2) H → va_D A (q1W cB cI cJ cZ h0 a0 h1 a1 h2 a2 M0 M1 M2) → va_S A s.heap H locs → lv_has ls 7 [(0, .ref h0), (1, .ref h1), (2, .ref h2), (3, .null)] → wX6_goByRulesan  M0 M1 M2 Q → W p l e (headSpec wsX6_goByRules rmX6_goByRulesan).room s m ([.ref h0, .ref h1, .ref h2, .null] : List Value).toArray below meth c H locs 0 0 (MQ below (va_Qv (fun (u : gS × gS × gS) => Q u.1 u.2.1 u.2.2) (q1B dC dI cB cI cJ cZ h0 a0 h1 a1 h2 a2 A) A) ([.ref h0, .ref h1, .ref h2, .null] : List Value).toArray s 0 0 A) (F0 m 0 ls []) := by
    intro M0 M1 M2 H locs ls hP hD hS hl h
    unfold wX6_goByRulesan at h
    refine lv_iconst (v := 0) hx hb dX6_goByRules_0 (by decide) ?_
    refine lv_istore (lv' := [(4, .int (0 : Int32)), (0, .ref h0), (1, .ref h1), (2, .ref h2), (3, .null)]) hx hb dX6_goByRules_1 hl (by decide) rfl (fun ls hl => ?_)
    obtain ⟨n9, h⟩ := h
    exact b3  n9 (0 : Int32) M0 M1 M2 H locs ls hP hD hS (lv_sub hl [1, 2, 3, 4, 0] rfl) h
  have hl := lv_entry ([.ref h0, .ref h1, .ref h2, .null]) (n := 7) (Nat.le_of_ble_eq_true rfl)
  rw [lg_entry_eq]
  generalize (lg_sl ([.ref h0, .ref h1, .ref h2, .null]) ++ List.replicate (7 - (lg_sl ([.ref h0, .ref h1, .ref h2, .null])).length) Slot.unset).toArray = ls at hl ⊢
  have hl : lv_has ls 7 [(0, .ref h0), (1, .ref h1), (2, .ref h2), (3, .null)] := hl
  exact bE M0 M1 M2 s.heap [] ls hP hD hS hl h
def wX6_goByRulesna_84 (B3 : Int32 → gS → gS → gS → Prop) (Q : gS → gS → gS → Prop) (y4 : Int32) (M0 : gS) (M1 : gS) (M2 : gS) : Prop :=
 (∀ x1 : Int32, x1 = y4 + (1 : Int32) → (B3 x1 M0 M1 M2))
def wX6_goByRulesna_48 (B3 : Int32 → gS → gS → gS → Prop) (Q : gS → gS → gS → Prop) (y4 : Int32) (z0 : Int32) (M0 : gS) (M1 : gS) (M2 : gS) : Prop :=
 ((z0 = (-1 : Int32) → (wX6_beStill  M0 (fun (N10 : gS) => (wX6_goByRulesna_84 B3 Q y4 N10 M1 M2))))
 ∧ (¬ z0 = (-1 : Int32) → ((z0 = (4 : Int32) → (wX6_throwPenny  M0 M1 (fun (N7 : gS) (N8 : gS) => (wX6_goByRulesna_84 B3 Q y4 N7 N8 M2))))
 ∧ (¬ z0 = (4 : Int32) → (wX6_say z0 M0 M1 (fun (N4 : gS) (N5 : gS) => (wX6_goByRulesna_84 B3 Q y4 N4 N5 M2)))))))
def wX6_goByRulesna_3  (Q : gS → gS → gS → Prop) : Nat → Int32 → gS → gS → gS → Prop
 | 0, _, _, _, _ => False
 | n + 1, y4, M0, M1, M2 => (((10000 : Int32) ≤ y4 → (Q M0 M1 M2))
 ∧ (¬ (10000 : Int32) ≤ y4 → (((mg M0 0) = 0 → (Q M0 M1 M2))
 ∧ (¬ (mg M0 0) = 0 → (((mg M0 3) = 0 → (wX6_goByRulesna_48 (fun (y4 : Int32) (M0 : gS) (M1 : gS) (M2 : gS) => wX6_goByRulesna_3  Q n y4 M0 M1 M2) Q y4 (-1 : Int32) M0 M1 M2))
 ∧ (¬ (mg M0 3) = 0 → (wX8_choose  M2 M1 M0 (fun (r4 : Int32) (N5 : gS) (N6 : gS) (N7 : gS) => (wX6_goByRulesna_48 (fun (y4 : Int32) (M0 : gS) (M1 : gS) (M2 : gS) => wX6_goByRulesna_3  Q n y4 M0 M1 M2) Q y4 r4 N7 N6 N5)))))))))
def wX6_goByRulesna  (M0 : gS) (M1 : gS) (M2 : gS) (Q : gS → gS → gS → Prop) : Prop :=
 (∃ k3 : Nat, wX6_goByRulesna_3  Q k3 (0 : Int32) M0 M1 M2)
def rmX6_goByRulesna : Room := { frames := 4, cells := 0, slots := 0, locals := 98 }
set_option maxHeartbeats 4000000 in
set_option maxRecDepth 100000 in
theorem kX6_goByRulesna (l : Launch) (dC : Nat → ClassId) (dI : Nat → Nat → Nat) (cB cI cJ cZ : ClassId) (h0 : Nat) (a0 : Nat → Nat) (h1 : Nat) (a1 : Nat → Nat) (h2 : Nat) (a2 : Nat → Nat) (sz : Nat)  (M0 : gS) (M1 : gS) (M2 : gS) (Q : gS → gS → gS → Prop) (h : wX6_goByRulesna  M0 M1 M2 Q) : Met l yX6_goByRules wsX6_goByRules rmX6_goByRulesna (va_Pc [.ref h0, .ref h1, .null, .ref h2] (q1I dC dI cB cI cJ cZ h0 a0 h1 a1 h2 a2 M0 M1 M2 sz)) (va_Qv (fun (u : gS × gS × gS) => Q u.1 u.2.1 u.2.2) (q1B dC dI cB cI cJ cZ h0 a0 h1 a1 h2 a2 (va_A (q1W cB cI cJ cZ h0 a0 h1 a1 h2 a2 M0 M1 M2) sz)) (va_A (q1W cB cI cJ cZ h0 a0 h1 a1 h2 a2 M0 M1 M2) sz)) 0 0 (va_A (q1W cB cI cJ cZ h0 a0 h1 a1 h2 a2 M0 M1 M2) sz) := by
  refine Met.ofW (cc := cX6_goByRules) (maxL := 7) (ret := none) (by decide) rfl ?_
  intro p e s m args below meth c s₁ B hml hv
  obtain ⟨rfl, hsz, hP, hK, hD0⟩ := hv
  have hx := B.exec
  have hb := B.bytes
  have hr := B.returns
  have hts := atoms_spec (ws := wsX6_goByRules) B.pre
  have hown : s.vm.findClass RX6 = some m.cls := findClass_of_methodNamed B.named
  have hlocks := B.notSynchronized
  subst hsz
  have hD := hD0.self (sz := s.heap.size)
  generalize hAe : va_A (q1W cB cI cJ cZ h0 a0 h1 a1 h2 a2 M0 M1 M2) s.heap.size = A at hD ⊢
  have hA : ∀ q : Nat, s.heap.size ≤ q → A q := fun q h => by rw [← hAe]; exact Or.inr h
  have hS : va_S A s.heap s.heap [] := va_S.rf
  have hinX6 : ∀ w ∈ wsX60, w ∈ wsX6_goByRules := by decide +kernel
  have f1 := hts (.fieldLink RX6 28 "LastWords$Quarrel" "goesOn" "Z") (by decide +kernel)
  have f2 := hts (.fieldLink RX6 35 "LastWords$Quarrel" "turn" "I") (by decide +kernel)
  have b84 : ∀ (B3 : Int32 → gS → gS → gS → Prop) (hB3 : ∀ (y4 : Int32) (M0 : gS) (M1 : gS) (M2 : gS) (H : Heap) (locs : List Loc) (ls : Array Slot), va_P (dC, dI) vwCl (q1W cB cI cJ cZ h0 a0 h1 a1 h2 a2 M0 M1 M2) H → va_D A (q1W cB cI cJ cZ h0 a0 h1 a1 h2 a2 M0 M1 M2) → va_S A s.heap H locs → lv_has ls 7 [(0, .ref h0), (1, .ref h1), (2, .null), (3, .ref h2), (4, .int y4)] → B3 y4 M0 M1 M2 → W p l e (headSpec wsX6_goByRules rmX6_goByRulesna).room s m ([.ref h0, .ref h1, .null, .ref h2] : List Value).toArray below meth c H locs 0 0 (MQ below (va_Qv (fun (u : gS × gS × gS) => Q u.1 u.2.1 u.2.2) (q1B dC dI cB cI cJ cZ h0 a0 h1 a1 h2 a2 A) A) ([.ref h0, .ref h1, .null, .ref h2] : List Value).toArray s 0 0 A) (F0 m 3 ls [])) (y4 : Int32) (M0 : gS) (M1 : gS) (M2 : gS) (H : Heap) (locs : List Loc) (ls : Array Slot), va_P (dC, dI) vwCl (q1W cB cI cJ cZ h0 a0 h1 a1 h2 a2 M0 M1 M2) H → va_D A (q1W cB cI cJ cZ h0 a0 h1 a1 h2 a2 M0 M1 M2) → va_S A s.heap H locs → lv_has ls 7 [(0, .ref h0), (1, .ref h1), (2, .null), (3, .ref h2), (4, .int y4)] → wX6_goByRulesna_84 B3 Q y4 M0 M1 M2 → W p l e (headSpec wsX6_goByRules rmX6_goByRulesna).room s m ([.ref h0, .ref h1, .null, .ref h2] : List Value).toArray below meth c H locs 0 0 (MQ below (va_Qv (fun (u : gS × gS × gS) => Q u.1 u.2.1 u.2.2) (q1B dC dI cB cI cJ cZ h0 a0 h1 a1 h2 a2 A) A) ([.ref h0, .ref h1, .null, .ref h2] : List Value).toArray s 0 0 A) (F0 m 84 ls []) := by
    intro B3 hB3 y4 M0 M1 M2 H locs ls hP hD hS hl h
    unfold wX6_goByRulesna_84 at h
    obtain ⟨x1, ex1⟩ : ∃ y : Int32, y = y4 + (1 : Int32) := ⟨_, rfl⟩
    have h := h x1 ex1
    refine lv_iinc (v := x1) (lv' := [(4, .int x1), (0, .ref h0), (1, .ref h1), (2, .null), (3, .ref h2)]) hx hb dX6_goByRules_84 hl (k := 4) rfl (by rw [ex1]; rfl) (by decide) rfl (fun ls hl => ?_)
    refine lv_goto (tgt := 3) hx hb dX6_goByRules_87 (by decide) ?_
    exact hB3 x1 M0 M1 M2 H locs ls hP hD hS (lv_sub hl [1, 2, 3, 4, 0] rfl) h
  have b48 : ∀ (B3 : Int32 → gS → gS → gS → Prop) (hB3 : ∀ (y4 : Int32) (M0 : gS) (M1 : gS) (M2 : gS) (H : Heap) (locs : List Loc) (ls : Array Slot), va_P (dC, dI) vwCl (q1W cB cI cJ cZ h0 a0 h1 a1 h2 a2 M0 M1 M2) H → va_D A (q1W cB cI cJ cZ h0 a0 h1 a1 h2 a2 M0 M1 M2) → va_S A s.heap H locs → lv_has ls 7 [(0, .ref h0), (1, .ref h1), (2, .null), (3, .ref h2), (4, .int y4)] → B3 y4 M0 M1 M2 → W p l e (headSpec wsX6_goByRules rmX6_goByRulesna).room s m ([.ref h0, .ref h1, .null, .ref h2] : List Value).toArray below meth c H locs 0 0 (MQ below (va_Qv (fun (u : gS × gS × gS) => Q u.1 u.2.1 u.2.2) (q1B dC dI cB cI cJ cZ h0 a0 h1 a1 h2 a2 A) A) ([.ref h0, .ref h1, .null, .ref h2] : List Value).toArray s 0 0 A) (F0 m 3 ls [])) (y4 : Int32) (z0 : Int32) (M0 : gS) (M1 : gS) (M2 : gS) (H : Heap) (locs : List Loc) (ls : Array Slot), va_P (dC, dI) vwCl (q1W cB cI cJ cZ h0 a0 h1 a1 h2 a2 M0 M1 M2) H → va_D A (q1W cB cI cJ cZ h0 a0 h1 a1 h2 a2 M0 M1 M2) → va_S A s.heap H locs → lv_has ls 7 [(0, .ref h0), (1, .ref h1), (2, .null), (3, .ref h2), (4, .int y4)] → wX6_goByRulesna_48 B3 Q y4 z0 M0 M1 M2 → W p l e (headSpec wsX6_goByRules rmX6_goByRulesna).room s m ([.ref h0, .ref h1, .null, .ref h2] : List Value).toArray below meth c H locs 0 0 (MQ below (va_Qv (fun (u : gS × gS × gS) => Q u.1 u.2.1 u.2.2) (q1B dC dI cB cI cJ cZ h0 a0 h1 a1 h2 a2 A) A) ([.ref h0, .ref h1, .null, .ref h2] : List Value).toArray s 0 0 A) (F0 m 48 ls [.int z0]) := by
    intro B3 hB3 y4 z0 M0 M1 M2 H locs ls hP hD hS hl h
    unfold wX6_goByRulesna_48 at h
    refine lv_istore (lv' := [(6, .int z0), (0, .ref h0), (1, .ref h1), (2, .null), (3, .ref h2), (4, .int y4)]) hx hb dX6_goByRules_48 hl (by decide) rfl (fun ls hl => ?_)
    refine lv_iload hx hb dX6_goByRules_50 (lv_at hl 0 rfl) ?_
    refine lv_iconst (v := (-1)) hx hb dX6_goByRules_52 (by decide) ?_
    refine lv_icmp_ne (tgt := 63) hx hb dX6_goByRules_53 (by decide) (fun c1 => ?_) (fun c1 => ?_)
    · have h := h.2 c1
      refine lv_iload hx hb dX6_goByRules_63 (lv_at hl 0 rfl) ?_
      refine lv_iconst (v := 4) hx hb dX6_goByRules_65 (by decide) ?_
      refine lv_icmp_ne (tgt := 77) hx hb dX6_goByRules_66 (by decide) (fun c2 => ?_) (fun c2 => ?_)
      · have h := h.2 c2
        refine lv_aload_n hx hb dX6_goByRules_77 rfl (lv_at hl 1 rfl) ?_
        refine lv_aload_n hx hb dX6_goByRules_78 rfl (lv_at hl 2 rfl) ?_
        refine lv_iload hx hb dX6_goByRules_79 (lv_at hl 0 rfl) ?_
        have hPc := hP.sub (ws' := (qcW cB cI cJ cZ h0 a0 h1 a1 M0 M1)) [0, 1, 2, 3, 4, 5, 6, 7] rfl
        have hDc := hD.sub (ws' := (qcW cB cI cJ cZ h0 a0 h1 a1 M0 M1)) [0, 1, 2, 3, 4, 5, 6, 7] (by decide) rfl
        have hFc := va_free (wc := (qcW cB cI cJ cZ h0 a0 h1 a1 M0 M1)) hD hS hA [0, 1, 2, 3, 4, 5, 6, 7] rfl
        refine va_callv (va_runV (As := [.ref h1, .int z0]) (rest := []) ⟨hx, hb, hml, hown, hts⟩ (kX6_say l dC dI cB cI cJ cZ h0 a0 h1 a1 H.size z0 M0 M1 _ h) (cwV 2 hts gX6_goByRules_X6_say rfl rfl rfl (by decide +kernel) ⟨Nat.le_of_ble_eq_true rfl, Nat.le_of_ble_eq_true rfl⟩) (qcpV hK hPc hDc) rfl rfl hl.1 rfl (lv_room (Nat.le_of_ble_eq_true rfl)) dX6_goByRules_81 ⟨Nat.le_of_ble_eq_true rfl, Nat.le_of_ble_eq_true rfl⟩) hS (fun q _ z => hFc q z) hFc (fun u t H1 locs ht hvm hw hB hz1 hk1 hS => ?_)
        obtain ⟨N4, N5⟩ := u
        obtain ⟨hP1, hK1, hD1⟩ := hB
        rw [ht] at hP1
        obtain ⟨hP, hD⟩ := va_join (wr := [(h2, .inr (8, [.int (mg M2 0), .ref (a2 1), .ref (a2 2), .ref (a2 3), .int (mg M2 4), .ref (a2 5)])), (a2 1, .inl (cI, 12, .inl (ma M2 1))), (a2 2, .inl (cI, 12, .inl (ma M2 2))), (a2 3, .inl (cI, 400, .inl (ma M2 3))), (a2 5, .inl (cJ, 60, .inr (.inl (ml M2 5))))]) (w1 := (qcW cB cI cJ cZ h0 a0 h1 a1 N4 N5)) hP hD [0, 1, 2, 3, 4, 5, 6, 7] [8, 9, 10, 11, 12] rfl rfl (by decide) (by decide) hk1 hFc hP1 hD1
        have hP := hP.sub (ws' := (q1W cB cI cJ cZ h0 a0 h1 a1 h2 a2 N4 N5 M2)) [5, 6, 7, 8, 9, 10, 11, 12, 0, 1, 2, 3, 4] rfl
        have hD := hD.sub (ws' := (q1W cB cI cJ cZ h0 a0 h1 a1 h2 a2 N4 N5 M2)) [5, 6, 7, 8, 9, 10, 11, 12, 0, 1, 2, 3, 4] (by decide) rfl
        generalize H1 = H at hP hS ⊢
        have h := hw
        try dsimp only at h
        exact b84 _ hB3 y4 N4 N5 M2 H locs ls hP hD hS (lv_sub hl [1, 2, 3, 4, 5] rfl) h
      · have h := h.1 c2
        refine lv_aload_n hx hb dX6_goByRules_69 rfl (lv_at hl 1 rfl) ?_
        refine lv_aload_n hx hb dX6_goByRules_70 rfl (lv_at hl 2 rfl) ?_
        have hPc := hP.sub (ws' := (qcW cB cI cJ cZ h0 a0 h1 a1 M0 M1)) [0, 1, 2, 3, 4, 5, 6, 7] rfl
        have hDc := hD.sub (ws' := (qcW cB cI cJ cZ h0 a0 h1 a1 M0 M1)) [0, 1, 2, 3, 4, 5, 6, 7] (by decide) rfl
        have hFc := va_free (wc := (qcW cB cI cJ cZ h0 a0 h1 a1 M0 M1)) hD hS hA [0, 1, 2, 3, 4, 5, 6, 7] rfl
        refine va_callv (va_runV (As := [.ref h1]) (rest := []) ⟨hx, hb, hml, hown, hts⟩ (kX6_throwPenny l dC dI cB cI cJ cZ h0 a0 h1 a1 H.size  M0 M1 _ h) (cwV 1 hts gX6_goByRules_X6_throwPenny rfl rfl rfl (by decide +kernel) ⟨Nat.le_of_ble_eq_true rfl, Nat.le_of_ble_eq_true rfl⟩) (qcpV hK hPc hDc) rfl rfl hl.1 rfl (lv_room (Nat.le_of_ble_eq_true rfl)) dX6_goByRules_71 ⟨Nat.le_of_ble_eq_true rfl, Nat.le_of_ble_eq_true rfl⟩) hS (fun q _ z => hFc q z) hFc (fun u t H1 locs ht hvm hw hB hz1 hk1 hS => ?_)
        obtain ⟨N7, N8⟩ := u
        obtain ⟨hP1, hK1, hD1⟩ := hB
        rw [ht] at hP1
        obtain ⟨hP, hD⟩ := va_join (wr := [(h2, .inr (8, [.int (mg M2 0), .ref (a2 1), .ref (a2 2), .ref (a2 3), .int (mg M2 4), .ref (a2 5)])), (a2 1, .inl (cI, 12, .inl (ma M2 1))), (a2 2, .inl (cI, 12, .inl (ma M2 2))), (a2 3, .inl (cI, 400, .inl (ma M2 3))), (a2 5, .inl (cJ, 60, .inr (.inl (ml M2 5))))]) (w1 := (qcW cB cI cJ cZ h0 a0 h1 a1 N7 N8)) hP hD [0, 1, 2, 3, 4, 5, 6, 7] [8, 9, 10, 11, 12] rfl rfl (by decide) (by decide) hk1 hFc hP1 hD1
        have hP := hP.sub (ws' := (q1W cB cI cJ cZ h0 a0 h1 a1 h2 a2 N7 N8 M2)) [5, 6, 7, 8, 9, 10, 11, 12, 0, 1, 2, 3, 4] rfl
        have hD := hD.sub (ws' := (q1W cB cI cJ cZ h0 a0 h1 a1 h2 a2 N7 N8 M2)) [5, 6, 7, 8, 9, 10, 11, 12, 0, 1, 2, 3, 4] (by decide) rfl
        generalize H1 = H at hP hS ⊢
        have h := hw
        try dsimp only at h
        refine lv_goto (tgt := 84) hx hb dX6_goByRules_74 (by decide) ?_
        exact b84 _ hB3 y4 N7 N8 M2 H locs ls hP hD hS (lv_sub hl [1, 2, 3, 4, 5] rfl) h
    · have h := h.1 c1
      refine lv_aload_n hx hb dX6_goByRules_56 rfl (lv_at hl 1 rfl) ?_
      have hPc := hP.sub (ws' := (qrW cB cI cJ cZ h0 a0 M0)) [0, 1, 2, 3] rfl
      have hDc := hD.sub (ws' := (qrW cB cI cJ cZ h0 a0 M0)) [0, 1, 2, 3] (by decide) rfl
      have hFc := va_free (wc := (qrW cB cI cJ cZ h0 a0 M0)) hD hS hA [0, 1, 2, 3] rfl
      refine va_callv (va_runV (As := []) (rest := []) ⟨hx, hb, hml, hown, hts⟩ (kX6_beStill l dC dI cB cI cJ cZ h0 a0 H.size  M0 _ h) (cwV 0 hts gX6_goByRules_X6_beStill rfl rfl rfl (by decide +kernel) ⟨Nat.le_of_ble_eq_true rfl, Nat.le_of_ble_eq_true rfl⟩) (qrpV hK hPc hDc) rfl rfl hl.1 rfl (lv_room (Nat.le_of_ble_eq_true rfl)) dX6_goByRules_57 ⟨Nat.le_of_ble_eq_true rfl, Nat.le_of_ble_eq_true rfl⟩) hS (fun q _ z => hFc q z) hFc (fun u t H1 locs ht hvm hw hB hz1 hk1 hS => ?_)
      obtain ⟨N10, rfl⟩ : ∃ z, z = u := ⟨_, rfl⟩
      obtain ⟨hP1, hK1, hD1⟩ := hB
      rw [ht] at hP1
      obtain ⟨hP, hD⟩ := va_join (wr := [(h1, .inr (1, [.int (mg M1 0), .ref (a1 1), .int (mg M1 2), .ref (a1 3), .int (mg M1 4), .ref (a1 5)])), (a1 1, .inl (cI, 4, .inl (ma M1 1))), (a1 3, .inl (cI, 4, .inl (ma M1 3))), (a1 5, .inl (cI, 2, .inl (ma M1 5))), (h2, .inr (8, [.int (mg M2 0), .ref (a2 1), .ref (a2 2), .ref (a2 3), .int (mg M2 4), .ref (a2 5)])), (a2 1, .inl (cI, 12, .inl (ma M2 1))), (a2 2, .inl (cI, 12, .inl (ma M2 2))), (a2 3, .inl (cI, 400, .inl (ma M2 3))), (a2 5, .inl (cJ, 60, .inr (.inl (ml M2 5))))]) (w1 := (qrW cB cI cJ cZ h0 a0 N10)) hP hD [0, 1, 2, 3] [4, 5, 6, 7, 8, 9, 10, 11, 12] rfl rfl (by decide) (by decide) hk1 hFc hP1 hD1
      have hP := hP.sub (ws' := (q1W cB cI cJ cZ h0 a0 h1 a1 h2 a2 N10 M1 M2)) [9, 10, 11, 12, 0, 1, 2, 3, 4, 5, 6, 7, 8] rfl
      have hD := hD.sub (ws' := (q1W cB cI cJ cZ h0 a0 h1 a1 h2 a2 N10 M1 M2)) [9, 10, 11, 12, 0, 1, 2, 3, 4, 5, 6, 7, 8] (by decide) rfl
      generalize H1 = H at hP hS ⊢
      have h := hw
      try dsimp only at h
      refine lv_goto (tgt := 84) hx hb dX6_goByRules_60 (by decide) ?_
      exact b84 _ hB3 y4 N10 M1 M2 H locs ls hP hD hS (lv_sub hl [1, 2, 3, 4, 5] rfl) h
  have b3 : ∀ (n : Nat) (y4 : Int32) (M0 : gS) (M1 : gS) (M2 : gS) (H : Heap) (locs : List Loc) (ls : Array Slot), va_P (dC, dI) vwCl (q1W cB cI cJ cZ h0 a0 h1 a1 h2 a2 M0 M1 M2) H → va_D A (q1W cB cI cJ cZ h0 a0 h1 a1 h2 a2 M0 M1 M2) → va_S A s.heap H locs → lv_has ls 7 [(0, .ref h0), (1, .ref h1), (2, .null), (3, .ref h2), (4, .int y4)] → wX6_goByRulesna_3  Q n y4 M0 M1 M2 → W p l e (headSpec wsX6_goByRules rmX6_goByRulesna).room s m ([.ref h0, .ref h1, .null, .ref h2] : List Value).toArray below meth c H locs 0 0 (MQ below (va_Qv (fun (u : gS × gS × gS) => Q u.1 u.2.1 u.2.2) (q1B dC dI cB cI cJ cZ h0 a0 h1 a1 h2 a2 A) A) ([.ref h0, .ref h1, .null, .ref h2] : List Value).toArray s 0 0 A) (F0 m 3 ls []) := by
    intro  n
    induction n with
    | zero => intro y4 M0 M1 M2 H locs ls hP hD hS hl h; exact absurd h (by simp [wX6_goByRulesna_3])
    | succ n hB30 =>
      intro y4 M0 M1 M2 H locs ls hP hD hS hl h
      have hB3 := hB30
      rw [wX6_goByRulesna_3] at h
      refine lv_iload hx hb dX6_goByRules_3 (lv_at hl 4 rfl) ?_
      refine lv_sipush (v := (10000)) hx hb dX6_goByRules_5 (by decide) ?_
      refine lv_icmp_ge (tgt := 90) hx hb dX6_goByRules_8 (by decide) (fun c1 => ?_) (fun c1 => ?_)
      · have h := h.1 c1
        exact W.vret hx hb hr (fun t ht hW => ⟨⟨(M0, M1, M2), rfl, h, by rw [ht]; exact hP, va_K.moved hW.alike hK, hD⟩, hS.F ht⟩) hS.2.2 dX6_goByRules_90
      · have h := h.2 c1
        refine lv_aload_n hx hb dX6_goByRules_11 rfl (lv_at hl 0 rfl) ?_
        refine va_get (D := (dC, dI)) (ci := 6) (v := .int (mg M0 0)) (C := RX6) (T := TX6) (N := 10) hx hb hts hinX6 hown hK hP 0 rfl rfl 0 (by decide) f1 (fun _ h9 => h9) rfl dX6_goByRules_12 ?_
        refine lv_if_eq (tgt := 90) hx hb dX6_goByRules_15 (by decide) (fun c2 => ?_) (fun c2 => ?_)
        · have h := h.1 c2
          exact W.vret hx hb hr (fun t ht hW => ⟨⟨(M0, M1, M2), rfl, h, by rw [ht]; exact hP, va_K.moved hW.alike hK, hD⟩, hS.F ht⟩) hS.2.2 dX6_goByRules_90
        · have h := h.2 c2
          refine lv_aload_n hx hb dX6_goByRules_18 rfl (lv_at hl 0 rfl) ?_
          refine va_get (D := (dC, dI)) (ci := 6) (v := .int (mg M0 3)) (C := RX6) (T := TX6) (N := 10) hx hb hts hinX6 hown hK hP 0 rfl rfl 3 (by decide) f2 (fun _ h9 => h9) rfl dX6_goByRules_19 ?_
          refine lv_if_ne (tgt := 29) hx hb dX6_goByRules_22 (by decide) (fun c3 => ?_) (fun c3 => ?_)
          · have h := h.2 c3
            refine lv_aload_n hx hb dX6_goByRules_29 rfl (lv_at hl 3 rfl) ?_
            refine lv_astore (lv' := [(5, .ref h2), (0, .ref h0), (1, .ref h1), (2, .null), (3, .ref h2), (4, .int y4)]) hx hb dX6_goByRules_30 hl (by decide) rfl (fun ls hl => ?_)
            refine lv_aload hx hb dX6_goByRules_32 (lv_at hl 0 rfl) ?_
            refine lv_ifnonnull (tgt := 41) hx hb dX6_goByRules_34 (by decide) ?_
            refine lv_aload hx hb dX6_goByRules_41 (lv_at hl 0 rfl) ?_
            refine lv_aload_n hx hb dX6_goByRules_43 rfl (lv_at hl 2 rfl) ?_
            refine lv_aload_n hx hb dX6_goByRules_44 rfl (lv_at hl 1 rfl) ?_
            have hPc := hP.sub (ws' := (rcW cB cI cJ cZ h2 a2 h1 a1 h0 a0 M2 M1 M0)) [8, 9, 10, 11, 12, 4, 5, 6, 7, 0, 1, 2, 3] rfl
            have hDc := hD.sub (ws' := (rcW cB cI cJ cZ h2 a2 h1 a1 h0 a0 M2 M1 M0)) [8, 9, 10, 11, 12, 4, 5, 6, 7, 0, 1, 2, 3] (by decide) rfl
            have hFc := va_free (wc := (rcW cB cI cJ cZ h2 a2 h1 a1 h0 a0 M2 M1 M0)) hD hS hA [8, 9, 10, 11, 12, 4, 5, 6, 7, 0, 1, 2, 3] rfl
            refine va_calli (va_runV (As := [.ref h1, .ref h0]) (rest := []) ⟨hx, hb, hml, hown, hts⟩ (kX8_choose l dC dI cB cI cJ cZ h2 a2 h1 a1 h0 a0 H.size  M2 M1 M0 _ h) (cwV 2 hts gX6_goByRules_X8_choose rfl rfl rfl (by decide +kernel) ⟨Nat.le_of_ble_eq_true rfl, Nat.le_of_ble_eq_true rfl⟩) (rcpV hK hPc hDc) rfl rfl hl.1 rfl (lv_room (Nat.le_of_ble_eq_true rfl)) dX6_goByRules_45 ⟨Nat.le_of_ble_eq_true rfl, Nat.le_of_ble_eq_true rfl⟩) hS (fun q _ z => hFc q z) hFc (fun r4 u t H1 locs ht hvm hw hB hz1 hk1 hS => ?_)
            obtain ⟨N5, N6, N7⟩ := u
            obtain ⟨hP1, hK1, hD1⟩ := hB
            rw [ht] at hP1
            obtain ⟨hP, hD⟩ := va_join (wr := []) (w1 := (rcW cB cI cJ cZ h2 a2 h1 a1 h0 a0 N5 N6 N7)) hP hD [8, 9, 10, 11, 12, 4, 5, 6, 7, 0, 1, 2, 3] [] rfl rfl (by decide) (by decide) hk1 hFc hP1 hD1
            have hP := hP.sub (ws' := (q1W cB cI cJ cZ h0 a0 h1 a1 h2 a2 N7 N6 N5)) [9, 10, 11, 12, 5, 6, 7, 8, 0, 1, 2, 3, 4] rfl
            have hD := hD.sub (ws' := (q1W cB cI cJ cZ h0 a0 h1 a1 h2 a2 N7 N6 N5)) [9, 10, 11, 12, 5, 6, 7, 8, 0, 1, 2, 3, 4] (by decide) rfl
            generalize H1 = H at hP hS ⊢
            have h := hw
            try dsimp only at h
            exact b48 _ hB3 y4 r4 N7 N6 N5 H locs ls hP hD hS (lv_sub hl [1, 2, 3, 4, 5] rfl) h
          · have h := h.1 c3
            refine lv_aload_nN hx hb dX6_goByRules_25 rfl (lv_at hl 2 rfl) ?_
            refine lv_goto (tgt := 30) hx hb dX6_goByRules_26 (by decide) ?_
            refine lv_astoreN (lv' := [(5, .null), (0, .ref h0), (1, .ref h1), (2, .null), (3, .ref h2), (4, .int y4)]) hx hb dX6_goByRules_30 hl (by decide) rfl (fun ls hl => ?_)
            refine lv_aloadN hx hb dX6_goByRules_32 (lv_at hl 0 rfl) ?_
            refine lv_ifnonnullN hx hb dX6_goByRules_34 ?_
            refine lv_iconst (v := (-1)) hx hb dX6_goByRules_37 (by decide) ?_
            refine lv_goto (tgt := 48) hx hb dX6_goByRules_38 (by decide) ?_
            exact b48 _ hB3 y4 (-1 : Int32) M0 M1 M2 H locs ls hP hD hS (lv_sub hl [1, 2, 3, 4, 5] rfl) h
  have bE : ∀ (M0 : gS) (M1 : gS) (M2 : gS) (H : Heap) (locs : List Loc) (ls : Array Slot), va_P (dC, dI) vwCl (q1W cB cI cJ cZ h0 a0 h1 a1 h2 a2 M0 M1 M2) H → va_D A (q1W cB cI cJ cZ h0 a0 h1 a1 h2 a2 M0 M1 M2) → va_S A s.heap H locs → lv_has ls 7 [(0, .ref h0), (1, .ref h1), (2, .null), (3, .ref h2)] → wX6_goByRulesna  M0 M1 M2 Q → W p l e (headSpec wsX6_goByRules rmX6_goByRulesna).room s m ([.ref h0, .ref h1, .null, .ref h2] : List Value).toArray below meth c H locs 0 0 (MQ below (va_Qv (fun (u : gS × gS × gS) => Q u.1 u.2.1 u.2.2) (q1B dC dI cB cI cJ cZ h0 a0 h1 a1 h2 a2 A) A) ([.ref h0, .ref h1, .null, .ref h2] : List Value).toArray s 0 0 A) (F0 m 0 ls []) := by
    intro M0 M1 M2 H locs ls hP hD hS hl h
    unfold wX6_goByRulesna at h
    refine lv_iconst (v := 0) hx hb dX6_goByRules_0 (by decide) ?_
    refine lv_istore (lv' := [(4, .int (0 : Int32)), (0, .ref h0), (1, .ref h1), (2, .null), (3, .ref h2)]) hx hb dX6_goByRules_1 hl (by decide) rfl (fun ls hl => ?_)
    obtain ⟨n9, h⟩ := h
    exact b3  n9 (0 : Int32) M0 M1 M2 H locs ls hP hD hS (lv_sub hl [1, 2, 3, 4, 0] rfl) h
  have hl := lv_entry ([.ref h0, .ref h1, .null, .ref h2]) (n := 7) (Nat.le_of_ble_eq_true rfl)
  rw [lg_entry_eq]
  generalize (lg_sl ([.ref h0, .ref h1, .null, .ref h2]) ++ List.replicate (7 - (lg_sl ([.ref h0, .ref h1, .null, .ref h2])).length) Slot.unset).toArray = ls at hl ⊢
  have hl : lv_has ls 7 [(0, .ref h0), (1, .ref h1), (2, .null), (3, .ref h2)] := hl
  exact bE M0 M1 M2 s.heap [] ls hP hD hS hl h
def wX6_goByRulesaa_84 (B3 : Int32 → gS → gS → gS → Prop) (Q : gS → gS → gS → Prop) (y4 : Int32) (M0 : gS) (M1 : gS) (M2 : gS) : Prop :=
 (∀ x1 : Int32, x1 = y4 + (1 : Int32) → (B3 x1 M0 M1 M2))
def wX6_goByRulesaa_48 (B3 : Int32 → gS → gS → gS → Prop) (Q : gS → gS → gS → Prop) (y4 : Int32) (z0 : Int32) (M0 : gS) (M1 : gS) (M2 : gS) : Prop :=
 ((z0 = (-1 : Int32) → (wX6_beStill  M0 (fun (N10 : gS) => (wX6_goByRulesaa_84 B3 Q y4 N10 M1 M2))))
 ∧ (¬ z0 = (-1 : Int32) → ((z0 = (4 : Int32) → (wX6_throwPenny  M0 M1 (fun (N7 : gS) (N8 : gS) => (wX6_goByRulesaa_84 B3 Q y4 N7 N8 M2))))
 ∧ (¬ z0 = (4 : Int32) → (wX6_say z0 M0 M1 (fun (N4 : gS) (N5 : gS) => (wX6_goByRulesaa_84 B3 Q y4 N4 N5 M2)))))))
def wX6_goByRulesaa_3  (Q : gS → gS → gS → Prop) : Nat → Int32 → gS → gS → gS → Prop
 | 0, _, _, _, _ => False
 | n + 1, y4, M0, M1, M2 => (((10000 : Int32) ≤ y4 → (Q M0 M1 M2))
 ∧ (¬ (10000 : Int32) ≤ y4 → (((mg M0 0) = 0 → (Q M0 M1 M2))
 ∧ (¬ (mg M0 0) = 0 → (((mg M0 3) = 0 → (wX8_choose  M2 M1 M0 (fun (r8 : Int32) (N9 : gS) (N10 : gS) (N11 : gS) => (wX6_goByRulesaa_48 (fun (y4 : Int32) (M0 : gS) (M1 : gS) (M2 : gS) => wX6_goByRulesaa_3  Q n y4 M0 M1 M2) Q y4 r8 N11 N10 N9))))
 ∧ (¬ (mg M0 3) = 0 → (wX8_choose  M2 M1 M0 (fun (r4 : Int32) (N5 : gS) (N6 : gS) (N7 : gS) => (wX6_goByRulesaa_48 (fun (y4 : Int32) (M0 : gS) (M1 : gS) (M2 : gS) => wX6_goByRulesaa_3  Q n y4 M0 M1 M2) Q y4 r4 N7 N6 N5)))))))))
def wX6_goByRulesaa  (M0 : gS) (M1 : gS) (M2 : gS) (Q : gS → gS → gS → Prop) : Prop :=
 (∃ k3 : Nat, wX6_goByRulesaa_3  Q k3 (0 : Int32) M0 M1 M2)
def rmX6_goByRulesaa : Room := { frames := 4, cells := 0, slots := 0, locals := 98 }
set_option maxHeartbeats 4000000 in
set_option maxRecDepth 100000 in
theorem kX6_goByRulesaa (l : Launch) (dC : Nat → ClassId) (dI : Nat → Nat → Nat) (cB cI cJ cZ : ClassId) (h0 : Nat) (a0 : Nat → Nat) (h1 : Nat) (a1 : Nat → Nat) (h2 : Nat) (a2 : Nat → Nat) (sz : Nat)  (M0 : gS) (M1 : gS) (M2 : gS) (Q : gS → gS → gS → Prop) (h : wX6_goByRulesaa  M0 M1 M2 Q) : Met l yX6_goByRules wsX6_goByRules rmX6_goByRulesaa (va_Pc [.ref h0, .ref h1, .ref h2, .ref h2] (q1I dC dI cB cI cJ cZ h0 a0 h1 a1 h2 a2 M0 M1 M2 sz)) (va_Qv (fun (u : gS × gS × gS) => Q u.1 u.2.1 u.2.2) (q1B dC dI cB cI cJ cZ h0 a0 h1 a1 h2 a2 (va_A (q1W cB cI cJ cZ h0 a0 h1 a1 h2 a2 M0 M1 M2) sz)) (va_A (q1W cB cI cJ cZ h0 a0 h1 a1 h2 a2 M0 M1 M2) sz)) 0 0 (va_A (q1W cB cI cJ cZ h0 a0 h1 a1 h2 a2 M0 M1 M2) sz) := by
  refine Met.ofW (cc := cX6_goByRules) (maxL := 7) (ret := none) (by decide) rfl ?_
  intro p e s m args below meth c s₁ B hml hv
  obtain ⟨rfl, hsz, hP, hK, hD0⟩ := hv
  have hx := B.exec
  have hb := B.bytes
  have hr := B.returns
  have hts := atoms_spec (ws := wsX6_goByRules) B.pre
  have hown : s.vm.findClass RX6 = some m.cls := findClass_of_methodNamed B.named
  have hlocks := B.notSynchronized
  subst hsz
  have hD := hD0.self (sz := s.heap.size)
  generalize hAe : va_A (q1W cB cI cJ cZ h0 a0 h1 a1 h2 a2 M0 M1 M2) s.heap.size = A at hD ⊢
  have hA : ∀ q : Nat, s.heap.size ≤ q → A q := fun q h => by rw [← hAe]; exact Or.inr h
  have hS : va_S A s.heap s.heap [] := va_S.rf
  have hinX6 : ∀ w ∈ wsX60, w ∈ wsX6_goByRules := by decide +kernel
  have f1 := hts (.fieldLink RX6 28 "LastWords$Quarrel" "goesOn" "Z") (by decide +kernel)
  have f2 := hts (.fieldLink RX6 35 "LastWords$Quarrel" "turn" "I") (by decide +kernel)
  have b84 : ∀ (B3 : Int32 → gS → gS → gS → Prop) (hB3 : ∀ (y4 : Int32) (M0 : gS) (M1 : gS) (M2 : gS) (H : Heap) (locs : List Loc) (ls : Array Slot), va_P (dC, dI) vwCl (q1W cB cI cJ cZ h0 a0 h1 a1 h2 a2 M0 M1 M2) H → va_D A (q1W cB cI cJ cZ h0 a0 h1 a1 h2 a2 M0 M1 M2) → va_S A s.heap H locs → lv_has ls 7 [(0, .ref h0), (1, .ref h1), (2, .ref h2), (3, .ref h2), (4, .int y4)] → B3 y4 M0 M1 M2 → W p l e (headSpec wsX6_goByRules rmX6_goByRulesaa).room s m ([.ref h0, .ref h1, .ref h2, .ref h2] : List Value).toArray below meth c H locs 0 0 (MQ below (va_Qv (fun (u : gS × gS × gS) => Q u.1 u.2.1 u.2.2) (q1B dC dI cB cI cJ cZ h0 a0 h1 a1 h2 a2 A) A) ([.ref h0, .ref h1, .ref h2, .ref h2] : List Value).toArray s 0 0 A) (F0 m 3 ls [])) (y4 : Int32) (M0 : gS) (M1 : gS) (M2 : gS) (H : Heap) (locs : List Loc) (ls : Array Slot), va_P (dC, dI) vwCl (q1W cB cI cJ cZ h0 a0 h1 a1 h2 a2 M0 M1 M2) H → va_D A (q1W cB cI cJ cZ h0 a0 h1 a1 h2 a2 M0 M1 M2) → va_S A s.heap H locs → lv_has ls 7 [(0, .ref h0), (1, .ref h1), (2, .ref h2), (3, .ref h2), (4, .int y4)] → wX6_goByRulesaa_84 B3 Q y4 M0 M1 M2 → W p l e (headSpec wsX6_goByRules rmX6_goByRulesaa).room s m ([.ref h0, .ref h1, .ref h2, .ref h2] : List Value).toArray below meth c H locs 0 0 (MQ below (va_Qv (fun (u : gS × gS × gS) => Q u.1 u.2.1 u.2.2) (q1B dC dI cB cI cJ cZ h0 a0 h1 a1 h2 a2 A) A) ([.ref h0, .ref h1, .ref h2, .ref h2] : List Value).toArray s 0 0 A) (F0 m 84 ls []) := by
    intro B3 hB3 y4 M0 M1 M2 H locs ls hP hD hS hl h
    unfold wX6_goByRulesaa_84 at h
    obtain ⟨x1, ex1⟩ : ∃ y : Int32, y = y4 + (1 : Int32) := ⟨_, rfl⟩
    have h := h x1 ex1
    refine lv_iinc (v := x1) (lv' := [(4, .int x1), (0, .ref h0), (1, .ref h1), (2, .ref h2), (3, .ref h2)]) hx hb dX6_goByRules_84 hl (k := 4) rfl (by rw [ex1]; rfl) (by decide) rfl (fun ls hl => ?_)
    refine lv_goto (tgt := 3) hx hb dX6_goByRules_87 (by decide) ?_
    exact hB3 x1 M0 M1 M2 H locs ls hP hD hS (lv_sub hl [1, 2, 3, 4, 0] rfl) h
  have b48 : ∀ (B3 : Int32 → gS → gS → gS → Prop) (hB3 : ∀ (y4 : Int32) (M0 : gS) (M1 : gS) (M2 : gS) (H : Heap) (locs : List Loc) (ls : Array Slot), va_P (dC, dI) vwCl (q1W cB cI cJ cZ h0 a0 h1 a1 h2 a2 M0 M1 M2) H → va_D A (q1W cB cI cJ cZ h0 a0 h1 a1 h2 a2 M0 M1 M2) → va_S A s.heap H locs → lv_has ls 7 [(0, .ref h0), (1, .ref h1), (2, .ref h2), (3, .ref h2), (4, .int y4)] → B3 y4 M0 M1 M2 → W p l e (headSpec wsX6_goByRules rmX6_goByRulesaa).room s m ([.ref h0, .ref h1, .ref h2, .ref h2] : List Value).toArray below meth c H locs 0 0 (MQ below (va_Qv (fun (u : gS × gS × gS) => Q u.1 u.2.1 u.2.2) (q1B dC dI cB cI cJ cZ h0 a0 h1 a1 h2 a2 A) A) ([.ref h0, .ref h1, .ref h2, .ref h2] : List Value).toArray s 0 0 A) (F0 m 3 ls [])) (y4 : Int32) (z0 : Int32) (M0 : gS) (M1 : gS) (M2 : gS) (H : Heap) (locs : List Loc) (ls : Array Slot), va_P (dC, dI) vwCl (q1W cB cI cJ cZ h0 a0 h1 a1 h2 a2 M0 M1 M2) H → va_D A (q1W cB cI cJ cZ h0 a0 h1 a1 h2 a2 M0 M1 M2) → va_S A s.heap H locs → lv_has ls 7 [(0, .ref h0), (1, .ref h1), (2, .ref h2), (3, .ref h2), (4, .int y4)] → wX6_goByRulesaa_48 B3 Q y4 z0 M0 M1 M2 → W p l e (headSpec wsX6_goByRules rmX6_goByRulesaa).room s m ([.ref h0, .ref h1, .ref h2, .ref h2] : List Value).toArray below meth c H locs 0 0 (MQ below (va_Qv (fun (u : gS × gS × gS) => Q u.1 u.2.1 u.2.2) (q1B dC dI cB cI cJ cZ h0 a0 h1 a1 h2 a2 A) A) ([.ref h0, .ref h1, .ref h2, .ref h2] : List Value).toArray s 0 0 A) (F0 m 48 ls [.int z0]) := by
    intro B3 hB3 y4 z0 M0 M1 M2 H locs ls hP hD hS hl h
    unfold wX6_goByRulesaa_48 at h
    refine lv_istore (lv' := [(6, .int z0), (0, .ref h0), (1, .ref h1), (2, .ref h2), (3, .ref h2), (4, .int y4)]) hx hb dX6_goByRules_48 hl (by decide) rfl (fun ls hl => ?_)
    refine lv_iload hx hb dX6_goByRules_50 (lv_at hl 0 rfl) ?_
    refine lv_iconst (v := (-1)) hx hb dX6_goByRules_52 (by decide) ?_
    refine lv_icmp_ne (tgt := 63) hx hb dX6_goByRules_53 (by decide) (fun c1 => ?_) (fun c1 => ?_)
    · have h := h.2 c1
      refine lv_iload hx hb dX6_goByRules_63 (lv_at hl 0 rfl) ?_
      refine lv_iconst (v := 4) hx hb dX6_goByRules_65 (by decide) ?_
      refine lv_icmp_ne (tgt := 77) hx hb dX6_goByRules_66 (by decide) (fun c2 => ?_) (fun c2 => ?_)
      · have h := h.2 c2
        refine lv_aload_n hx hb dX6_goByRules_77 rfl (lv_at hl 1 rfl) ?_
        refine lv_aload_n hx hb dX6_goByRules_78 rfl (lv_at hl 2 rfl) ?_
        refine lv_iload hx hb dX6_goByRules_79 (lv_at hl 0 rfl) ?_
        have hPc := hP.sub (ws' := (qcW cB cI cJ cZ h0 a0 h1 a1 M0 M1)) [0, 1, 2, 3, 4, 5, 6, 7] rfl
        have hDc := hD.sub (ws' := (qcW cB cI cJ cZ h0 a0 h1 a1 M0 M1)) [0, 1, 2, 3, 4, 5, 6, 7] (by decide) rfl
        have hFc := va_free (wc := (qcW cB cI cJ cZ h0 a0 h1 a1 M0 M1)) hD hS hA [0, 1, 2, 3, 4, 5, 6, 7] rfl
        refine va_callv (va_runV (As := [.ref h1, .int z0]) (rest := []) ⟨hx, hb, hml, hown, hts⟩ (kX6_say l dC dI cB cI cJ cZ h0 a0 h1 a1 H.size z0 M0 M1 _ h) (cwV 2 hts gX6_goByRules_X6_say rfl rfl rfl (by decide +kernel) ⟨Nat.le_of_ble_eq_true rfl, Nat.le_of_ble_eq_true rfl⟩) (qcpV hK hPc hDc) rfl rfl hl.1 rfl (lv_room (Nat.le_of_ble_eq_true rfl)) dX6_goByRules_81 ⟨Nat.le_of_ble_eq_true rfl, Nat.le_of_ble_eq_true rfl⟩) hS (fun q _ z => hFc q z) hFc (fun u t H1 locs ht hvm hw hB hz1 hk1 hS => ?_)
        obtain ⟨N4, N5⟩ := u
        obtain ⟨hP1, hK1, hD1⟩ := hB
        rw [ht] at hP1
        obtain ⟨hP, hD⟩ := va_join (wr := [(h2, .inr (8, [.int (mg M2 0), .ref (a2 1), .ref (a2 2), .ref (a2 3), .int (mg M2 4), .ref (a2 5)])), (a2 1, .inl (cI, 12, .inl (ma M2 1))), (a2 2, .inl (cI, 12, .inl (ma M2 2))), (a2 3, .inl (cI, 400, .inl (ma M2 3))), (a2 5, .inl (cJ, 60, .inr (.inl (ml M2 5))))]) (w1 := (qcW cB cI cJ cZ h0 a0 h1 a1 N4 N5)) hP hD [0, 1, 2, 3, 4, 5, 6, 7] [8, 9, 10, 11, 12] rfl rfl (by decide) (by decide) hk1 hFc hP1 hD1
        have hP := hP.sub (ws' := (q1W cB cI cJ cZ h0 a0 h1 a1 h2 a2 N4 N5 M2)) [5, 6, 7, 8, 9, 10, 11, 12, 0, 1, 2, 3, 4] rfl
        have hD := hD.sub (ws' := (q1W cB cI cJ cZ h0 a0 h1 a1 h2 a2 N4 N5 M2)) [5, 6, 7, 8, 9, 10, 11, 12, 0, 1, 2, 3, 4] (by decide) rfl
        generalize H1 = H at hP hS ⊢
        have h := hw
        try dsimp only at h
        exact b84 _ hB3 y4 N4 N5 M2 H locs ls hP hD hS (lv_sub hl [1, 2, 3, 4, 5] rfl) h
      · have h := h.1 c2
        refine lv_aload_n hx hb dX6_goByRules_69 rfl (lv_at hl 1 rfl) ?_
        refine lv_aload_n hx hb dX6_goByRules_70 rfl (lv_at hl 2 rfl) ?_
        have hPc := hP.sub (ws' := (qcW cB cI cJ cZ h0 a0 h1 a1 M0 M1)) [0, 1, 2, 3, 4, 5, 6, 7] rfl
        have hDc := hD.sub (ws' := (qcW cB cI cJ cZ h0 a0 h1 a1 M0 M1)) [0, 1, 2, 3, 4, 5, 6, 7] (by decide) rfl
        have hFc := va_free (wc := (qcW cB cI cJ cZ h0 a0 h1 a1 M0 M1)) hD hS hA [0, 1, 2, 3, 4, 5, 6, 7] rfl
        refine va_callv (va_runV (As := [.ref h1]) (rest := []) ⟨hx, hb, hml, hown, hts⟩ (kX6_throwPenny l dC dI cB cI cJ cZ h0 a0 h1 a1 H.size  M0 M1 _ h) (cwV 1 hts gX6_goByRules_X6_throwPenny rfl rfl rfl (by decide +kernel) ⟨Nat.le_of_ble_eq_true rfl, Nat.le_of_ble_eq_true rfl⟩) (qcpV hK hPc hDc) rfl rfl hl.1 rfl (lv_room (Nat.le_of_ble_eq_true rfl)) dX6_goByRules_71 ⟨Nat.le_of_ble_eq_true rfl, Nat.le_of_ble_eq_true rfl⟩) hS (fun q _ z => hFc q z) hFc (fun u t H1 locs ht hvm hw hB hz1 hk1 hS => ?_)
        obtain ⟨N7, N8⟩ := u
        obtain ⟨hP1, hK1, hD1⟩ := hB
        rw [ht] at hP1
        obtain ⟨hP, hD⟩ := va_join (wr := [(h2, .inr (8, [.int (mg M2 0), .ref (a2 1), .ref (a2 2), .ref (a2 3), .int (mg M2 4), .ref (a2 5)])), (a2 1, .inl (cI, 12, .inl (ma M2 1))), (a2 2, .inl (cI, 12, .inl (ma M2 2))), (a2 3, .inl (cI, 400, .inl (ma M2 3))), (a2 5, .inl (cJ, 60, .inr (.inl (ml M2 5))))]) (w1 := (qcW cB cI cJ cZ h0 a0 h1 a1 N7 N8)) hP hD [0, 1, 2, 3, 4, 5, 6, 7] [8, 9, 10, 11, 12] rfl rfl (by decide) (by decide) hk1 hFc hP1 hD1
        have hP := hP.sub (ws' := (q1W cB cI cJ cZ h0 a0 h1 a1 h2 a2 N7 N8 M2)) [5, 6, 7, 8, 9, 10, 11, 12, 0, 1, 2, 3, 4] rfl
        have hD := hD.sub (ws' := (q1W cB cI cJ cZ h0 a0 h1 a1 h2 a2 N7 N8 M2)) [5, 6, 7, 8, 9, 10, 11, 12, 0, 1, 2, 3, 4] (by decide) rfl
        generalize H1 = H at hP hS ⊢
        have h := hw
        try dsimp only at h
        refine lv_goto (tgt := 84) hx hb dX6_goByRules_74 (by decide) ?_
        exact b84 _ hB3 y4 N7 N8 M2 H locs ls hP hD hS (lv_sub hl [1, 2, 3, 4, 5] rfl) h
    · have h := h.1 c1
      refine lv_aload_n hx hb dX6_goByRules_56 rfl (lv_at hl 1 rfl) ?_
      have hPc := hP.sub (ws' := (qrW cB cI cJ cZ h0 a0 M0)) [0, 1, 2, 3] rfl
      have hDc := hD.sub (ws' := (qrW cB cI cJ cZ h0 a0 M0)) [0, 1, 2, 3] (by decide) rfl
      have hFc := va_free (wc := (qrW cB cI cJ cZ h0 a0 M0)) hD hS hA [0, 1, 2, 3] rfl
      refine va_callv (va_runV (As := []) (rest := []) ⟨hx, hb, hml, hown, hts⟩ (kX6_beStill l dC dI cB cI cJ cZ h0 a0 H.size  M0 _ h) (cwV 0 hts gX6_goByRules_X6_beStill rfl rfl rfl (by decide +kernel) ⟨Nat.le_of_ble_eq_true rfl, Nat.le_of_ble_eq_true rfl⟩) (qrpV hK hPc hDc) rfl rfl hl.1 rfl (lv_room (Nat.le_of_ble_eq_true rfl)) dX6_goByRules_57 ⟨Nat.le_of_ble_eq_true rfl, Nat.le_of_ble_eq_true rfl⟩) hS (fun q _ z => hFc q z) hFc (fun u t H1 locs ht hvm hw hB hz1 hk1 hS => ?_)
      obtain ⟨N10, rfl⟩ : ∃ z, z = u := ⟨_, rfl⟩
      obtain ⟨hP1, hK1, hD1⟩ := hB
      rw [ht] at hP1
      obtain ⟨hP, hD⟩ := va_join (wr := [(h1, .inr (1, [.int (mg M1 0), .ref (a1 1), .int (mg M1 2), .ref (a1 3), .int (mg M1 4), .ref (a1 5)])), (a1 1, .inl (cI, 4, .inl (ma M1 1))), (a1 3, .inl (cI, 4, .inl (ma M1 3))), (a1 5, .inl (cI, 2, .inl (ma M1 5))), (h2, .inr (8, [.int (mg M2 0), .ref (a2 1), .ref (a2 2), .ref (a2 3), .int (mg M2 4), .ref (a2 5)])), (a2 1, .inl (cI, 12, .inl (ma M2 1))), (a2 2, .inl (cI, 12, .inl (ma M2 2))), (a2 3, .inl (cI, 400, .inl (ma M2 3))), (a2 5, .inl (cJ, 60, .inr (.inl (ml M2 5))))]) (w1 := (qrW cB cI cJ cZ h0 a0 N10)) hP hD [0, 1, 2, 3] [4, 5, 6, 7, 8, 9, 10, 11, 12] rfl rfl (by decide) (by decide) hk1 hFc hP1 hD1
      have hP := hP.sub (ws' := (q1W cB cI cJ cZ h0 a0 h1 a1 h2 a2 N10 M1 M2)) [9, 10, 11, 12, 0, 1, 2, 3, 4, 5, 6, 7, 8] rfl
      have hD := hD.sub (ws' := (q1W cB cI cJ cZ h0 a0 h1 a1 h2 a2 N10 M1 M2)) [9, 10, 11, 12, 0, 1, 2, 3, 4, 5, 6, 7, 8] (by decide) rfl
      generalize H1 = H at hP hS ⊢
      have h := hw
      try dsimp only at h
      refine lv_goto (tgt := 84) hx hb dX6_goByRules_60 (by decide) ?_
      exact b84 _ hB3 y4 N10 M1 M2 H locs ls hP hD hS (lv_sub hl [1, 2, 3, 4, 5] rfl) h
  have b3 : ∀ (n : Nat) (y4 : Int32) (M0 : gS) (M1 : gS) (M2 : gS) (H : Heap) (locs : List Loc) (ls : Array Slot), va_P (dC, dI) vwCl (q1W cB cI cJ cZ h0 a0 h1 a1 h2 a2 M0 M1 M2) H → va_D A (q1W cB cI cJ cZ h0 a0 h1 a1 h2 a2 M0 M1 M2) → va_S A s.heap H locs → lv_has ls 7 [(0, .ref h0), (1, .ref h1), (2, .ref h2), (3, .ref h2), (4, .int y4)] → wX6_goByRulesaa_3  Q n y4 M0 M1 M2 → W p l e (headSpec wsX6_goByRules rmX6_goByRulesaa).room s m ([.ref h0, .ref h1, .ref h2, .ref h2] : List Value).toArray below meth c H locs 0 0 (MQ below (va_Qv (fun (u : gS × gS × gS) => Q u.1 u.2.1 u.2.2) (q1B dC dI cB cI cJ cZ h0 a0 h1 a1 h2 a2 A) A) ([.ref h0, .ref h1, .ref h2, .ref h2] : List Value).toArray s 0 0 A) (F0 m 3 ls []) := by
    intro  n
    induction n with
    | zero => intro y4 M0 M1 M2 H locs ls hP hD hS hl h; exact absurd h (by simp [wX6_goByRulesaa_3])
    | succ n hB30 =>
      intro y4 M0 M1 M2 H locs ls hP hD hS hl h
      have hB3 := hB30
      rw [wX6_goByRulesaa_3] at h
      refine lv_iload hx hb dX6_goByRules_3 (lv_at hl 4 rfl) ?_
      refine lv_sipush (v := (10000)) hx hb dX6_goByRules_5 (by decide) ?_
      refine lv_icmp_ge (tgt := 90) hx hb dX6_goByRules_8 (by decide) (fun c1 => ?_) (fun c1 => ?_)
      · have h := h.1 c1
        exact W.vret hx hb hr (fun t ht hW => ⟨⟨(M0, M1, M2), rfl, h, by rw [ht]; exact hP, va_K.moved hW.alike hK, hD⟩, hS.F ht⟩) hS.2.2 dX6_goByRules_90
      · have h := h.2 c1
        refine lv_aload_n hx hb dX6_goByRules_11 rfl (lv_at hl 0 rfl) ?_
        refine va_get (D := (dC, dI)) (ci := 6) (v := .int (mg M0 0)) (C := RX6) (T := TX6) (N := 10) hx hb hts hinX6 hown hK hP 0 rfl rfl 0 (by decide) f1 (fun _ h9 => h9) rfl dX6_goByRules_12 ?_
        refine lv_if_eq (tgt := 90) hx hb dX6_goByRules_15 (by decide) (fun c2 => ?_) (fun c2 => ?_)
        · have h := h.1 c2
          exact W.vret hx hb hr (fun t ht hW => ⟨⟨(M0, M1, M2), rfl, h, by rw [ht]; exact hP, va_K.moved hW.alike hK, hD⟩, hS.F ht⟩) hS.2.2 dX6_goByRules_90
        · have h := h.2 c2
          refine lv_aload_n hx hb dX6_goByRules_18 rfl (lv_at hl 0 rfl) ?_
          refine va_get (D := (dC, dI)) (ci := 6) (v := .int (mg M0 3)) (C := RX6) (T := TX6) (N := 10) hx hb hts hinX6 hown hK hP 0 rfl rfl 3 (by decide) f2 (fun _ h9 => h9) rfl dX6_goByRules_19 ?_
          refine lv_if_ne (tgt := 29) hx hb dX6_goByRules_22 (by decide) (fun c3 => ?_) (fun c3 => ?_)
          · have h := h.2 c3
            refine lv_aload_n hx hb dX6_goByRules_29 rfl (lv_at hl 3 rfl) ?_
            refine lv_astore (lv' := [(5, .ref h2), (0, .ref h0), (1, .ref h1), (2, .ref h2), (3, .ref h2), (4, .int y4)]) hx hb dX6_goByRules_30 hl (by decide) rfl (fun ls hl => ?_)
            refine lv_aload hx hb dX6_goByRules_32 (lv_at hl 0 rfl) ?_
            refine lv_ifnonnull (tgt := 41) hx hb dX6_goByRules_34 (by decide) ?_
            refine lv_aload hx hb dX6_goByRules_41 (lv_at hl 0 rfl) ?_
            refine lv_aload_n hx hb dX6_goByRules_43 rfl (lv_at hl 2 rfl) ?_
            refine lv_aload_n hx hb dX6_goByRules_44 rfl (lv_at hl 1 rfl) ?_
            have hPc := hP.sub (ws' := (rcW cB cI cJ cZ h2 a2 h1 a1 h0 a0 M2 M1 M0)) [8, 9, 10, 11, 12, 4, 5, 6, 7, 0, 1, 2, 3] rfl
            have hDc := hD.sub (ws' := (rcW cB cI cJ cZ h2 a2 h1 a1 h0 a0 M2 M1 M0)) [8, 9, 10, 11, 12, 4, 5, 6, 7, 0, 1, 2, 3] (by decide) rfl
            have hFc := va_free (wc := (rcW cB cI cJ cZ h2 a2 h1 a1 h0 a0 M2 M1 M0)) hD hS hA [8, 9, 10, 11, 12, 4, 5, 6, 7, 0, 1, 2, 3] rfl
            refine va_calli (va_runV (As := [.ref h1, .ref h0]) (rest := []) ⟨hx, hb, hml, hown, hts⟩ (kX8_choose l dC dI cB cI cJ cZ h2 a2 h1 a1 h0 a0 H.size  M2 M1 M0 _ h) (cwV 2 hts gX6_goByRules_X8_choose rfl rfl rfl (by decide +kernel) ⟨Nat.le_of_ble_eq_true rfl, Nat.le_of_ble_eq_true rfl⟩) (rcpV hK hPc hDc) rfl rfl hl.1 rfl (lv_room (Nat.le_of_ble_eq_true rfl)) dX6_goByRules_45 ⟨Nat.le_of_ble_eq_true rfl, Nat.le_of_ble_eq_true rfl⟩) hS (fun q _ z => hFc q z) hFc (fun r4 u t H1 locs ht hvm hw hB hz1 hk1 hS => ?_)
            obtain ⟨N5, N6, N7⟩ := u
            obtain ⟨hP1, hK1, hD1⟩ := hB
            rw [ht] at hP1
            obtain ⟨hP, hD⟩ := va_join (wr := []) (w1 := (rcW cB cI cJ cZ h2 a2 h1 a1 h0 a0 N5 N6 N7)) hP hD [8, 9, 10, 11, 12, 4, 5, 6, 7, 0, 1, 2, 3] [] rfl rfl (by decide) (by decide) hk1 hFc hP1 hD1
            have hP := hP.sub (ws' := (q1W cB cI cJ cZ h0 a0 h1 a1 h2 a2 N7 N6 N5)) [9, 10, 11, 12, 5, 6, 7, 8, 0, 1, 2, 3, 4] rfl
            have hD := hD.sub (ws' := (q1W cB cI cJ cZ h0 a0 h1 a1 h2 a2 N7 N6 N5)) [9, 10, 11, 12, 5, 6, 7, 8, 0, 1, 2, 3, 4] (by decide) rfl
            generalize H1 = H at hP hS ⊢
            have h := hw
            try dsimp only at h
            exact b48 _ hB3 y4 r4 N7 N6 N5 H locs ls hP hD hS (lv_sub hl [1, 2, 3, 4, 5] rfl) h
          · have h := h.1 c3
            refine lv_aload_n hx hb dX6_goByRules_25 rfl (lv_at hl 2 rfl) ?_
            refine lv_goto (tgt := 30) hx hb dX6_goByRules_26 (by decide) ?_
            refine lv_astore (lv' := [(5, .ref h2), (0, .ref h0), (1, .ref h1), (2, .ref h2), (3, .ref h2), (4, .int y4)]) hx hb dX6_goByRules_30 hl (by decide) rfl (fun ls hl => ?_)
            refine lv_aload hx hb dX6_goByRules_32 (lv_at hl 0 rfl) ?_
            refine lv_ifnonnull (tgt := 41) hx hb dX6_goByRules_34 (by decide) ?_
            refine lv_aload hx hb dX6_goByRules_41 (lv_at hl 0 rfl) ?_
            refine lv_aload_n hx hb dX6_goByRules_43 rfl (lv_at hl 2 rfl) ?_
            refine lv_aload_n hx hb dX6_goByRules_44 rfl (lv_at hl 1 rfl) ?_
            have hPc := hP.sub (ws' := (rcW cB cI cJ cZ h2 a2 h1 a1 h0 a0 M2 M1 M0)) [8, 9, 10, 11, 12, 4, 5, 6, 7, 0, 1, 2, 3] rfl
            have hDc := hD.sub (ws' := (rcW cB cI cJ cZ h2 a2 h1 a1 h0 a0 M2 M1 M0)) [8, 9, 10, 11, 12, 4, 5, 6, 7, 0, 1, 2, 3] (by decide) rfl
            have hFc := va_free (wc := (rcW cB cI cJ cZ h2 a2 h1 a1 h0 a0 M2 M1 M0)) hD hS hA [8, 9, 10, 11, 12, 4, 5, 6, 7, 0, 1, 2, 3] rfl
            refine va_calli (va_runV (As := [.ref h1, .ref h0]) (rest := []) ⟨hx, hb, hml, hown, hts⟩ (kX8_choose l dC dI cB cI cJ cZ h2 a2 h1 a1 h0 a0 H.size  M2 M1 M0 _ h) (cwV 2 hts gX6_goByRules_X8_choose rfl rfl rfl (by decide +kernel) ⟨Nat.le_of_ble_eq_true rfl, Nat.le_of_ble_eq_true rfl⟩) (rcpV hK hPc hDc) rfl rfl hl.1 rfl (lv_room (Nat.le_of_ble_eq_true rfl)) dX6_goByRules_45 ⟨Nat.le_of_ble_eq_true rfl, Nat.le_of_ble_eq_true rfl⟩) hS (fun q _ z => hFc q z) hFc (fun r8 u t H1 locs ht hvm hw hB hz1 hk1 hS => ?_)
            obtain ⟨N9, N10, N11⟩ := u
            obtain ⟨hP1, hK1, hD1⟩ := hB
            rw [ht] at hP1
            obtain ⟨hP, hD⟩ := va_join (wr := []) (w1 := (rcW cB cI cJ cZ h2 a2 h1 a1 h0 a0 N9 N10 N11)) hP hD [8, 9, 10, 11, 12, 4, 5, 6, 7, 0, 1, 2, 3] [] rfl rfl (by decide) (by decide) hk1 hFc hP1 hD1
            have hP := hP.sub (ws' := (q1W cB cI cJ cZ h0 a0 h1 a1 h2 a2 N11 N10 N9)) [9, 10, 11, 12, 5, 6, 7, 8, 0, 1, 2, 3, 4] rfl
            have hD := hD.sub (ws' := (q1W cB cI cJ cZ h0 a0 h1 a1 h2 a2 N11 N10 N9)) [9, 10, 11, 12, 5, 6, 7, 8, 0, 1, 2, 3, 4] (by decide) rfl
            generalize H1 = H at hP hS ⊢
            have h := hw
            try dsimp only at h
            exact b48 _ hB3 y4 r8 N11 N10 N9 H locs ls hP hD hS (lv_sub hl [1, 2, 3, 4, 5] rfl) h
  have bE : ∀ (M0 : gS) (M1 : gS) (M2 : gS) (H : Heap) (locs : List Loc) (ls : Array Slot), va_P (dC, dI) vwCl (q1W cB cI cJ cZ h0 a0 h1 a1 h2 a2 M0 M1 M2) H → va_D A (q1W cB cI cJ cZ h0 a0 h1 a1 h2 a2 M0 M1 M2) → va_S A s.heap H locs → lv_has ls 7 [(0, .ref h0), (1, .ref h1), (2, .ref h2), (3, .ref h2)] → wX6_goByRulesaa  M0 M1 M2 Q → W p l e (headSpec wsX6_goByRules rmX6_goByRulesaa).room s m ([.ref h0, .ref h1, .ref h2, .ref h2] : List Value).toArray below meth c H locs 0 0 (MQ below (va_Qv (fun (u : gS × gS × gS) => Q u.1 u.2.1 u.2.2) (q1B dC dI cB cI cJ cZ h0 a0 h1 a1 h2 a2 A) A) ([.ref h0, .ref h1, .ref h2, .ref h2] : List Value).toArray s 0 0 A) (F0 m 0 ls []) := by
    intro M0 M1 M2 H locs ls hP hD hS hl h
    unfold wX6_goByRulesaa at h
    refine lv_iconst (v := 0) hx hb dX6_goByRules_0 (by decide) ?_
    refine lv_istore (lv' := [(4, .int (0 : Int32)), (0, .ref h0), (1, .ref h1), (2, .ref h2), (3, .ref h2)]) hx hb dX6_goByRules_1 hl (by decide) rfl (fun ls hl => ?_)
    obtain ⟨n9, h⟩ := h
    exact b3  n9 (0 : Int32) M0 M1 M2 H locs ls hP hD hS (lv_sub hl [1, 2, 3, 4, 0] rfl) h
  have hl := lv_entry ([.ref h0, .ref h1, .ref h2, .ref h2]) (n := 7) (Nat.le_of_ble_eq_true rfl)
  rw [lg_entry_eq]
  generalize (lg_sl ([.ref h0, .ref h1, .ref h2, .ref h2]) ++ List.replicate (7 - (lg_sl ([.ref h0, .ref h1, .ref h2, .ref h2])).length) Slot.unset).toArray = ls at hl ⊢
  have hl : lv_has ls 7 [(0, .ref h0), (1, .ref h1), (2, .ref h2), (3, .ref h2)] := hl
  exact bE M0 M1 M2 s.heap [] ls hP hD hS hl h
def wX6_goByRulesab_84 (B3 : Int32 → gS → gS → gS → gS → Prop) (Q : gS → gS → gS → gS → Prop) (y4 : Int32) (M0 : gS) (M1 : gS) (M2 : gS) (M3 : gS) : Prop :=
 (∀ x1 : Int32, x1 = y4 + (1 : Int32) → (B3 x1 M0 M1 M2 M3))
def wX6_goByRulesab_48 (B3 : Int32 → gS → gS → gS → gS → Prop) (Q : gS → gS → gS → gS → Prop) (y4 : Int32) (z0 : Int32) (M0 : gS) (M1 : gS) (M2 : gS) (M3 : gS) : Prop :=
 ((z0 = (-1 : Int32) → (wX6_beStill  M0 (fun (N10 : gS) => (wX6_goByRulesab_84 B3 Q y4 N10 M1 M2 M3))))
 ∧ (¬ z0 = (-1 : Int32) → ((z0 = (4 : Int32) → (wX6_throwPenny  M0 M1 (fun (N7 : gS) (N8 : gS) => (wX6_goByRulesab_84 B3 Q y4 N7 N8 M2 M3))))
 ∧ (¬ z0 = (4 : Int32) → (wX6_say z0 M0 M1 (fun (N4 : gS) (N5 : gS) => (wX6_goByRulesab_84 B3 Q y4 N4 N5 M2 M3)))))))
def wX6_goByRulesab_3  (Q : gS → gS → gS → gS → Prop) : Nat → Int32 → gS → gS → gS → gS → Prop
 | 0, _, _, _, _, _ => False
 | n + 1, y4, M0, M1, M2, M3 => (((10000 : Int32) ≤ y4 → (Q M0 M1 M2 M3))
 ∧ (¬ (10000 : Int32) ≤ y4 → (((mg M0 0) = 0 → (Q M0 M1 M2 M3))
 ∧ (¬ (mg M0 0) = 0 → (((mg M0 3) = 0 → (wX8_choose  M2 M1 M0 (fun (r8 : Int32) (N9 : gS) (N10 : gS) (N11 : gS) => (wX6_goByRulesab_48 (fun (y4 : Int32) (M0 : gS) (M1 : gS) (M2 : gS) (M3 : gS) => wX6_goByRulesab_3  Q n y4 M0 M1 M2 M3) Q y4 r8 N11 N10 N9 M3))))
 ∧ (¬ (mg M0 3) = 0 → (wX8_choose  M3 M1 M0 (fun (r4 : Int32) (N5 : gS) (N6 : gS) (N7 : gS) => (wX6_goByRulesab_48 (fun (y4 : Int32) (M0 : gS) (M1 : gS) (M2 : gS) (M3 : gS) => wX6_goByRulesab_3  Q n y4 M0 M1 M2 M3) Q y4 r4 N7 N6 M2 N5)))))))))
def wX6_goByRulesab  (M0 : gS) (M1 : gS) (M2 : gS) (M3 : gS) (Q : gS → gS → gS → gS → Prop) : Prop :=
 (∃ k3 : Nat, wX6_goByRulesab_3  Q k3 (0 : Int32) M0 M1 M2 M3)
def rmX6_goByRulesab : Room := { frames := 4, cells := 0, slots := 0, locals := 98 }
set_option maxHeartbeats 4000000 in
set_option maxRecDepth 100000 in
theorem kX6_goByRulesab (l : Launch) (dC : Nat → ClassId) (dI : Nat → Nat → Nat) (cB cI cJ cZ : ClassId) (h0 : Nat) (a0 : Nat → Nat) (h1 : Nat) (a1 : Nat → Nat) (h2 : Nat) (a2 : Nat → Nat) (h3 : Nat) (a3 : Nat → Nat) (sz : Nat)  (M0 : gS) (M1 : gS) (M2 : gS) (M3 : gS) (Q : gS → gS → gS → gS → Prop) (h : wX6_goByRulesab  M0 M1 M2 M3 Q) : Met l yX6_goByRules wsX6_goByRules rmX6_goByRulesab (va_Pc [.ref h0, .ref h1, .ref h2, .ref h3] (q2I dC dI cB cI cJ cZ h0 a0 h1 a1 h2 a2 h3 a3 M0 M1 M2 M3 sz)) (va_Qv (fun (u : gS × gS × gS × gS) => Q u.1 u.2.1 u.2.2.1 u.2.2.2) (q2B dC dI cB cI cJ cZ h0 a0 h1 a1 h2 a2 h3 a3 (va_A (q2W cB cI cJ cZ h0 a0 h1 a1 h2 a2 h3 a3 M0 M1 M2 M3) sz)) (va_A (q2W cB cI cJ cZ h0 a0 h1 a1 h2 a2 h3 a3 M0 M1 M2 M3) sz)) 0 0 (va_A (q2W cB cI cJ cZ h0 a0 h1 a1 h2 a2 h3 a3 M0 M1 M2 M3) sz) := by
  refine Met.ofW (cc := cX6_goByRules) (maxL := 7) (ret := none) (by decide) rfl ?_
  intro p e s m args below meth c s₁ B hml hv
  obtain ⟨rfl, hsz, hP, hK, hD0⟩ := hv
  have hx := B.exec
  have hb := B.bytes
  have hr := B.returns
  have hts := atoms_spec (ws := wsX6_goByRules) B.pre
  have hown : s.vm.findClass RX6 = some m.cls := findClass_of_methodNamed B.named
  have hlocks := B.notSynchronized
  subst hsz
  have hD := hD0.self (sz := s.heap.size)
  generalize hAe : va_A (q2W cB cI cJ cZ h0 a0 h1 a1 h2 a2 h3 a3 M0 M1 M2 M3) s.heap.size = A at hD ⊢
  have hA : ∀ q : Nat, s.heap.size ≤ q → A q := fun q h => by rw [← hAe]; exact Or.inr h
  have hS : va_S A s.heap s.heap [] := va_S.rf
  have hinX6 : ∀ w ∈ wsX60, w ∈ wsX6_goByRules := by decide +kernel
  have f1 := hts (.fieldLink RX6 28 "LastWords$Quarrel" "goesOn" "Z") (by decide +kernel)
  have f2 := hts (.fieldLink RX6 35 "LastWords$Quarrel" "turn" "I") (by decide +kernel)
  have b84 : ∀ (B3 : Int32 → gS → gS → gS → gS → Prop) (hB3 : ∀ (y4 : Int32) (M0 : gS) (M1 : gS) (M2 : gS) (M3 : gS) (H : Heap) (locs : List Loc) (ls : Array Slot), va_P (dC, dI) vwCl (q2W cB cI cJ cZ h0 a0 h1 a1 h2 a2 h3 a3 M0 M1 M2 M3) H → va_D A (q2W cB cI cJ cZ h0 a0 h1 a1 h2 a2 h3 a3 M0 M1 M2 M3) → va_S A s.heap H locs → lv_has ls 7 [(0, .ref h0), (1, .ref h1), (2, .ref h2), (3, .ref h3), (4, .int y4)] → B3 y4 M0 M1 M2 M3 → W p l e (headSpec wsX6_goByRules rmX6_goByRulesab).room s m ([.ref h0, .ref h1, .ref h2, .ref h3] : List Value).toArray below meth c H locs 0 0 (MQ below (va_Qv (fun (u : gS × gS × gS × gS) => Q u.1 u.2.1 u.2.2.1 u.2.2.2) (q2B dC dI cB cI cJ cZ h0 a0 h1 a1 h2 a2 h3 a3 A) A) ([.ref h0, .ref h1, .ref h2, .ref h3] : List Value).toArray s 0 0 A) (F0 m 3 ls [])) (y4 : Int32) (M0 : gS) (M1 : gS) (M2 : gS) (M3 : gS) (H : Heap) (locs : List Loc) (ls : Array Slot), va_P (dC, dI) vwCl (q2W cB cI cJ cZ h0 a0 h1 a1 h2 a2 h3 a3 M0 M1 M2 M3) H → va_D A (q2W cB cI cJ cZ h0 a0 h1 a1 h2 a2 h3 a3 M0 M1 M2 M3) → va_S A s.heap H locs → lv_has ls 7 [(0, .ref h0), (1, .ref h1), (2, .ref h2), (3, .ref h3), (4, .int y4)] → wX6_goByRulesab_84 B3 Q y4 M0 M1 M2 M3 → W p l e (headSpec wsX6_goByRules rmX6_goByRulesab).room s m ([.ref h0, .ref h1, .ref h2, .ref h3] : List Value).toArray below meth c H locs 0 0 (MQ below (va_Qv (fun (u : gS × gS × gS × gS) => Q u.1 u.2.1 u.2.2.1 u.2.2.2) (q2B dC dI cB cI cJ cZ h0 a0 h1 a1 h2 a2 h3 a3 A) A) ([.ref h0, .ref h1, .ref h2, .ref h3] : List Value).toArray s 0 0 A) (F0 m 84 ls []) := by
    intro B3 hB3 y4 M0 M1 M2 M3 H locs ls hP hD hS hl h
    unfold wX6_goByRulesab_84 at h
    obtain ⟨x1, ex1⟩ : ∃ y : Int32, y = y4 + (1 : Int32) := ⟨_, rfl⟩
    have h := h x1 ex1
    refine lv_iinc (v := x1) (lv' := [(4, .int x1), (0, .ref h0), (1, .ref h1), (2, .ref h2), (3, .ref h3)]) hx hb dX6_goByRules_84 hl (k := 4) rfl (by rw [ex1]; rfl) (by decide) rfl (fun ls hl => ?_)
    refine lv_goto (tgt := 3) hx hb dX6_goByRules_87 (by decide) ?_
    exact hB3 x1 M0 M1 M2 M3 H locs ls hP hD hS (lv_sub hl [1, 2, 3, 4, 0] rfl) h
  have b48 : ∀ (B3 : Int32 → gS → gS → gS → gS → Prop) (hB3 : ∀ (y4 : Int32) (M0 : gS) (M1 : gS) (M2 : gS) (M3 : gS) (H : Heap) (locs : List Loc) (ls : Array Slot), va_P (dC, dI) vwCl (q2W cB cI cJ cZ h0 a0 h1 a1 h2 a2 h3 a3 M0 M1 M2 M3) H → va_D A (q2W cB cI cJ cZ h0 a0 h1 a1 h2 a2 h3 a3 M0 M1 M2 M3) → va_S A s.heap H locs → lv_has ls 7 [(0, .ref h0), (1, .ref h1), (2, .ref h2), (3, .ref h3), (4, .int y4)] → B3 y4 M0 M1 M2 M3 → W p l e (headSpec wsX6_goByRules rmX6_goByRulesab).room s m ([.ref h0, .ref h1, .ref h2, .ref h3] : List Value).toArray below meth c H locs 0 0 (MQ below (va_Qv (fun (u : gS × gS × gS × gS) => Q u.1 u.2.1 u.2.2.1 u.2.2.2) (q2B dC dI cB cI cJ cZ h0 a0 h1 a1 h2 a2 h3 a3 A) A) ([.ref h0, .ref h1, .ref h2, .ref h3] : List Value).toArray s 0 0 A) (F0 m 3 ls [])) (y4 : Int32) (z0 : Int32) (M0 : gS) (M1 : gS) (M2 : gS) (M3 : gS) (H : Heap) (locs : List Loc) (ls : Array Slot), va_P (dC, dI) vwCl (q2W cB cI cJ cZ h0 a0 h1 a1 h2 a2 h3 a3 M0 M1 M2 M3) H → va_D A (q2W cB cI cJ cZ h0 a0 h1 a1 h2 a2 h3 a3 M0 M1 M2 M3) → va_S A s.heap H locs → lv_has ls 7 [(0, .ref h0), (1, .ref h1), (2, .ref h2), (3, .ref h3), (4, .int y4)] → wX6_goByRulesab_48 B3 Q y4 z0 M0 M1 M2 M3 → W p l e (headSpec wsX6_goByRules rmX6_goByRulesab).room s m ([.ref h0, .ref h1, .ref h2, .ref h3] : List Value).toArray below meth c H locs 0 0 (MQ below (va_Qv (fun (u : gS × gS × gS × gS) => Q u.1 u.2.1 u.2.2.1 u.2.2.2) (q2B dC dI cB cI cJ cZ h0 a0 h1 a1 h2 a2 h3 a3 A) A) ([.ref h0, .ref h1, .ref h2, .ref h3] : List Value).toArray s 0 0 A) (F0 m 48 ls [.int z0]) := by
    intro B3 hB3 y4 z0 M0 M1 M2 M3 H locs ls hP hD hS hl h
    unfold wX6_goByRulesab_48 at h
    refine lv_istore (lv' := [(6, .int z0), (0, .ref h0), (1, .ref h1), (2, .ref h2), (3, .ref h3), (4, .int y4)]) hx hb dX6_goByRules_48 hl (by decide) rfl (fun ls hl => ?_)
    refine lv_iload hx hb dX6_goByRules_50 (lv_at hl 0 rfl) ?_
    refine lv_iconst (v := (-1)) hx hb dX6_goByRules_52 (by decide) ?_
    refine lv_icmp_ne (tgt := 63) hx hb dX6_goByRules_53 (by decide) (fun c1 => ?_) (fun c1 => ?_)
    · have h := h.2 c1
      refine lv_iload hx hb dX6_goByRules_63 (lv_at hl 0 rfl) ?_
      refine lv_iconst (v := 4) hx hb dX6_goByRules_65 (by decide) ?_
      refine lv_icmp_ne (tgt := 77) hx hb dX6_goByRules_66 (by decide) (fun c2 => ?_) (fun c2 => ?_)
      · have h := h.2 c2
        refine lv_aload_n hx hb dX6_goByRules_77 rfl (lv_at hl 1 rfl) ?_
        refine lv_aload_n hx hb dX6_goByRules_78 rfl (lv_at hl 2 rfl) ?_
        refine lv_iload hx hb dX6_goByRules_79 (lv_at hl 0 rfl) ?_
        have hPc := hP.sub (ws' := (qcW cB cI cJ cZ h0 a0 h1 a1 M0 M1)) [0, 1, 2, 3, 4, 5, 6, 7] rfl
        have hDc := hD.sub (ws' := (qcW cB cI cJ cZ h0 a0 h1 a1 M0 M1)) [0, 1, 2, 3, 4, 5, 6, 7] (by decide) rfl
        have hFc := va_free (wc := (qcW cB cI cJ cZ h0 a0 h1 a1 M0 M1)) hD hS hA [0, 1, 2, 3, 4, 5, 6, 7] rfl
        refine va_callv (va_runV (As := [.ref h1, .int z0]) (rest := []) ⟨hx, hb, hml, hown, hts⟩ (kX6_say l dC dI cB cI cJ cZ h0 a0 h1 a1 H.size z0 M0 M1 _ h) (cwV 2 hts gX6_goByRules_X6_say rfl rfl rfl (by decide +kernel) ⟨Nat.le_of_ble_eq_true rfl, Nat.le_of_ble_eq_true rfl⟩) (qcpV hK hPc hDc) rfl rfl hl.1 rfl (lv_room (Nat.le_of_ble_eq_true rfl)) dX6_goByRules_81 ⟨Nat.le_of_ble_eq_true rfl, Nat.le_of_ble_eq_true rfl⟩) hS (fun q _ z => hFc q z) hFc (fun u t H1 locs ht hvm hw hB hz1 hk1 hS => ?_)
        obtain ⟨N4, N5⟩ := u
        obtain ⟨hP1, hK1, hD1⟩ := hB
        rw [ht] at hP1
        obtain ⟨hP, hD⟩ := va_join (wr := [(h2, .inr (8, [.int (mg M2 0), .ref (a2 1), .ref (a2 2), .ref (a2 3), .int (mg M2 4), .ref (a2 5)])), (a2 1, .inl (cI, 12, .inl (ma M2 1))), (a2 2, .inl (cI, 12, .inl (ma M2 2))), (a2 3, .inl (cI, 400, .inl (ma M2 3))), (a2 5, .inl (cJ, 60, .inr (.inl (ml M2 5)))), (h3, .inr (8, [.int (mg M3 0), .ref (a3 1), .ref (a3 2), .ref (a3 3), .int (mg M3 4), .ref (a3 5)])), (a3 1, .inl (cI, 12, .inl (ma M3 1))), (a3 2, .inl (cI, 12, .inl (ma M3 2))), (a3 3, .inl (cI, 400, .inl (ma M3 3))), (a3 5, .inl (cJ, 60, .inr (.inl (ml M3 5))))]) (w1 := (qcW cB cI cJ cZ h0 a0 h1 a1 N4 N5)) hP hD [0, 1, 2, 3, 4, 5, 6, 7] [8, 9, 10, 11, 12, 13, 14, 15, 16, 17] rfl rfl (by decide) (by decide) hk1 hFc hP1 hD1
        have hP := hP.sub (ws' := (q2W cB cI cJ cZ h0 a0 h1 a1 h2 a2 h3 a3 N4 N5 M2 M3)) [10, 11, 12, 13, 14, 15, 16, 17, 0, 1, 2, 3, 4, 5, 6, 7, 8, 9] rfl
        have hD := hD.sub (ws' := (q2W cB cI cJ cZ h0 a0 h1 a1 h2 a2 h3 a3 N4 N5 M2 M3)) [10, 11, 12, 13, 14, 15, 16, 17, 0, 1, 2, 3, 4, 5, 6, 7, 8, 9] (by decide) rfl
        generalize H1 = H at hP hS ⊢
        have h := hw
        try dsimp only at h
        exact b84 _ hB3 y4 N4 N5 M2 M3 H locs ls hP hD hS (lv_sub hl [1, 2, 3, 4, 5] rfl) h
      · have h := h.1 c2
        refine lv_aload_n hx hb dX6_goByRules_69 rfl (lv_at hl 1 rfl) ?_
        refine lv_aload_n hx hb dX6_goByRules_70 rfl (lv_at hl 2 rfl) ?_
        have hPc := hP.sub (ws' := (qcW cB cI cJ cZ h0 a0 h1 a1 M0 M1)) [0, 1, 2, 3, 4, 5, 6, 7] rfl
        have hDc := hD.sub (ws' := (qcW cB cI cJ cZ h0 a0 h1 a1 M0 M1)) [0, 1, 2, 3, 4, 5, 6, 7] (by decide) rfl
        have hFc := va_free (wc := (qcW cB cI cJ cZ h0 a0 h1 a1 M0 M1)) hD hS hA [0, 1, 2, 3, 4, 5, 6, 7] rfl
        refine va_callv (va_runV (As := [.ref h1]) (rest := []) ⟨hx, hb, hml, hown, hts⟩ (kX6_throwPenny l dC dI cB cI cJ cZ h0 a0 h1 a1 H.size  M0 M1 _ h) (cwV 1 hts gX6_goByRules_X6_throwPenny rfl rfl rfl (by decide +kernel) ⟨Nat.le_of_ble_eq_true rfl, Nat.le_of_ble_eq_true rfl⟩) (qcpV hK hPc hDc) rfl rfl hl.1 rfl (lv_room (Nat.le_of_ble_eq_true rfl)) dX6_goByRules_71 ⟨Nat.le_of_ble_eq_true rfl, Nat.le_of_ble_eq_true rfl⟩) hS (fun q _ z => hFc q z) hFc (fun u t H1 locs ht hvm hw hB hz1 hk1 hS => ?_)
        obtain ⟨N7, N8⟩ := u
        obtain ⟨hP1, hK1, hD1⟩ := hB
        rw [ht] at hP1
        obtain ⟨hP, hD⟩ := va_join (wr := [(h2, .inr (8, [.int (mg M2 0), .ref (a2 1), .ref (a2 2), .ref (a2 3), .int (mg M2 4), .ref (a2 5)])), (a2 1, .inl (cI, 12, .inl (ma M2 1))), (a2 2, .inl (cI, 12, .inl (ma M2 2))), (a2 3, .inl (cI, 400, .inl (ma M2 3))), (a2 5, .inl (cJ, 60, .inr (.inl (ml M2 5)))), (h3, .inr (8, [.int (mg M3 0), .ref (a3 1), .ref (a3 2), .ref (a3 3), .int (mg M3 4), .ref (a3 5)])), (a3 1, .inl (cI, 12, .inl (ma M3 1))), (a3 2, .inl (cI, 12, .inl (ma M3 2))), (a3 3, .inl (cI, 400, .inl (ma M3 3))), (a3 5, .inl (cJ, 60, .inr (.inl (ml M3 5))))]) (w1 := (qcW cB cI cJ cZ h0 a0 h1 a1 N7 N8)) hP hD [0, 1, 2, 3, 4, 5, 6, 7] [8, 9, 10, 11, 12, 13, 14, 15, 16, 17] rfl rfl (by decide) (by decide) hk1 hFc hP1 hD1
        have hP := hP.sub (ws' := (q2W cB cI cJ cZ h0 a0 h1 a1 h2 a2 h3 a3 N7 N8 M2 M3)) [10, 11, 12, 13, 14, 15, 16, 17, 0, 1, 2, 3, 4, 5, 6, 7, 8, 9] rfl
        have hD := hD.sub (ws' := (q2W cB cI cJ cZ h0 a0 h1 a1 h2 a2 h3 a3 N7 N8 M2 M3)) [10, 11, 12, 13, 14, 15, 16, 17, 0, 1, 2, 3, 4, 5, 6, 7, 8, 9] (by decide) rfl
        generalize H1 = H at hP hS ⊢
        have h := hw
        try dsimp only at h
        refine lv_goto (tgt := 84) hx hb dX6_goByRules_74 (by decide) ?_
        exact b84 _ hB3 y4 N7 N8 M2 M3 H locs ls hP hD hS (lv_sub hl [1, 2, 3, 4, 5] rfl) h
    · have h := h.1 c1
      refine lv_aload_n hx hb dX6_goByRules_56 rfl (lv_at hl 1 rfl) ?_
      have hPc := hP.sub (ws' := (qrW cB cI cJ cZ h0 a0 M0)) [0, 1, 2, 3] rfl
      have hDc := hD.sub (ws' := (qrW cB cI cJ cZ h0 a0 M0)) [0, 1, 2, 3] (by decide) rfl
      have hFc := va_free (wc := (qrW cB cI cJ cZ h0 a0 M0)) hD hS hA [0, 1, 2, 3] rfl
      refine va_callv (va_runV (As := []) (rest := []) ⟨hx, hb, hml, hown, hts⟩ (kX6_beStill l dC dI cB cI cJ cZ h0 a0 H.size  M0 _ h) (cwV 0 hts gX6_goByRules_X6_beStill rfl rfl rfl (by decide +kernel) ⟨Nat.le_of_ble_eq_true rfl, Nat.le_of_ble_eq_true rfl⟩) (qrpV hK hPc hDc) rfl rfl hl.1 rfl (lv_room (Nat.le_of_ble_eq_true rfl)) dX6_goByRules_57 ⟨Nat.le_of_ble_eq_true rfl, Nat.le_of_ble_eq_true rfl⟩) hS (fun q _ z => hFc q z) hFc (fun u t H1 locs ht hvm hw hB hz1 hk1 hS => ?_)
      obtain ⟨N10, rfl⟩ : ∃ z, z = u := ⟨_, rfl⟩
      obtain ⟨hP1, hK1, hD1⟩ := hB
      rw [ht] at hP1
      obtain ⟨hP, hD⟩ := va_join (wr := [(h1, .inr (1, [.int (mg M1 0), .ref (a1 1), .int (mg M1 2), .ref (a1 3), .int (mg M1 4), .ref (a1 5)])), (a1 1, .inl (cI, 4, .inl (ma M1 1))), (a1 3, .inl (cI, 4, .inl (ma M1 3))), (a1 5, .inl (cI, 2, .inl (ma M1 5))), (h2, .inr (8, [.int (mg M2 0), .ref (a2 1), .ref (a2 2), .ref (a2 3), .int (mg M2 4), .ref (a2 5)])), (a2 1, .inl (cI, 12, .inl (ma M2 1))), (a2 2, .inl (cI, 12, .inl (ma M2 2))), (a2 3, .inl (cI, 400, .inl (ma M2 3))), (a2 5, .inl (cJ, 60, .inr (.inl (ml M2 5)))), (h3, .inr (8, [.int (mg M3 0), .ref (a3 1), .ref (a3 2), .ref (a3 3), .int (mg M3 4), .ref (a3 5)])), (a3 1, .inl (cI, 12, .inl (ma M3 1))), (a3 2, .inl (cI, 12, .inl (ma M3 2))), (a3 3, .inl (cI, 400, .inl (ma M3 3))), (a3 5, .inl (cJ, 60, .inr (.inl (ml M3 5))))]) (w1 := (qrW cB cI cJ cZ h0 a0 N10)) hP hD [0, 1, 2, 3] [4, 5, 6, 7, 8, 9, 10, 11, 12, 13, 14, 15, 16, 17] rfl rfl (by decide) (by decide) hk1 hFc hP1 hD1
      have hP := hP.sub (ws' := (q2W cB cI cJ cZ h0 a0 h1 a1 h2 a2 h3 a3 N10 M1 M2 M3)) [14, 15, 16, 17, 0, 1, 2, 3, 4, 5, 6, 7, 8, 9, 10, 11, 12, 13] rfl
      have hD := hD.sub (ws' := (q2W cB cI cJ cZ h0 a0 h1 a1 h2 a2 h3 a3 N10 M1 M2 M3)) [14, 15, 16, 17, 0, 1, 2, 3, 4, 5, 6, 7, 8, 9, 10, 11, 12, 13] (by decide) rfl
      generalize H1 = H at hP hS ⊢
      have h := hw
      try dsimp only at h
      refine lv_goto (tgt := 84) hx hb dX6_goByRules_60 (by decide) ?_
      exact b84 _ hB3 y4 N10 M1 M2 M3 H locs ls hP hD hS (lv_sub hl [1, 2, 3, 4, 5] rfl) h
  have b3 : ∀ (n : Nat) (y4 : Int32) (M0 : gS) (M1 : gS) (M2 : gS) (M3 : gS) (H : Heap) (locs : List Loc) (ls : Array Slot), va_P (dC, dI) vwCl (q2W cB cI cJ cZ h0 a0 h1 a1 h2 a2 h3 a3 M0 M1 M2 M3) H → va_D A (q2W cB cI cJ cZ h0 a0 h1 a1 h2 a2 h3 a3 M0 M1 M2 M3) → va_S A s.heap H locs → lv_has ls 7 [(0, .ref h0), (1, .ref h1), (2, .ref h2), (3, .ref h3), (4, .int y4)] → wX6_goByRulesab_3  Q n y4 M0 M1 M2 M3 → W p l e (headSpec wsX6_goByRules rmX6_goByRulesab).room s m ([.ref h0, .ref h1, .ref h2, .ref h3] : List Value).toArray below meth c H locs 0 0 (MQ below (va_Qv (fun (u : gS × gS × gS × gS) => Q u.1 u.2.1 u.2.2.1 u.2.2.2) (q2B dC dI cB cI cJ cZ h0 a0 h1 a1 h2 a2 h3 a3 A) A) ([.ref h0, .ref h1, .ref h2, .ref h3] : List Value).toArray s 0 0 A) (F0 m 3 ls []) := by
    intro  n
    induction n with
    | zero => intro y4 M0 M1 M2 M3 H locs ls hP hD hS hl h; exact absurd h (by simp [wX6_goByRulesab_3])
    | succ n hB30 =>
      intro y4 M0 M1 M2 M3 H locs ls hP hD hS hl h
      have hB3 := hB30
      rw [wX6_goByRulesab_3] at h
      refine lv_iload hx hb dX6_goByRules_3 (lv_at hl 4 rfl) ?_
      refine lv_sipush (v := (10000)) hx hb dX6_goByRules_5 (by decide) ?_
      refine lv_icmp_ge (tgt := 90) hx hb dX6_goByRules_8 (by decide) (fun c1 => ?_) (fun c1 => ?_)
      · have h := h.1 c1
        exact W.vret hx hb hr (fun t ht hW => ⟨⟨(M0, M1, M2, M3), rfl, h, by rw [ht]; exact hP, va_K.moved hW.alike hK, hD⟩, hS.F ht⟩) hS.2.2 dX6_goByRules_90
      · have h := h.2 c1
        refine lv_aload_n hx hb dX6_goByRules_11 rfl (lv_at hl 0 rfl) ?_
        refine va_get (D := (dC, dI)) (ci := 6) (v := .int (mg M0 0)) (C := RX6) (T := TX6) (N := 10) hx hb hts hinX6 hown hK hP 0 rfl rfl 0 (by decide) f1 (fun _ h9 => h9) rfl dX6_goByRules_12 ?_
        refine lv_if_eq (tgt := 90) hx hb dX6_goByRules_15 (by decide) (fun c2 => ?_) (fun c2 => ?_)
        · have h := h.1 c2
          exact W.vret hx hb hr (fun t ht hW => ⟨⟨(M0, M1, M2, M3), rfl, h, by rw [ht]; exact hP, va_K.moved hW.alike hK, hD⟩, hS.F ht⟩) hS.2.2 dX6_goByRules_90
        · have h := h.2 c2
          refine lv_aload_n hx hb dX6_goByRules_18 rfl (lv_at hl 0 rfl) ?_
          refine va_get (D := (dC, dI)) (ci := 6) (v := .int (mg M0 3)) (C := RX6) (T := TX6) (N := 10) hx hb hts hinX6 hown hK hP 0 rfl rfl 3 (by decide) f2 (fun _ h9 => h9) rfl dX6_goByRules_19 ?_
          refine lv_if_ne (tgt := 29) hx hb dX6_goByRules_22 (by decide) (fun c3 => ?_) (fun c3 => ?_)
          · have h := h.2 c3
            refine lv_aload_n hx hb dX6_goByRules_29 rfl (lv_at hl 3 rfl) ?_
            refine lv_astore (lv' := [(5, .ref h3), (0, .ref h0), (1, .ref h1), (2, .ref h2), (3, .ref h3), (4, .int y4)]) hx hb dX6_goByRules_30 hl (by decide) rfl (fun ls hl => ?_)
            refine lv_aload hx hb dX6_goByRules_32 (lv_at hl 0 rfl) ?_
            refine lv_ifnonnull (tgt := 41) hx hb dX6_goByRules_34 (by decide) ?_
            refine lv_aload hx hb dX6_goByRules_41 (lv_at hl 0 rfl) ?_
            refine lv_aload_n hx hb dX6_goByRules_43 rfl (lv_at hl 2 rfl) ?_
            refine lv_aload_n hx hb dX6_goByRules_44 rfl (lv_at hl 1 rfl) ?_
            have hPc := hP.sub (ws' := (rcW cB cI cJ cZ h3 a3 h1 a1 h0 a0 M3 M1 M0)) [13, 14, 15, 16, 17, 4, 5, 6, 7, 0, 1, 2, 3] rfl
            have hDc := hD.sub (ws' := (rcW cB cI cJ cZ h3 a3 h1 a1 h0 a0 M3 M1 M0)) [13, 14, 15, 16, 17, 4, 5, 6, 7, 0, 1, 2, 3] (by decide) rfl
            have hFc := va_free (wc := (rcW cB cI cJ cZ h3 a3 h1 a1 h0 a0 M3 M1 M0)) hD hS hA [13, 14, 15, 16, 17, 4, 5, 6, 7, 0, 1, 2, 3] rfl
            refine va_calli (va_runV (As := [.ref h1, .ref h0]) (rest := []) ⟨hx, hb, hml, hown, hts⟩ (kX8_choose l dC dI cB cI cJ cZ h3 a3 h1 a1 h0 a0 H.size  M3 M1 M0 _ h) (cwV 2 hts gX6_goByRules_X8_choose rfl rfl rfl (by decide +kernel) ⟨Nat.le_of_ble_eq_true rfl, Nat.le_of_ble_eq_true rfl⟩) (rcpV hK hPc hDc) rfl rfl hl.1 rfl (lv_room (Nat.le_of_ble_eq_true rfl)) dX6_goByRules_45 ⟨Nat.le_of_ble_eq_true rfl, Nat.le_of_ble_eq_true rfl⟩) hS (fun q _ z => hFc q z) hFc (fun r4 u t H1 locs ht hvm hw hB hz1 hk1 hS => ?_)
            obtain ⟨N5, N6, N7⟩ := u
            obtain ⟨hP1, hK1, hD1⟩ := hB
            rw [ht] at hP1
            obtain ⟨hP, hD⟩ := va_join (wr := [(h2, .inr (8, [.int (mg M2 0), .ref (a2 1), .ref (a2 2), .ref (a2 3), .int (mg M2 4), .ref (a2 5)])), (a2 1, .inl (cI, 12, .inl (ma M2 1))), (a2 2, .inl (cI, 12, .inl (ma M2 2))), (a2 3, .inl (cI, 400, .inl (ma M2 3))), (a2 5, .inl (cJ, 60, .inr (.inl (ml M2 5))))]) (w1 := (rcW cB cI cJ cZ h3 a3 h1 a1 h0 a0 N5 N6 N7)) hP hD [13, 14, 15, 16, 17, 4, 5, 6, 7, 0, 1, 2, 3] [8, 9, 10, 11, 12] rfl rfl (by decide) (by decide) hk1 hFc hP1 hD1
            have hP := hP.sub (ws' := (q2W cB cI cJ cZ h0 a0 h1 a1 h2 a2 h3 a3 N7 N6 M2 N5)) [14, 15, 16, 17, 10, 11, 12, 13, 0, 1, 2, 3, 4, 5, 6, 7, 8, 9] rfl
            have hD := hD.sub (ws' := (q2W cB cI cJ cZ h0 a0 h1 a1 h2 a2 h3 a3 N7 N6 M2 N5)) [14, 15, 16, 17, 10, 11, 12, 13, 0, 1, 2, 3, 4, 5, 6, 7, 8, 9] (by decide) rfl
            generalize H1 = H at hP hS ⊢
            have h := hw
            try dsimp only at h
            exact b48 _ hB3 y4 r4 N7 N6 M2 N5 H locs ls hP hD hS (lv_sub hl [1, 2, 3, 4, 5] rfl) h
          · have h := h.1 c3
            refine lv_aload_n hx hb dX6_goByRules_25 rfl (lv_at hl 2 rfl) ?_
            refine lv_goto (tgt := 30) hx hb dX6_goByRules_26 (by decide) ?_
            refine lv_astore (lv' := [(5, .ref h2), (0, .ref h0), (1, .ref h1), (2, .ref h2), (3, .ref h3), (4, .int y4)]) hx hb dX6_goByRules_30 hl (by decide) rfl (fun ls hl => ?_)
            refine lv_aload hx hb dX6_goByRules_32 (lv_at hl 0 rfl) ?_
            refine lv_ifnonnull (tgt := 41) hx hb dX6_goByRules_34 (by decide) ?_
            refine lv_aload hx hb dX6_goByRules_41 (lv_at hl 0 rfl) ?_
            refine lv_aload_n hx hb dX6_goByRules_43 rfl (lv_at hl 2 rfl) ?_
            refine lv_aload_n hx hb dX6_goByRules_44 rfl (lv_at hl 1 rfl) ?_
            have hPc := hP.sub (ws' := (rcW cB cI cJ cZ h2 a2 h1 a1 h0 a0 M2 M1 M0)) [8, 9, 10, 11, 12, 4, 5, 6, 7, 0, 1, 2, 3] rfl
            have hDc := hD.sub (ws' := (rcW cB cI cJ cZ h2 a2 h1 a1 h0 a0 M2 M1 M0)) [8, 9, 10, 11, 12, 4, 5, 6, 7, 0, 1, 2, 3] (by decide) rfl
            have hFc := va_free (wc := (rcW cB cI cJ cZ h2 a2 h1 a1 h0 a0 M2 M1 M0)) hD hS hA [8, 9, 10, 11, 12, 4, 5, 6, 7, 0, 1, 2, 3] rfl
            refine va_calli (va_runV (As := [.ref h1, .ref h0]) (rest := []) ⟨hx, hb, hml, hown, hts⟩ (kX8_choose l dC dI cB cI cJ cZ h2 a2 h1 a1 h0 a0 H.size  M2 M1 M0 _ h) (cwV 2 hts gX6_goByRules_X8_choose rfl rfl rfl (by decide +kernel) ⟨Nat.le_of_ble_eq_true rfl, Nat.le_of_ble_eq_true rfl⟩) (rcpV hK hPc hDc) rfl rfl hl.1 rfl (lv_room (Nat.le_of_ble_eq_true rfl)) dX6_goByRules_45 ⟨Nat.le_of_ble_eq_true rfl, Nat.le_of_ble_eq_true rfl⟩) hS (fun q _ z => hFc q z) hFc (fun r8 u t H1 locs ht hvm hw hB hz1 hk1 hS => ?_)
            obtain ⟨N9, N10, N11⟩ := u
            obtain ⟨hP1, hK1, hD1⟩ := hB
            rw [ht] at hP1
            obtain ⟨hP, hD⟩ := va_join (wr := [(h3, .inr (8, [.int (mg M3 0), .ref (a3 1), .ref (a3 2), .ref (a3 3), .int (mg M3 4), .ref (a3 5)])), (a3 1, .inl (cI, 12, .inl (ma M3 1))), (a3 2, .inl (cI, 12, .inl (ma M3 2))), (a3 3, .inl (cI, 400, .inl (ma M3 3))), (a3 5, .inl (cJ, 60, .inr (.inl (ml M3 5))))]) (w1 := (rcW cB cI cJ cZ h2 a2 h1 a1 h0 a0 N9 N10 N11)) hP hD [8, 9, 10, 11, 12, 4, 5, 6, 7, 0, 1, 2, 3] [13, 14, 15, 16, 17] rfl rfl (by decide) (by decide) hk1 hFc hP1 hD1
            have hP := hP.sub (ws' := (q2W cB cI cJ cZ h0 a0 h1 a1 h2 a2 h3 a3 N11 N10 N9 M3)) [14, 15, 16, 17, 10, 11, 12, 13, 5, 6, 7, 8, 9, 0, 1, 2, 3, 4] rfl
            have hD := hD.sub (ws' := (q2W cB cI cJ cZ h0 a0 h1 a1 h2 a2 h3 a3 N11 N10 N9 M3)) [14, 15, 16, 17, 10, 11, 12, 13, 5, 6, 7, 8, 9, 0, 1, 2, 3, 4] (by decide) rfl
            generalize H1 = H at hP hS ⊢
            have h := hw
            try dsimp only at h
            exact b48 _ hB3 y4 r8 N11 N10 N9 M3 H locs ls hP hD hS (lv_sub hl [1, 2, 3, 4, 5] rfl) h
  have bE : ∀ (M0 : gS) (M1 : gS) (M2 : gS) (M3 : gS) (H : Heap) (locs : List Loc) (ls : Array Slot), va_P (dC, dI) vwCl (q2W cB cI cJ cZ h0 a0 h1 a1 h2 a2 h3 a3 M0 M1 M2 M3) H → va_D A (q2W cB cI cJ cZ h0 a0 h1 a1 h2 a2 h3 a3 M0 M1 M2 M3) → va_S A s.heap H locs → lv_has ls 7 [(0, .ref h0), (1, .ref h1), (2, .ref h2), (3, .ref h3)] → wX6_goByRulesab  M0 M1 M2 M3 Q → W p l e (headSpec wsX6_goByRules rmX6_goByRulesab).room s m ([.ref h0, .ref h1, .ref h2, .ref h3] : List Value).toArray below meth c H locs 0 0 (MQ below (va_Qv (fun (u : gS × gS × gS × gS) => Q u.1 u.2.1 u.2.2.1 u.2.2.2) (q2B dC dI cB cI cJ cZ h0 a0 h1 a1 h2 a2 h3 a3 A) A) ([.ref h0, .ref h1, .ref h2, .ref h3] : List Value).toArray s 0 0 A) (F0 m 0 ls []) := by
    intro M0 M1 M2 M3 H locs ls hP hD hS hl h
    unfold wX6_goByRulesab at h
    refine lv_iconst (v := 0) hx hb dX6_goByRules_0 (by decide) ?_
    refine lv_istore (lv' := [(4, .int (0 : Int32)), (0, .ref h0), (1, .ref h1), (2, .ref h2), (3, .ref h3)]) hx hb dX6_goByRules_1 hl (by decide) rfl (fun ls hl => ?_)
    obtain ⟨n9, h⟩ := h
    exact b3  n9 (0 : Int32) M0 M1 M2 M3 H locs ls hP hD hS (lv_sub hl [1, 2, 3, 4, 0] rfl) h
  have hl := lv_entry ([.ref h0, .ref h1, .ref h2, .ref h3]) (n := 7) (Nat.le_of_ble_eq_true rfl)
  rw [lg_entry_eq]
  generalize (lg_sl ([.ref h0, .ref h1, .ref h2, .ref h3]) ++ List.replicate (7 - (lg_sl ([.ref h0, .ref h1, .ref h2, .ref h3])).length) Slot.unset).toArray = ls at hl ⊢
  have hl : lv_has ls 7 [(0, .ref h0), (1, .ref h1), (2, .ref h2), (3, .ref h3)] := hl
  exact bE M0 M1 M2 M3 s.heap [] ls hP hD hS hl h
