abbrev qrW (cB cI cJ cZ : ClassId) (h0 : Nat) (a0 : Nat → Nat) (M0 : gS) : va_W := [(h0, .inr (6, [.int (mg M0 0), .int (mg M0 1), .int (mg M0 2), .int (mg M0 3), .int (mg M0 4), .int (mg M0 5), .int (mg M0 6), .ref (a0 7), .ref (a0 8), .ref (a0 9)])), (a0 7, .inl (cI, 2, .inl (ma M0 7))), (a0 8, .inl (cI, 2, .inl (ma M0 8))), (a0 9, .inl (cI, 2, .inl (ma M0 9)))]
abbrev qrI (dC : Nat → ClassId) (dI : Nat → Nat → Nat) (cB cI cJ cZ : ClassId) (h0 : Nat) (a0 : Nat → Nat) (M0 : gS) (sz : Nat) : State → Prop := fun U => U.heap.size = sz ∧ va_P (dC, dI) vwCl (qrW cB cI cJ cZ h0 a0 M0) U.heap ∧ va_K (dC, dI) vwCl (gT cB cI cJ cZ) U ∧ va_D (fun _ => True) (qrW cB cI cJ cZ h0 a0 M0)
abbrev qrB (dC : Nat → ClassId) (dI : Nat → Nat → Nat) (cB cI cJ cZ : ClassId) (h0 : Nat) (a0 : Nat → Nat) (A : Nat → Prop) (u : gS) (t : State) : Prop := match u with
  | (M0) => va_P (dC, dI) vwCl (qrW cB cI cJ cZ h0 a0 M0) t.heap ∧ va_K (dC, dI) vwCl (gT cB cI cJ cZ) t ∧ va_D A (qrW cB cI cJ cZ h0 a0 M0)
theorem qrP_0_f0 {D : va_G} {H : Heap} {cB cI cJ cZ : ClassId} {h0 : Nat} {a0 : Nat → Nat} {M0 : gS} {v : Int32} (h : va_P D vwCl ((qrW cB cI cJ cZ h0 a0 M0).set 0 (h0, .inr (6, ([.int (mg M0 0), .int (mg M0 1), .int (mg M0 2), .int (mg M0 3), .int (mg M0 4), .int (mg M0 5), .int (mg M0 6), .ref (a0 7), .ref (a0 8), .ref (a0 9)]).set 0 (.int v)))) H) : va_P D vwCl (qrW cB cI cJ cZ h0 a0 (sg M0 0 v)) H := h
theorem qrD_0_f0 {A : Nat → Prop} {cB cI cJ cZ : ClassId} {h0 : Nat} {a0 : Nat → Nat} {M0 : gS} {v : Int32} (h : va_D A ((qrW cB cI cJ cZ h0 a0 M0).set 0 (h0, .inr (6, ([.int (mg M0 0), .int (mg M0 1), .int (mg M0 2), .int (mg M0 3), .int (mg M0 4), .int (mg M0 5), .int (mg M0 6), .ref (a0 7), .ref (a0 8), .ref (a0 9)]).set 0 (.int v))))) : va_D A (qrW cB cI cJ cZ h0 a0 (sg M0 0 v)) := h
theorem qrP_0_f1 {D : va_G} {H : Heap} {cB cI cJ cZ : ClassId} {h0 : Nat} {a0 : Nat → Nat} {M0 : gS} {v : Int32} (h : va_P D vwCl ((qrW cB cI cJ cZ h0 a0 M0).set 0 (h0, .inr (6, ([.int (mg M0 0), .int (mg M0 1), .int (mg M0 2), .int (mg M0 3), .int (mg M0 4), .int (mg M0 5), .int (mg M0 6), .ref (a0 7), .ref (a0 8), .ref (a0 9)]).set 1 (.int v)))) H) : va_P D vwCl (qrW cB cI cJ cZ h0 a0 (sg M0 1 v)) H := h
theorem qrD_0_f1 {A : Nat → Prop} {cB cI cJ cZ : ClassId} {h0 : Nat} {a0 : Nat → Nat} {M0 : gS} {v : Int32} (h : va_D A ((qrW cB cI cJ cZ h0 a0 M0).set 0 (h0, .inr (6, ([.int (mg M0 0), .int (mg M0 1), .int (mg M0 2), .int (mg M0 3), .int (mg M0 4), .int (mg M0 5), .int (mg M0 6), .ref (a0 7), .ref (a0 8), .ref (a0 9)]).set 1 (.int v))))) : va_D A (qrW cB cI cJ cZ h0 a0 (sg M0 1 v)) := h
theorem qrP_0_f2 {D : va_G} {H : Heap} {cB cI cJ cZ : ClassId} {h0 : Nat} {a0 : Nat → Nat} {M0 : gS} {v : Int32} (h : va_P D vwCl ((qrW cB cI cJ cZ h0 a0 M0).set 0 (h0, .inr (6, ([.int (mg M0 0), .int (mg M0 1), .int (mg M0 2), .int (mg M0 3), .int (mg M0 4), .int (mg M0 5), .int (mg M0 6), .ref (a0 7), .ref (a0 8), .ref (a0 9)]).set 2 (.int v)))) H) : va_P D vwCl (qrW cB cI cJ cZ h0 a0 (sg M0 2 v)) H := h
theorem qrD_0_f2 {A : Nat → Prop} {cB cI cJ cZ : ClassId} {h0 : Nat} {a0 : Nat → Nat} {M0 : gS} {v : Int32} (h : va_D A ((qrW cB cI cJ cZ h0 a0 M0).set 0 (h0, .inr (6, ([.int (mg M0 0), .int (mg M0 1), .int (mg M0 2), .int (mg M0 3), .int (mg M0 4), .int (mg M0 5), .int (mg M0 6), .ref (a0 7), .ref (a0 8), .ref (a0 9)]).set 2 (.int v))))) : va_D A (qrW cB cI cJ cZ h0 a0 (sg M0 2 v)) := h
theorem qrP_0_f3 {D : va_G} {H : Heap} {cB cI cJ cZ : ClassId} {h0 : Nat} {a0 : Nat → Nat} {M0 : gS} {v : Int32} (h : va_P D vwCl ((qrW cB cI cJ cZ h0 a0 M0).set 0 (h0, .inr (6, ([.int (mg M0 0), .int (mg M0 1), .int (mg M0 2), .int (mg M0 3), .int (mg M0 4), .int (mg M0 5), .int (mg M0 6), .ref (a0 7), .ref (a0 8), .ref (a0 9)]).set 3 (.int v)))) H) : va_P D vwCl (qrW cB cI cJ cZ h0 a0 (sg M0 3 v)) H := h
theorem qrD_0_f3 {A : Nat → Prop} {cB cI cJ cZ : ClassId} {h0 : Nat} {a0 : Nat → Nat} {M0 : gS} {v : Int32} (h : va_D A ((qrW cB cI cJ cZ h0 a0 M0).set 0 (h0, .inr (6, ([.int (mg M0 0), .int (mg M0 1), .int (mg M0 2), .int (mg M0 3), .int (mg M0 4), .int (mg M0 5), .int (mg M0 6), .ref (a0 7), .ref (a0 8), .ref (a0 9)]).set 3 (.int v))))) : va_D A (qrW cB cI cJ cZ h0 a0 (sg M0 3 v)) := h
theorem qrP_0_f4 {D : va_G} {H : Heap} {cB cI cJ cZ : ClassId} {h0 : Nat} {a0 : Nat → Nat} {M0 : gS} {v : Int32} (h : va_P D vwCl ((qrW cB cI cJ cZ h0 a0 M0).set 0 (h0, .inr (6, ([.int (mg M0 0), .int (mg M0 1), .int (mg M0 2), .int (mg M0 3), .int (mg M0 4), .int (mg M0 5), .int (mg M0 6), .ref (a0 7), .ref (a0 8), .ref (a0 9)]).set 4 (.int v)))) H) : va_P D vwCl (qrW cB cI cJ cZ h0 a0 (sg M0 4 v)) H := h
theorem qrD_0_f4 {A : Nat → Prop} {cB cI cJ cZ : ClassId} {h0 : Nat} {a0 : Nat → Nat} {M0 : gS} {v : Int32} (h : va_D A ((qrW cB cI cJ cZ h0 a0 M0).set 0 (h0, .inr (6, ([.int (mg M0 0), .int (mg M0 1), .int (mg M0 2), .int (mg M0 3), .int (mg M0 4), .int (mg M0 5), .int (mg M0 6), .ref (a0 7), .ref (a0 8), .ref (a0 9)]).set 4 (.int v))))) : va_D A (qrW cB cI cJ cZ h0 a0 (sg M0 4 v)) := h
theorem qrP_0_f5 {D : va_G} {H : Heap} {cB cI cJ cZ : ClassId} {h0 : Nat} {a0 : Nat → Nat} {M0 : gS} {v : Int32} (h : va_P D vwCl ((qrW cB cI cJ cZ h0 a0 M0).set 0 (h0, .inr (6, ([.int (mg M0 0), .int (mg M0 1), .int (mg M0 2), .int (mg M0 3), .int (mg M0 4), .int (mg M0 5), .int (mg M0 6), .ref (a0 7), .ref (a0 8), .ref (a0 9)]).set 5 (.int v)))) H) : va_P D vwCl (qrW cB cI cJ cZ h0 a0 (sg M0 5 v)) H := h
theorem qrD_0_f5 {A : Nat → Prop} {cB cI cJ cZ : ClassId} {h0 : Nat} {a0 : Nat → Nat} {M0 : gS} {v : Int32} (h : va_D A ((qrW cB cI cJ cZ h0 a0 M0).set 0 (h0, .inr (6, ([.int (mg M0 0), .int (mg M0 1), .int (mg M0 2), .int (mg M0 3), .int (mg M0 4), .int (mg M0 5), .int (mg M0 6), .ref (a0 7), .ref (a0 8), .ref (a0 9)]).set 5 (.int v))))) : va_D A (qrW cB cI cJ cZ h0 a0 (sg M0 5 v)) := h
theorem qrP_0_f6 {D : va_G} {H : Heap} {cB cI cJ cZ : ClassId} {h0 : Nat} {a0 : Nat → Nat} {M0 : gS} {v : Int32} (h : va_P D vwCl ((qrW cB cI cJ cZ h0 a0 M0).set 0 (h0, .inr (6, ([.int (mg M0 0), .int (mg M0 1), .int (mg M0 2), .int (mg M0 3), .int (mg M0 4), .int (mg M0 5), .int (mg M0 6), .ref (a0 7), .ref (a0 8), .ref (a0 9)]).set 6 (.int v)))) H) : va_P D vwCl (qrW cB cI cJ cZ h0 a0 (sg M0 6 v)) H := h
theorem qrD_0_f6 {A : Nat → Prop} {cB cI cJ cZ : ClassId} {h0 : Nat} {a0 : Nat → Nat} {M0 : gS} {v : Int32} (h : va_D A ((qrW cB cI cJ cZ h0 a0 M0).set 0 (h0, .inr (6, ([.int (mg M0 0), .int (mg M0 1), .int (mg M0 2), .int (mg M0 3), .int (mg M0 4), .int (mg M0 5), .int (mg M0 6), .ref (a0 7), .ref (a0 8), .ref (a0 9)]).set 6 (.int v))))) : va_D A (qrW cB cI cJ cZ h0 a0 (sg M0 6 v)) := h
theorem qrP_0_a7 {D : va_G} {H : Heap} {cB cI cJ cZ : ClassId} {h0 : Nat} {a0 : Nat → Nat} {M0 : gS} {j : Nat} {v : Int32} (h : va_P D vwCl ((qrW cB cI cJ cZ h0 a0 M0).set 1 (a0 7, .inl (cI, 2, .inl (upd (ma M0 7) j v)))) H) : va_P D vwCl (qrW cB cI cJ cZ h0 a0 (sa M0 7 j v)) H := h
theorem qrD_0_a7 {A : Nat → Prop} {cB cI cJ cZ : ClassId} {h0 : Nat} {a0 : Nat → Nat} {M0 : gS} {j : Nat} {v : Int32} (h : va_D A ((qrW cB cI cJ cZ h0 a0 M0).set 1 (a0 7, .inl (cI, 2, .inl (upd (ma M0 7) j v))))) : va_D A (qrW cB cI cJ cZ h0 a0 (sa M0 7 j v)) := h
theorem qrP_0_c7 {D : va_G} {H : Heap} {cB cI cJ cZ : ClassId} {h0 : Nat} {a0 : Nat → Nat} {M0 : gS} {f : Nat → Int32} (h : va_P D vwCl ((qrW cB cI cJ cZ h0 a0 M0).set 1 (a0 7, .inl (cI, 2, .inl f))) H) : va_P D vwCl (qrW cB cI cJ cZ h0 a0 (sF M0 7 f)) H := h
theorem qrD_0_c7 {A : Nat → Prop} {cB cI cJ cZ : ClassId} {h0 : Nat} {a0 : Nat → Nat} {M0 : gS} {f : Nat → Int32} (h : va_D A ((qrW cB cI cJ cZ h0 a0 M0).set 1 (a0 7, .inl (cI, 2, .inl f)))) : va_D A (qrW cB cI cJ cZ h0 a0 (sF M0 7 f)) := h
theorem qrP_0_a8 {D : va_G} {H : Heap} {cB cI cJ cZ : ClassId} {h0 : Nat} {a0 : Nat → Nat} {M0 : gS} {j : Nat} {v : Int32} (h : va_P D vwCl ((qrW cB cI cJ cZ h0 a0 M0).set 2 (a0 8, .inl (cI, 2, .inl (upd (ma M0 8) j v)))) H) : va_P D vwCl (qrW cB cI cJ cZ h0 a0 (sa M0 8 j v)) H := h
theorem qrD_0_a8 {A : Nat → Prop} {cB cI cJ cZ : ClassId} {h0 : Nat} {a0 : Nat → Nat} {M0 : gS} {j : Nat} {v : Int32} (h : va_D A ((qrW cB cI cJ cZ h0 a0 M0).set 2 (a0 8, .inl (cI, 2, .inl (upd (ma M0 8) j v))))) : va_D A (qrW cB cI cJ cZ h0 a0 (sa M0 8 j v)) := h
theorem qrP_0_c8 {D : va_G} {H : Heap} {cB cI cJ cZ : ClassId} {h0 : Nat} {a0 : Nat → Nat} {M0 : gS} {f : Nat → Int32} (h : va_P D vwCl ((qrW cB cI cJ cZ h0 a0 M0).set 2 (a0 8, .inl (cI, 2, .inl f))) H) : va_P D vwCl (qrW cB cI cJ cZ h0 a0 (sF M0 8 f)) H := h
theorem qrD_0_c8 {A : Nat → Prop} {cB cI cJ cZ : ClassId} {h0 : Nat} {a0 : Nat → Nat} {M0 : gS} {f : Nat → Int32} (h : va_D A ((qrW cB cI cJ cZ h0 a0 M0).set 2 (a0 8, .inl (cI, 2, .inl f)))) : va_D A (qrW cB cI cJ cZ h0 a0 (sF M0 8 f)) := h
theorem qrP_0_a9 {D : va_G} {H : Heap} {cB cI cJ cZ : ClassId} {h0 : Nat} {a0 : Nat → Nat} {M0 : gS} {j : Nat} {v : Int32} (h : va_P D vwCl ((qrW cB cI cJ cZ h0 a0 M0).set 3 (a0 9, .inl (cI, 2, .inl (upd (ma M0 9) j v)))) H) : va_P D vwCl (qrW cB cI cJ cZ h0 a0 (sa M0 9 j v)) H := h
theorem qrD_0_a9 {A : Nat → Prop} {cB cI cJ cZ : ClassId} {h0 : Nat} {a0 : Nat → Nat} {M0 : gS} {j : Nat} {v : Int32} (h : va_D A ((qrW cB cI cJ cZ h0 a0 M0).set 3 (a0 9, .inl (cI, 2, .inl (upd (ma M0 9) j v))))) : va_D A (qrW cB cI cJ cZ h0 a0 (sa M0 9 j v)) := h
theorem qrP_0_c9 {D : va_G} {H : Heap} {cB cI cJ cZ : ClassId} {h0 : Nat} {a0 : Nat → Nat} {M0 : gS} {f : Nat → Int32} (h : va_P D vwCl ((qrW cB cI cJ cZ h0 a0 M0).set 3 (a0 9, .inl (cI, 2, .inl f))) H) : va_P D vwCl (qrW cB cI cJ cZ h0 a0 (sF M0 9 f)) H := h
theorem qrD_0_c9 {A : Nat → Prop} {cB cI cJ cZ : ClassId} {h0 : Nat} {a0 : Nat → Nat} {M0 : gS} {f : Nat → Int32} (h : va_D A ((qrW cB cI cJ cZ h0 a0 M0).set 3 (a0 9, .inl (cI, 2, .inl f)))) : va_D A (qrW cB cI cJ cZ h0 a0 (sF M0 9 f)) := h
theorem qrpV {s : State} {dC : Nat → ClassId} {dI : Nat → Nat → Nat} {A : Nat → Prop} {cB cI cJ cZ : ClassId} {h0 : Nat} {a0 : Nat → Nat} {M0 : gS} {H : Heap} {As : List Value} (hK : va_K (dC, dI) vwCl (gT cB cI cJ cZ) s) (hP : va_P (dC, dI) vwCl (qrW cB cI cJ cZ h0 a0 M0) H) (hD : va_D A (qrW cB cI cJ cZ h0 a0 M0)) : PreV s H RX6 h0 (va_Pc (.ref h0 :: As) (qrI dC dI cB cI cJ cZ h0 a0 M0 H.size)) As := ⟨fun a U g mk q => by obtain ⟨q0, q1, qP, qK, qD⟩ := q; exact ⟨q0, q1, qP, va_K.moved (u := U) (U := U.calling g mk a) (Vm.Alike.refl U.vm) qK, qD⟩, va_recv hK hP (ci := 6) (q0 := 0) rfl rfl, fun U hU hW => ⟨rfl, by rw [hU], by rw [hU]; exact hP, va_K.moved hW.alike hK, hD.weaken (fun _ _ _ _ => trivial)⟩⟩
theorem qrpS {s : State} {dC : Nat → ClassId} {dI : Nat → Nat → Nat} {A : Nat → Prop} {cB cI cJ cZ : ClassId} {h0 : Nat} {a0 : Nat → Nat} {M0 : gS} {H : Heap} {As : List Value} (hK : va_K (dC, dI) vwCl (gT cB cI cJ cZ) s) (hP : va_P (dC, dI) vwCl (qrW cB cI cJ cZ h0 a0 M0) H) (hD : va_D A (qrW cB cI cJ cZ h0 a0 M0)) : PreS s H (va_Pc As (qrI dC dI cB cI cJ cZ h0 a0 M0 H.size)) As := ⟨fun a U g mk q => by obtain ⟨q0, q1, qP, qK, qD⟩ := q; exact ⟨q0, q1, qP, va_K.moved (u := U) (U := U.calling g mk a) (Vm.Alike.refl U.vm) qK, qD⟩, fun U hU hW => ⟨rfl, by rw [hU], by rw [hU]; exact hP, va_K.moved hW.alike hK, hD.weaken (fun _ _ _ _ => trivial)⟩⟩

abbrev qkW (cB cI cJ cZ : ClassId) (h0 : Nat) (a0 : Nat → Nat) (h1 : Nat) (a1 : Nat → Nat) (M0 : gS) (M1 : gS) : va_W := [(h0, .inr (6, [.int (mg M0 0), .int (mg M0 1), .int (mg M0 2), .int (mg M0 3), .int (mg M0 4), .int (mg M0 5), .int (mg M0 6), .ref (a0 7), .ref (a0 8), .ref (a0 9)])), (a0 7, .inl (cI, 2, .inl (ma M0 7))), (a0 8, .inl (cI, 2, .inl (ma M0 8))), (a0 9, .inl (cI, 2, .inl (ma M0 9))), (h1, .inr (6, [.int (mg M1 0), .int (mg M1 1), .int (mg M1 2), .int (mg M1 3), .int (mg M1 4), .int (mg M1 5), .int (mg M1 6), .ref (a1 7), .ref (a1 8), .ref (a1 9)])), (a1 7, .inl (cI, 2, .inl (ma M1 7))), (a1 8, .inl (cI, 2, .inl (ma M1 8))), (a1 9, .inl (cI, 2, .inl (ma M1 9)))]
abbrev qkI (dC : Nat → ClassId) (dI : Nat → Nat → Nat) (cB cI cJ cZ : ClassId) (h0 : Nat) (a0 : Nat → Nat) (h1 : Nat) (a1 : Nat → Nat) (M0 : gS) (M1 : gS) (sz : Nat) : State → Prop := fun U => U.heap.size = sz ∧ va_P (dC, dI) vwCl (qkW cB cI cJ cZ h0 a0 h1 a1 M0 M1) U.heap ∧ va_K (dC, dI) vwCl (gT cB cI cJ cZ) U ∧ va_D (fun _ => True) (qkW cB cI cJ cZ h0 a0 h1 a1 M0 M1)
abbrev qkB (dC : Nat → ClassId) (dI : Nat → Nat → Nat) (cB cI cJ cZ : ClassId) (h0 : Nat) (a0 : Nat → Nat) (h1 : Nat) (a1 : Nat → Nat) (A : Nat → Prop) (u : gS × gS) (t : State) : Prop := match u with
  | (M0, M1) => va_P (dC, dI) vwCl (qkW cB cI cJ cZ h0 a0 h1 a1 M0 M1) t.heap ∧ va_K (dC, dI) vwCl (gT cB cI cJ cZ) t ∧ va_D A (qkW cB cI cJ cZ h0 a0 h1 a1 M0 M1)
theorem qkP_0_f0 {D : va_G} {H : Heap} {cB cI cJ cZ : ClassId} {h0 : Nat} {a0 : Nat → Nat} {h1 : Nat} {a1 : Nat → Nat} {M0 : gS} {M1 : gS} {v : Int32} (h : va_P D vwCl ((qkW cB cI cJ cZ h0 a0 h1 a1 M0 M1).set 0 (h0, .inr (6, ([.int (mg M0 0), .int (mg M0 1), .int (mg M0 2), .int (mg M0 3), .int (mg M0 4), .int (mg M0 5), .int (mg M0 6), .ref (a0 7), .ref (a0 8), .ref (a0 9)]).set 0 (.int v)))) H) : va_P D vwCl (qkW cB cI cJ cZ h0 a0 h1 a1 (sg M0 0 v) M1) H := h
theorem qkD_0_f0 {A : Nat → Prop} {cB cI cJ cZ : ClassId} {h0 : Nat} {a0 : Nat → Nat} {h1 : Nat} {a1 : Nat → Nat} {M0 : gS} {M1 : gS} {v : Int32} (h : va_D A ((qkW cB cI cJ cZ h0 a0 h1 a1 M0 M1).set 0 (h0, .inr (6, ([.int (mg M0 0), .int (mg M0 1), .int (mg M0 2), .int (mg M0 3), .int (mg M0 4), .int (mg M0 5), .int (mg M0 6), .ref (a0 7), .ref (a0 8), .ref (a0 9)]).set 0 (.int v))))) : va_D A (qkW cB cI cJ cZ h0 a0 h1 a1 (sg M0 0 v) M1) := h
theorem qkP_0_f1 {D : va_G} {H : Heap} {cB cI cJ cZ : ClassId} {h0 : Nat} {a0 : Nat → Nat} {h1 : Nat} {a1 : Nat → Nat} {M0 : gS} {M1 : gS} {v : Int32} (h : va_P D vwCl ((qkW cB cI cJ cZ h0 a0 h1 a1 M0 M1).set 0 (h0, .inr (6, ([.int (mg M0 0), .int (mg M0 1), .int (mg M0 2), .int (mg M0 3), .int (mg M0 4), .int (mg M0 5), .int (mg M0 6), .ref (a0 7), .ref (a0 8), .ref (a0 9)]).set 1 (.int v)))) H) : va_P D vwCl (qkW cB cI cJ cZ h0 a0 h1 a1 (sg M0 1 v) M1) H := h
theorem qkD_0_f1 {A : Nat → Prop} {cB cI cJ cZ : ClassId} {h0 : Nat} {a0 : Nat → Nat} {h1 : Nat} {a1 : Nat → Nat} {M0 : gS} {M1 : gS} {v : Int32} (h : va_D A ((qkW cB cI cJ cZ h0 a0 h1 a1 M0 M1).set 0 (h0, .inr (6, ([.int (mg M0 0), .int (mg M0 1), .int (mg M0 2), .int (mg M0 3), .int (mg M0 4), .int (mg M0 5), .int (mg M0 6), .ref (a0 7), .ref (a0 8), .ref (a0 9)]).set 1 (.int v))))) : va_D A (qkW cB cI cJ cZ h0 a0 h1 a1 (sg M0 1 v) M1) := h
theorem qkP_0_f2 {D : va_G} {H : Heap} {cB cI cJ cZ : ClassId} {h0 : Nat} {a0 : Nat → Nat} {h1 : Nat} {a1 : Nat → Nat} {M0 : gS} {M1 : gS} {v : Int32} (h : va_P D vwCl ((qkW cB cI cJ cZ h0 a0 h1 a1 M0 M1).set 0 (h0, .inr (6, ([.int (mg M0 0), .int (mg M0 1), .int (mg M0 2), .int (mg M0 3), .int (mg M0 4), .int (mg M0 5), .int (mg M0 6), .ref (a0 7), .ref (a0 8), .ref (a0 9)]).set 2 (.int v)))) H) : va_P D vwCl (qkW cB cI cJ cZ h0 a0 h1 a1 (sg M0 2 v) M1) H := h
theorem qkD_0_f2 {A : Nat → Prop} {cB cI cJ cZ : ClassId} {h0 : Nat} {a0 : Nat → Nat} {h1 : Nat} {a1 : Nat → Nat} {M0 : gS} {M1 : gS} {v : Int32} (h : va_D A ((qkW cB cI cJ cZ h0 a0 h1 a1 M0 M1).set 0 (h0, .inr (6, ([.int (mg M0 0), .int (mg M0 1), .int (mg M0 2), .int (mg M0 3), .int (mg M0 4), .int (mg M0 5), .int (mg M0 6), .ref (a0 7), .ref (a0 8), .ref (a0 9)]).set 2 (.int v))))) : va_D A (qkW cB cI cJ cZ h0 a0 h1 a1 (sg M0 2 v) M1) := h
theorem qkP_0_f3 {D : va_G} {H : Heap} {cB cI cJ cZ : ClassId} {h0 : Nat} {a0 : Nat → Nat} {h1 : Nat} {a1 : Nat → Nat} {M0 : gS} {M1 : gS} {v : Int32} (h : va_P D vwCl ((qkW cB cI cJ cZ h0 a0 h1 a1 M0 M1).set 0 (h0, .inr (6, ([.int (mg M0 0), .int (mg M0 1), .int (mg M0 2), .int (mg M0 3), .int (mg M0 4), .int (mg M0 5), .int (mg M0 6), .ref (a0 7), .ref (a0 8), .ref (a0 9)]).set 3 (.int v)))) H) : va_P D vwCl (qkW cB cI cJ cZ h0 a0 h1 a1 (sg M0 3 v) M1) H := h
theorem qkD_0_f3 {A : Nat → Prop} {cB cI cJ cZ : ClassId} {h0 : Nat} {a0 : Nat → Nat} {h1 : Nat} {a1 : Nat → Nat} {M0 : gS} {M1 : gS} {v : Int32} (h : va_D A ((qkW cB cI cJ cZ h0 a0 h1 a1 M0 M1).set 0 (h0, .inr (6, ([.int (mg M0 0), .int (mg M0 1), .int (mg M0 2), .int (mg M0 3), .int (mg M0 4), .int (mg M0 5), .int (mg M0 6), .ref (a0 7), .ref (a0 8), .ref (a0 9)]).set 3 (.int v))))) : va_D A (qkW cB cI cJ cZ h0 a0 h1 a1 (sg M0 3 v) M1) := h
theorem qkP_0_f4 {D : va_G} {H : Heap} {cB cI cJ cZ : ClassId} {h0 : Nat} {a0 : Nat → Nat} {h1 : Nat} {a1 : Nat → Nat} {M0 : gS} {M1 : gS} {v : Int32} (h : va_P D vwCl ((qkW cB cI cJ cZ h0 a0 h1 a1 M0 M1).set 0 (h0, .inr (6, ([.int (mg M0 0), .int (mg M0 1), .int (mg M0 2), .int (mg M0 3), .int (mg M0 4), .int (mg M0 5), .int (mg M0 6), .ref (a0 7), .ref (a0 8), .ref (a0 9)]).set 4 (.int v)))) H) : va_P D vwCl (qkW cB cI cJ cZ h0 a0 h1 a1 (sg M0 4 v) M1) H := h
theorem qkD_0_f4 {A : Nat → Prop} {cB cI cJ cZ : ClassId} {h0 : Nat} {a0 : Nat → Nat} {h1 : Nat} {a1 : Nat → Nat} {M0 : gS} {M1 : gS} {v : Int32} (h : va_D A ((qkW cB cI cJ cZ h0 a0 h1 a1 M0 M1).set 0 (h0, .inr (6, ([.int (mg M0 0), .int (mg M0 1), .int (mg M0 2), .int (mg M0 3), .int (mg M0 4), .int (mg M0 5), .int (mg M0 6), .ref (a0 7), .ref (a0 8), .ref (a0 9)]).set 4 (.int v))))) : va_D A (qkW cB cI cJ cZ h0 a0 h1 a1 (sg M0 4 v) M1) := h
theorem qkP_0_f5 {D : va_G} {H : Heap} {cB cI cJ cZ : ClassId} {h0 : Nat} {a0 : Nat → Nat} {h1 : Nat} {a1 : Nat → Nat} {M0 : gS} {M1 : gS} {v : Int32} (h : va_P D vwCl ((qkW cB cI cJ cZ h0 a0 h1 a1 M0 M1).set 0 (h0, .inr (6, ([.int (mg M0 0), .int (mg M0 1), .int (mg M0 2), .int (mg M0 3), .int (mg M0 4), .int (mg M0 5), .int (mg M0 6), .ref (a0 7), .ref (a0 8), .ref (a0 9)]).set 5 (.int v)))) H) : va_P D vwCl (qkW cB cI cJ cZ h0 a0 h1 a1 (sg M0 5 v) M1) H := h
theorem qkD_0_f5 {A : Nat → Prop} {cB cI cJ cZ : ClassId} {h0 : Nat} {a0 : Nat → Nat} {h1 : Nat} {a1 : Nat → Nat} {M0 : gS} {M1 : gS} {v : Int32} (h : va_D A ((qkW cB cI cJ cZ h0 a0 h1 a1 M0 M1).set 0 (h0, .inr (6, ([.int (mg M0 0), .int (mg M0 1), .int (mg M0 2), .int (mg M0 3), .int (mg M0 4), .int (mg M0 5), .int (mg M0 6), .ref (a0 7), .ref (a0 8), .ref (a0 9)]).set 5 (.int v))))) : va_D A (qkW cB cI cJ cZ h0 a0 h1 a1 (sg M0 5 v) M1) := h
theorem qkP_0_f6 {D : va_G} {H : Heap} {cB cI cJ cZ : ClassId} {h0 : Nat} {a0 : Nat → Nat} {h1 : Nat} {a1 : Nat → Nat} {M0 : gS} {M1 : gS} {v : Int32} (h : va_P D vwCl ((qkW cB cI cJ cZ h0 a0 h1 a1 M0 M1).set 0 (h0, .inr (6, ([.int (mg M0 0), .int (mg M0 1), .int (mg M0 2), .int (mg M0 3), .int (mg M0 4), .int (mg M0 5), .int (mg M0 6), .ref (a0 7), .ref (a0 8), .ref (a0 9)]).set 6 (.int v)))) H) : va_P D vwCl (qkW cB cI cJ cZ h0 a0 h1 a1 (sg M0 6 v) M1) H := h
theorem qkD_0_f6 {A : Nat → Prop} {cB cI cJ cZ : ClassId} {h0 : Nat} {a0 : Nat → Nat} {h1 : Nat} {a1 : Nat → Nat} {M0 : gS} {M1 : gS} {v : Int32} (h : va_D A ((qkW cB cI cJ cZ h0 a0 h1 a1 M0 M1).set 0 (h0, .inr (6, ([.int (mg M0 0), .int (mg M0 1), .int (mg M0 2), .int (mg M0 3), .int (mg M0 4), .int (mg M0 5), .int (mg M0 6), .ref (a0 7), .ref (a0 8), .ref (a0 9)]).set 6 (.int v))))) : va_D A (qkW cB cI cJ cZ h0 a0 h1 a1 (sg M0 6 v) M1) := h
theorem qkP_0_a7 {D : va_G} {H : Heap} {cB cI cJ cZ : ClassId} {h0 : Nat} {a0 : Nat → Nat} {h1 : Nat} {a1 : Nat → Nat} {M0 : gS} {M1 : gS} {j : Nat} {v : Int32} (h : va_P D vwCl ((qkW cB cI cJ cZ h0 a0 h1 a1 M0 M1).set 1 (a0 7, .inl (cI, 2, .inl (upd (ma M0 7) j v)))) H) : va_P D vwCl (qkW cB cI cJ cZ h0 a0 h1 a1 (sa M0 7 j v) M1) H := h
theorem qkD_0_a7 {A : Nat → Prop} {cB cI cJ cZ : ClassId} {h0 : Nat} {a0 : Nat → Nat} {h1 : Nat} {a1 : Nat → Nat} {M0 : gS} {M1 : gS} {j : Nat} {v : Int32} (h : va_D A ((qkW cB cI cJ cZ h0 a0 h1 a1 M0 M1).set 1 (a0 7, .inl (cI, 2, .inl (upd (ma M0 7) j v))))) : va_D A (qkW cB cI cJ cZ h0 a0 h1 a1 (sa M0 7 j v) M1) := h
theorem qkP_0_c7 {D : va_G} {H : Heap} {cB cI cJ cZ : ClassId} {h0 : Nat} {a0 : Nat → Nat} {h1 : Nat} {a1 : Nat → Nat} {M0 : gS} {M1 : gS} {f : Nat → Int32} (h : va_P D vwCl ((qkW cB cI cJ cZ h0 a0 h1 a1 M0 M1).set 1 (a0 7, .inl (cI, 2, .inl f))) H) : va_P D vwCl (qkW cB cI cJ cZ h0 a0 h1 a1 (sF M0 7 f) M1) H := h
theorem qkD_0_c7 {A : Nat → Prop} {cB cI cJ cZ : ClassId} {h0 : Nat} {a0 : Nat → Nat} {h1 : Nat} {a1 : Nat → Nat} {M0 : gS} {M1 : gS} {f : Nat → Int32} (h : va_D A ((qkW cB cI cJ cZ h0 a0 h1 a1 M0 M1).set 1 (a0 7, .inl (cI, 2, .inl f)))) : va_D A (qkW cB cI cJ cZ h0 a0 h1 a1 (sF M0 7 f) M1) := h
theorem qkP_0_a8 {D : va_G} {H : Heap} {cB cI cJ cZ : ClassId} {h0 : Nat} {a0 : Nat → Nat} {h1 : Nat} {a1 : Nat → Nat} {M0 : gS} {M1 : gS} {j : Nat} {v : Int32} (h : va_P D vwCl ((qkW cB cI cJ cZ h0 a0 h1 a1 M0 M1).set 2 (a0 8, .inl (cI, 2, .inl (upd (ma M0 8) j v)))) H) : va_P D vwCl (qkW cB cI cJ cZ h0 a0 h1 a1 (sa M0 8 j v) M1) H := h
theorem qkD_0_a8 {A : Nat → Prop} {cB cI cJ cZ : ClassId} {h0 : Nat} {a0 : Nat → Nat} {h1 : Nat} {a1 : Nat → Nat} {M0 : gS} {M1 : gS} {j : Nat} {v : Int32} (h : va_D A ((qkW cB cI cJ cZ h0 a0 h1 a1 M0 M1).set 2 (a0 8, .inl (cI, 2, .inl (upd (ma M0 8) j v))))) : va_D A (qkW cB cI cJ cZ h0 a0 h1 a1 (sa M0 8 j v) M1) := h
theorem qkP_0_c8 {D : va_G} {H : Heap} {cB cI cJ cZ : ClassId} {h0 : Nat} {a0 : Nat → Nat} {h1 : Nat} {a1 : Nat → Nat} {M0 : gS} {M1 : gS} {f : Nat → Int32} (h : va_P D vwCl ((qkW cB cI cJ cZ h0 a0 h1 a1 M0 M1).set 2 (a0 8, .inl (cI, 2, .inl f))) H) : va_P D vwCl (qkW cB cI cJ cZ h0 a0 h1 a1 (sF M0 8 f) M1) H := h
theorem qkD_0_c8 {A : Nat → Prop} {cB cI cJ cZ : ClassId} {h0 : Nat} {a0 : Nat → Nat} {h1 : Nat} {a1 : Nat → Nat} {M0 : gS} {M1 : gS} {f : Nat → Int32} (h : va_D A ((qkW cB cI cJ cZ h0 a0 h1 a1 M0 M1).set 2 (a0 8, .inl (cI, 2, .inl f)))) : va_D A (qkW cB cI cJ cZ h0 a0 h1 a1 (sF M0 8 f) M1) := h
theorem qkP_0_a9 {D : va_G} {H : Heap} {cB cI cJ cZ : ClassId} {h0 : Nat} {a0 : Nat → Nat} {h1 : Nat} {a1 : Nat → Nat} {M0 : gS} {M1 : gS} {j : Nat} {v : Int32} (h : va_P D vwCl ((qkW cB cI cJ cZ h0 a0 h1 a1 M0 M1).set 3 (a0 9, .inl (cI, 2, .inl (upd (ma M0 9) j v)))) H) : va_P D vwCl (qkW cB cI cJ cZ h0 a0 h1 a1 (sa M0 9 j v) M1) H := h
theorem qkD_0_a9 {A : Nat → Prop} {cB cI cJ cZ : ClassId} {h0 : Nat} {a0 : Nat → Nat} {h1 : Nat} {a1 : Nat → Nat} {M0 : gS} {M1 : gS} {j : Nat} {v : Int32} (h : va_D A ((qkW cB cI cJ cZ h0 a0 h1 a1 M0 M1).set 3 (a0 9, .inl (cI, 2, .inl (upd (ma M0 9) j v))))) : va_D A (qkW cB cI cJ cZ h0 a0 h1 a1 (sa M0 9 j v) M1) := h
theorem qkP_0_c9 {D : va_G} {H : Heap} {cB cI cJ cZ : ClassId} {h0 : Nat} {a0 : Nat → Nat} {h1 : Nat} {a1 : Nat → Nat} {M0 : gS} {M1 : gS} {f : Nat → Int32} (h : va_P D vwCl ((qkW cB cI cJ cZ h0 a0 h1 a1 M0 M1).set 3 (a0 9, .inl (cI, 2, .inl f))) H) : va_P D vwCl (qkW cB cI cJ cZ h0 a0 h1 a1 (sF M0 9 f) M1) H := h
theorem qkD_0_c9 {A : Nat → Prop} {cB cI cJ cZ : ClassId} {h0 : Nat} {a0 : Nat → Nat} {h1 : Nat} {a1 : Nat → Nat} {M0 : gS} {M1 : gS} {f : Nat → Int32} (h : va_D A ((qkW cB cI cJ cZ h0 a0 h1 a1 M0 M1).set 3 (a0 9, .inl (cI, 2, .inl f)))) : va_D A (qkW cB cI cJ cZ h0 a0 h1 a1 (sF M0 9 f) M1) := h
theorem qkP_1_f0 {D : va_G} {H : Heap} {cB cI cJ cZ : ClassId} {h0 : Nat} {a0 : Nat → Nat} {h1 : Nat} {a1 : Nat → Nat} {M0 : gS} {M1 : gS} {v : Int32} (h : va_P D vwCl ((qkW cB cI cJ cZ h0 a0 h1 a1 M0 M1).set 4 (h1, .inr (6, ([.int (mg M1 0), .int (mg M1 1), .int (mg M1 2), .int (mg M1 3), .int (mg M1 4), .int (mg M1 5), .int (mg M1 6), .ref (a1 7), .ref (a1 8), .ref (a1 9)]).set 0 (.int v)))) H) : va_P D vwCl (qkW cB cI cJ cZ h0 a0 h1 a1 M0 (sg M1 0 v)) H := h
theorem qkD_1_f0 {A : Nat → Prop} {cB cI cJ cZ : ClassId} {h0 : Nat} {a0 : Nat → Nat} {h1 : Nat} {a1 : Nat → Nat} {M0 : gS} {M1 : gS} {v : Int32} (h : va_D A ((qkW cB cI cJ cZ h0 a0 h1 a1 M0 M1).set 4 (h1, .inr (6, ([.int (mg M1 0), .int (mg M1 1), .int (mg M1 2), .int (mg M1 3), .int (mg M1 4), .int (mg M1 5), .int (mg M1 6), .ref (a1 7), .ref (a1 8), .ref (a1 9)]).set 0 (.int v))))) : va_D A (qkW cB cI cJ cZ h0 a0 h1 a1 M0 (sg M1 0 v)) := h
theorem qkP_1_f1 {D : va_G} {H : Heap} {cB cI cJ cZ : ClassId} {h0 : Nat} {a0 : Nat → Nat} {h1 : Nat} {a1 : Nat → Nat} {M0 : gS} {M1 : gS} {v : Int32} (h : va_P D vwCl ((qkW cB cI cJ cZ h0 a0 h1 a1 M0 M1).set 4 (h1, .inr (6, ([.int (mg M1 0), .int (mg M1 1), .int (mg M1 2), .int (mg M1 3), .int (mg M1 4), .int (mg M1 5), .int (mg M1 6), .ref (a1 7), .ref (a1 8), .ref (a1 9)]).set 1 (.int v)))) H) : va_P D vwCl (qkW cB cI cJ cZ h0 a0 h1 a1 M0 (sg M1 1 v)) H := h
theorem qkD_1_f1 {A : Nat → Prop} {cB cI cJ cZ : ClassId} {h0 : Nat} {a0 : Nat → Nat} {h1 : Nat} {a1 : Nat → Nat} {M0 : gS} {M1 : gS} {v : Int32} (h : va_D A ((qkW cB cI cJ cZ h0 a0 h1 a1 M0 M1).set 4 (h1, .inr (6, ([.int (mg M1 0), .int (mg M1 1), .int (mg M1 2), .int (mg M1 3), .int (mg M1 4), .int (mg M1 5), .int (mg M1 6), .ref (a1 7), .ref (a1 8), .ref (a1 9)]).set 1 (.int v))))) : va_D A (qkW cB cI cJ cZ h0 a0 h1 a1 M0 (sg M1 1 v)) := h
theorem qkP_1_f2 {D : va_G} {H : Heap} {cB cI cJ cZ : ClassId} {h0 : Nat} {a0 : Nat → Nat} {h1 : Nat} {a1 : Nat → Nat} {M0 : gS} {M1 : gS} {v : Int32} (h : va_P D vwCl ((qkW cB cI cJ cZ h0 a0 h1 a1 M0 M1).set 4 (h1, .inr (6, ([.int (mg M1 0), .int (mg M1 1), .int (mg M1 2), .int (mg M1 3), .int (mg M1 4), .int (mg M1 5), .int (mg M1 6), .ref (a1 7), .ref (a1 8), .ref (a1 9)]).set 2 (.int v)))) H) : va_P D vwCl (qkW cB cI cJ cZ h0 a0 h1 a1 M0 (sg M1 2 v)) H := h
theorem qkD_1_f2 {A : Nat → Prop} {cB cI cJ cZ : ClassId} {h0 : Nat} {a0 : Nat → Nat} {h1 : Nat} {a1 : Nat → Nat} {M0 : gS} {M1 : gS} {v : Int32} (h : va_D A ((qkW cB cI cJ cZ h0 a0 h1 a1 M0 M1).set 4 (h1, .inr (6, ([.int (mg M1 0), .int (mg M1 1), .int (mg M1 2), .int (mg M1 3), .int (mg M1 4), .int (mg M1 5), .int (mg M1 6), .ref (a1 7), .ref (a1 8), .ref (a1 9)]).set 2 (.int v))))) : va_D A (qkW cB cI cJ cZ h0 a0 h1 a1 M0 (sg M1 2 v)) := h
theorem qkP_1_f3 {D : va_G} {H : Heap} {cB cI cJ cZ : ClassId} {h0 : Nat} {a0 : Nat → Nat} {h1 : Nat} {a1 : Nat → Nat} {M0 : gS} {M1 : gS} {v : Int32} (h : va_P D vwCl ((qkW cB cI cJ cZ h0 a0 h1 a1 M0 M1).set 4 (h1, .inr (6, ([.int (mg M1 0), .int (mg M1 1), .int (mg M1 2), .int (mg M1 3), .int (mg M1 4), .int (mg M1 5), .int (mg M1 6), .ref (a1 7), .ref (a1 8), .ref (a1 9)]).set 3 (.int v)))) H) : va_P D vwCl (qkW cB cI cJ cZ h0 a0 h1 a1 M0 (sg M1 3 v)) H := h
theorem qkD_1_f3 {A : Nat → Prop} {cB cI cJ cZ : ClassId} {h0 : Nat} {a0 : Nat → Nat} {h1 : Nat} {a1 : Nat → Nat} {M0 : gS} {M1 : gS} {v : Int32} (h : va_D A ((qkW cB cI cJ cZ h0 a0 h1 a1 M0 M1).set 4 (h1, .inr (6, ([.int (mg M1 0), .int (mg M1 1), .int (mg M1 2), .int (mg M1 3), .int (mg M1 4), .int (mg M1 5), .int (mg M1 6), .ref (a1 7), .ref (a1 8), .ref (a1 9)]).set 3 (.int v))))) : va_D A (qkW cB cI cJ cZ h0 a0 h1 a1 M0 (sg M1 3 v)) := h
theorem qkP_1_f4 {D : va_G} {H : Heap} {cB cI cJ cZ : ClassId} {h0 : Nat} {a0 : Nat → Nat} {h1 : Nat} {a1 : Nat → Nat} {M0 : gS} {M1 : gS} {v : Int32} (h : va_P D vwCl ((qkW cB cI cJ cZ h0 a0 h1 a1 M0 M1).set 4 (h1, .inr (6, ([.int (mg M1 0), .int (mg M1 1), .int (mg M1 2), .int (mg M1 3), .int (mg M1 4), .int (mg M1 5), .int (mg M1 6), .ref (a1 7), .ref (a1 8), .ref (a1 9)]).set 4 (.int v)))) H) : va_P D vwCl (qkW cB cI cJ cZ h0 a0 h1 a1 M0 (sg M1 4 v)) H := h
theorem qkD_1_f4 {A : Nat → Prop} {cB cI cJ cZ : ClassId} {h0 : Nat} {a0 : Nat → Nat} {h1 : Nat} {a1 : Nat → Nat} {M0 : gS} {M1 : gS} {v : Int32} (h : va_D A ((qkW cB cI cJ cZ h0 a0 h1 a1 M0 M1).set 4 (h1, .inr (6, ([.int (mg M1 0), .int (mg M1 1), .int (mg M1 2), .int (mg M1 3), .int (mg M1 4), .int (mg M1 5), .int (mg M1 6), .ref (a1 7), .ref (a1 8), .ref (a1 9)]).set 4 (.int v))))) : va_D A (qkW cB cI cJ cZ h0 a0 h1 a1 M0 (sg M1 4 v)) := h
theorem qkP_1_f5 {D : va_G} {H : Heap} {cB cI cJ cZ : ClassId} {h0 : Nat} {a0 : Nat → Nat} {h1 : Nat} {a1 : Nat → Nat} {M0 : gS} {M1 : gS} {v : Int32} (h : va_P D vwCl ((qkW cB cI cJ cZ h0 a0 h1 a1 M0 M1).set 4 (h1, .inr (6, ([.int (mg M1 0), .int (mg M1 1), .int (mg M1 2), .int (mg M1 3), .int (mg M1 4), .int (mg M1 5), .int (mg M1 6), .ref (a1 7), .ref (a1 8), .ref (a1 9)]).set 5 (.int v)))) H) : va_P D vwCl (qkW cB cI cJ cZ h0 a0 h1 a1 M0 (sg M1 5 v)) H := h
theorem qkD_1_f5 {A : Nat → Prop} {cB cI cJ cZ : ClassId} {h0 : Nat} {a0 : Nat → Nat} {h1 : Nat} {a1 : Nat → Nat} {M0 : gS} {M1 : gS} {v : Int32} (h : va_D A ((qkW cB cI cJ cZ h0 a0 h1 a1 M0 M1).set 4 (h1, .inr (6, ([.int (mg M1 0), .int (mg M1 1), .int (mg M1 2), .int (mg M1 3), .int (mg M1 4), .int (mg M1 5), .int (mg M1 6), .ref (a1 7), .ref (a1 8), .ref (a1 9)]).set 5 (.int v))))) : va_D A (qkW cB cI cJ cZ h0 a0 h1 a1 M0 (sg M1 5 v)) := h
theorem qkP_1_f6 {D : va_G} {H : Heap} {cB cI cJ cZ : ClassId} {h0 : Nat} {a0 : Nat → Nat} {h1 : Nat} {a1 : Nat → Nat} {M0 : gS} {M1 : gS} {v : Int32} (h : va_P D vwCl ((qkW cB cI cJ cZ h0 a0 h1 a1 M0 M1).set 4 (h1, .inr (6, ([.int (mg M1 0), .int (mg M1 1), .int (mg M1 2), .int (mg M1 3), .int (mg M1 4), .int (mg M1 5), .int (mg M1 6), .ref (a1 7), .ref (a1 8), .ref (a1 9)]).set 6 (.int v)))) H) : va_P D vwCl (qkW cB cI cJ cZ h0 a0 h1 a1 M0 (sg M1 6 v)) H := h
theorem qkD_1_f6 {A : Nat → Prop} {cB cI cJ cZ : ClassId} {h0 : Nat} {a0 : Nat → Nat} {h1 : Nat} {a1 : Nat → Nat} {M0 : gS} {M1 : gS} {v : Int32} (h : va_D A ((qkW cB cI cJ cZ h0 a0 h1 a1 M0 M1).set 4 (h1, .inr (6, ([.int (mg M1 0), .int (mg M1 1), .int (mg M1 2), .int (mg M1 3), .int (mg M1 4), .int (mg M1 5), .int (mg M1 6), .ref (a1 7), .ref (a1 8), .ref (a1 9)]).set 6 (.int v))))) : va_D A (qkW cB cI cJ cZ h0 a0 h1 a1 M0 (sg M1 6 v)) := h
theorem qkP_1_a7 {D : va_G} {H : Heap} {cB cI cJ cZ : ClassId} {h0 : Nat} {a0 : Nat → Nat} {h1 : Nat} {a1 : Nat → Nat} {M0 : gS} {M1 : gS} {j : Nat} {v : Int32} (h : va_P D vwCl ((qkW cB cI cJ cZ h0 a0 h1 a1 M0 M1).set 5 (a1 7, .inl (cI, 2, .inl (upd (ma M1 7) j v)))) H) : va_P D vwCl (qkW cB cI cJ cZ h0 a0 h1 a1 M0 (sa M1 7 j v)) H := h
theorem qkD_1_a7 {A : Nat → Prop} {cB cI cJ cZ : ClassId} {h0 : Nat} {a0 : Nat → Nat} {h1 : Nat} {a1 : Nat → Nat} {M0 : gS} {M1 : gS} {j : Nat} {v : Int32} (h : va_D A ((qkW cB cI cJ cZ h0 a0 h1 a1 M0 M1).set 5 (a1 7, .inl (cI, 2, .inl (upd (ma M1 7) j v))))) : va_D A (qkW cB cI cJ cZ h0 a0 h1 a1 M0 (sa M1 7 j v)) := h
theorem qkP_1_c7 {D : va_G} {H : Heap} {cB cI cJ cZ : ClassId} {h0 : Nat} {a0 : Nat → Nat} {h1 : Nat} {a1 : Nat → Nat} {M0 : gS} {M1 : gS} {f : Nat → Int32} (h : va_P D vwCl ((qkW cB cI cJ cZ h0 a0 h1 a1 M0 M1).set 5 (a1 7, .inl (cI, 2, .inl f))) H) : va_P D vwCl (qkW cB cI cJ cZ h0 a0 h1 a1 M0 (sF M1 7 f)) H := h
theorem qkD_1_c7 {A : Nat → Prop} {cB cI cJ cZ : ClassId} {h0 : Nat} {a0 : Nat → Nat} {h1 : Nat} {a1 : Nat → Nat} {M0 : gS} {M1 : gS} {f : Nat → Int32} (h : va_D A ((qkW cB cI cJ cZ h0 a0 h1 a1 M0 M1).set 5 (a1 7, .inl (cI, 2, .inl f)))) : va_D A (qkW cB cI cJ cZ h0 a0 h1 a1 M0 (sF M1 7 f)) := h
theorem qkP_1_a8 {D : va_G} {H : Heap} {cB cI cJ cZ : ClassId} {h0 : Nat} {a0 : Nat → Nat} {h1 : Nat} {a1 : Nat → Nat} {M0 : gS} {M1 : gS} {j : Nat} {v : Int32} (h : va_P D vwCl ((qkW cB cI cJ cZ h0 a0 h1 a1 M0 M1).set 6 (a1 8, .inl (cI, 2, .inl (upd (ma M1 8) j v)))) H) : va_P D vwCl (qkW cB cI cJ cZ h0 a0 h1 a1 M0 (sa M1 8 j v)) H := h
theorem qkD_1_a8 {A : Nat → Prop} {cB cI cJ cZ : ClassId} {h0 : Nat} {a0 : Nat → Nat} {h1 : Nat} {a1 : Nat → Nat} {M0 : gS} {M1 : gS} {j : Nat} {v : Int32} (h : va_D A ((qkW cB cI cJ cZ h0 a0 h1 a1 M0 M1).set 6 (a1 8, .inl (cI, 2, .inl (upd (ma M1 8) j v))))) : va_D A (qkW cB cI cJ cZ h0 a0 h1 a1 M0 (sa M1 8 j v)) := h
theorem qkP_1_c8 {D : va_G} {H : Heap} {cB cI cJ cZ : ClassId} {h0 : Nat} {a0 : Nat → Nat} {h1 : Nat} {a1 : Nat → Nat} {M0 : gS} {M1 : gS} {f : Nat → Int32} (h : va_P D vwCl ((qkW cB cI cJ cZ h0 a0 h1 a1 M0 M1).set 6 (a1 8, .inl (cI, 2, .inl f))) H) : va_P D vwCl (qkW cB cI cJ cZ h0 a0 h1 a1 M0 (sF M1 8 f)) H := h
theorem qkD_1_c8 {A : Nat → Prop} {cB cI cJ cZ : ClassId} {h0 : Nat} {a0 : Nat → Nat} {h1 : Nat} {a1 : Nat → Nat} {M0 : gS} {M1 : gS} {f : Nat → Int32} (h : va_D A ((qkW cB cI cJ cZ h0 a0 h1 a1 M0 M1).set 6 (a1 8, .inl (cI, 2, .inl f)))) : va_D A (qkW cB cI cJ cZ h0 a0 h1 a1 M0 (sF M1 8 f)) := h
theorem qkP_1_a9 {D : va_G} {H : Heap} {cB cI cJ cZ : ClassId} {h0 : Nat} {a0 : Nat → Nat} {h1 : Nat} {a1 : Nat → Nat} {M0 : gS} {M1 : gS} {j : Nat} {v : Int32} (h : va_P D vwCl ((qkW cB cI cJ cZ h0 a0 h1 a1 M0 M1).set 7 (a1 9, .inl (cI, 2, .inl (upd (ma M1 9) j v)))) H) : va_P D vwCl (qkW cB cI cJ cZ h0 a0 h1 a1 M0 (sa M1 9 j v)) H := h
theorem qkD_1_a9 {A : Nat → Prop} {cB cI cJ cZ : ClassId} {h0 : Nat} {a0 : Nat → Nat} {h1 : Nat} {a1 : Nat → Nat} {M0 : gS} {M1 : gS} {j : Nat} {v : Int32} (h : va_D A ((qkW cB cI cJ cZ h0 a0 h1 a1 M0 M1).set 7 (a1 9, .inl (cI, 2, .inl (upd (ma M1 9) j v))))) : va_D A (qkW cB cI cJ cZ h0 a0 h1 a1 M0 (sa M1 9 j v)) := h
theorem qkP_1_c9 {D : va_G} {H : Heap} {cB cI cJ cZ : ClassId} {h0 : Nat} {a0 : Nat → Nat} {h1 : Nat} {a1 : Nat → Nat} {M0 : gS} {M1 : gS} {f : Nat → Int32} (h : va_P D vwCl ((qkW cB cI cJ cZ h0 a0 h1 a1 M0 M1).set 7 (a1 9, .inl (cI, 2, .inl f))) H) : va_P D vwCl (qkW cB cI cJ cZ h0 a0 h1 a1 M0 (sF M1 9 f)) H := h
theorem qkD_1_c9 {A : Nat → Prop} {cB cI cJ cZ : ClassId} {h0 : Nat} {a0 : Nat → Nat} {h1 : Nat} {a1 : Nat → Nat} {M0 : gS} {M1 : gS} {f : Nat → Int32} (h : va_D A ((qkW cB cI cJ cZ h0 a0 h1 a1 M0 M1).set 7 (a1 9, .inl (cI, 2, .inl f)))) : va_D A (qkW cB cI cJ cZ h0 a0 h1 a1 M0 (sF M1 9 f)) := h
theorem qkpV {s : State} {dC : Nat → ClassId} {dI : Nat → Nat → Nat} {A : Nat → Prop} {cB cI cJ cZ : ClassId} {h0 : Nat} {a0 : Nat → Nat} {h1 : Nat} {a1 : Nat → Nat} {M0 : gS} {M1 : gS} {H : Heap} {As : List Value} (hK : va_K (dC, dI) vwCl (gT cB cI cJ cZ) s) (hP : va_P (dC, dI) vwCl (qkW cB cI cJ cZ h0 a0 h1 a1 M0 M1) H) (hD : va_D A (qkW cB cI cJ cZ h0 a0 h1 a1 M0 M1)) : PreV s H RX6 h0 (va_Pc (.ref h0 :: As) (qkI dC dI cB cI cJ cZ h0 a0 h1 a1 M0 M1 H.size)) As := ⟨fun a U g mk q => by obtain ⟨q0, q1, qP, qK, qD⟩ := q; exact ⟨q0, q1, qP, va_K.moved (u := U) (U := U.calling g mk a) (Vm.Alike.refl U.vm) qK, qD⟩, va_recv hK hP (ci := 6) (q0 := 0) rfl rfl, fun U hU hW => ⟨rfl, by rw [hU], by rw [hU]; exact hP, va_K.moved hW.alike hK, hD.weaken (fun _ _ _ _ => trivial)⟩⟩
theorem qkpS {s : State} {dC : Nat → ClassId} {dI : Nat → Nat → Nat} {A : Nat → Prop} {cB cI cJ cZ : ClassId} {h0 : Nat} {a0 : Nat → Nat} {h1 : Nat} {a1 : Nat → Nat} {M0 : gS} {M1 : gS} {H : Heap} {As : List Value} (hK : va_K (dC, dI) vwCl (gT cB cI cJ cZ) s) (hP : va_P (dC, dI) vwCl (qkW cB cI cJ cZ h0 a0 h1 a1 M0 M1) H) (hD : va_D A (qkW cB cI cJ cZ h0 a0 h1 a1 M0 M1)) : PreS s H (va_Pc As (qkI dC dI cB cI cJ cZ h0 a0 h1 a1 M0 M1 H.size)) As := ⟨fun a U g mk q => by obtain ⟨q0, q1, qP, qK, qD⟩ := q; exact ⟨q0, q1, qP, va_K.moved (u := U) (U := U.calling g mk a) (Vm.Alike.refl U.vm) qK, qD⟩, fun U hU hW => ⟨rfl, by rw [hU], by rw [hU]; exact hP, va_K.moved hW.alike hK, hD.weaken (fun _ _ _ _ => trivial)⟩⟩

abbrev qcW (cB cI cJ cZ : ClassId) (h0 : Nat) (a0 : Nat → Nat) (h1 : Nat) (a1 : Nat → Nat) (M0 : gS) (M1 : gS) : va_W := [(h0, .inr (6, [.int (mg M0 0), .int (mg M0 1), .int (mg M0 2), .int (mg M0 3), .int (mg M0 4), .int (mg M0 5), .int (mg M0 6), .ref (a0 7), .ref (a0 8), .ref (a0 9)])), (a0 7, .inl (cI, 2, .inl (ma M0 7))), (a0 8, .inl (cI, 2, .inl (ma M0 8))), (a0 9, .inl (cI, 2, .inl (ma M0 9))), (h1, .inr (1, [.int (mg M1 0), .ref (a1 1), .int (mg M1 2), .ref (a1 3), .int (mg M1 4), .ref (a1 5)])), (a1 1, .inl (cI, 4, .inl (ma M1 1))), (a1 3, .inl (cI, 4, .inl (ma M1 3))), (a1 5, .inl (cI, 2, .inl (ma M1 5)))]
abbrev qcI (dC : Nat → ClassId) (dI : Nat → Nat → Nat) (cB cI cJ cZ : ClassId) (h0 : Nat) (a0 : Nat → Nat) (h1 : Nat) (a1 : Nat → Nat) (M0 : gS) (M1 : gS) (sz : Nat) : State → Prop := fun U => U.heap.size = sz ∧ va_P (dC, dI) vwCl (qcW cB cI cJ cZ h0 a0 h1 a1 M0 M1) U.heap ∧ va_K (dC, dI) vwCl (gT cB cI cJ cZ) U ∧ va_D (fun _ => True) (qcW cB cI cJ cZ h0 a0 h1 a1 M0 M1)
abbrev qcB (dC : Nat → ClassId) (dI : Nat → Nat → Nat) (cB cI cJ cZ : ClassId) (h0 : Nat) (a0 : Nat → Nat) (h1 : Nat) (a1 : Nat → Nat) (A : Nat → Prop) (u : gS × gS) (t : State) : Prop := match u with
  | (M0, M1) => va_P (dC, dI) vwCl (qcW cB cI cJ cZ h0 a0 h1 a1 M0 M1) t.heap ∧ va_K (dC, dI) vwCl (gT cB cI cJ cZ) t ∧ va_D A (qcW cB cI cJ cZ h0 a0 h1 a1 M0 M1)
theorem qcP_0_f0 {D : va_G} {H : Heap} {cB cI cJ cZ : ClassId} {h0 : Nat} {a0 : Nat → Nat} {h1 : Nat} {a1 : Nat → Nat} {M0 : gS} {M1 : gS} {v : Int32} (h : va_P D vwCl ((qcW cB cI cJ cZ h0 a0 h1 a1 M0 M1).set 0 (h0, .inr (6, ([.int (mg M0 0), .int (mg M0 1), .int (mg M0 2), .int (mg M0 3), .int (mg M0 4), .int (mg M0 5), .int (mg M0 6), .ref (a0 7), .ref (a0 8), .ref (a0 9)]).set 0 (.int v)))) H) : va_P D vwCl (qcW cB cI cJ cZ h0 a0 h1 a1 (sg M0 0 v) M1) H := h
theorem qcD_0_f0 {A : Nat → Prop} {cB cI cJ cZ : ClassId} {h0 : Nat} {a0 : Nat → Nat} {h1 : Nat} {a1 : Nat → Nat} {M0 : gS} {M1 : gS} {v : Int32} (h : va_D A ((qcW cB cI cJ cZ h0 a0 h1 a1 M0 M1).set 0 (h0, .inr (6, ([.int (mg M0 0), .int (mg M0 1), .int (mg M0 2), .int (mg M0 3), .int (mg M0 4), .int (mg M0 5), .int (mg M0 6), .ref (a0 7), .ref (a0 8), .ref (a0 9)]).set 0 (.int v))))) : va_D A (qcW cB cI cJ cZ h0 a0 h1 a1 (sg M0 0 v) M1) := h
theorem qcP_0_f1 {D : va_G} {H : Heap} {cB cI cJ cZ : ClassId} {h0 : Nat} {a0 : Nat → Nat} {h1 : Nat} {a1 : Nat → Nat} {M0 : gS} {M1 : gS} {v : Int32} (h : va_P D vwCl ((qcW cB cI cJ cZ h0 a0 h1 a1 M0 M1).set 0 (h0, .inr (6, ([.int (mg M0 0), .int (mg M0 1), .int (mg M0 2), .int (mg M0 3), .int (mg M0 4), .int (mg M0 5), .int (mg M0 6), .ref (a0 7), .ref (a0 8), .ref (a0 9)]).set 1 (.int v)))) H) : va_P D vwCl (qcW cB cI cJ cZ h0 a0 h1 a1 (sg M0 1 v) M1) H := h
theorem qcD_0_f1 {A : Nat → Prop} {cB cI cJ cZ : ClassId} {h0 : Nat} {a0 : Nat → Nat} {h1 : Nat} {a1 : Nat → Nat} {M0 : gS} {M1 : gS} {v : Int32} (h : va_D A ((qcW cB cI cJ cZ h0 a0 h1 a1 M0 M1).set 0 (h0, .inr (6, ([.int (mg M0 0), .int (mg M0 1), .int (mg M0 2), .int (mg M0 3), .int (mg M0 4), .int (mg M0 5), .int (mg M0 6), .ref (a0 7), .ref (a0 8), .ref (a0 9)]).set 1 (.int v))))) : va_D A (qcW cB cI cJ cZ h0 a0 h1 a1 (sg M0 1 v) M1) := h
theorem qcP_0_f2 {D : va_G} {H : Heap} {cB cI cJ cZ : ClassId} {h0 : Nat} {a0 : Nat → Nat} {h1 : Nat} {a1 : Nat → Nat} {M0 : gS} {M1 : gS} {v : Int32} (h : va_P D vwCl ((qcW cB cI cJ cZ h0 a0 h1 a1 M0 M1).set 0 (h0, .inr (6, ([.int (mg M0 0), .int (mg M0 1), .int (mg M0 2), .int (mg M0 3), .int (mg M0 4), .int (mg M0 5), .int (mg M0 6), .ref (a0 7), .ref (a0 8), .ref (a0 9)]).set 2 (.int v)))) H) : va_P D vwCl (qcW cB cI cJ cZ h0 a0 h1 a1 (sg M0 2 v) M1) H := h
theorem qcD_0_f2 {A : Nat → Prop} {cB cI cJ cZ : ClassId} {h0 : Nat} {a0 : Nat → Nat} {h1 : Nat} {a1 : Nat → Nat} {M0 : gS} {M1 : gS} {v : Int32} (h : va_D A ((qcW cB cI cJ cZ h0 a0 h1 a1 M0 M1).set 0 (h0, .inr (6, ([.int (mg M0 0), .int (mg M0 1), .int (mg M0 2), .int (mg M0 3), .int (mg M0 4), .int (mg M0 5), .int (mg M0 6), .ref (a0 7), .ref (a0 8), .ref (a0 9)]).set 2 (.int v))))) : va_D A (qcW cB cI cJ cZ h0 a0 h1 a1 (sg M0 2 v) M1) := h
theorem qcP_0_f3 {D : va_G} {H : Heap} {cB cI cJ cZ : ClassId} {h0 : Nat} {a0 : Nat → Nat} {h1 : Nat} {a1 : Nat → Nat} {M0 : gS} {M1 : gS} {v : Int32} (h : va_P D vwCl ((qcW cB cI cJ cZ h0 a0 h1 a1 M0 M1).set 0 (h0, .inr (6, ([.int (mg M0 0), .int (mg M0 1), .int (mg M0 2), .int (mg M0 3), .int (mg M0 4), .int (mg M0 5), .int (mg M0 6), .ref (a0 7), .ref (a0 8), .ref (a0 9)]).set 3 (.int v)))) H) : va_P D vwCl (qcW cB cI cJ cZ h0 a0 h1 a1 (sg M0 3 v) M1) H := h
theorem qcD_0_f3 {A : Nat → Prop} {cB cI cJ cZ : ClassId} {h0 : Nat} {a0 : Nat → Nat} {h1 : Nat} {a1 : Nat → Nat} {M0 : gS} {M1 : gS} {v : Int32} (h : va_D A ((qcW cB cI cJ cZ h0 a0 h1 a1 M0 M1).set 0 (h0, .inr (6, ([.int (mg M0 0), .int (mg M0 1), .int (mg M0 2), .int (mg M0 3), .int (mg M0 4), .int (mg M0 5), .int (mg M0 6), .ref (a0 7), .ref (a0 8), .ref (a0 9)]).set 3 (.int v))))) : va_D A (qcW cB cI cJ cZ h0 a0 h1 a1 (sg M0 3 v) M1) := h
theorem qcP_0_f4 {D : va_G} {H : Heap} {cB cI cJ cZ : ClassId} {h0 : Nat} {a0 : Nat → Nat} {h1 : Nat} {a1 : Nat → Nat} {M0 : gS} {M1 : gS} {v : Int32} (h : va_P D vwCl ((qcW cB cI cJ cZ h0 a0 h1 a1 M0 M1).set 0 (h0, .inr (6, ([.int (mg M0 0), .int (mg M0 1), .int (mg M0 2), .int (mg M0 3), .int (mg M0 4), .int (mg M0 5), .int (mg M0 6), .ref (a0 7), .ref (a0 8), .ref (a0 9)]).set 4 (.int v)))) H) : va_P D vwCl (qcW cB cI cJ cZ h0 a0 h1 a1 (sg M0 4 v) M1) H := h
theorem qcD_0_f4 {A : Nat → Prop} {cB cI cJ cZ : ClassId} {h0 : Nat} {a0 : Nat → Nat} {h1 : Nat} {a1 : Nat → Nat} {M0 : gS} {M1 : gS} {v : Int32} (h : va_D A ((qcW cB cI cJ cZ h0 a0 h1 a1 M0 M1).set 0 (h0, .inr (6, ([.int (mg M0 0), .int (mg M0 1), .int (mg M0 2), .int (mg M0 3), .int (mg M0 4), .int (mg M0 5), .int (mg M0 6), .ref (a0 7), .ref (a0 8), .ref (a0 9)]).set 4 (.int v))))) : va_D A (qcW cB cI cJ cZ h0 a0 h1 a1 (sg M0 4 v) M1) := h
theorem qcP_0_f5 {D : va_G} {H : Heap} {cB cI cJ cZ : ClassId} {h0 : Nat} {a0 : Nat → Nat} {h1 : Nat} {a1 : Nat → Nat} {M0 : gS} {M1 : gS} {v : Int32} (h : va_P D vwCl ((qcW cB cI cJ cZ h0 a0 h1 a1 M0 M1).set 0 (h0, .inr (6, ([.int (mg M0 0), .int (mg M0 1), .int (mg M0 2), .int (mg M0 3), .int (mg M0 4), .int (mg M0 5), .int (mg M0 6), .ref (a0 7), .ref (a0 8), .ref (a0 9)]).set 5 (.int v)))) H) : va_P D vwCl (qcW cB cI cJ cZ h0 a0 h1 a1 (sg M0 5 v) M1) H := h
theorem qcD_0_f5 {A : Nat → Prop} {cB cI cJ cZ : ClassId} {h0 : Nat} {a0 : Nat → Nat} {h1 : Nat} {a1 : Nat → Nat} {M0 : gS} {M1 : gS} {v : Int32} (h : va_D A ((qcW cB cI cJ cZ h0 a0 h1 a1 M0 M1).set 0 (h0, .inr (6, ([.int (mg M0 0), .int (mg M0 1), .int (mg M0 2), .int (mg M0 3), .int (mg M0 4), .int (mg M0 5), .int (mg M0 6), .ref (a0 7), .ref (a0 8), .ref (a0 9)]).set 5 (.int v))))) : va_D A (qcW cB cI cJ cZ h0 a0 h1 a1 (sg M0 5 v) M1) := h
theorem qcP_0_f6 {D : va_G} {H : Heap} {cB cI cJ cZ : ClassId} {h0 : Nat} {a0 : Nat → Nat} {h1 : Nat} {a1 : Nat → Nat} {M0 : gS} {M1 : gS} {v : Int32} (h : va_P D vwCl ((qcW cB cI cJ cZ h0 a0 h1 a1 M0 M1).set 0 (h0, .inr (6, ([.int (mg M0 0), .int (mg M0 1), .int (mg M0 2), .int (mg M0 3), .int (mg M0 4), .int (mg M0 5), .int (mg M0 6), .ref (a0 7), .ref (a0 8), .ref (a0 9)]).set 6 (.int v)))) H) : va_P D vwCl (qcW cB cI cJ cZ h0 a0 h1 a1 (sg M0 6 v) M1) H := h
theorem qcD_0_f6 {A : Nat → Prop} {cB cI cJ cZ : ClassId} {h0 : Nat} {a0 : Nat → Nat} {h1 : Nat} {a1 : Nat → Nat} {M0 : gS} {M1 : gS} {v : Int32} (h : va_D A ((qcW cB cI cJ cZ h0 a0 h1 a1 M0 M1).set 0 (h0, .inr (6, ([.int (mg M0 0), .int (mg M0 1), .int (mg M0 2), .int (mg M0 3), .int (mg M0 4), .int (mg M0 5), .int (mg M0 6), .ref (a0 7), .ref (a0 8), .ref (a0 9)]).set 6 (.int v))))) : va_D A (qcW cB cI cJ cZ h0 a0 h1 a1 (sg M0 6 v) M1) := h
theorem qcP_0_a7 {D : va_G} {H : Heap} {cB cI cJ cZ : ClassId} {h0 : Nat} {a0 : Nat → Nat} {h1 : Nat} {a1 : Nat → Nat} {M0 : gS} {M1 : gS} {j : Nat} {v : Int32} (h : va_P D vwCl ((qcW cB cI cJ cZ h0 a0 h1 a1 M0 M1).set 1 (a0 7, .inl (cI, 2, .inl (upd (ma M0 7) j v)))) H) : va_P D vwCl (qcW cB cI cJ cZ h0 a0 h1 a1 (sa M0 7 j v) M1) H := h
theorem qcD_0_a7 {A : Nat → Prop} {cB cI cJ cZ : ClassId} {h0 : Nat} {a0 : Nat → Nat} {h1 : Nat} {a1 : Nat → Nat} {M0 : gS} {M1 : gS} {j : Nat} {v : Int32} (h : va_D A ((qcW cB cI cJ cZ h0 a0 h1 a1 M0 M1).set 1 (a0 7, .inl (cI, 2, .inl (upd (ma M0 7) j v))))) : va_D A (qcW cB cI cJ cZ h0 a0 h1 a1 (sa M0 7 j v) M1) := h
theorem qcP_0_c7 {D : va_G} {H : Heap} {cB cI cJ cZ : ClassId} {h0 : Nat} {a0 : Nat → Nat} {h1 : Nat} {a1 : Nat → Nat} {M0 : gS} {M1 : gS} {f : Nat → Int32} (h : va_P D vwCl ((qcW cB cI cJ cZ h0 a0 h1 a1 M0 M1).set 1 (a0 7, .inl (cI, 2, .inl f))) H) : va_P D vwCl (qcW cB cI cJ cZ h0 a0 h1 a1 (sF M0 7 f) M1) H := h
theorem qcD_0_c7 {A : Nat → Prop} {cB cI cJ cZ : ClassId} {h0 : Nat} {a0 : Nat → Nat} {h1 : Nat} {a1 : Nat → Nat} {M0 : gS} {M1 : gS} {f : Nat → Int32} (h : va_D A ((qcW cB cI cJ cZ h0 a0 h1 a1 M0 M1).set 1 (a0 7, .inl (cI, 2, .inl f)))) : va_D A (qcW cB cI cJ cZ h0 a0 h1 a1 (sF M0 7 f) M1) := h
theorem qcP_0_a8 {D : va_G} {H : Heap} {cB cI cJ cZ : ClassId} {h0 : Nat} {a0 : Nat → Nat} {h1 : Nat} {a1 : Nat → Nat} {M0 : gS} {M1 : gS} {j : Nat} {v : Int32} (h : va_P D vwCl ((qcW cB cI cJ cZ h0 a0 h1 a1 M0 M1).set 2 (a0 8, .inl (cI, 2, .inl (upd (ma M0 8) j v)))) H) : va_P D vwCl (qcW cB cI cJ cZ h0 a0 h1 a1 (sa M0 8 j v) M1) H := h
theorem qcD_0_a8 {A : Nat → Prop} {cB cI cJ cZ : ClassId} {h0 : Nat} {a0 : Nat → Nat} {h1 : Nat} {a1 : Nat → Nat} {M0 : gS} {M1 : gS} {j : Nat} {v : Int32} (h : va_D A ((qcW cB cI cJ cZ h0 a0 h1 a1 M0 M1).set 2 (a0 8, .inl (cI, 2, .inl (upd (ma M0 8) j v))))) : va_D A (qcW cB cI cJ cZ h0 a0 h1 a1 (sa M0 8 j v) M1) := h
theorem qcP_0_c8 {D : va_G} {H : Heap} {cB cI cJ cZ : ClassId} {h0 : Nat} {a0 : Nat → Nat} {h1 : Nat} {a1 : Nat → Nat} {M0 : gS} {M1 : gS} {f : Nat → Int32} (h : va_P D vwCl ((qcW cB cI cJ cZ h0 a0 h1 a1 M0 M1).set 2 (a0 8, .inl (cI, 2, .inl f))) H) : va_P D vwCl (qcW cB cI cJ cZ h0 a0 h1 a1 (sF M0 8 f) M1) H := h
theorem qcD_0_c8 {A : Nat → Prop} {cB cI cJ cZ : ClassId} {h0 : Nat} {a0 : Nat → Nat} {h1 : Nat} {a1 : Nat → Nat} {M0 : gS} {M1 : gS} {f : Nat → Int32} (h : va_D A ((qcW cB cI cJ cZ h0 a0 h1 a1 M0 M1).set 2 (a0 8, .inl (cI, 2, .inl f)))) : va_D A (qcW cB cI cJ cZ h0 a0 h1 a1 (sF M0 8 f) M1) := h
theorem qcP_0_a9 {D : va_G} {H : Heap} {cB cI cJ cZ : ClassId} {h0 : Nat} {a0 : Nat → Nat} {h1 : Nat} {a1 : Nat → Nat} {M0 : gS} {M1 : gS} {j : Nat} {v : Int32} (h : va_P D vwCl ((qcW cB cI cJ cZ h0 a0 h1 a1 M0 M1).set 3 (a0 9, .inl (cI, 2, .inl (upd (ma M0 9) j v)))) H) : va_P D vwCl (qcW cB cI cJ cZ h0 a0 h1 a1 (sa M0 9 j v) M1) H := h
theorem qcD_0_a9 {A : Nat → Prop} {cB cI cJ cZ : ClassId} {h0 : Nat} {a0 : Nat → Nat} {h1 : Nat} {a1 : Nat → Nat} {M0 : gS} {M1 : gS} {j : Nat} {v : Int32} (h : va_D A ((qcW cB cI cJ cZ h0 a0 h1 a1 M0 M1).set 3 (a0 9, .inl (cI, 2, .inl (upd (ma M0 9) j v))))) : va_D A (qcW cB cI cJ cZ h0 a0 h1 a1 (sa M0 9 j v) M1) := h
theorem qcP_0_c9 {D : va_G} {H : Heap} {cB cI cJ cZ : ClassId} {h0 : Nat} {a0 : Nat → Nat} {h1 : Nat} {a1 : Nat → Nat} {M0 : gS} {M1 : gS} {f : Nat → Int32} (h : va_P D vwCl ((qcW cB cI cJ cZ h0 a0 h1 a1 M0 M1).set 3 (a0 9, .inl (cI, 2, .inl f))) H) : va_P D vwCl (qcW cB cI cJ cZ h0 a0 h1 a1 (sF M0 9 f) M1) H := h
theorem qcD_0_c9 {A : Nat → Prop} {cB cI cJ cZ : ClassId} {h0 : Nat} {a0 : Nat → Nat} {h1 : Nat} {a1 : Nat → Nat} {M0 : gS} {M1 : gS} {f : Nat → Int32} (h : va_D A ((qcW cB cI cJ cZ h0 a0 h1 a1 M0 M1).set 3 (a0 9, .inl (cI, 2, .inl f)))) : va_D A (qcW cB cI cJ cZ h0 a0 h1 a1 (sF M0 9 f) M1) := h
theorem qcP_1_f0 {D : va_G} {H : Heap} {cB cI cJ cZ : ClassId} {h0 : Nat} {a0 : Nat → Nat} {h1 : Nat} {a1 : Nat → Nat} {M0 : gS} {M1 : gS} {v : Int32} (h : va_P D vwCl ((qcW cB cI cJ cZ h0 a0 h1 a1 M0 M1).set 4 (h1, .inr (1, ([.int (mg M1 0), .ref (a1 1), .int (mg M1 2), .ref (a1 3), .int (mg M1 4), .ref (a1 5)]).set 0 (.int v)))) H) : va_P D vwCl (qcW cB cI cJ cZ h0 a0 h1 a1 M0 (sg M1 0 v)) H := h
theorem qcD_1_f0 {A : Nat → Prop} {cB cI cJ cZ : ClassId} {h0 : Nat} {a0 : Nat → Nat} {h1 : Nat} {a1 : Nat → Nat} {M0 : gS} {M1 : gS} {v : Int32} (h : va_D A ((qcW cB cI cJ cZ h0 a0 h1 a1 M0 M1).set 4 (h1, .inr (1, ([.int (mg M1 0), .ref (a1 1), .int (mg M1 2), .ref (a1 3), .int (mg M1 4), .ref (a1 5)]).set 0 (.int v))))) : va_D A (qcW cB cI cJ cZ h0 a0 h1 a1 M0 (sg M1 0 v)) := h
theorem qcP_1_f2 {D : va_G} {H : Heap} {cB cI cJ cZ : ClassId} {h0 : Nat} {a0 : Nat → Nat} {h1 : Nat} {a1 : Nat → Nat} {M0 : gS} {M1 : gS} {v : Int32} (h : va_P D vwCl ((qcW cB cI cJ cZ h0 a0 h1 a1 M0 M1).set 4 (h1, .inr (1, ([.int (mg M1 0), .ref (a1 1), .int (mg M1 2), .ref (a1 3), .int (mg M1 4), .ref (a1 5)]).set 2 (.int v)))) H) : va_P D vwCl (qcW cB cI cJ cZ h0 a0 h1 a1 M0 (sg M1 2 v)) H := h
theorem qcD_1_f2 {A : Nat → Prop} {cB cI cJ cZ : ClassId} {h0 : Nat} {a0 : Nat → Nat} {h1 : Nat} {a1 : Nat → Nat} {M0 : gS} {M1 : gS} {v : Int32} (h : va_D A ((qcW cB cI cJ cZ h0 a0 h1 a1 M0 M1).set 4 (h1, .inr (1, ([.int (mg M1 0), .ref (a1 1), .int (mg M1 2), .ref (a1 3), .int (mg M1 4), .ref (a1 5)]).set 2 (.int v))))) : va_D A (qcW cB cI cJ cZ h0 a0 h1 a1 M0 (sg M1 2 v)) := h
theorem qcP_1_f4 {D : va_G} {H : Heap} {cB cI cJ cZ : ClassId} {h0 : Nat} {a0 : Nat → Nat} {h1 : Nat} {a1 : Nat → Nat} {M0 : gS} {M1 : gS} {v : Int32} (h : va_P D vwCl ((qcW cB cI cJ cZ h0 a0 h1 a1 M0 M1).set 4 (h1, .inr (1, ([.int (mg M1 0), .ref (a1 1), .int (mg M1 2), .ref (a1 3), .int (mg M1 4), .ref (a1 5)]).set 4 (.int v)))) H) : va_P D vwCl (qcW cB cI cJ cZ h0 a0 h1 a1 M0 (sg M1 4 v)) H := h
theorem qcD_1_f4 {A : Nat → Prop} {cB cI cJ cZ : ClassId} {h0 : Nat} {a0 : Nat → Nat} {h1 : Nat} {a1 : Nat → Nat} {M0 : gS} {M1 : gS} {v : Int32} (h : va_D A ((qcW cB cI cJ cZ h0 a0 h1 a1 M0 M1).set 4 (h1, .inr (1, ([.int (mg M1 0), .ref (a1 1), .int (mg M1 2), .ref (a1 3), .int (mg M1 4), .ref (a1 5)]).set 4 (.int v))))) : va_D A (qcW cB cI cJ cZ h0 a0 h1 a1 M0 (sg M1 4 v)) := h
theorem qcP_1_a1 {D : va_G} {H : Heap} {cB cI cJ cZ : ClassId} {h0 : Nat} {a0 : Nat → Nat} {h1 : Nat} {a1 : Nat → Nat} {M0 : gS} {M1 : gS} {j : Nat} {v : Int32} (h : va_P D vwCl ((qcW cB cI cJ cZ h0 a0 h1 a1 M0 M1).set 5 (a1 1, .inl (cI, 4, .inl (upd (ma M1 1) j v)))) H) : va_P D vwCl (qcW cB cI cJ cZ h0 a0 h1 a1 M0 (sa M1 1 j v)) H := h
theorem qcD_1_a1 {A : Nat → Prop} {cB cI cJ cZ : ClassId} {h0 : Nat} {a0 : Nat → Nat} {h1 : Nat} {a1 : Nat → Nat} {M0 : gS} {M1 : gS} {j : Nat} {v : Int32} (h : va_D A ((qcW cB cI cJ cZ h0 a0 h1 a1 M0 M1).set 5 (a1 1, .inl (cI, 4, .inl (upd (ma M1 1) j v))))) : va_D A (qcW cB cI cJ cZ h0 a0 h1 a1 M0 (sa M1 1 j v)) := h
theorem qcP_1_c1 {D : va_G} {H : Heap} {cB cI cJ cZ : ClassId} {h0 : Nat} {a0 : Nat → Nat} {h1 : Nat} {a1 : Nat → Nat} {M0 : gS} {M1 : gS} {f : Nat → Int32} (h : va_P D vwCl ((qcW cB cI cJ cZ h0 a0 h1 a1 M0 M1).set 5 (a1 1, .inl (cI, 4, .inl f))) H) : va_P D vwCl (qcW cB cI cJ cZ h0 a0 h1 a1 M0 (sF M1 1 f)) H := h
theorem qcD_1_c1 {A : Nat → Prop} {cB cI cJ cZ : ClassId} {h0 : Nat} {a0 : Nat → Nat} {h1 : Nat} {a1 : Nat → Nat} {M0 : gS} {M1 : gS} {f : Nat → Int32} (h : va_D A ((qcW cB cI cJ cZ h0 a0 h1 a1 M0 M1).set 5 (a1 1, .inl (cI, 4, .inl f)))) : va_D A (qcW cB cI cJ cZ h0 a0 h1 a1 M0 (sF M1 1 f)) := h
theorem qcP_1_a3 {D : va_G} {H : Heap} {cB cI cJ cZ : ClassId} {h0 : Nat} {a0 : Nat → Nat} {h1 : Nat} {a1 : Nat → Nat} {M0 : gS} {M1 : gS} {j : Nat} {v : Int32} (h : va_P D vwCl ((qcW cB cI cJ cZ h0 a0 h1 a1 M0 M1).set 6 (a1 3, .inl (cI, 4, .inl (upd (ma M1 3) j v)))) H) : va_P D vwCl (qcW cB cI cJ cZ h0 a0 h1 a1 M0 (sa M1 3 j v)) H := h
theorem qcD_1_a3 {A : Nat → Prop} {cB cI cJ cZ : ClassId} {h0 : Nat} {a0 : Nat → Nat} {h1 : Nat} {a1 : Nat → Nat} {M0 : gS} {M1 : gS} {j : Nat} {v : Int32} (h : va_D A ((qcW cB cI cJ cZ h0 a0 h1 a1 M0 M1).set 6 (a1 3, .inl (cI, 4, .inl (upd (ma M1 3) j v))))) : va_D A (qcW cB cI cJ cZ h0 a0 h1 a1 M0 (sa M1 3 j v)) := h
theorem qcP_1_c3 {D : va_G} {H : Heap} {cB cI cJ cZ : ClassId} {h0 : Nat} {a0 : Nat → Nat} {h1 : Nat} {a1 : Nat → Nat} {M0 : gS} {M1 : gS} {f : Nat → Int32} (h : va_P D vwCl ((qcW cB cI cJ cZ h0 a0 h1 a1 M0 M1).set 6 (a1 3, .inl (cI, 4, .inl f))) H) : va_P D vwCl (qcW cB cI cJ cZ h0 a0 h1 a1 M0 (sF M1 3 f)) H := h
theorem qcD_1_c3 {A : Nat → Prop} {cB cI cJ cZ : ClassId} {h0 : Nat} {a0 : Nat → Nat} {h1 : Nat} {a1 : Nat → Nat} {M0 : gS} {M1 : gS} {f : Nat → Int32} (h : va_D A ((qcW cB cI cJ cZ h0 a0 h1 a1 M0 M1).set 6 (a1 3, .inl (cI, 4, .inl f)))) : va_D A (qcW cB cI cJ cZ h0 a0 h1 a1 M0 (sF M1 3 f)) := h
theorem qcP_1_a5 {D : va_G} {H : Heap} {cB cI cJ cZ : ClassId} {h0 : Nat} {a0 : Nat → Nat} {h1 : Nat} {a1 : Nat → Nat} {M0 : gS} {M1 : gS} {j : Nat} {v : Int32} (h : va_P D vwCl ((qcW cB cI cJ cZ h0 a0 h1 a1 M0 M1).set 7 (a1 5, .inl (cI, 2, .inl (upd (ma M1 5) j v)))) H) : va_P D vwCl (qcW cB cI cJ cZ h0 a0 h1 a1 M0 (sa M1 5 j v)) H := h
theorem qcD_1_a5 {A : Nat → Prop} {cB cI cJ cZ : ClassId} {h0 : Nat} {a0 : Nat → Nat} {h1 : Nat} {a1 : Nat → Nat} {M0 : gS} {M1 : gS} {j : Nat} {v : Int32} (h : va_D A ((qcW cB cI cJ cZ h0 a0 h1 a1 M0 M1).set 7 (a1 5, .inl (cI, 2, .inl (upd (ma M1 5) j v))))) : va_D A (qcW cB cI cJ cZ h0 a0 h1 a1 M0 (sa M1 5 j v)) := h
theorem qcP_1_c5 {D : va_G} {H : Heap} {cB cI cJ cZ : ClassId} {h0 : Nat} {a0 : Nat → Nat} {h1 : Nat} {a1 : Nat → Nat} {M0 : gS} {M1 : gS} {f : Nat → Int32} (h : va_P D vwCl ((qcW cB cI cJ cZ h0 a0 h1 a1 M0 M1).set 7 (a1 5, .inl (cI, 2, .inl f))) H) : va_P D vwCl (qcW cB cI cJ cZ h0 a0 h1 a1 M0 (sF M1 5 f)) H := h
theorem qcD_1_c5 {A : Nat → Prop} {cB cI cJ cZ : ClassId} {h0 : Nat} {a0 : Nat → Nat} {h1 : Nat} {a1 : Nat → Nat} {M0 : gS} {M1 : gS} {f : Nat → Int32} (h : va_D A ((qcW cB cI cJ cZ h0 a0 h1 a1 M0 M1).set 7 (a1 5, .inl (cI, 2, .inl f)))) : va_D A (qcW cB cI cJ cZ h0 a0 h1 a1 M0 (sF M1 5 f)) := h
theorem qcpV {s : State} {dC : Nat → ClassId} {dI : Nat → Nat → Nat} {A : Nat → Prop} {cB cI cJ cZ : ClassId} {h0 : Nat} {a0 : Nat → Nat} {h1 : Nat} {a1 : Nat → Nat} {M0 : gS} {M1 : gS} {H : Heap} {As : List Value} (hK : va_K (dC, dI) vwCl (gT cB cI cJ cZ) s) (hP : va_P (dC, dI) vwCl (qcW cB cI cJ cZ h0 a0 h1 a1 M0 M1) H) (hD : va_D A (qcW cB cI cJ cZ h0 a0 h1 a1 M0 M1)) : PreV s H RX6 h0 (va_Pc (.ref h0 :: As) (qcI dC dI cB cI cJ cZ h0 a0 h1 a1 M0 M1 H.size)) As := ⟨fun a U g mk q => by obtain ⟨q0, q1, qP, qK, qD⟩ := q; exact ⟨q0, q1, qP, va_K.moved (u := U) (U := U.calling g mk a) (Vm.Alike.refl U.vm) qK, qD⟩, va_recv hK hP (ci := 6) (q0 := 0) rfl rfl, fun U hU hW => ⟨rfl, by rw [hU], by rw [hU]; exact hP, va_K.moved hW.alike hK, hD.weaken (fun _ _ _ _ => trivial)⟩⟩
theorem qcpS {s : State} {dC : Nat → ClassId} {dI : Nat → Nat → Nat} {A : Nat → Prop} {cB cI cJ cZ : ClassId} {h0 : Nat} {a0 : Nat → Nat} {h1 : Nat} {a1 : Nat → Nat} {M0 : gS} {M1 : gS} {H : Heap} {As : List Value} (hK : va_K (dC, dI) vwCl (gT cB cI cJ cZ) s) (hP : va_P (dC, dI) vwCl (qcW cB cI cJ cZ h0 a0 h1 a1 M0 M1) H) (hD : va_D A (qcW cB cI cJ cZ h0 a0 h1 a1 M0 M1)) : PreS s H (va_Pc As (qcI dC dI cB cI cJ cZ h0 a0 h1 a1 M0 M1 H.size)) As := ⟨fun a U g mk q => by obtain ⟨q0, q1, qP, qK, qD⟩ := q; exact ⟨q0, q1, qP, va_K.moved (u := U) (U := U.calling g mk a) (Vm.Alike.refl U.vm) qK, qD⟩, fun U hU hW => ⟨rfl, by rw [hU], by rw [hU]; exact hP, va_K.moved hW.alike hK, hD.weaken (fun _ _ _ _ => trivial)⟩⟩

abbrev cqW (cB cI cJ cZ : ClassId) (h0 : Nat) (a0 : Nat → Nat) (h1 : Nat) (a1 : Nat → Nat) (M0 : gS) (M1 : gS) : va_W := [(h0, .inr (1, [.int (mg M0 0), .ref (a0 1), .int (mg M0 2), .ref (a0 3), .int (mg M0 4), .ref (a0 5)])), (a0 1, .inl (cI, 4, .inl (ma M0 1))), (a0 3, .inl (cI, 4, .inl (ma M0 3))), (a0 5, .inl (cI, 2, .inl (ma M0 5))), (h1, .inr (6, [.int (mg M1 0), .int (mg M1 1), .int (mg M1 2), .int (mg M1 3), .int (mg M1 4), .int (mg M1 5), .int (mg M1 6), .ref (a1 7), .ref (a1 8), .ref (a1 9)])), (a1 7, .inl (cI, 2, .inl (ma M1 7))), (a1 8, .inl (cI, 2, .inl (ma M1 8))), (a1 9, .inl (cI, 2, .inl (ma M1 9)))]
abbrev cqI (dC : Nat → ClassId) (dI : Nat → Nat → Nat) (cB cI cJ cZ : ClassId) (h0 : Nat) (a0 : Nat → Nat) (h1 : Nat) (a1 : Nat → Nat) (M0 : gS) (M1 : gS) (sz : Nat) : State → Prop := fun U => U.heap.size = sz ∧ va_P (dC, dI) vwCl (cqW cB cI cJ cZ h0 a0 h1 a1 M0 M1) U.heap ∧ va_K (dC, dI) vwCl (gT cB cI cJ cZ) U ∧ va_D (fun _ => True) (cqW cB cI cJ cZ h0 a0 h1 a1 M0 M1)
abbrev cqB (dC : Nat → ClassId) (dI : Nat → Nat → Nat) (cB cI cJ cZ : ClassId) (h0 : Nat) (a0 : Nat → Nat) (h1 : Nat) (a1 : Nat → Nat) (A : Nat → Prop) (u : gS × gS) (t : State) : Prop := match u with
  | (M0, M1) => va_P (dC, dI) vwCl (cqW cB cI cJ cZ h0 a0 h1 a1 M0 M1) t.heap ∧ va_K (dC, dI) vwCl (gT cB cI cJ cZ) t ∧ va_D A (cqW cB cI cJ cZ h0 a0 h1 a1 M0 M1)
theorem cqP_0_f0 {D : va_G} {H : Heap} {cB cI cJ cZ : ClassId} {h0 : Nat} {a0 : Nat → Nat} {h1 : Nat} {a1 : Nat → Nat} {M0 : gS} {M1 : gS} {v : Int32} (h : va_P D vwCl ((cqW cB cI cJ cZ h0 a0 h1 a1 M0 M1).set 0 (h0, .inr (1, ([.int (mg M0 0), .ref (a0 1), .int (mg M0 2), .ref (a0 3), .int (mg M0 4), .ref (a0 5)]).set 0 (.int v)))) H) : va_P D vwCl (cqW cB cI cJ cZ h0 a0 h1 a1 (sg M0 0 v) M1) H := h
theorem cqD_0_f0 {A : Nat → Prop} {cB cI cJ cZ : ClassId} {h0 : Nat} {a0 : Nat → Nat} {h1 : Nat} {a1 : Nat → Nat} {M0 : gS} {M1 : gS} {v : Int32} (h : va_D A ((cqW cB cI cJ cZ h0 a0 h1 a1 M0 M1).set 0 (h0, .inr (1, ([.int (mg M0 0), .ref (a0 1), .int (mg M0 2), .ref (a0 3), .int (mg M0 4), .ref (a0 5)]).set 0 (.int v))))) : va_D A (cqW cB cI cJ cZ h0 a0 h1 a1 (sg M0 0 v) M1) := h
theorem cqP_0_f2 {D : va_G} {H : Heap} {cB cI cJ cZ : ClassId} {h0 : Nat} {a0 : Nat → Nat} {h1 : Nat} {a1 : Nat → Nat} {M0 : gS} {M1 : gS} {v : Int32} (h : va_P D vwCl ((cqW cB cI cJ cZ h0 a0 h1 a1 M0 M1).set 0 (h0, .inr (1, ([.int (mg M0 0), .ref (a0 1), .int (mg M0 2), .ref (a0 3), .int (mg M0 4), .ref (a0 5)]).set 2 (.int v)))) H) : va_P D vwCl (cqW cB cI cJ cZ h0 a0 h1 a1 (sg M0 2 v) M1) H := h
theorem cqD_0_f2 {A : Nat → Prop} {cB cI cJ cZ : ClassId} {h0 : Nat} {a0 : Nat → Nat} {h1 : Nat} {a1 : Nat → Nat} {M0 : gS} {M1 : gS} {v : Int32} (h : va_D A ((cqW cB cI cJ cZ h0 a0 h1 a1 M0 M1).set 0 (h0, .inr (1, ([.int (mg M0 0), .ref (a0 1), .int (mg M0 2), .ref (a0 3), .int (mg M0 4), .ref (a0 5)]).set 2 (.int v))))) : va_D A (cqW cB cI cJ cZ h0 a0 h1 a1 (sg M0 2 v) M1) := h
theorem cqP_0_f4 {D : va_G} {H : Heap} {cB cI cJ cZ : ClassId} {h0 : Nat} {a0 : Nat → Nat} {h1 : Nat} {a1 : Nat → Nat} {M0 : gS} {M1 : gS} {v : Int32} (h : va_P D vwCl ((cqW cB cI cJ cZ h0 a0 h1 a1 M0 M1).set 0 (h0, .inr (1, ([.int (mg M0 0), .ref (a0 1), .int (mg M0 2), .ref (a0 3), .int (mg M0 4), .ref (a0 5)]).set 4 (.int v)))) H) : va_P D vwCl (cqW cB cI cJ cZ h0 a0 h1 a1 (sg M0 4 v) M1) H := h
theorem cqD_0_f4 {A : Nat → Prop} {cB cI cJ cZ : ClassId} {h0 : Nat} {a0 : Nat → Nat} {h1 : Nat} {a1 : Nat → Nat} {M0 : gS} {M1 : gS} {v : Int32} (h : va_D A ((cqW cB cI cJ cZ h0 a0 h1 a1 M0 M1).set 0 (h0, .inr (1, ([.int (mg M0 0), .ref (a0 1), .int (mg M0 2), .ref (a0 3), .int (mg M0 4), .ref (a0 5)]).set 4 (.int v))))) : va_D A (cqW cB cI cJ cZ h0 a0 h1 a1 (sg M0 4 v) M1) := h
theorem cqP_0_a1 {D : va_G} {H : Heap} {cB cI cJ cZ : ClassId} {h0 : Nat} {a0 : Nat → Nat} {h1 : Nat} {a1 : Nat → Nat} {M0 : gS} {M1 : gS} {j : Nat} {v : Int32} (h : va_P D vwCl ((cqW cB cI cJ cZ h0 a0 h1 a1 M0 M1).set 1 (a0 1, .inl (cI, 4, .inl (upd (ma M0 1) j v)))) H) : va_P D vwCl (cqW cB cI cJ cZ h0 a0 h1 a1 (sa M0 1 j v) M1) H := h
theorem cqD_0_a1 {A : Nat → Prop} {cB cI cJ cZ : ClassId} {h0 : Nat} {a0 : Nat → Nat} {h1 : Nat} {a1 : Nat → Nat} {M0 : gS} {M1 : gS} {j : Nat} {v : Int32} (h : va_D A ((cqW cB cI cJ cZ h0 a0 h1 a1 M0 M1).set 1 (a0 1, .inl (cI, 4, .inl (upd (ma M0 1) j v))))) : va_D A (cqW cB cI cJ cZ h0 a0 h1 a1 (sa M0 1 j v) M1) := h
theorem cqP_0_c1 {D : va_G} {H : Heap} {cB cI cJ cZ : ClassId} {h0 : Nat} {a0 : Nat → Nat} {h1 : Nat} {a1 : Nat → Nat} {M0 : gS} {M1 : gS} {f : Nat → Int32} (h : va_P D vwCl ((cqW cB cI cJ cZ h0 a0 h1 a1 M0 M1).set 1 (a0 1, .inl (cI, 4, .inl f))) H) : va_P D vwCl (cqW cB cI cJ cZ h0 a0 h1 a1 (sF M0 1 f) M1) H := h
theorem cqD_0_c1 {A : Nat → Prop} {cB cI cJ cZ : ClassId} {h0 : Nat} {a0 : Nat → Nat} {h1 : Nat} {a1 : Nat → Nat} {M0 : gS} {M1 : gS} {f : Nat → Int32} (h : va_D A ((cqW cB cI cJ cZ h0 a0 h1 a1 M0 M1).set 1 (a0 1, .inl (cI, 4, .inl f)))) : va_D A (cqW cB cI cJ cZ h0 a0 h1 a1 (sF M0 1 f) M1) := h
theorem cqP_0_a3 {D : va_G} {H : Heap} {cB cI cJ cZ : ClassId} {h0 : Nat} {a0 : Nat → Nat} {h1 : Nat} {a1 : Nat → Nat} {M0 : gS} {M1 : gS} {j : Nat} {v : Int32} (h : va_P D vwCl ((cqW cB cI cJ cZ h0 a0 h1 a1 M0 M1).set 2 (a0 3, .inl (cI, 4, .inl (upd (ma M0 3) j v)))) H) : va_P D vwCl (cqW cB cI cJ cZ h0 a0 h1 a1 (sa M0 3 j v) M1) H := h
theorem cqD_0_a3 {A : Nat → Prop} {cB cI cJ cZ : ClassId} {h0 : Nat} {a0 : Nat → Nat} {h1 : Nat} {a1 : Nat → Nat} {M0 : gS} {M1 : gS} {j : Nat} {v : Int32} (h : va_D A ((cqW cB cI cJ cZ h0 a0 h1 a1 M0 M1).set 2 (a0 3, .inl (cI, 4, .inl (upd (ma M0 3) j v))))) : va_D A (cqW cB cI cJ cZ h0 a0 h1 a1 (sa M0 3 j v) M1) := h
theorem cqP_0_c3 {D : va_G} {H : Heap} {cB cI cJ cZ : ClassId} {h0 : Nat} {a0 : Nat → Nat} {h1 : Nat} {a1 : Nat → Nat} {M0 : gS} {M1 : gS} {f : Nat → Int32} (h : va_P D vwCl ((cqW cB cI cJ cZ h0 a0 h1 a1 M0 M1).set 2 (a0 3, .inl (cI, 4, .inl f))) H) : va_P D vwCl (cqW cB cI cJ cZ h0 a0 h1 a1 (sF M0 3 f) M1) H := h
theorem cqD_0_c3 {A : Nat → Prop} {cB cI cJ cZ : ClassId} {h0 : Nat} {a0 : Nat → Nat} {h1 : Nat} {a1 : Nat → Nat} {M0 : gS} {M1 : gS} {f : Nat → Int32} (h : va_D A ((cqW cB cI cJ cZ h0 a0 h1 a1 M0 M1).set 2 (a0 3, .inl (cI, 4, .inl f)))) : va_D A (cqW cB cI cJ cZ h0 a0 h1 a1 (sF M0 3 f) M1) := h
theorem cqP_0_a5 {D : va_G} {H : Heap} {cB cI cJ cZ : ClassId} {h0 : Nat} {a0 : Nat → Nat} {h1 : Nat} {a1 : Nat → Nat} {M0 : gS} {M1 : gS} {j : Nat} {v : Int32} (h : va_P D vwCl ((cqW cB cI cJ cZ h0 a0 h1 a1 M0 M1).set 3 (a0 5, .inl (cI, 2, .inl (upd (ma M0 5) j v)))) H) : va_P D vwCl (cqW cB cI cJ cZ h0 a0 h1 a1 (sa M0 5 j v) M1) H := h
theorem cqD_0_a5 {A : Nat → Prop} {cB cI cJ cZ : ClassId} {h0 : Nat} {a0 : Nat → Nat} {h1 : Nat} {a1 : Nat → Nat} {M0 : gS} {M1 : gS} {j : Nat} {v : Int32} (h : va_D A ((cqW cB cI cJ cZ h0 a0 h1 a1 M0 M1).set 3 (a0 5, .inl (cI, 2, .inl (upd (ma M0 5) j v))))) : va_D A (cqW cB cI cJ cZ h0 a0 h1 a1 (sa M0 5 j v) M1) := h
theorem cqP_0_c5 {D : va_G} {H : Heap} {cB cI cJ cZ : ClassId} {h0 : Nat} {a0 : Nat → Nat} {h1 : Nat} {a1 : Nat → Nat} {M0 : gS} {M1 : gS} {f : Nat → Int32} (h : va_P D vwCl ((cqW cB cI cJ cZ h0 a0 h1 a1 M0 M1).set 3 (a0 5, .inl (cI, 2, .inl f))) H) : va_P D vwCl (cqW cB cI cJ cZ h0 a0 h1 a1 (sF M0 5 f) M1) H := h
theorem cqD_0_c5 {A : Nat → Prop} {cB cI cJ cZ : ClassId} {h0 : Nat} {a0 : Nat → Nat} {h1 : Nat} {a1 : Nat → Nat} {M0 : gS} {M1 : gS} {f : Nat → Int32} (h : va_D A ((cqW cB cI cJ cZ h0 a0 h1 a1 M0 M1).set 3 (a0 5, .inl (cI, 2, .inl f)))) : va_D A (cqW cB cI cJ cZ h0 a0 h1 a1 (sF M0 5 f) M1) := h
theorem cqP_1_f0 {D : va_G} {H : Heap} {cB cI cJ cZ : ClassId} {h0 : Nat} {a0 : Nat → Nat} {h1 : Nat} {a1 : Nat → Nat} {M0 : gS} {M1 : gS} {v : Int32} (h : va_P D vwCl ((cqW cB cI cJ cZ h0 a0 h1 a1 M0 M1).set 4 (h1, .inr (6, ([.int (mg M1 0), .int (mg M1 1), .int (mg M1 2), .int (mg M1 3), .int (mg M1 4), .int (mg M1 5), .int (mg M1 6), .ref (a1 7), .ref (a1 8), .ref (a1 9)]).set 0 (.int v)))) H) : va_P D vwCl (cqW cB cI cJ cZ h0 a0 h1 a1 M0 (sg M1 0 v)) H := h
theorem cqD_1_f0 {A : Nat → Prop} {cB cI cJ cZ : ClassId} {h0 : Nat} {a0 : Nat → Nat} {h1 : Nat} {a1 : Nat → Nat} {M0 : gS} {M1 : gS} {v : Int32} (h : va_D A ((cqW cB cI cJ cZ h0 a0 h1 a1 M0 M1).set 4 (h1, .inr (6, ([.int (mg M1 0), .int (mg M1 1), .int (mg M1 2), .int (mg M1 3), .int (mg M1 4), .int (mg M1 5), .int (mg M1 6), .ref (a1 7), .ref (a1 8), .ref (a1 9)]).set 0 (.int v))))) : va_D A (cqW cB cI cJ cZ h0 a0 h1 a1 M0 (sg M1 0 v)) := h
theorem cqP_1_f1 {D : va_G} {H : Heap} {cB cI cJ cZ : ClassId} {h0 : Nat} {a0 : Nat → Nat} {h1 : Nat} {a1 : Nat → Nat} {M0 : gS} {M1 : gS} {v : Int32} (h : va_P D vwCl ((cqW cB cI cJ cZ h0 a0 h1 a1 M0 M1).set 4 (h1, .inr (6, ([.int (mg M1 0), .int (mg M1 1), .int (mg M1 2), .int (mg M1 3), .int (mg M1 4), .int (mg M1 5), .int (mg M1 6), .ref (a1 7), .ref (a1 8), .ref (a1 9)]).set 1 (.int v)))) H) : va_P D vwCl (cqW cB cI cJ cZ h0 a0 h1 a1 M0 (sg M1 1 v)) H := h
theorem cqD_1_f1 {A : Nat → Prop} {cB cI cJ cZ : ClassId} {h0 : Nat} {a0 : Nat → Nat} {h1 : Nat} {a1 : Nat → Nat} {M0 : gS} {M1 : gS} {v : Int32} (h : va_D A ((cqW cB cI cJ cZ h0 a0 h1 a1 M0 M1).set 4 (h1, .inr (6, ([.int (mg M1 0), .int (mg M1 1), .int (mg M1 2), .int (mg M1 3), .int (mg M1 4), .int (mg M1 5), .int (mg M1 6), .ref (a1 7), .ref (a1 8), .ref (a1 9)]).set 1 (.int v))))) : va_D A (cqW cB cI cJ cZ h0 a0 h1 a1 M0 (sg M1 1 v)) := h
theorem cqP_1_f2 {D : va_G} {H : Heap} {cB cI cJ cZ : ClassId} {h0 : Nat} {a0 : Nat → Nat} {h1 : Nat} {a1 : Nat → Nat} {M0 : gS} {M1 : gS} {v : Int32} (h : va_P D vwCl ((cqW cB cI cJ cZ h0 a0 h1 a1 M0 M1).set 4 (h1, .inr (6, ([.int (mg M1 0), .int (mg M1 1), .int (mg M1 2), .int (mg M1 3), .int (mg M1 4), .int (mg M1 5), .int (mg M1 6), .ref (a1 7), .ref (a1 8), .ref (a1 9)]).set 2 (.int v)))) H) : va_P D vwCl (cqW cB cI cJ cZ h0 a0 h1 a1 M0 (sg M1 2 v)) H := h
theorem cqD_1_f2 {A : Nat → Prop} {cB cI cJ cZ : ClassId} {h0 : Nat} {a0 : Nat → Nat} {h1 : Nat} {a1 : Nat → Nat} {M0 : gS} {M1 : gS} {v : Int32} (h : va_D A ((cqW cB cI cJ cZ h0 a0 h1 a1 M0 M1).set 4 (h1, .inr (6, ([.int (mg M1 0), .int (mg M1 1), .int (mg M1 2), .int (mg M1 3), .int (mg M1 4), .int (mg M1 5), .int (mg M1 6), .ref (a1 7), .ref (a1 8), .ref (a1 9)]).set 2 (.int v))))) : va_D A (cqW cB cI cJ cZ h0 a0 h1 a1 M0 (sg M1 2 v)) := h
theorem cqP_1_f3 {D : va_G} {H : Heap} {cB cI cJ cZ : ClassId} {h0 : Nat} {a0 : Nat → Nat} {h1 : Nat} {a1 : Nat → Nat} {M0 : gS} {M1 : gS} {v : Int32} (h : va_P D vwCl ((cqW cB cI cJ cZ h0 a0 h1 a1 M0 M1).set 4 (h1, .inr (6, ([.int (mg M1 0), .int (mg M1 1), .int (mg M1 2), .int (mg M1 3), .int (mg M1 4), .int (mg M1 5), .int (mg M1 6), .ref (a1 7), .ref (a1 8), .ref (a1 9)]).set 3 (.int v)))) H) : va_P D vwCl (cqW cB cI cJ cZ h0 a0 h1 a1 M0 (sg M1 3 v)) H := h
theorem cqD_1_f3 {A : Nat → Prop} {cB cI cJ cZ : ClassId} {h0 : Nat} {a0 : Nat → Nat} {h1 : Nat} {a1 : Nat → Nat} {M0 : gS} {M1 : gS} {v : Int32} (h : va_D A ((cqW cB cI cJ cZ h0 a0 h1 a1 M0 M1).set 4 (h1, .inr (6, ([.int (mg M1 0), .int (mg M1 1), .int (mg M1 2), .int (mg M1 3), .int (mg M1 4), .int (mg M1 5), .int (mg M1 6), .ref (a1 7), .ref (a1 8), .ref (a1 9)]).set 3 (.int v))))) : va_D A (cqW cB cI cJ cZ h0 a0 h1 a1 M0 (sg M1 3 v)) := h
theorem cqP_1_f4 {D : va_G} {H : Heap} {cB cI cJ cZ : ClassId} {h0 : Nat} {a0 : Nat → Nat} {h1 : Nat} {a1 : Nat → Nat} {M0 : gS} {M1 : gS} {v : Int32} (h : va_P D vwCl ((cqW cB cI cJ cZ h0 a0 h1 a1 M0 M1).set 4 (h1, .inr (6, ([.int (mg M1 0), .int (mg M1 1), .int (mg M1 2), .int (mg M1 3), .int (mg M1 4), .int (mg M1 5), .int (mg M1 6), .ref (a1 7), .ref (a1 8), .ref (a1 9)]).set 4 (.int v)))) H) : va_P D vwCl (cqW cB cI cJ cZ h0 a0 h1 a1 M0 (sg M1 4 v)) H := h
theorem cqD_1_f4 {A : Nat → Prop} {cB cI cJ cZ : ClassId} {h0 : Nat} {a0 : Nat → Nat} {h1 : Nat} {a1 : Nat → Nat} {M0 : gS} {M1 : gS} {v : Int32} (h : va_D A ((cqW cB cI cJ cZ h0 a0 h1 a1 M0 M1).set 4 (h1, .inr (6, ([.int (mg M1 0), .int (mg M1 1), .int (mg M1 2), .int (mg M1 3), .int (mg M1 4), .int (mg M1 5), .int (mg M1 6), .ref (a1 7), .ref (a1 8), .ref (a1 9)]).set 4 (.int v))))) : va_D A (cqW cB cI cJ cZ h0 a0 h1 a1 M0 (sg M1 4 v)) := h
theorem cqP_1_f5 {D : va_G} {H : Heap} {cB cI cJ cZ : ClassId} {h0 : Nat} {a0 : Nat → Nat} {h1 : Nat} {a1 : Nat → Nat} {M0 : gS} {M1 : gS} {v : Int32} (h : va_P D vwCl ((cqW cB cI cJ cZ h0 a0 h1 a1 M0 M1).set 4 (h1, .inr (6, ([.int (mg M1 0), .int (mg M1 1), .int (mg M1 2), .int (mg M1 3), .int (mg M1 4), .int (mg M1 5), .int (mg M1 6), .ref (a1 7), .ref (a1 8), .ref (a1 9)]).set 5 (.int v)))) H) : va_P D vwCl (cqW cB cI cJ cZ h0 a0 h1 a1 M0 (sg M1 5 v)) H := h
theorem cqD_1_f5 {A : Nat → Prop} {cB cI cJ cZ : ClassId} {h0 : Nat} {a0 : Nat → Nat} {h1 : Nat} {a1 : Nat → Nat} {M0 : gS} {M1 : gS} {v : Int32} (h : va_D A ((cqW cB cI cJ cZ h0 a0 h1 a1 M0 M1).set 4 (h1, .inr (6, ([.int (mg M1 0), .int (mg M1 1), .int (mg M1 2), .int (mg M1 3), .int (mg M1 4), .int (mg M1 5), .int (mg M1 6), .ref (a1 7), .ref (a1 8), .ref (a1 9)]).set 5 (.int v))))) : va_D A (cqW cB cI cJ cZ h0 a0 h1 a1 M0 (sg M1 5 v)) := h
theorem cqP_1_f6 {D : va_G} {H : Heap} {cB cI cJ cZ : ClassId} {h0 : Nat} {a0 : Nat → Nat} {h1 : Nat} {a1 : Nat → Nat} {M0 : gS} {M1 : gS} {v : Int32} (h : va_P D vwCl ((cqW cB cI cJ cZ h0 a0 h1 a1 M0 M1).set 4 (h1, .inr (6, ([.int (mg M1 0), .int (mg M1 1), .int (mg M1 2), .int (mg M1 3), .int (mg M1 4), .int (mg M1 5), .int (mg M1 6), .ref (a1 7), .ref (a1 8), .ref (a1 9)]).set 6 (.int v)))) H) : va_P D vwCl (cqW cB cI cJ cZ h0 a0 h1 a1 M0 (sg M1 6 v)) H := h
theorem cqD_1_f6 {A : Nat → Prop} {cB cI cJ cZ : ClassId} {h0 : Nat} {a0 : Nat → Nat} {h1 : Nat} {a1 : Nat → Nat} {M0 : gS} {M1 : gS} {v : Int32} (h : va_D A ((cqW cB cI cJ cZ h0 a0 h1 a1 M0 M1).set 4 (h1, .inr (6, ([.int (mg M1 0), .int (mg M1 1), .int (mg M1 2), .int (mg M1 3), .int (mg M1 4), .int (mg M1 5), .int (mg M1 6), .ref (a1 7), .ref (a1 8), .ref (a1 9)]).set 6 (.int v))))) : va_D A (cqW cB cI cJ cZ h0 a0 h1 a1 M0 (sg M1 6 v)) := h
theorem cqP_1_a7 {D : va_G} {H : Heap} {cB cI cJ cZ : ClassId} {h0 : Nat} {a0 : Nat → Nat} {h1 : Nat} {a1 : Nat → Nat} {M0 : gS} {M1 : gS} {j : Nat} {v : Int32} (h : va_P D vwCl ((cqW cB cI cJ cZ h0 a0 h1 a1 M0 M1).set 5 (a1 7, .inl (cI, 2, .inl (upd (ma M1 7) j v)))) H) : va_P D vwCl (cqW cB cI cJ cZ h0 a0 h1 a1 M0 (sa M1 7 j v)) H := h
theorem cqD_1_a7 {A : Nat → Prop} {cB cI cJ cZ : ClassId} {h0 : Nat} {a0 : Nat → Nat} {h1 : Nat} {a1 : Nat → Nat} {M0 : gS} {M1 : gS} {j : Nat} {v : Int32} (h : va_D A ((cqW cB cI cJ cZ h0 a0 h1 a1 M0 M1).set 5 (a1 7, .inl (cI, 2, .inl (upd (ma M1 7) j v))))) : va_D A (cqW cB cI cJ cZ h0 a0 h1 a1 M0 (sa M1 7 j v)) := h
theorem cqP_1_c7 {D : va_G} {H : Heap} {cB cI cJ cZ : ClassId} {h0 : Nat} {a0 : Nat → Nat} {h1 : Nat} {a1 : Nat → Nat} {M0 : gS} {M1 : gS} {f : Nat → Int32} (h : va_P D vwCl ((cqW cB cI cJ cZ h0 a0 h1 a1 M0 M1).set 5 (a1 7, .inl (cI, 2, .inl f))) H) : va_P D vwCl (cqW cB cI cJ cZ h0 a0 h1 a1 M0 (sF M1 7 f)) H := h
theorem cqD_1_c7 {A : Nat → Prop} {cB cI cJ cZ : ClassId} {h0 : Nat} {a0 : Nat → Nat} {h1 : Nat} {a1 : Nat → Nat} {M0 : gS} {M1 : gS} {f : Nat → Int32} (h : va_D A ((cqW cB cI cJ cZ h0 a0 h1 a1 M0 M1).set 5 (a1 7, .inl (cI, 2, .inl f)))) : va_D A (cqW cB cI cJ cZ h0 a0 h1 a1 M0 (sF M1 7 f)) := h
theorem cqP_1_a8 {D : va_G} {H : Heap} {cB cI cJ cZ : ClassId} {h0 : Nat} {a0 : Nat → Nat} {h1 : Nat} {a1 : Nat → Nat} {M0 : gS} {M1 : gS} {j : Nat} {v : Int32} (h : va_P D vwCl ((cqW cB cI cJ cZ h0 a0 h1 a1 M0 M1).set 6 (a1 8, .inl (cI, 2, .inl (upd (ma M1 8) j v)))) H) : va_P D vwCl (cqW cB cI cJ cZ h0 a0 h1 a1 M0 (sa M1 8 j v)) H := h
theorem cqD_1_a8 {A : Nat → Prop} {cB cI cJ cZ : ClassId} {h0 : Nat} {a0 : Nat → Nat} {h1 : Nat} {a1 : Nat → Nat} {M0 : gS} {M1 : gS} {j : Nat} {v : Int32} (h : va_D A ((cqW cB cI cJ cZ h0 a0 h1 a1 M0 M1).set 6 (a1 8, .inl (cI, 2, .inl (upd (ma M1 8) j v))))) : va_D A (cqW cB cI cJ cZ h0 a0 h1 a1 M0 (sa M1 8 j v)) := h
theorem cqP_1_c8 {D : va_G} {H : Heap} {cB cI cJ cZ : ClassId} {h0 : Nat} {a0 : Nat → Nat} {h1 : Nat} {a1 : Nat → Nat} {M0 : gS} {M1 : gS} {f : Nat → Int32} (h : va_P D vwCl ((cqW cB cI cJ cZ h0 a0 h1 a1 M0 M1).set 6 (a1 8, .inl (cI, 2, .inl f))) H) : va_P D vwCl (cqW cB cI cJ cZ h0 a0 h1 a1 M0 (sF M1 8 f)) H := h
theorem cqD_1_c8 {A : Nat → Prop} {cB cI cJ cZ : ClassId} {h0 : Nat} {a0 : Nat → Nat} {h1 : Nat} {a1 : Nat → Nat} {M0 : gS} {M1 : gS} {f : Nat → Int32} (h : va_D A ((cqW cB cI cJ cZ h0 a0 h1 a1 M0 M1).set 6 (a1 8, .inl (cI, 2, .inl f)))) : va_D A (cqW cB cI cJ cZ h0 a0 h1 a1 M0 (sF M1 8 f)) := h
theorem cqP_1_a9 {D : va_G} {H : Heap} {cB cI cJ cZ : ClassId} {h0 : Nat} {a0 : Nat → Nat} {h1 : Nat} {a1 : Nat → Nat} {M0 : gS} {M1 : gS} {j : Nat} {v : Int32} (h : va_P D vwCl ((cqW cB cI cJ cZ h0 a0 h1 a1 M0 M1).set 7 (a1 9, .inl (cI, 2, .inl (upd (ma M1 9) j v)))) H) : va_P D vwCl (cqW cB cI cJ cZ h0 a0 h1 a1 M0 (sa M1 9 j v)) H := h
theorem cqD_1_a9 {A : Nat → Prop} {cB cI cJ cZ : ClassId} {h0 : Nat} {a0 : Nat → Nat} {h1 : Nat} {a1 : Nat → Nat} {M0 : gS} {M1 : gS} {j : Nat} {v : Int32} (h : va_D A ((cqW cB cI cJ cZ h0 a0 h1 a1 M0 M1).set 7 (a1 9, .inl (cI, 2, .inl (upd (ma M1 9) j v))))) : va_D A (cqW cB cI cJ cZ h0 a0 h1 a1 M0 (sa M1 9 j v)) := h
theorem cqP_1_c9 {D : va_G} {H : Heap} {cB cI cJ cZ : ClassId} {h0 : Nat} {a0 : Nat → Nat} {h1 : Nat} {a1 : Nat → Nat} {M0 : gS} {M1 : gS} {f : Nat → Int32} (h : va_P D vwCl ((cqW cB cI cJ cZ h0 a0 h1 a1 M0 M1).set 7 (a1 9, .inl (cI, 2, .inl f))) H) : va_P D vwCl (cqW cB cI cJ cZ h0 a0 h1 a1 M0 (sF M1 9 f)) H := h
theorem cqD_1_c9 {A : Nat → Prop} {cB cI cJ cZ : ClassId} {h0 : Nat} {a0 : Nat → Nat} {h1 : Nat} {a1 : Nat → Nat} {M0 : gS} {M1 : gS} {f : Nat → Int32} (h : va_D A ((cqW cB cI cJ cZ h0 a0 h1 a1 M0 M1).set 7 (a1 9, .inl (cI, 2, .inl f)))) : va_D A (cqW cB cI cJ cZ h0 a0 h1 a1 M0 (sF M1 9 f)) := h
theorem cqpV {s : State} {dC : Nat → ClassId} {dI : Nat → Nat → Nat} {A : Nat → Prop} {cB cI cJ cZ : ClassId} {h0 : Nat} {a0 : Nat → Nat} {h1 : Nat} {a1 : Nat → Nat} {M0 : gS} {M1 : gS} {H : Heap} {As : List Value} (hK : va_K (dC, dI) vwCl (gT cB cI cJ cZ) s) (hP : va_P (dC, dI) vwCl (cqW cB cI cJ cZ h0 a0 h1 a1 M0 M1) H) (hD : va_D A (cqW cB cI cJ cZ h0 a0 h1 a1 M0 M1)) : PreV s H RX1 h0 (va_Pc (.ref h0 :: As) (cqI dC dI cB cI cJ cZ h0 a0 h1 a1 M0 M1 H.size)) As := ⟨fun a U g mk q => by obtain ⟨q0, q1, qP, qK, qD⟩ := q; exact ⟨q0, q1, qP, va_K.moved (u := U) (U := U.calling g mk a) (Vm.Alike.refl U.vm) qK, qD⟩, va_recv hK hP (ci := 1) (q0 := 0) rfl rfl, fun U hU hW => ⟨rfl, by rw [hU], by rw [hU]; exact hP, va_K.moved hW.alike hK, hD.weaken (fun _ _ _ _ => trivial)⟩⟩
theorem cqpS {s : State} {dC : Nat → ClassId} {dI : Nat → Nat → Nat} {A : Nat → Prop} {cB cI cJ cZ : ClassId} {h0 : Nat} {a0 : Nat → Nat} {h1 : Nat} {a1 : Nat → Nat} {M0 : gS} {M1 : gS} {H : Heap} {As : List Value} (hK : va_K (dC, dI) vwCl (gT cB cI cJ cZ) s) (hP : va_P (dC, dI) vwCl (cqW cB cI cJ cZ h0 a0 h1 a1 M0 M1) H) (hD : va_D A (cqW cB cI cJ cZ h0 a0 h1 a1 M0 M1)) : PreS s H (va_Pc As (cqI dC dI cB cI cJ cZ h0 a0 h1 a1 M0 M1 H.size)) As := ⟨fun a U g mk q => by obtain ⟨q0, q1, qP, qK, qD⟩ := q; exact ⟨q0, q1, qP, va_K.moved (u := U) (U := U.calling g mk a) (Vm.Alike.refl U.vm) qK, qD⟩, fun U hU hW => ⟨rfl, by rw [hU], by rw [hU]; exact hP, va_K.moved hW.alike hK, hD.weaken (fun _ _ _ _ => trivial)⟩⟩
def wX6_copyFrom  (M0 : gS) (M1 : gS) (Q : gS → gS → Prop) : Prop :=
 (∀ x1 : Int32, x1 = (mg M1 0) → (∃ b2 : Bool, x1 = bI b2 ∧ (∀ N3 : gS, N3 = sg M0 0 x1 → (∀ x4 : Int32, x4 = (mg M1 1) → (∀ N5 : gS, N5 = sg N3 1 x4 → (∀ x6 : Int32, x6 = (mg M1 2) → (∀ N7 : gS, N7 = sg N5 2 x6 → (∀ x8 : Int32, x8 = (mg M1 3) → (∀ N9 : gS, N9 = sg N7 3 x8 → (∀ x10 : Int32, x10 = (mg M1 4) → (∀ N11 : gS, N11 = sg N9 4 x10 → (∀ x12 : Int32, x12 = (mg M1 5) → (∀ N13 : gS, N13 = sg N11 5 x12 → (∀ x14 : Int32, x14 = (mg M1 6) → (∀ N15 : gS, N15 = sg N13 6 x14 → (∀ N16 : gS, N16 = sF N15 7 (va_cpy (ma M1 7) (ma N15 7) 0 0 2) → (∀ N17 : gS, N17 = sF N16 8 (va_cpy (ma M1 8) (ma N16 8) 0 0 2) → (∀ N18 : gS, N18 = sF N17 9 (va_cpy (ma M1 9) (ma N17 9) 0 0 2) → (Q N18 M1)))))))))))))))))))
def rmX6_copyFrom : Room := { frames := 1, cells := 0, slots := 0, locals := 64 }
set_option maxHeartbeats 4000000 in
set_option maxRecDepth 100000 in
theorem kX6_copyFrom (l : Launch) (dC : Nat → ClassId) (dI : Nat → Nat → Nat) (cB cI cJ cZ : ClassId) (h0 : Nat) (a0 : Nat → Nat) (h1 : Nat) (a1 : Nat → Nat) (sz : Nat)  (M0 : gS) (M1 : gS) (Q : gS → gS → Prop) (h : wX6_copyFrom  M0 M1 Q) : Met l yX6_copyFrom wsX6_copyFrom rmX6_copyFrom (va_Pc [.ref h0, .ref h1] (qkI dC dI cB cI cJ cZ h0 a0 h1 a1 M0 M1 sz)) (va_Qv (fun (u : gS × gS) => Q u.1 u.2) (qkB dC dI cB cI cJ cZ h0 a0 h1 a1 (va_A (qkW cB cI cJ cZ h0 a0 h1 a1 M0 M1) sz)) (va_A (qkW cB cI cJ cZ h0 a0 h1 a1 M0 M1) sz)) 0 0 (va_A (qkW cB cI cJ cZ h0 a0 h1 a1 M0 M1) sz) := by
  refine Met.ofW (cc := cX6_copyFrom) (maxL := 2) (ret := none) (by decide) rfl ?_
  intro p e s m args below meth c s₁ B hml hv
  obtain ⟨rfl, hsz, hP, hK, hD0⟩ := hv
  have hx := B.exec
  have hb := B.bytes
  have hr := B.returns
  have hts := atoms_spec (ws := wsX6_copyFrom) B.pre
  have hown : s.vm.findClass RX6 = some m.cls := findClass_of_methodNamed B.named
  have hlocks := B.notSynchronized
  subst hsz
  have hD := hD0.self (sz := s.heap.size)
  generalize hAe : va_A (qkW cB cI cJ cZ h0 a0 h1 a1 M0 M1) s.heap.size = A at hD ⊢
  have hA : ∀ q : Nat, s.heap.size ≤ q → A q := fun q h => by rw [← hAe]; exact Or.inr h
  have hS : va_S A s.heap s.heap [] := va_S.rf
  have hinX6 : ∀ w ∈ wsX60, w ∈ wsX6_copyFrom := by decide +kernel
  have f1 := hts (.fieldLink RX6 28 "LastWords$Quarrel" "goesOn" "Z") (by decide +kernel)
  have f2 := hts (.fieldLink RX6 9 "LastWords$Quarrel" "verse" "I") (by decide +kernel)
  have f3 := hts (.fieldLink RX6 32 "LastWords$Quarrel" "left" "I") (by decide +kernel)
  have f4 := hts (.fieldLink RX6 35 "LastWords$Quarrel" "turn" "I") (by decide +kernel)
  have f5 := hts (.fieldLink RX6 38 "LastWords$Quarrel" "moves" "I") (by decide +kernel)
  have f6 := hts (.fieldLink RX6 41 "LastWords$Quarrel" "hat" "I") (by decide +kernel)
  have f7 := hts (.fieldLink RX6 15 "LastWords$Quarrel" "winner" "I") (by decide +kernel)
  have f8 := hts (.fieldLink RX6 18 "LastWords$Quarrel" "purse" "[I") (by decide +kernel)
  have f9 := hts (.methodLink RX6 44 arraycopyName) (by decide +kernel)
  have f10 := hts (.native arraycopyName) (by decide +kernel)
  have f11 := hts (.static arraycopyName) (by decide +kernel)
  have f12 := hts (.initialized "java/lang/System") (by decide +kernel)
  have f13 := hts (.fieldLink RX6 22 "LastWords$Quarrel" "last" "[I") (by decide +kernel)
  have f14 := hts (.fieldLink RX6 25 "LastWords$Quarrel" "said" "[I") (by decide +kernel)
  have bE : ∀ (M0 : gS) (M1 : gS) (H : Heap) (locs : List Loc) (ls : Array Slot), va_P (dC, dI) vwCl (qkW cB cI cJ cZ h0 a0 h1 a1 M0 M1) H → va_D A (qkW cB cI cJ cZ h0 a0 h1 a1 M0 M1) → va_S A s.heap H locs → lv_has ls 2 [(0, .ref h0), (1, .ref h1)] → wX6_copyFrom  M0 M1 Q → W p l e (headSpec wsX6_copyFrom rmX6_copyFrom).room s m ([.ref h0, .ref h1] : List Value).toArray below meth c H locs 0 0 (MQ below (va_Qv (fun (u : gS × gS) => Q u.1 u.2) (qkB dC dI cB cI cJ cZ h0 a0 h1 a1 A) A) ([.ref h0, .ref h1] : List Value).toArray s 0 0 A) (F0 m 0 ls []) := by
    intro M0 M1 H locs ls hP hD hS hl h
    unfold wX6_copyFrom at h
    refine lv_aload_n hx hb dX6_copyFrom_0 rfl (lv_at hl 0 rfl) ?_
    refine lv_aload_n hx hb dX6_copyFrom_1 rfl (lv_at hl 1 rfl) ?_
    refine va_get (D := (dC, dI)) (ci := 6) (v := .int (mg M1 0)) (C := RX6) (T := TX6) (N := 10) hx hb hts hinX6 hown hK hP 4 rfl rfl 0 (by decide) f1 (fun _ h9 => h9) rfl dX6_copyFrom_2 ?_
    refine lv_topi (fun x1 ex1 => ?_)
    have h := h x1 ex1
    obtain ⟨b2, eb2, h⟩ := h
    refine va_put (D := (dC, dI)) (ci := 6) (v := .int x1) (ty := .boolean) (C := RX6) (T := TX6) (N := 10) hx hb hts hinX6 tyX6 tyX6_ok nmX6 hown hK hP hD hS 0 rfl rfl 0 (by decide) f1 (fun _ h9 => h9) rfl (by decide +kernel) (by rw [eb2]; exact nar_bI _) (by rw [eb2]; exact fit_bI _) (Nat.le_of_ble_eq_true rfl) dX6_copyFrom_5 (fun H locs hP hD hS => ?_)
    have hP := qkP_0_f0 hP
    have hD := qkD_0_f0 hD
    have h := h _ rfl
    generalize sg M0 0 x1 = N3 at hP hD h
    refine lv_aload_n hx hb dX6_copyFrom_8 rfl (lv_at hl 0 rfl) ?_
    refine lv_aload_n hx hb dX6_copyFrom_9 rfl (lv_at hl 1 rfl) ?_
    refine va_get (D := (dC, dI)) (ci := 6) (v := .int (mg M1 1)) (C := RX6) (T := TX6) (N := 10) hx hb hts hinX6 hown hK hP 4 rfl rfl 1 (by decide) f2 (fun _ h9 => h9) rfl dX6_copyFrom_10 ?_
    refine lv_topi (fun x4 ex4 => ?_)
    have h := h x4 ex4
    refine va_put (D := (dC, dI)) (ci := 6) (v := .int x4) (ty := .int) (C := RX6) (T := TX6) (N := 10) hx hb hts hinX6 tyX6 tyX6_ok nmX6 hown hK hP hD hS 0 rfl rfl 1 (by decide) f2 (fun _ h9 => h9) rfl (by decide +kernel) rfl rfl (Nat.le_of_ble_eq_true rfl) dX6_copyFrom_13 (fun H locs hP hD hS => ?_)
    have hP := qkP_0_f1 hP
    have hD := qkD_0_f1 hD
    have h := h _ rfl
    generalize sg N3 1 x4 = N5 at hP hD h
    refine lv_aload_n hx hb dX6_copyFrom_16 rfl (lv_at hl 0 rfl) ?_
    refine lv_aload_n hx hb dX6_copyFrom_17 rfl (lv_at hl 1 rfl) ?_
    refine va_get (D := (dC, dI)) (ci := 6) (v := .int (mg M1 2)) (C := RX6) (T := TX6) (N := 10) hx hb hts hinX6 hown hK hP 4 rfl rfl 2 (by decide) f3 (fun _ h9 => h9) rfl dX6_copyFrom_18 ?_
    refine lv_topi (fun x6 ex6 => ?_)
    have h := h x6 ex6
    refine va_put (D := (dC, dI)) (ci := 6) (v := .int x6) (ty := .int) (C := RX6) (T := TX6) (N := 10) hx hb hts hinX6 tyX6 tyX6_ok nmX6 hown hK hP hD hS 0 rfl rfl 2 (by decide) f3 (fun _ h9 => h9) rfl (by decide +kernel) rfl rfl (Nat.le_of_ble_eq_true rfl) dX6_copyFrom_21 (fun H locs hP hD hS => ?_)
    have hP := qkP_0_f2 hP
    have hD := qkD_0_f2 hD
    have h := h _ rfl
    generalize sg N5 2 x6 = N7 at hP hD h
    refine lv_aload_n hx hb dX6_copyFrom_24 rfl (lv_at hl 0 rfl) ?_
    refine lv_aload_n hx hb dX6_copyFrom_25 rfl (lv_at hl 1 rfl) ?_
    refine va_get (D := (dC, dI)) (ci := 6) (v := .int (mg M1 3)) (C := RX6) (T := TX6) (N := 10) hx hb hts hinX6 hown hK hP 4 rfl rfl 3 (by decide) f4 (fun _ h9 => h9) rfl dX6_copyFrom_26 ?_
    refine lv_topi (fun x8 ex8 => ?_)
    have h := h x8 ex8
    refine va_put (D := (dC, dI)) (ci := 6) (v := .int x8) (ty := .int) (C := RX6) (T := TX6) (N := 10) hx hb hts hinX6 tyX6 tyX6_ok nmX6 hown hK hP hD hS 0 rfl rfl 3 (by decide) f4 (fun _ h9 => h9) rfl (by decide +kernel) rfl rfl (Nat.le_of_ble_eq_true rfl) dX6_copyFrom_29 (fun H locs hP hD hS => ?_)
    have hP := qkP_0_f3 hP
    have hD := qkD_0_f3 hD
    have h := h _ rfl
    generalize sg N7 3 x8 = N9 at hP hD h
    refine lv_aload_n hx hb dX6_copyFrom_32 rfl (lv_at hl 0 rfl) ?_
    refine lv_aload_n hx hb dX6_copyFrom_33 rfl (lv_at hl 1 rfl) ?_
    refine va_get (D := (dC, dI)) (ci := 6) (v := .int (mg M1 4)) (C := RX6) (T := TX6) (N := 10) hx hb hts hinX6 hown hK hP 4 rfl rfl 4 (by decide) f5 (fun _ h9 => h9) rfl dX6_copyFrom_34 ?_
    refine lv_topi (fun x10 ex10 => ?_)
    have h := h x10 ex10
    refine va_put (D := (dC, dI)) (ci := 6) (v := .int x10) (ty := .int) (C := RX6) (T := TX6) (N := 10) hx hb hts hinX6 tyX6 tyX6_ok nmX6 hown hK hP hD hS 0 rfl rfl 4 (by decide) f5 (fun _ h9 => h9) rfl (by decide +kernel) rfl rfl (Nat.le_of_ble_eq_true rfl) dX6_copyFrom_37 (fun H locs hP hD hS => ?_)
    have hP := qkP_0_f4 hP
    have hD := qkD_0_f4 hD
    have h := h _ rfl
    generalize sg N9 4 x10 = N11 at hP hD h
    refine lv_aload_n hx hb dX6_copyFrom_40 rfl (lv_at hl 0 rfl) ?_
    refine lv_aload_n hx hb dX6_copyFrom_41 rfl (lv_at hl 1 rfl) ?_
    refine va_get (D := (dC, dI)) (ci := 6) (v := .int (mg M1 5)) (C := RX6) (T := TX6) (N := 10) hx hb hts hinX6 hown hK hP 4 rfl rfl 5 (by decide) f6 (fun _ h9 => h9) rfl dX6_copyFrom_42 ?_
    refine lv_topi (fun x12 ex12 => ?_)
    have h := h x12 ex12
    refine va_put (D := (dC, dI)) (ci := 6) (v := .int x12) (ty := .int) (C := RX6) (T := TX6) (N := 10) hx hb hts hinX6 tyX6 tyX6_ok nmX6 hown hK hP hD hS 0 rfl rfl 5 (by decide) f6 (fun _ h9 => h9) rfl (by decide +kernel) rfl rfl (Nat.le_of_ble_eq_true rfl) dX6_copyFrom_45 (fun H locs hP hD hS => ?_)
    have hP := qkP_0_f5 hP
    have hD := qkD_0_f5 hD
    have h := h _ rfl
    generalize sg N11 5 x12 = N13 at hP hD h
    refine lv_aload_n hx hb dX6_copyFrom_48 rfl (lv_at hl 0 rfl) ?_
    refine lv_aload_n hx hb dX6_copyFrom_49 rfl (lv_at hl 1 rfl) ?_
    refine va_get (D := (dC, dI)) (ci := 6) (v := .int (mg M1 6)) (C := RX6) (T := TX6) (N := 10) hx hb hts hinX6 hown hK hP 4 rfl rfl 6 (by decide) f7 (fun _ h9 => h9) rfl dX6_copyFrom_50 ?_
    refine lv_topi (fun x14 ex14 => ?_)
    have h := h x14 ex14
    refine va_put (D := (dC, dI)) (ci := 6) (v := .int x14) (ty := .int) (C := RX6) (T := TX6) (N := 10) hx hb hts hinX6 tyX6 tyX6_ok nmX6 hown hK hP hD hS 0 rfl rfl 6 (by decide) f7 (fun _ h9 => h9) rfl (by decide +kernel) rfl rfl (Nat.le_of_ble_eq_true rfl) dX6_copyFrom_53 (fun H locs hP hD hS => ?_)
    have hP := qkP_0_f6 hP
    have hD := qkD_0_f6 hD
    have h := h _ rfl
    generalize sg N13 6 x14 = N15 at hP hD h
    refine lv_aload_n hx hb dX6_copyFrom_56 rfl (lv_at hl 1 rfl) ?_
    refine va_get (D := (dC, dI)) (ci := 6) (v := .ref (a1 7)) (C := RX6) (T := TX6) (N := 10) hx hb hts hinX6 hown hK hP 4 rfl rfl 7 (by decide) f8 (fun _ h9 => h9) rfl dX6_copyFrom_57 ?_
    refine lv_iconst (v := 0) hx hb dX6_copyFrom_60 (by decide) ?_
    refine lv_aload_n hx hb dX6_copyFrom_61 rfl (lv_at hl 0 rfl) ?_
    refine va_get (D := (dC, dI)) (ci := 6) (v := .ref (a0 7)) (C := RX6) (T := TX6) (N := 10) hx hb hts hinX6 hown hK hP 0 rfl rfl 7 (by decide) f8 (fun _ h9 => h9) rfl dX6_copyFrom_62 ?_
    refine lv_iconst (v := 0) hx hb dX6_copyFrom_65 (by decide) ?_
    refine lv_iconst (v := 2) hx hb dX6_copyFrom_66 (by decide) ?_
    refine wc_copyi (k := 2) hx hb (by rw [hml]; exact hl.1.symm) hown f9 f10 f11 f12 hK hP hD hS 5 1 1 1 (f := ma M1 7) (g := ma N15 7) rfl rfl rfl rfl rfl (by decide) (by decide) (by decide) (Nat.le_of_ble_eq_true rfl) (Nat.le_of_ble_eq_true rfl) dX6_copyFrom_67 (fun H locs hP hD hS => ?_)
    have hP := qkP_0_c7 hP
    have hD := qkD_0_c7 hD
    have h := h _ rfl
    generalize sF N15 7 (va_cpy (ma M1 7) (ma N15 7) 0 0 2) = N16 at hP hD h
    refine lv_aload_n hx hb dX6_copyFrom_70 rfl (lv_at hl 1 rfl) ?_
    refine va_get (D := (dC, dI)) (ci := 6) (v := .ref (a1 8)) (C := RX6) (T := TX6) (N := 10) hx hb hts hinX6 hown hK hP 4 rfl rfl 8 (by decide) f13 (fun _ h9 => h9) rfl dX6_copyFrom_71 ?_
    refine lv_iconst (v := 0) hx hb dX6_copyFrom_74 (by decide) ?_
    refine lv_aload_n hx hb dX6_copyFrom_75 rfl (lv_at hl 0 rfl) ?_
    refine va_get (D := (dC, dI)) (ci := 6) (v := .ref (a0 8)) (C := RX6) (T := TX6) (N := 10) hx hb hts hinX6 hown hK hP 0 rfl rfl 8 (by decide) f13 (fun _ h9 => h9) rfl dX6_copyFrom_76 ?_
    refine lv_iconst (v := 0) hx hb dX6_copyFrom_79 (by decide) ?_
    refine lv_iconst (v := 2) hx hb dX6_copyFrom_80 (by decide) ?_
    refine wc_copyi (k := 2) hx hb (by rw [hml]; exact hl.1.symm) hown f9 f10 f11 f12 hK hP hD hS 6 2 1 1 (f := ma M1 8) (g := ma N16 8) rfl rfl rfl rfl rfl (by decide) (by decide) (by decide) (Nat.le_of_ble_eq_true rfl) (Nat.le_of_ble_eq_true rfl) dX6_copyFrom_81 (fun H locs hP hD hS => ?_)
    have hP := qkP_0_c8 hP
    have hD := qkD_0_c8 hD
    have h := h _ rfl
    generalize sF N16 8 (va_cpy (ma M1 8) (ma N16 8) 0 0 2) = N17 at hP hD h
    refine lv_aload_n hx hb dX6_copyFrom_84 rfl (lv_at hl 1 rfl) ?_
    refine va_get (D := (dC, dI)) (ci := 6) (v := .ref (a1 9)) (C := RX6) (T := TX6) (N := 10) hx hb hts hinX6 hown hK hP 4 rfl rfl 9 (by decide) f14 (fun _ h9 => h9) rfl dX6_copyFrom_85 ?_
    refine lv_iconst (v := 0) hx hb dX6_copyFrom_88 (by decide) ?_
    refine lv_aload_n hx hb dX6_copyFrom_89 rfl (lv_at hl 0 rfl) ?_
    refine va_get (D := (dC, dI)) (ci := 6) (v := .ref (a0 9)) (C := RX6) (T := TX6) (N := 10) hx hb hts hinX6 hown hK hP 0 rfl rfl 9 (by decide) f14 (fun _ h9 => h9) rfl dX6_copyFrom_90 ?_
    refine lv_iconst (v := 0) hx hb dX6_copyFrom_93 (by decide) ?_
    refine lv_iconst (v := 2) hx hb dX6_copyFrom_94 (by decide) ?_
    refine wc_copyi (k := 2) hx hb (by rw [hml]; exact hl.1.symm) hown f9 f10 f11 f12 hK hP hD hS 7 3 1 1 (f := ma M1 9) (g := ma N17 9) rfl rfl rfl rfl rfl (by decide) (by decide) (by decide) (Nat.le_of_ble_eq_true rfl) (Nat.le_of_ble_eq_true rfl) dX6_copyFrom_95 (fun H locs hP hD hS => ?_)
    have hP := qkP_0_c9 hP
    have hD := qkD_0_c9 hD
    have h := h _ rfl
    generalize sF N17 9 (va_cpy (ma M1 9) (ma N17 9) 0 0 2) = N18 at hP hD h
    exact W.vret hx hb hr (fun t ht hW => ⟨⟨(N18, M1), rfl, h, by rw [ht]; exact hP, va_K.moved hW.alike hK, hD⟩, hS.F ht⟩) hS.2.2 dX6_copyFrom_98
  have hl := lv_entry ([.ref h0, .ref h1]) (n := 2) (Nat.le_of_ble_eq_true rfl)
  rw [lg_entry_eq]
  generalize (lg_sl ([.ref h0, .ref h1]) ++ List.replicate (2 - (lg_sl ([.ref h0, .ref h1])).length) Slot.unset).toArray = ls at hl ⊢
  have hl : lv_has ls 2 [(0, .ref h0), (1, .ref h1)] := hl
  exact bE M0 M1 s.heap [] ls hP hD hS hl h
def wX6_forgetWords_12  (Q : gS → Prop) : Nat → Int32 → gS → Prop
 | 0, _, _ => False
 | n + 1, y1, M0 => (((2 : Int32) ≤ y1 → (Q M0))
 ∧ (¬ (2 : Int32) ≤ y1 → (vp_in y1 2 ∧ (∀ N2 : gS, N2 = sa M0 8 (Int32.toNatClampNeg y1) (-1 : Int32) → (vp_in y1 2 ∧ (∀ N3 : gS, N3 = sa N2 9 (Int32.toNatClampNeg y1) (0 : Int32) → (∀ x4 : Int32, x4 = y1 + (1 : Int32) → (wX6_forgetWords_12  Q n x4 N3))))))))
def wX6_forgetWords  (M0 : gS) (Q : gS → Prop) : Prop :=
 (∀ N1 : gS, N1 = sg M0 4 (0 : Int32) → (∀ N2 : gS, N2 = sg N1 6 (-1 : Int32) → (∃ k12 : Nat, wX6_forgetWords_12  Q k12 (0 : Int32) N2)))
def rmX6_forgetWords : Room := { frames := 0, cells := 0, slots := 0, locals := 0 }
set_option maxHeartbeats 4000000 in
set_option maxRecDepth 100000 in
theorem kX6_forgetWords (l : Launch) (dC : Nat → ClassId) (dI : Nat → Nat → Nat) (cB cI cJ cZ : ClassId) (h0 : Nat) (a0 : Nat → Nat) (sz : Nat)  (M0 : gS) (Q : gS → Prop) (h : wX6_forgetWords  M0 Q) : Met l yX6_forgetWords wsX6_forgetWords rmX6_forgetWords (va_Pc [.ref h0] (qrI dC dI cB cI cJ cZ h0 a0 M0 sz)) (va_Qv (fun (u : gS) => Q u) (qrB dC dI cB cI cJ cZ h0 a0 (va_A (qrW cB cI cJ cZ h0 a0 M0) sz)) (va_A (qrW cB cI cJ cZ h0 a0 M0) sz)) 0 0 (va_A (qrW cB cI cJ cZ h0 a0 M0) sz) := by
  refine Met.ofW (cc := cX6_forgetWords) (maxL := 2) (ret := none) (by decide) rfl ?_
  intro p e s m args below meth c s₁ B hml hv
  obtain ⟨rfl, hsz, hP, hK, hD0⟩ := hv
  have hx := B.exec
  have hb := B.bytes
  have hr := B.returns
  have hts := atoms_spec (ws := wsX6_forgetWords) B.pre
  have hown : s.vm.findClass RX6 = some m.cls := findClass_of_methodNamed B.named
  have hlocks := B.notSynchronized
  subst hsz
  have hD := hD0.self (sz := s.heap.size)
  generalize hAe : va_A (qrW cB cI cJ cZ h0 a0 M0) s.heap.size = A at hD ⊢
  have hA : ∀ q : Nat, s.heap.size ≤ q → A q := fun q h => by rw [← hAe]; exact Or.inr h
  have hS : va_S A s.heap s.heap [] := va_S.rf
  have hinX6 : ∀ w ∈ wsX60, w ∈ wsX6_forgetWords := by decide +kernel
  have f1 := hts (.fieldLink RX6 22 "LastWords$Quarrel" "last" "[I") (by decide +kernel)
  have f2 := hts (.fieldLink RX6 25 "LastWords$Quarrel" "said" "[I") (by decide +kernel)
  have f3 := hts (.fieldLink RX6 38 "LastWords$Quarrel" "moves" "I") (by decide +kernel)
  have f4 := hts (.fieldLink RX6 15 "LastWords$Quarrel" "winner" "I") (by decide +kernel)
  have b12 : ∀ (n : Nat) (y1 : Int32) (M0 : gS) (H : Heap) (locs : List Loc) (ls : Array Slot), va_P (dC, dI) vwCl (qrW cB cI cJ cZ h0 a0 M0) H → va_D A (qrW cB cI cJ cZ h0 a0 M0) → va_S A s.heap H locs → lv_has ls 2 [(0, .ref h0), (1, .int y1)] → wX6_forgetWords_12  Q n y1 M0 → W p l e (headSpec wsX6_forgetWords rmX6_forgetWords).room s m ([.ref h0] : List Value).toArray below meth c H locs 0 0 (MQ below (va_Qv (fun (u : gS) => Q u) (qrB dC dI cB cI cJ cZ h0 a0 A) A) ([.ref h0] : List Value).toArray s 0 0 A) (F0 m 12 ls []) := by
    intro  n
    induction n with
    | zero => intro y1 M0 H locs ls hP hD hS hl h; exact absurd h (by simp [wX6_forgetWords_12])
    | succ n hB120 =>
      intro y1 M0 H locs ls hP hD hS hl h
      have hB12 := hB120
      rw [wX6_forgetWords_12] at h
      refine lv_iload_n hx hb dX6_forgetWords_12 rfl (lv_at hl 1 rfl) ?_
      refine lv_iconst (v := 2) hx hb dX6_forgetWords_13 (by decide) ?_
      refine lv_icmp_ge (tgt := 37) hx hb dX6_forgetWords_14 (by decide) (fun c1 => ?_) (fun c1 => ?_)
      · have h := h.1 c1
        exact W.vret hx hb hr (fun t ht hW => ⟨⟨(M0), rfl, h, by rw [ht]; exact hP, va_K.moved hW.alike hK, hD⟩, hS.F ht⟩) hS.2.2 dX6_forgetWords_37
      · have h := h.2 c1
        refine lv_aload_n hx hb dX6_forgetWords_17 rfl (lv_at hl 0 rfl) ?_
        refine va_get (D := (dC, dI)) (ci := 6) (v := .ref (a0 8)) (C := RX6) (T := TX6) (N := 10) hx hb hts hinX6 hown hK hP 0 rfl rfl 8 (by decide) f1 (fun _ h9 => h9) rfl dX6_forgetWords_18 ?_
        refine lv_iload_n hx hb dX6_forgetWords_21 rfl (lv_at hl 1 rfl) ?_
        refine lv_iconst (v := (-1)) hx hb dX6_forgetWords_22 (by decide) ?_
        refine va_iast hx hb hK hP hD hS 2 1 (f := ma M0 8) rfl rfl h.1 dX6_forgetWords_23 (fun H locs hP hD hS => ?_)
        have h := h.2
        have hP := qrP_0_a8 hP
        have hD := qrD_0_a8 hD
        have h := h _ rfl
        generalize sa M0 8 (Int32.toNatClampNeg y1) (-1 : Int32) = N2 at hP hD h
        refine lv_aload_n hx hb dX6_forgetWords_24 rfl (lv_at hl 0 rfl) ?_
        refine va_get (D := (dC, dI)) (ci := 6) (v := .ref (a0 9)) (C := RX6) (T := TX6) (N := 10) hx hb hts hinX6 hown hK hP 0 rfl rfl 9 (by decide) f2 (fun _ h9 => h9) rfl dX6_forgetWords_25 ?_
        refine lv_iload_n hx hb dX6_forgetWords_28 rfl (lv_at hl 1 rfl) ?_
        refine lv_iconst (v := 0) hx hb dX6_forgetWords_29 (by decide) ?_
        refine va_iast hx hb hK hP hD hS 3 1 (f := ma N2 9) rfl rfl h.1 dX6_forgetWords_30 (fun H locs hP hD hS => ?_)
        have h := h.2
        have hP := qrP_0_a9 hP
        have hD := qrD_0_a9 hD
        have h := h _ rfl
        generalize sa N2 9 (Int32.toNatClampNeg y1) (0 : Int32) = N3 at hP hD h
        obtain ⟨x4, ex4⟩ : ∃ y : Int32, y = y1 + (1 : Int32) := ⟨_, rfl⟩
        have h := h x4 ex4
        refine lv_iinc (v := x4) (lv' := [(1, .int x4), (0, .ref h0)]) hx hb dX6_forgetWords_31 hl (k := 1) rfl (by rw [ex4]; rfl) (by decide) rfl (fun ls hl => ?_)
        refine lv_goto (tgt := 12) hx hb dX6_forgetWords_34 (by decide) ?_
        exact hB12 x4 N3 H locs ls hP hD hS (lv_sub hl [1, 0] rfl) h
  have bE : ∀ (M0 : gS) (H : Heap) (locs : List Loc) (ls : Array Slot), va_P (dC, dI) vwCl (qrW cB cI cJ cZ h0 a0 M0) H → va_D A (qrW cB cI cJ cZ h0 a0 M0) → va_S A s.heap H locs → lv_has ls 2 [(0, .ref h0)] → wX6_forgetWords  M0 Q → W p l e (headSpec wsX6_forgetWords rmX6_forgetWords).room s m ([.ref h0] : List Value).toArray below meth c H locs 0 0 (MQ below (va_Qv (fun (u : gS) => Q u) (qrB dC dI cB cI cJ cZ h0 a0 A) A) ([.ref h0] : List Value).toArray s 0 0 A) (F0 m 0 ls []) := by
    intro M0 H locs ls hP hD hS hl h
    unfold wX6_forgetWords at h
    refine lv_aload_n hx hb dX6_forgetWords_0 rfl (lv_at hl 0 rfl) ?_
    refine lv_iconst (v := 0) hx hb dX6_forgetWords_1 (by decide) ?_
    refine va_put (D := (dC, dI)) (ci := 6) (v := .int (0 : Int32)) (ty := .int) (C := RX6) (T := TX6) (N := 10) hx hb hts hinX6 tyX6 tyX6_ok nmX6 hown hK hP hD hS 0 rfl rfl 4 (by decide) f3 (fun _ h9 => h9) rfl (by decide +kernel) rfl rfl (Nat.le_of_ble_eq_true rfl) dX6_forgetWords_2 (fun H locs hP hD hS => ?_)
    have hP := qrP_0_f4 hP
    have hD := qrD_0_f4 hD
    have h := h _ rfl
    generalize sg M0 4 (0 : Int32) = N1 at hP hD h
    refine lv_aload_n hx hb dX6_forgetWords_5 rfl (lv_at hl 0 rfl) ?_
    refine lv_iconst (v := (-1)) hx hb dX6_forgetWords_6 (by decide) ?_
    refine va_put (D := (dC, dI)) (ci := 6) (v := .int (-1 : Int32)) (ty := .int) (C := RX6) (T := TX6) (N := 10) hx hb hts hinX6 tyX6 tyX6_ok nmX6 hown hK hP hD hS 0 rfl rfl 6 (by decide) f4 (fun _ h9 => h9) rfl (by decide +kernel) rfl rfl (Nat.le_of_ble_eq_true rfl) dX6_forgetWords_7 (fun H locs hP hD hS => ?_)
    have hP := qrP_0_f6 hP
    have hD := qrD_0_f6 hD
    have h := h _ rfl
    generalize sg N1 6 (-1 : Int32) = N2 at hP hD h
    refine lv_iconst (v := 0) hx hb dX6_forgetWords_10 (by decide) ?_
    refine lv_istore_n (lv' := [(1, .int (0 : Int32)), (0, .ref h0)]) hx hb dX6_forgetWords_11 rfl hl (by decide) rfl (fun ls hl => ?_)
    obtain ⟨n9, h⟩ := h
    exact b12  n9 (0 : Int32) N2 H locs ls hP hD hS (lv_sub hl [1, 0] rfl) h
  have hl := lv_entry ([.ref h0]) (n := 2) (Nat.le_of_ble_eq_true rfl)
  rw [lg_entry_eq]
  generalize (lg_sl ([.ref h0]) ++ List.replicate (2 - (lg_sl ([.ref h0])).length) Slot.unset).toArray = ls at hl ⊢
  have hl : lv_has ls 2 [(0, .ref h0)] := hl
  exact bE M0 s.heap [] ls hP hD hS hl h
def wX6_clear  (M0 : gS) (M1 : gS) (Q : gS → gS → Prop) : Prop :=
 (∀ N1 : gS, N1 = sg M0 0 (0 : Int32) → (∀ N2 : gS, N2 = sg N1 5 (0 : Int32) → (∀ N3 : gS, N3 = sF N2 7 (va_cpy (ma M1 5) (ma N2 7) 0 0 2) → (wX6_forgetWords  N3 (fun (N5 : gS) => (Q N5 M1))))))
def rmX6_clear : Room := { frames := 1, cells := 0, slots := 0, locals := 64 }
set_option maxHeartbeats 4000000 in
set_option maxRecDepth 100000 in
theorem kX6_clear (l : Launch) (dC : Nat → ClassId) (dI : Nat → Nat → Nat) (cB cI cJ cZ : ClassId) (h0 : Nat) (a0 : Nat → Nat) (h1 : Nat) (a1 : Nat → Nat) (sz : Nat)  (M0 : gS) (M1 : gS) (Q : gS → gS → Prop) (h : wX6_clear  M0 M1 Q) : Met l yX6_clear wsX6_clear rmX6_clear (va_Pc [.ref h0, .ref h1] (qcI dC dI cB cI cJ cZ h0 a0 h1 a1 M0 M1 sz)) (va_Qv (fun (u : gS × gS) => Q u.1 u.2) (qcB dC dI cB cI cJ cZ h0 a0 h1 a1 (va_A (qcW cB cI cJ cZ h0 a0 h1 a1 M0 M1) sz)) (va_A (qcW cB cI cJ cZ h0 a0 h1 a1 M0 M1) sz)) 0 0 (va_A (qcW cB cI cJ cZ h0 a0 h1 a1 M0 M1) sz) := by
  refine Met.ofW (cc := cX6_clear) (maxL := 2) (ret := none) (by decide) rfl ?_
  intro p e s m args below meth c s₁ B hml hv
  obtain ⟨rfl, hsz, hP, hK, hD0⟩ := hv
  have hx := B.exec
  have hb := B.bytes
  have hr := B.returns
  have hts := atoms_spec (ws := wsX6_clear) B.pre
  have hown : s.vm.findClass RX6 = some m.cls := findClass_of_methodNamed B.named
  have hlocks := B.notSynchronized
  subst hsz
  have hD := hD0.self (sz := s.heap.size)
  generalize hAe : va_A (qcW cB cI cJ cZ h0 a0 h1 a1 M0 M1) s.heap.size = A at hD ⊢
  have hA : ∀ q : Nat, s.heap.size ≤ q → A q := fun q h => by rw [← hAe]; exact Or.inr h
  have hS : va_S A s.heap s.heap [] := va_S.rf
  have hinX1 : ∀ w ∈ wsX10, w ∈ wsX6_clear := by decide +kernel
  have hinX6 : ∀ w ∈ wsX60, w ∈ wsX6_clear := by decide +kernel
  have f1 := hts (.fieldLink RX6 28 "LastWords$Quarrel" "goesOn" "Z") (by decide +kernel)
  have f2 := hts (.fieldLink RX6 41 "LastWords$Quarrel" "hat" "I") (by decide +kernel)
  have f3 := hts (.fieldLink RX6 50 "LastWords$Corner" "purses" "[I") (by decide +kernel)
  have f4 := hts (.fieldLink RX6 18 "LastWords$Quarrel" "purse" "[I") (by decide +kernel)
  have f5 := hts (.methodLink RX6 44 arraycopyName) (by decide +kernel)
  have f6 := hts (.native arraycopyName) (by decide +kernel)
  have f7 := hts (.static arraycopyName) (by decide +kernel)
  have f8 := hts (.initialized "java/lang/System") (by decide +kernel)
  have bE : ∀ (M0 : gS) (M1 : gS) (H : Heap) (locs : List Loc) (ls : Array Slot), va_P (dC, dI) vwCl (qcW cB cI cJ cZ h0 a0 h1 a1 M0 M1) H → va_D A (qcW cB cI cJ cZ h0 a0 h1 a1 M0 M1) → va_S A s.heap H locs → lv_has ls 2 [(0, .ref h0), (1, .ref h1)] → wX6_clear  M0 M1 Q → W p l e (headSpec wsX6_clear rmX6_clear).room s m ([.ref h0, .ref h1] : List Value).toArray below meth c H locs 0 0 (MQ below (va_Qv (fun (u : gS × gS) => Q u.1 u.2) (qcB dC dI cB cI cJ cZ h0 a0 h1 a1 A) A) ([.ref h0, .ref h1] : List Value).toArray s 0 0 A) (F0 m 0 ls []) := by
    intro M0 M1 H locs ls hP hD hS hl h
    unfold wX6_clear at h
    refine lv_aload_n hx hb dX6_clear_0 rfl (lv_at hl 0 rfl) ?_
    refine lv_iconst (v := 0) hx hb dX6_clear_1 (by decide) ?_
    refine va_put (D := (dC, dI)) (ci := 6) (v := .int (0 : Int32)) (ty := .boolean) (C := RX6) (T := TX6) (N := 10) hx hb hts hinX6 tyX6 tyX6_ok nmX6 hown hK hP hD hS 0 rfl rfl 0 (by decide) f1 (fun _ h9 => h9) rfl (by decide +kernel) rfl rfl (Nat.le_of_ble_eq_true rfl) dX6_clear_2 (fun H locs hP hD hS => ?_)
    have hP := qcP_0_f0 hP
    have hD := qcD_0_f0 hD
    have h := h _ rfl
    generalize sg M0 0 (0 : Int32) = N1 at hP hD h
    refine lv_aload_n hx hb dX6_clear_5 rfl (lv_at hl 0 rfl) ?_
    refine lv_iconst (v := 0) hx hb dX6_clear_6 (by decide) ?_
    refine va_put (D := (dC, dI)) (ci := 6) (v := .int (0 : Int32)) (ty := .int) (C := RX6) (T := TX6) (N := 10) hx hb hts hinX6 tyX6 tyX6_ok nmX6 hown hK hP hD hS 0 rfl rfl 5 (by decide) f2 (fun _ h9 => h9) rfl (by decide +kernel) rfl rfl (Nat.le_of_ble_eq_true rfl) dX6_clear_7 (fun H locs hP hD hS => ?_)
    have hP := qcP_0_f5 hP
    have hD := qcD_0_f5 hD
    have h := h _ rfl
    generalize sg N1 5 (0 : Int32) = N2 at hP hD h
    refine lv_aload_n hx hb dX6_clear_10 rfl (lv_at hl 1 rfl) ?_
    refine va_get (D := (dC, dI)) (ci := 1) (v := .ref (a1 5)) (C := RX1) (T := TX1) (N := 6) hx hb hts hinX1 hown hK hP 4 rfl rfl 5 (by decide) f3 (fun _ h9 => h9) rfl dX6_clear_11 ?_
    refine lv_iconst (v := 0) hx hb dX6_clear_14 (by decide) ?_
    refine lv_aload_n hx hb dX6_clear_15 rfl (lv_at hl 0 rfl) ?_
    refine va_get (D := (dC, dI)) (ci := 6) (v := .ref (a0 7)) (C := RX6) (T := TX6) (N := 10) hx hb hts hinX6 hown hK hP 0 rfl rfl 7 (by decide) f4 (fun _ h9 => h9) rfl dX6_clear_16 ?_
    refine lv_iconst (v := 0) hx hb dX6_clear_19 (by decide) ?_
    refine lv_iconst (v := 2) hx hb dX6_clear_20 (by decide) ?_
    refine wc_copyi (k := 2) hx hb (by rw [hml]; exact hl.1.symm) hown f5 f6 f7 f8 hK hP hD hS 7 1 1 1 (f := ma M1 5) (g := ma N2 7) rfl rfl rfl rfl rfl (by decide) (by decide) (by decide) (Nat.le_of_ble_eq_true rfl) (Nat.le_of_ble_eq_true rfl) dX6_clear_21 (fun H locs hP hD hS => ?_)
    have hP := qcP_0_c7 hP
    have hD := qcD_0_c7 hD
    have h := h _ rfl
    generalize sF N2 7 (va_cpy (ma M1 5) (ma N2 7) 0 0 2) = N3 at hP hD h
    refine lv_aload_n hx hb dX6_clear_24 rfl (lv_at hl 0 rfl) ?_
    have hPc := hP.sub (ws' := (qrW cB cI cJ cZ h0 a0 N3)) [0, 1, 2, 3] rfl
    have hDc := hD.sub (ws' := (qrW cB cI cJ cZ h0 a0 N3)) [0, 1, 2, 3] (by decide) rfl
    have hFc := va_free (wc := (qrW cB cI cJ cZ h0 a0 N3)) hD hS hA [0, 1, 2, 3] rfl
    refine va_callv (va_runV (As := []) (rest := []) ⟨hx, hb, hml, hown, hts⟩ (kX6_forgetWords l dC dI cB cI cJ cZ h0 a0 H.size  N3 _ h) (cwV 0 hts gX6_clear_X6_forgetWords rfl rfl rfl (by decide +kernel) ⟨Nat.le_of_ble_eq_true rfl, Nat.le_of_ble_eq_true rfl⟩) (qrpV hK hPc hDc) rfl rfl hl.1 rfl (lv_room (Nat.le_of_ble_eq_true rfl)) dX6_clear_25 ⟨Nat.le_of_ble_eq_true rfl, Nat.le_of_ble_eq_true rfl⟩) hS (fun q _ z => hFc q z) hFc (fun u t H1 locs ht hvm hw hB hz1 hk1 hS => ?_)
    obtain ⟨N5, rfl⟩ : ∃ z, z = u := ⟨_, rfl⟩
    obtain ⟨hP1, hK1, hD1⟩ := hB
    rw [ht] at hP1
    obtain ⟨hP, hD⟩ := va_join (wr := [(h1, .inr (1, [.int (mg M1 0), .ref (a1 1), .int (mg M1 2), .ref (a1 3), .int (mg M1 4), .ref (a1 5)])), (a1 1, .inl (cI, 4, .inl (ma M1 1))), (a1 3, .inl (cI, 4, .inl (ma M1 3))), (a1 5, .inl (cI, 2, .inl (ma M1 5)))]) (w1 := (qrW cB cI cJ cZ h0 a0 N5)) hP hD [0, 1, 2, 3] [4, 5, 6, 7] rfl rfl (by decide) (by decide) hk1 hFc hP1 hD1
    have hP := hP.sub (ws' := (qcW cB cI cJ cZ h0 a0 h1 a1 N5 M1)) [4, 5, 6, 7, 0, 1, 2, 3] rfl
    have hD := hD.sub (ws' := (qcW cB cI cJ cZ h0 a0 h1 a1 N5 M1)) [4, 5, 6, 7, 0, 1, 2, 3] (by decide) rfl
    generalize H1 = H at hP hS ⊢
    have h := hw
    try dsimp only at h
    exact W.vret hx hb hr (fun t ht hW => ⟨⟨(N5, M1), rfl, h, by rw [ht]; exact hP, va_K.moved hW.alike hK, hD⟩, hS.F ht⟩) hS.2.2 dX6_clear_28
  have hl := lv_entry ([.ref h0, .ref h1]) (n := 2) (Nat.le_of_ble_eq_true rfl)
  rw [lg_entry_eq]
  generalize (lg_sl ([.ref h0, .ref h1]) ++ List.replicate (2 - (lg_sl ([.ref h0, .ref h1])).length) Slot.unset).toArray = ls at hl ⊢
  have hl : lv_has ls 2 [(0, .ref h0), (1, .ref h1)] := hl
  exact bE M0 M1 s.heap [] ls hP hD hS hl h
def wX6_myPurse  (M0 : gS) (Q : Int32 → gS → Prop) : Prop :=
 (vp_in (mg M0 3) 2 ∧ (Q (ma M0 7 (Int32.toNatClampNeg (mg M0 3))) M0))
def rmX6_myPurse : Room := { frames := 0, cells := 0, slots := 0, locals := 0 }
set_option maxHeartbeats 4000000 in
set_option maxRecDepth 100000 in
theorem kX6_myPurse (l : Launch) (dC : Nat → ClassId) (dI : Nat → Nat → Nat) (cB cI cJ cZ : ClassId) (h0 : Nat) (a0 : Nat → Nat) (sz : Nat)  (M0 : gS) (Q : Int32 → gS → Prop) (h : wX6_myPurse  M0 Q) : Met l yX6_myPurse wsX6_myPurse rmX6_myPurse (va_Pc [.ref h0] (qrI dC dI cB cI cJ cZ h0 a0 M0 sz)) (va_Qi (fun (r : Int32) (u : gS) => Q r u) (qrB dC dI cB cI cJ cZ h0 a0 (va_A (qrW cB cI cJ cZ h0 a0 M0) sz)) (va_A (qrW cB cI cJ cZ h0 a0 M0) sz)) 0 0 (va_A (qrW cB cI cJ cZ h0 a0 M0) sz) := by
  refine Met.ofW (cc := cX6_myPurse) (maxL := 1) (ret := (some .int)) (by decide) rfl ?_
  intro p e s m args below meth c s₁ B hml hv
  obtain ⟨rfl, hsz, hP, hK, hD0⟩ := hv
  have hx := B.exec
  have hb := B.bytes
  have hr := B.returns
  have hts := atoms_spec (ws := wsX6_myPurse) B.pre
  have hown : s.vm.findClass RX6 = some m.cls := findClass_of_methodNamed B.named
  have hlocks := B.notSynchronized
  subst hsz
  have hD := hD0.self (sz := s.heap.size)
  generalize hAe : va_A (qrW cB cI cJ cZ h0 a0 M0) s.heap.size = A at hD ⊢
  have hA : ∀ q : Nat, s.heap.size ≤ q → A q := fun q h => by rw [← hAe]; exact Or.inr h
  have hS : va_S A s.heap s.heap [] := va_S.rf
  have hinX6 : ∀ w ∈ wsX60, w ∈ wsX6_myPurse := by decide +kernel
  have f1 := hts (.fieldLink RX6 18 "LastWords$Quarrel" "purse" "[I") (by decide +kernel)
  have f2 := hts (.fieldLink RX6 35 "LastWords$Quarrel" "turn" "I") (by decide +kernel)
  have bE : ∀ (M0 : gS) (H : Heap) (locs : List Loc) (ls : Array Slot), va_P (dC, dI) vwCl (qrW cB cI cJ cZ h0 a0 M0) H → va_D A (qrW cB cI cJ cZ h0 a0 M0) → va_S A s.heap H locs → lv_has ls 1 [(0, .ref h0)] → wX6_myPurse  M0 Q → W p l e (headSpec wsX6_myPurse rmX6_myPurse).room s m ([.ref h0] : List Value).toArray below meth c H locs 0 0 (MQ below (va_Qi (fun (r : Int32) (u : gS) => Q r u) (qrB dC dI cB cI cJ cZ h0 a0 A) A) ([.ref h0] : List Value).toArray s 0 0 A) (F0 m 0 ls []) := by
    intro M0 H locs ls hP hD hS hl h
    unfold wX6_myPurse at h
    refine lv_aload_n hx hb dX6_myPurse_0 rfl (lv_at hl 0 rfl) ?_
    refine va_get (D := (dC, dI)) (ci := 6) (v := .ref (a0 7)) (C := RX6) (T := TX6) (N := 10) hx hb hts hinX6 hown hK hP 0 rfl rfl 7 (by decide) f1 (fun _ h9 => h9) rfl dX6_myPurse_1 ?_
    refine lv_aload_n hx hb dX6_myPurse_4 rfl (lv_at hl 0 rfl) ?_
    refine va_get (D := (dC, dI)) (ci := 6) (v := .int (mg M0 3)) (C := RX6) (T := TX6) (N := 10) hx hb hts hinX6 hown hK hP 0 rfl rfl 3 (by decide) f2 (fun _ h9 => h9) rfl dX6_myPurse_5 ?_
    refine va_iald hx hb hK hP 1 1 (f := ma M0 7) rfl rfl h.1 dX6_myPurse_8 ?_
    have h := h.2
    exact W.iret (v := (ma M0 7 (Int32.toNatClampNeg (mg M0 3)))) hx hb hr (fun t ht hW => ⟨⟨_, (M0), rfl, h, by rw [ht]; exact hP, va_K.moved hW.alike hK, hD⟩, hS.F ht⟩) hS.2.2 dX6_myPurse_9
  have hl := lv_entry ([.ref h0]) (n := 1) (Nat.le_of_ble_eq_true rfl)
  rw [lg_entry_eq]
  generalize (lg_sl ([.ref h0]) ++ List.replicate (1 - (lg_sl ([.ref h0])).length) Slot.unset).toArray = ls at hl ⊢
  have hl : lv_has ls 1 [(0, .ref h0)] := hl
  exact bE M0 s.heap [] ls hP hD hS hl h
def wX6_theirPurse  (M0 : gS) (Q : Int32 → gS → Prop) : Prop :=
 (vp_in ((1 : Int32) - (mg M0 3)) 2 ∧ (Q (ma M0 7 (Int32.toNatClampNeg ((1 : Int32) - (mg M0 3)))) M0))
def rmX6_theirPurse : Room := { frames := 0, cells := 0, slots := 0, locals := 0 }
set_option maxHeartbeats 4000000 in
set_option maxRecDepth 100000 in
theorem kX6_theirPurse (l : Launch) (dC : Nat → ClassId) (dI : Nat → Nat → Nat) (cB cI cJ cZ : ClassId) (h0 : Nat) (a0 : Nat → Nat) (sz : Nat)  (M0 : gS) (Q : Int32 → gS → Prop) (h : wX6_theirPurse  M0 Q) : Met l yX6_theirPurse wsX6_theirPurse rmX6_theirPurse (va_Pc [.ref h0] (qrI dC dI cB cI cJ cZ h0 a0 M0 sz)) (va_Qi (fun (r : Int32) (u : gS) => Q r u) (qrB dC dI cB cI cJ cZ h0 a0 (va_A (qrW cB cI cJ cZ h0 a0 M0) sz)) (va_A (qrW cB cI cJ cZ h0 a0 M0) sz)) 0 0 (va_A (qrW cB cI cJ cZ h0 a0 M0) sz) := by
  refine Met.ofW (cc := cX6_theirPurse) (maxL := 1) (ret := (some .int)) (by decide) rfl ?_
  intro p e s m args below meth c s₁ B hml hv
  obtain ⟨rfl, hsz, hP, hK, hD0⟩ := hv
  have hx := B.exec
  have hb := B.bytes
  have hr := B.returns
  have hts := atoms_spec (ws := wsX6_theirPurse) B.pre
  have hown : s.vm.findClass RX6 = some m.cls := findClass_of_methodNamed B.named
  have hlocks := B.notSynchronized
  subst hsz
  have hD := hD0.self (sz := s.heap.size)
  generalize hAe : va_A (qrW cB cI cJ cZ h0 a0 M0) s.heap.size = A at hD ⊢
  have hA : ∀ q : Nat, s.heap.size ≤ q → A q := fun q h => by rw [← hAe]; exact Or.inr h
  have hS : va_S A s.heap s.heap [] := va_S.rf
  have hinX6 : ∀ w ∈ wsX60, w ∈ wsX6_theirPurse := by decide +kernel
  have f1 := hts (.fieldLink RX6 18 "LastWords$Quarrel" "purse" "[I") (by decide +kernel)
  have f2 := hts (.fieldLink RX6 35 "LastWords$Quarrel" "turn" "I") (by decide +kernel)
  have bE : ∀ (M0 : gS) (H : Heap) (locs : List Loc) (ls : Array Slot), va_P (dC, dI) vwCl (qrW cB cI cJ cZ h0 a0 M0) H → va_D A (qrW cB cI cJ cZ h0 a0 M0) → va_S A s.heap H locs → lv_has ls 1 [(0, .ref h0)] → wX6_theirPurse  M0 Q → W p l e (headSpec wsX6_theirPurse rmX6_theirPurse).room s m ([.ref h0] : List Value).toArray below meth c H locs 0 0 (MQ below (va_Qi (fun (r : Int32) (u : gS) => Q r u) (qrB dC dI cB cI cJ cZ h0 a0 A) A) ([.ref h0] : List Value).toArray s 0 0 A) (F0 m 0 ls []) := by
    intro M0 H locs ls hP hD hS hl h
    unfold wX6_theirPurse at h
    refine lv_aload_n hx hb dX6_theirPurse_0 rfl (lv_at hl 0 rfl) ?_
    refine va_get (D := (dC, dI)) (ci := 6) (v := .ref (a0 7)) (C := RX6) (T := TX6) (N := 10) hx hb hts hinX6 hown hK hP 0 rfl rfl 7 (by decide) f1 (fun _ h9 => h9) rfl dX6_theirPurse_1 ?_
    refine lv_iconst (v := 1) hx hb dX6_theirPurse_4 (by decide) ?_
    refine lv_aload_n hx hb dX6_theirPurse_5 rfl (lv_at hl 0 rfl) ?_
    refine va_get (D := (dC, dI)) (ci := 6) (v := .int (mg M0 3)) (C := RX6) (T := TX6) (N := 10) hx hb hts hinX6 hown hK hP 0 rfl rfl 3 (by decide) f2 (fun _ h9 => h9) rfl dX6_theirPurse_6 ?_
    refine lv_isub hx hb dX6_theirPurse_9 ?_
    refine va_iald hx hb hK hP 1 1 (f := ma M0 7) rfl rfl h.1 dX6_theirPurse_10 ?_
    have h := h.2
    exact W.iret (v := (ma M0 7 (Int32.toNatClampNeg ((1 : Int32) - (mg M0 3))))) hx hb hr (fun t ht hW => ⟨⟨_, (M0), rfl, h, by rw [ht]; exact hP, va_K.moved hW.alike hK, hD⟩, hS.F ht⟩) hS.2.2 dX6_theirPurse_11
  have hl := lv_entry ([.ref h0]) (n := 1) (Nat.le_of_ble_eq_true rfl)
  rw [lg_entry_eq]
  generalize (lg_sl ([.ref h0]) ++ List.replicate (1 - (lg_sl ([.ref h0])).length) Slot.unset).toArray = ls at hl ⊢
  have hl : lv_has ls 1 [(0, .ref h0)] := hl
  exact bE M0 s.heap [] ls hP hD hS hl h
def wX6_lasts  (M0 : gS) (Q : Int32 → gS → Prop) : Prop :=
 (vp_in (mg M0 3) 2 ∧ (vp_in ((1 : Int32) - (mg M0 3)) 2 ∧ (Q ((((8 : Int32) * ((ma M0 8 (Int32.toNatClampNeg (mg M0 3))) + (1 : Int32))) + (ma M0 8 (Int32.toNatClampNeg ((1 : Int32) - (mg M0 3))))) + (1 : Int32)) M0)))
def rmX6_lasts : Room := { frames := 0, cells := 0, slots := 0, locals := 0 }
set_option maxHeartbeats 4000000 in
set_option maxRecDepth 100000 in
theorem kX6_lasts (l : Launch) (dC : Nat → ClassId) (dI : Nat → Nat → Nat) (cB cI cJ cZ : ClassId) (h0 : Nat) (a0 : Nat → Nat) (sz : Nat)  (M0 : gS) (Q : Int32 → gS → Prop) (h : wX6_lasts  M0 Q) : Met l yX6_lasts wsX6_lasts rmX6_lasts (va_Pc [.ref h0] (qrI dC dI cB cI cJ cZ h0 a0 M0 sz)) (va_Qi (fun (r : Int32) (u : gS) => Q r u) (qrB dC dI cB cI cJ cZ h0 a0 (va_A (qrW cB cI cJ cZ h0 a0 M0) sz)) (va_A (qrW cB cI cJ cZ h0 a0 M0) sz)) 0 0 (va_A (qrW cB cI cJ cZ h0 a0 M0) sz) := by
  refine Met.ofW (cc := cX6_lasts) (maxL := 1) (ret := (some .int)) (by decide) rfl ?_
  intro p e s m args below meth c s₁ B hml hv
  obtain ⟨rfl, hsz, hP, hK, hD0⟩ := hv
  have hx := B.exec
  have hb := B.bytes
  have hr := B.returns
  have hts := atoms_spec (ws := wsX6_lasts) B.pre
  have hown : s.vm.findClass RX6 = some m.cls := findClass_of_methodNamed B.named
  have hlocks := B.notSynchronized
  subst hsz
  have hD := hD0.self (sz := s.heap.size)
  generalize hAe : va_A (qrW cB cI cJ cZ h0 a0 M0) s.heap.size = A at hD ⊢
  have hA : ∀ q : Nat, s.heap.size ≤ q → A q := fun q h => by rw [← hAe]; exact Or.inr h
  have hS : va_S A s.heap s.heap [] := va_S.rf
  have hinX6 : ∀ w ∈ wsX60, w ∈ wsX6_lasts := by decide +kernel
  have f1 := hts (.fieldLink RX6 22 "LastWords$Quarrel" "last" "[I") (by decide +kernel)
  have f2 := hts (.fieldLink RX6 35 "LastWords$Quarrel" "turn" "I") (by decide +kernel)
  have bE : ∀ (M0 : gS) (H : Heap) (locs : List Loc) (ls : Array Slot), va_P (dC, dI) vwCl (qrW cB cI cJ cZ h0 a0 M0) H → va_D A (qrW cB cI cJ cZ h0 a0 M0) → va_S A s.heap H locs → lv_has ls 1 [(0, .ref h0)] → wX6_lasts  M0 Q → W p l e (headSpec wsX6_lasts rmX6_lasts).room s m ([.ref h0] : List Value).toArray below meth c H locs 0 0 (MQ below (va_Qi (fun (r : Int32) (u : gS) => Q r u) (qrB dC dI cB cI cJ cZ h0 a0 A) A) ([.ref h0] : List Value).toArray s 0 0 A) (F0 m 0 ls []) := by
    intro M0 H locs ls hP hD hS hl h
    unfold wX6_lasts at h
    refine lv_bipush (v := (8)) hx hb dX6_lasts_0 (by decide) ?_
    refine lv_aload_n hx hb dX6_lasts_2 rfl (lv_at hl 0 rfl) ?_
    refine va_get (D := (dC, dI)) (ci := 6) (v := .ref (a0 8)) (C := RX6) (T := TX6) (N := 10) hx hb hts hinX6 hown hK hP 0 rfl rfl 8 (by decide) f1 (fun _ h9 => h9) rfl dX6_lasts_3 ?_
    refine lv_aload_n hx hb dX6_lasts_6 rfl (lv_at hl 0 rfl) ?_
    refine va_get (D := (dC, dI)) (ci := 6) (v := .int (mg M0 3)) (C := RX6) (T := TX6) (N := 10) hx hb hts hinX6 hown hK hP 0 rfl rfl 3 (by decide) f2 (fun _ h9 => h9) rfl dX6_lasts_7 ?_
    refine va_iald hx hb hK hP 2 1 (f := ma M0 8) rfl rfl h.1 dX6_lasts_10 ?_
    have h := h.2
    refine lv_iconst (v := 1) hx hb dX6_lasts_11 (by decide) ?_
    refine lv_iadd hx hb dX6_lasts_12 ?_
    refine lv_imul hx hb dX6_lasts_13 ?_
    refine lv_aload_n hx hb dX6_lasts_14 rfl (lv_at hl 0 rfl) ?_
    refine va_get (D := (dC, dI)) (ci := 6) (v := .ref (a0 8)) (C := RX6) (T := TX6) (N := 10) hx hb hts hinX6 hown hK hP 0 rfl rfl 8 (by decide) f1 (fun _ h9 => h9) rfl dX6_lasts_15 ?_
    refine lv_iconst (v := 1) hx hb dX6_lasts_18 (by decide) ?_
    refine lv_aload_n hx hb dX6_lasts_19 rfl (lv_at hl 0 rfl) ?_
    refine va_get (D := (dC, dI)) (ci := 6) (v := .int (mg M0 3)) (C := RX6) (T := TX6) (N := 10) hx hb hts hinX6 hown hK hP 0 rfl rfl 3 (by decide) f2 (fun _ h9 => h9) rfl dX6_lasts_20 ?_
    refine lv_isub hx hb dX6_lasts_23 ?_
    refine va_iald hx hb hK hP 2 1 (f := ma M0 8) rfl rfl h.1 dX6_lasts_24 ?_
    have h := h.2
    refine lv_iadd hx hb dX6_lasts_25 ?_
    refine lv_iconst (v := 1) hx hb dX6_lasts_26 (by decide) ?_
    refine lv_iadd hx hb dX6_lasts_27 ?_
    exact W.iret (v := ((((8 : Int32) * ((ma M0 8 (Int32.toNatClampNeg (mg M0 3))) + (1 : Int32))) + (ma M0 8 (Int32.toNatClampNeg ((1 : Int32) - (mg M0 3))))) + (1 : Int32))) hx hb hr (fun t ht hW => ⟨⟨_, (M0), rfl, h, by rw [ht]; exact hP, va_K.moved hW.alike hK, hD⟩, hS.F ht⟩) hS.2.2 dX6_lasts_28
  have hl := lv_entry ([.ref h0]) (n := 1) (Nat.le_of_ble_eq_true rfl)
  rw [lg_entry_eq]
  generalize (lg_sl ([.ref h0]) ++ List.replicate (1 - (lg_sl ([.ref h0])).length) Slot.unset).toArray = ls at hl ⊢
  have hl : lv_has ls 1 [(0, .ref h0)] := hl
  exact bE M0 s.heap [] ls hP hD hS hl h
def wX6_maySay (p2 : Int32) (M0 : gS) (M1 : gS) (Q : Bool → gS → gS → Prop) : Prop :=
 (((mg M0 0) = 0 → (Q false M0 M1))
 ∧ (¬ (mg M0 0) = 0 → (vp_in (mg M0 3) 2 ∧ (wX1_cost p2 (ma M0 8 (Int32.toNatClampNeg (mg M0 3))) M1 (fun (r2 : Int32) (N3 : gS) => (((mg M0 2) < r2 → (Q false M0 N3))
 ∧ (¬ (mg M0 2) < r2 → (Q true M0 N3))))))))
def rmX6_maySay : Room := { frames := 1, cells := 0, slots := 0, locals := 22 }
set_option maxHeartbeats 4000000 in
set_option maxRecDepth 100000 in
theorem kX6_maySay (l : Launch) (dC : Nat → ClassId) (dI : Nat → Nat → Nat) (cB cI cJ cZ : ClassId) (h0 : Nat) (a0 : Nat → Nat) (h1 : Nat) (a1 : Nat → Nat) (sz : Nat) (p2 : Int32) (M0 : gS) (M1 : gS) (Q : Bool → gS → gS → Prop) (h : wX6_maySay p2 M0 M1 Q) : Met l yX6_maySay wsX6_maySay rmX6_maySay (va_Pc [.ref h0, .ref h1, .int p2] (qcI dC dI cB cI cJ cZ h0 a0 h1 a1 M0 M1 sz)) (va_Qi (fun (r : Int32) (u : gS × gS) => ∃ b : Bool, r = bI b ∧ Q b u.1 u.2) (qcB dC dI cB cI cJ cZ h0 a0 h1 a1 (va_A (qcW cB cI cJ cZ h0 a0 h1 a1 M0 M1) sz)) (va_A (qcW cB cI cJ cZ h0 a0 h1 a1 M0 M1) sz)) 0 0 (va_A (qcW cB cI cJ cZ h0 a0 h1 a1 M0 M1) sz) := by
  refine Met.ofW (cc := cX6_maySay) (maxL := 3) (ret := (some .boolean)) (by decide) rfl ?_
  intro p e s m args below meth c s₁ B hml hv
  obtain ⟨rfl, hsz, hP, hK, hD0⟩ := hv
  have hx := B.exec
  have hb := B.bytes
  have hr := B.returns
  have hts := atoms_spec (ws := wsX6_maySay) B.pre
  have hown : s.vm.findClass RX6 = some m.cls := findClass_of_methodNamed B.named
  have hlocks := B.notSynchronized
  subst hsz
  have hD := hD0.self (sz := s.heap.size)
  generalize hAe : va_A (qcW cB cI cJ cZ h0 a0 h1 a1 M0 M1) s.heap.size = A at hD ⊢
  have hA : ∀ q : Nat, s.heap.size ≤ q → A q := fun q h => by rw [← hAe]; exact Or.inr h
  have hS : va_S A s.heap s.heap [] := va_S.rf
  have hinX6 : ∀ w ∈ wsX60, w ∈ wsX6_maySay := by decide +kernel
  have f1 := hts (.fieldLink RX6 28 "LastWords$Quarrel" "goesOn" "Z") (by decide +kernel)
  have f2 := hts (.fieldLink RX6 22 "LastWords$Quarrel" "last" "[I") (by decide +kernel)
  have f3 := hts (.fieldLink RX6 35 "LastWords$Quarrel" "turn" "I") (by decide +kernel)
  have f4 := hts (.fieldLink RX6 32 "LastWords$Quarrel" "left" "I") (by decide +kernel)
  have bE : ∀ (M0 : gS) (M1 : gS) (H : Heap) (locs : List Loc) (ls : Array Slot), va_P (dC, dI) vwCl (qcW cB cI cJ cZ h0 a0 h1 a1 M0 M1) H → va_D A (qcW cB cI cJ cZ h0 a0 h1 a1 M0 M1) → va_S A s.heap H locs → lv_has ls 3 [(0, .ref h0), (1, .ref h1), (2, .int p2)] → wX6_maySay p2 M0 M1 Q → W p l e (headSpec wsX6_maySay rmX6_maySay).room s m ([.ref h0, .ref h1, .int p2] : List Value).toArray below meth c H locs 0 0 (MQ below (va_Qi (fun (r : Int32) (u : gS × gS) => ∃ b : Bool, r = bI b ∧ Q b u.1 u.2) (qcB dC dI cB cI cJ cZ h0 a0 h1 a1 A) A) ([.ref h0, .ref h1, .int p2] : List Value).toArray s 0 0 A) (F0 m 0 ls []) := by
    intro M0 M1 H locs ls hP hD hS hl h
    unfold wX6_maySay at h
    refine lv_aload_n hx hb dX6_maySay_0 rfl (lv_at hl 0 rfl) ?_
    refine va_get (D := (dC, dI)) (ci := 6) (v := .int (mg M0 0)) (C := RX6) (T := TX6) (N := 10) hx hb hts hinX6 hown hK hP 0 rfl rfl 0 (by decide) f1 (fun _ h9 => h9) rfl dX6_maySay_1 ?_
    refine lv_if_eq (tgt := 32) hx hb dX6_maySay_4 (by decide) (fun c1 => ?_) (fun c1 => ?_)
    · have h := h.1 c1
      refine lv_iconst (v := 0) hx hb dX6_maySay_32 (by decide) ?_
      exact W.zret (v := (bI false)) hx hb hr (nar_bI false) (fun t ht hW => ⟨⟨_, (M0, M1), rfl, ⟨false, rfl, h⟩, by rw [ht]; exact hP, va_K.moved hW.alike hK, hD⟩, hS.F ht⟩) hS.2.2 dX6_maySay_33
    · have h := h.2 c1
      refine lv_aload_n hx hb dX6_maySay_7 rfl (lv_at hl 1 rfl) ?_
      refine lv_iload_n hx hb dX6_maySay_8 rfl (lv_at hl 2 rfl) ?_
      refine lv_aload_n hx hb dX6_maySay_9 rfl (lv_at hl 0 rfl) ?_
      refine va_get (D := (dC, dI)) (ci := 6) (v := .ref (a0 8)) (C := RX6) (T := TX6) (N := 10) hx hb hts hinX6 hown hK hP 0 rfl rfl 8 (by decide) f2 (fun _ h9 => h9) rfl dX6_maySay_10 ?_
      refine lv_aload_n hx hb dX6_maySay_13 rfl (lv_at hl 0 rfl) ?_
      refine va_get (D := (dC, dI)) (ci := 6) (v := .int (mg M0 3)) (C := RX6) (T := TX6) (N := 10) hx hb hts hinX6 hown hK hP 0 rfl rfl 3 (by decide) f3 (fun _ h9 => h9) rfl dX6_maySay_14 ?_
      refine va_iald hx hb hK hP 2 1 (f := ma M0 8) rfl rfl h.1 dX6_maySay_17 ?_
      have h := h.2
      have hPc := hP.sub (ws' := (cnW cB cI cJ cZ h1 a1 M1)) [4, 5, 6, 7] rfl
      have hDc := hD.sub (ws' := (cnW cB cI cJ cZ h1 a1 M1)) [4, 5, 6, 7] (by decide) rfl
      have hFc := va_free (wc := (cnW cB cI cJ cZ h1 a1 M1)) hD hS hA [4, 5, 6, 7] rfl
      refine va_calli (va_runV (As := [.int p2, .int (ma M0 8 (Int32.toNatClampNeg (mg M0 3)))]) (rest := []) ⟨hx, hb, hml, hown, hts⟩ (kX1_cost l dC dI cB cI cJ cZ h1 a1 H.size p2 (ma M0 8 (Int32.toNatClampNeg (mg M0 3))) M1 _ h) (cwV 2 hts gX6_maySay_X1_cost rfl rfl rfl (by decide +kernel) ⟨Nat.le_of_ble_eq_true rfl, Nat.le_of_ble_eq_true rfl⟩) (cnpV hK hPc hDc) rfl rfl hl.1 rfl (lv_room (Nat.le_of_ble_eq_true rfl)) dX6_maySay_18 ⟨Nat.le_of_ble_eq_true rfl, Nat.le_of_ble_eq_true rfl⟩) hS (fun q _ z => hFc q z) hFc (fun r2 u t H1 locs ht hvm hw hB hz1 hk1 hS => ?_)
      obtain ⟨N3, rfl⟩ : ∃ z, z = u := ⟨_, rfl⟩
      obtain ⟨hP1, hK1, hD1⟩ := hB
      rw [ht] at hP1
      obtain ⟨hP, hD⟩ := va_join (wr := [(h0, .inr (6, [.int (mg M0 0), .int (mg M0 1), .int (mg M0 2), .int (mg M0 3), .int (mg M0 4), .int (mg M0 5), .int (mg M0 6), .ref (a0 7), .ref (a0 8), .ref (a0 9)])), (a0 7, .inl (cI, 2, .inl (ma M0 7))), (a0 8, .inl (cI, 2, .inl (ma M0 8))), (a0 9, .inl (cI, 2, .inl (ma M0 9)))]) (w1 := (cnW cB cI cJ cZ h1 a1 N3)) hP hD [4, 5, 6, 7] [0, 1, 2, 3] rfl rfl (by decide) (by decide) hk1 hFc hP1 hD1
      have hP := hP.sub (ws' := (qcW cB cI cJ cZ h0 a0 h1 a1 M0 N3)) [0, 1, 2, 3, 4, 5, 6, 7] rfl
      have hD := hD.sub (ws' := (qcW cB cI cJ cZ h0 a0 h1 a1 M0 N3)) [0, 1, 2, 3, 4, 5, 6, 7] (by decide) rfl
      generalize H1 = H at hP hS ⊢
      have h := hw
      try dsimp only at h
      refine lv_aload_n hx hb dX6_maySay_21 rfl (lv_at hl 0 rfl) ?_
      refine va_get (D := (dC, dI)) (ci := 6) (v := .int (mg M0 2)) (C := RX6) (T := TX6) (N := 10) hx hb hts hinX6 hown hK hP 0 rfl rfl 2 (by decide) f4 (fun _ h9 => h9) rfl dX6_maySay_22 ?_
      refine lv_icmp_gt (tgt := 32) hx hb dX6_maySay_25 (by decide) (fun c4 => ?_) (fun c4 => ?_)
      · have h := h.1 c4
        refine lv_iconst (v := 0) hx hb dX6_maySay_32 (by decide) ?_
        exact W.zret (v := (bI false)) hx hb hr (nar_bI false) (fun t ht hW => ⟨⟨_, (M0, N3), rfl, ⟨false, rfl, h⟩, by rw [ht]; exact hP, va_K.moved hW.alike hK, hD⟩, hS.F ht⟩) hS.2.2 dX6_maySay_33
      · have h := h.2 c4
        refine lv_iconst (v := 1) hx hb dX6_maySay_28 (by decide) ?_
        refine lv_goto (tgt := 33) hx hb dX6_maySay_29 (by decide) ?_
        exact W.zret (v := (bI true)) hx hb hr (nar_bI true) (fun t ht hW => ⟨⟨_, (M0, N3), rfl, ⟨true, rfl, h⟩, by rw [ht]; exact hP, va_K.moved hW.alike hK, hD⟩, hS.F ht⟩) hS.2.2 dX6_maySay_33
  have hl := lv_entry ([.ref h0, .ref h1, .int p2]) (n := 3) (Nat.le_of_ble_eq_true rfl)
  rw [lg_entry_eq]
  generalize (lg_sl ([.ref h0, .ref h1, .int p2]) ++ List.replicate (3 - (lg_sl ([.ref h0, .ref h1, .int p2])).length) Slot.unset).toArray = ls at hl ⊢
  have hl : lv_has ls 3 [(0, .ref h0), (1, .ref h1), (2, .int p2)] := hl
  exact bE M0 M1 s.heap [] ls hP hD hS hl h
def wX6_mayThrow  (M0 : gS) (Q : Bool → gS → Prop) : Prop :=
 (((mg M0 0) = 0 → (Q false M0))
 ∧ (¬ (mg M0 0) = 0 → (vp_in (mg M0 3) 2 ∧ (((ma M0 7 (Int32.toNatClampNeg (mg M0 3))) ≤ 0 → (Q false M0))
 ∧ (¬ (ma M0 7 (Int32.toNatClampNeg (mg M0 3))) ≤ 0 → (((200 : Int32) < ((mg M0 2) + (mg M0 1)) → (Q false M0))
 ∧ (¬ (200 : Int32) < ((mg M0 2) + (mg M0 1)) → (Q true M0))))))))
def rmX6_mayThrow : Room := { frames := 0, cells := 0, slots := 0, locals := 0 }
set_option maxHeartbeats 4000000 in
set_option maxRecDepth 100000 in
theorem kX6_mayThrow (l : Launch) (dC : Nat → ClassId) (dI : Nat → Nat → Nat) (cB cI cJ cZ : ClassId) (h0 : Nat) (a0 : Nat → Nat) (sz : Nat)  (M0 : gS) (Q : Bool → gS → Prop) (h : wX6_mayThrow  M0 Q) : Met l yX6_mayThrow wsX6_mayThrow rmX6_mayThrow (va_Pc [.ref h0] (qrI dC dI cB cI cJ cZ h0 a0 M0 sz)) (va_Qi (fun (r : Int32) (u : gS) => ∃ b : Bool, r = bI b ∧ Q b u) (qrB dC dI cB cI cJ cZ h0 a0 (va_A (qrW cB cI cJ cZ h0 a0 M0) sz)) (va_A (qrW cB cI cJ cZ h0 a0 M0) sz)) 0 0 (va_A (qrW cB cI cJ cZ h0 a0 M0) sz) := by
  refine Met.ofW (cc := cX6_mayThrow) (maxL := 1) (ret := (some .boolean)) (by decide) rfl ?_
  intro p e s m args below meth c s₁ B hml hv
  obtain ⟨rfl, hsz, hP, hK, hD0⟩ := hv
  have hx := B.exec
  have hb := B.bytes
  have hr := B.returns
  have hts := atoms_spec (ws := wsX6_mayThrow) B.pre
  have hown : s.vm.findClass RX6 = some m.cls := findClass_of_methodNamed B.named
  have hlocks := B.notSynchronized
  subst hsz
  have hD := hD0.self (sz := s.heap.size)
  generalize hAe : va_A (qrW cB cI cJ cZ h0 a0 M0) s.heap.size = A at hD ⊢
  have hA : ∀ q : Nat, s.heap.size ≤ q → A q := fun q h => by rw [← hAe]; exact Or.inr h
  have hS : va_S A s.heap s.heap [] := va_S.rf
  have hinX6 : ∀ w ∈ wsX60, w ∈ wsX6_mayThrow := by decide +kernel
  have f1 := hts (.fieldLink RX6 28 "LastWords$Quarrel" "goesOn" "Z") (by decide +kernel)
  have f2 := hts (.fieldLink RX6 18 "LastWords$Quarrel" "purse" "[I") (by decide +kernel)
  have f3 := hts (.fieldLink RX6 35 "LastWords$Quarrel" "turn" "I") (by decide +kernel)
  have f4 := hts (.fieldLink RX6 32 "LastWords$Quarrel" "left" "I") (by decide +kernel)
  have f5 := hts (.fieldLink RX6 9 "LastWords$Quarrel" "verse" "I") (by decide +kernel)
  have bE : ∀ (M0 : gS) (H : Heap) (locs : List Loc) (ls : Array Slot), va_P (dC, dI) vwCl (qrW cB cI cJ cZ h0 a0 M0) H → va_D A (qrW cB cI cJ cZ h0 a0 M0) → va_S A s.heap H locs → lv_has ls 1 [(0, .ref h0)] → wX6_mayThrow  M0 Q → W p l e (headSpec wsX6_mayThrow rmX6_mayThrow).room s m ([.ref h0] : List Value).toArray below meth c H locs 0 0 (MQ below (va_Qi (fun (r : Int32) (u : gS) => ∃ b : Bool, r = bI b ∧ Q b u) (qrB dC dI cB cI cJ cZ h0 a0 A) A) ([.ref h0] : List Value).toArray s 0 0 A) (F0 m 0 ls []) := by
    intro M0 H locs ls hP hD hS hl h
    unfold wX6_mayThrow at h
    refine lv_aload_n hx hb dX6_mayThrow_0 rfl (lv_at hl 0 rfl) ?_
    refine va_get (D := (dC, dI)) (ci := 6) (v := .int (mg M0 0)) (C := RX6) (T := TX6) (N := 10) hx hb hts hinX6 hown hK hP 0 rfl rfl 0 (by decide) f1 (fun _ h9 => h9) rfl dX6_mayThrow_1 ?_
    refine lv_if_eq (tgt := 38) hx hb dX6_mayThrow_4 (by decide) (fun c1 => ?_) (fun c1 => ?_)
    · have h := h.1 c1
      refine lv_iconst (v := 0) hx hb dX6_mayThrow_38 (by decide) ?_
      exact W.zret (v := (bI false)) hx hb hr (nar_bI false) (fun t ht hW => ⟨⟨_, (M0), rfl, ⟨false, rfl, h⟩, by rw [ht]; exact hP, va_K.moved hW.alike hK, hD⟩, hS.F ht⟩) hS.2.2 dX6_mayThrow_39
    · have h := h.2 c1
      refine lv_aload_n hx hb dX6_mayThrow_7 rfl (lv_at hl 0 rfl) ?_
      refine va_get (D := (dC, dI)) (ci := 6) (v := .ref (a0 7)) (C := RX6) (T := TX6) (N := 10) hx hb hts hinX6 hown hK hP 0 rfl rfl 7 (by decide) f2 (fun _ h9 => h9) rfl dX6_mayThrow_8 ?_
      refine lv_aload_n hx hb dX6_mayThrow_11 rfl (lv_at hl 0 rfl) ?_
      refine va_get (D := (dC, dI)) (ci := 6) (v := .int (mg M0 3)) (C := RX6) (T := TX6) (N := 10) hx hb hts hinX6 hown hK hP 0 rfl rfl 3 (by decide) f3 (fun _ h9 => h9) rfl dX6_mayThrow_12 ?_
      refine va_iald hx hb hK hP 1 1 (f := ma M0 7) rfl rfl h.1 dX6_mayThrow_15 ?_
      have h := h.2
      refine lv_if_le (tgt := 38) hx hb dX6_mayThrow_16 (by decide) (fun c2 => ?_) (fun c2 => ?_)
      · have h := h.1 c2
        refine lv_iconst (v := 0) hx hb dX6_mayThrow_38 (by decide) ?_
        exact W.zret (v := (bI false)) hx hb hr (nar_bI false) (fun t ht hW => ⟨⟨_, (M0), rfl, ⟨false, rfl, h⟩, by rw [ht]; exact hP, va_K.moved hW.alike hK, hD⟩, hS.F ht⟩) hS.2.2 dX6_mayThrow_39
      · have h := h.2 c2
        refine lv_aload_n hx hb dX6_mayThrow_19 rfl (lv_at hl 0 rfl) ?_
        refine va_get (D := (dC, dI)) (ci := 6) (v := .int (mg M0 2)) (C := RX6) (T := TX6) (N := 10) hx hb hts hinX6 hown hK hP 0 rfl rfl 2 (by decide) f4 (fun _ h9 => h9) rfl dX6_mayThrow_20 ?_
        refine lv_aload_n hx hb dX6_mayThrow_23 rfl (lv_at hl 0 rfl) ?_
        refine va_get (D := (dC, dI)) (ci := 6) (v := .int (mg M0 1)) (C := RX6) (T := TX6) (N := 10) hx hb hts hinX6 hown hK hP 0 rfl rfl 1 (by decide) f5 (fun _ h9 => h9) rfl dX6_mayThrow_24 ?_
        refine lv_iadd hx hb dX6_mayThrow_27 ?_
        refine lv_sipush (v := (200)) hx hb dX6_mayThrow_28 (by decide) ?_
        refine lv_icmp_gt (tgt := 38) hx hb dX6_mayThrow_31 (by decide) (fun c3 => ?_) (fun c3 => ?_)
        · have h := h.1 c3
          refine lv_iconst (v := 0) hx hb dX6_mayThrow_38 (by decide) ?_
          exact W.zret (v := (bI false)) hx hb hr (nar_bI false) (fun t ht hW => ⟨⟨_, (M0), rfl, ⟨false, rfl, h⟩, by rw [ht]; exact hP, va_K.moved hW.alike hK, hD⟩, hS.F ht⟩) hS.2.2 dX6_mayThrow_39
        · have h := h.2 c3
          refine lv_iconst (v := 1) hx hb dX6_mayThrow_34 (by decide) ?_
          refine lv_goto (tgt := 39) hx hb dX6_mayThrow_35 (by decide) ?_
          exact W.zret (v := (bI true)) hx hb hr (nar_bI true) (fun t ht hW => ⟨⟨_, (M0), rfl, ⟨true, rfl, h⟩, by rw [ht]; exact hP, va_K.moved hW.alike hK, hD⟩, hS.F ht⟩) hS.2.2 dX6_mayThrow_39
  have hl := lv_entry ([.ref h0]) (n := 1) (Nat.le_of_ble_eq_true rfl)
  rw [lg_entry_eq]
  generalize (lg_sl ([.ref h0]) ++ List.replicate (1 - (lg_sl ([.ref h0])).length) Slot.unset).toArray = ls at hl ⊢
  have hl : lv_has ls 1 [(0, .ref h0)] := hl
  exact bE M0 s.heap [] ls hP hD hS hl h
def wX6_finish  (M0 : gS) (Q : gS → Prop) : Prop :=
 (∀ N1 : gS, N1 = sg M0 0 (0 : Int32) → (∀ x2 : Int32, x2 = ((1 : Int32) - (mg N1 3)) → (∀ N3 : gS, N3 = sg N1 6 x2 → (Q N3))))
def rmX6_finish : Room := { frames := 0, cells := 0, slots := 0, locals := 0 }
set_option maxHeartbeats 4000000 in
set_option maxRecDepth 100000 in
theorem kX6_finish (l : Launch) (dC : Nat → ClassId) (dI : Nat → Nat → Nat) (cB cI cJ cZ : ClassId) (h0 : Nat) (a0 : Nat → Nat) (sz : Nat)  (M0 : gS) (Q : gS → Prop) (h : wX6_finish  M0 Q) : Met l yX6_finish wsX6_finish rmX6_finish (va_Pc [.ref h0] (qrI dC dI cB cI cJ cZ h0 a0 M0 sz)) (va_Qv (fun (u : gS) => Q u) (qrB dC dI cB cI cJ cZ h0 a0 (va_A (qrW cB cI cJ cZ h0 a0 M0) sz)) (va_A (qrW cB cI cJ cZ h0 a0 M0) sz)) 0 0 (va_A (qrW cB cI cJ cZ h0 a0 M0) sz) := by
  refine Met.ofW (cc := cX6_finish) (maxL := 1) (ret := none) (by decide) rfl ?_
  intro p e s m args below meth c s₁ B hml hv
  obtain ⟨rfl, hsz, hP, hK, hD0⟩ := hv
  have hx := B.exec
  have hb := B.bytes
  have hr := B.returns
  have hts := atoms_spec (ws := wsX6_finish) B.pre
  have hown : s.vm.findClass RX6 = some m.cls := findClass_of_methodNamed B.named
  have hlocks := B.notSynchronized
  subst hsz
  have hD := hD0.self (sz := s.heap.size)
  generalize hAe : va_A (qrW cB cI cJ cZ h0 a0 M0) s.heap.size = A at hD ⊢
  have hA : ∀ q : Nat, s.heap.size ≤ q → A q := fun q h => by rw [← hAe]; exact Or.inr h
  have hS : va_S A s.heap s.heap [] := va_S.rf
  have hinX6 : ∀ w ∈ wsX60, w ∈ wsX6_finish := by decide +kernel
  have f1 := hts (.fieldLink RX6 28 "LastWords$Quarrel" "goesOn" "Z") (by decide +kernel)
  have f2 := hts (.fieldLink RX6 35 "LastWords$Quarrel" "turn" "I") (by decide +kernel)
  have f3 := hts (.fieldLink RX6 15 "LastWords$Quarrel" "winner" "I") (by decide +kernel)
  have bE : ∀ (M0 : gS) (H : Heap) (locs : List Loc) (ls : Array Slot), va_P (dC, dI) vwCl (qrW cB cI cJ cZ h0 a0 M0) H → va_D A (qrW cB cI cJ cZ h0 a0 M0) → va_S A s.heap H locs → lv_has ls 1 [(0, .ref h0)] → wX6_finish  M0 Q → W p l e (headSpec wsX6_finish rmX6_finish).room s m ([.ref h0] : List Value).toArray below meth c H locs 0 0 (MQ below (va_Qv (fun (u : gS) => Q u) (qrB dC dI cB cI cJ cZ h0 a0 A) A) ([.ref h0] : List Value).toArray s 0 0 A) (F0 m 0 ls []) := by
    intro M0 H locs ls hP hD hS hl h
    unfold wX6_finish at h
    refine lv_aload_n hx hb dX6_finish_0 rfl (lv_at hl 0 rfl) ?_
    refine lv_iconst (v := 0) hx hb dX6_finish_1 (by decide) ?_
    refine va_put (D := (dC, dI)) (ci := 6) (v := .int (0 : Int32)) (ty := .boolean) (C := RX6) (T := TX6) (N := 10) hx hb hts hinX6 tyX6 tyX6_ok nmX6 hown hK hP hD hS 0 rfl rfl 0 (by decide) f1 (fun _ h9 => h9) rfl (by decide +kernel) rfl rfl (Nat.le_of_ble_eq_true rfl) dX6_finish_2 (fun H locs hP hD hS => ?_)
    have hP := qrP_0_f0 hP
    have hD := qrD_0_f0 hD
    have h := h _ rfl
    generalize sg M0 0 (0 : Int32) = N1 at hP hD h
    refine lv_aload_n hx hb dX6_finish_5 rfl (lv_at hl 0 rfl) ?_
    refine lv_iconst (v := 1) hx hb dX6_finish_6 (by decide) ?_
    refine lv_aload_n hx hb dX6_finish_7 rfl (lv_at hl 0 rfl) ?_
    refine va_get (D := (dC, dI)) (ci := 6) (v := .int (mg N1 3)) (C := RX6) (T := TX6) (N := 10) hx hb hts hinX6 hown hK hP 0 rfl rfl 3 (by decide) f2 (fun _ h9 => h9) rfl dX6_finish_8 ?_
    refine lv_isub hx hb dX6_finish_11 ?_
    refine lv_topi (fun x2 ex2 => ?_)
    have h := h x2 ex2
    refine va_put (D := (dC, dI)) (ci := 6) (v := .int x2) (ty := .int) (C := RX6) (T := TX6) (N := 10) hx hb hts hinX6 tyX6 tyX6_ok nmX6 hown hK hP hD hS 0 rfl rfl 6 (by decide) f3 (fun _ h9 => h9) rfl (by decide +kernel) rfl rfl (Nat.le_of_ble_eq_true rfl) dX6_finish_12 (fun H locs hP hD hS => ?_)
    have hP := qrP_0_f6 hP
    have hD := qrD_0_f6 hD
    have h := h _ rfl
    generalize sg N1 6 x2 = N3 at hP hD h
    exact W.vret hx hb hr (fun t ht hW => ⟨⟨(N3), rfl, h, by rw [ht]; exact hP, va_K.moved hW.alike hK, hD⟩, hS.F ht⟩) hS.2.2 dX6_finish_15
  have hl := lv_entry ([.ref h0]) (n := 1) (Nat.le_of_ble_eq_true rfl)
  rw [lg_entry_eq]
  generalize (lg_sl ([.ref h0]) ++ List.replicate (1 - (lg_sl ([.ref h0])).length) Slot.unset).toArray = ls at hl ⊢
  have hl : lv_has ls 1 [(0, .ref h0)] := hl
  exact bE M0 s.heap [] ls hP hD hS hl h
def wX6_endIfStuck  (M0 : gS) (M1 : gS) (Q : gS → gS → Prop) : Prop :=
 (wX6_mayThrow  M0 (fun (b3 : Bool) (N2 : gS) => (((bI b3) = 0 → (vp_in (mg N2 3) 2 ∧ (wX1_anyWordFits (ma N2 8 (Int32.toNatClampNeg (mg N2 3))) (mg N2 2) M1 (fun (b7 : Bool) (N6 : gS) => (((bI b7) = 0 → (wX6_finish  N2 (fun (N10 : gS) => (Q N10 N6))))
 ∧ (¬ (bI b7) = 0 → (Q N2 N6)))))))
 ∧ (¬ (bI b3) = 0 → (Q N2 M1)))))
def rmX6_endIfStuck : Room := { frames := 2, cells := 0, slots := 0, locals := 45 }
set_option maxHeartbeats 4000000 in
set_option maxRecDepth 100000 in
theorem kX6_endIfStuck (l : Launch) (dC : Nat → ClassId) (dI : Nat → Nat → Nat) (cB cI cJ cZ : ClassId) (h0 : Nat) (a0 : Nat → Nat) (h1 : Nat) (a1 : Nat → Nat) (sz : Nat)  (M0 : gS) (M1 : gS) (Q : gS → gS → Prop) (h : wX6_endIfStuck  M0 M1 Q) : Met l yX6_endIfStuck wsX6_endIfStuck rmX6_endIfStuck (va_Pc [.ref h0, .ref h1] (qcI dC dI cB cI cJ cZ h0 a0 h1 a1 M0 M1 sz)) (va_Qv (fun (u : gS × gS) => Q u.1 u.2) (qcB dC dI cB cI cJ cZ h0 a0 h1 a1 (va_A (qcW cB cI cJ cZ h0 a0 h1 a1 M0 M1) sz)) (va_A (qcW cB cI cJ cZ h0 a0 h1 a1 M0 M1) sz)) 0 0 (va_A (qcW cB cI cJ cZ h0 a0 h1 a1 M0 M1) sz) := by
  refine Met.ofW (cc := cX6_endIfStuck) (maxL := 2) (ret := none) (by decide) rfl ?_
  intro p e s m args below meth c s₁ B hml hv
  obtain ⟨rfl, hsz, hP, hK, hD0⟩ := hv
  have hx := B.exec
  have hb := B.bytes
  have hr := B.returns
  have hts := atoms_spec (ws := wsX6_endIfStuck) B.pre
  have hown : s.vm.findClass RX6 = some m.cls := findClass_of_methodNamed B.named
  have hlocks := B.notSynchronized
  subst hsz
  have hD := hD0.self (sz := s.heap.size)
  generalize hAe : va_A (qcW cB cI cJ cZ h0 a0 h1 a1 M0 M1) s.heap.size = A at hD ⊢
  have hA : ∀ q : Nat, s.heap.size ≤ q → A q := fun q h => by rw [← hAe]; exact Or.inr h
  have hS : va_S A s.heap s.heap [] := va_S.rf
  have hinX6 : ∀ w ∈ wsX60, w ∈ wsX6_endIfStuck := by decide +kernel
  have f1 := hts (.fieldLink RX6 22 "LastWords$Quarrel" "last" "[I") (by decide +kernel)
  have f2 := hts (.fieldLink RX6 35 "LastWords$Quarrel" "turn" "I") (by decide +kernel)
  have f3 := hts (.fieldLink RX6 32 "LastWords$Quarrel" "left" "I") (by decide +kernel)
  have bE : ∀ (M0 : gS) (M1 : gS) (H : Heap) (locs : List Loc) (ls : Array Slot), va_P (dC, dI) vwCl (qcW cB cI cJ cZ h0 a0 h1 a1 M0 M1) H → va_D A (qcW cB cI cJ cZ h0 a0 h1 a1 M0 M1) → va_S A s.heap H locs → lv_has ls 2 [(0, .ref h0), (1, .ref h1)] → wX6_endIfStuck  M0 M1 Q → W p l e (headSpec wsX6_endIfStuck rmX6_endIfStuck).room s m ([.ref h0, .ref h1] : List Value).toArray below meth c H locs 0 0 (MQ below (va_Qv (fun (u : gS × gS) => Q u.1 u.2) (qcB dC dI cB cI cJ cZ h0 a0 h1 a1 A) A) ([.ref h0, .ref h1] : List Value).toArray s 0 0 A) (F0 m 0 ls []) := by
    intro M0 M1 H locs ls hP hD hS hl h
    unfold wX6_endIfStuck at h
    refine lv_aload_n hx hb dX6_endIfStuck_0 rfl (lv_at hl 0 rfl) ?_
    have hPc := hP.sub (ws' := (qrW cB cI cJ cZ h0 a0 M0)) [0, 1, 2, 3] rfl
    have hDc := hD.sub (ws' := (qrW cB cI cJ cZ h0 a0 M0)) [0, 1, 2, 3] (by decide) rfl
    have hFc := va_free (wc := (qrW cB cI cJ cZ h0 a0 M0)) hD hS hA [0, 1, 2, 3] rfl
    refine va_calli (va_runV (As := []) (rest := []) ⟨hx, hb, hml, hown, hts⟩ (kX6_mayThrow l dC dI cB cI cJ cZ h0 a0 H.size  M0 _ h) (cwV 0 hts gX6_endIfStuck_X6_mayThrow rfl rfl rfl (by decide +kernel) ⟨Nat.le_of_ble_eq_true rfl, Nat.le_of_ble_eq_true rfl⟩) (qrpV hK hPc hDc) rfl rfl hl.1 rfl (lv_room (Nat.le_of_ble_eq_true rfl)) dX6_endIfStuck_1 ⟨Nat.le_of_ble_eq_true rfl, Nat.le_of_ble_eq_true rfl⟩) hS (fun q _ z => hFc q z) hFc (fun r1 u t H1 locs ht hvm hw hB hz1 hk1 hS => ?_)
    obtain ⟨N2, rfl⟩ : ∃ z, z = u := ⟨_, rfl⟩
    obtain ⟨hP1, hK1, hD1⟩ := hB
    rw [ht] at hP1
    obtain ⟨hP, hD⟩ := va_join (wr := [(h1, .inr (1, [.int (mg M1 0), .ref (a1 1), .int (mg M1 2), .ref (a1 3), .int (mg M1 4), .ref (a1 5)])), (a1 1, .inl (cI, 4, .inl (ma M1 1))), (a1 3, .inl (cI, 4, .inl (ma M1 3))), (a1 5, .inl (cI, 2, .inl (ma M1 5)))]) (w1 := (qrW cB cI cJ cZ h0 a0 N2)) hP hD [0, 1, 2, 3] [4, 5, 6, 7] rfl rfl (by decide) (by decide) hk1 hFc hP1 hD1
    have hP := hP.sub (ws' := (qcW cB cI cJ cZ h0 a0 h1 a1 N2 M1)) [4, 5, 6, 7, 0, 1, 2, 3] rfl
    have hD := hD.sub (ws' := (qcW cB cI cJ cZ h0 a0 h1 a1 N2 M1)) [4, 5, 6, 7, 0, 1, 2, 3] (by decide) rfl
    generalize H1 = H at hP hS ⊢
    obtain ⟨b3, rfl, h⟩ := hw
    try dsimp only at h
    refine lv_if_ne (tgt := 31) hx hb dX6_endIfStuck_4 (by decide) (fun c4 => ?_) (fun c4 => ?_)
    · have h := h.2 c4
      exact W.vret hx hb hr (fun t ht hW => ⟨⟨(N2, M1), rfl, h, by rw [ht]; exact hP, va_K.moved hW.alike hK, hD⟩, hS.F ht⟩) hS.2.2 dX6_endIfStuck_31
    · have h := h.1 c4
      refine lv_aload_n hx hb dX6_endIfStuck_7 rfl (lv_at hl 1 rfl) ?_
      refine lv_aload_n hx hb dX6_endIfStuck_8 rfl (lv_at hl 0 rfl) ?_
      refine va_get (D := (dC, dI)) (ci := 6) (v := .ref (a0 8)) (C := RX6) (T := TX6) (N := 10) hx hb hts hinX6 hown hK hP 0 rfl rfl 8 (by decide) f1 (fun _ h9 => h9) rfl dX6_endIfStuck_9 ?_
      refine lv_aload_n hx hb dX6_endIfStuck_12 rfl (lv_at hl 0 rfl) ?_
      refine va_get (D := (dC, dI)) (ci := 6) (v := .int (mg N2 3)) (C := RX6) (T := TX6) (N := 10) hx hb hts hinX6 hown hK hP 0 rfl rfl 3 (by decide) f2 (fun _ h9 => h9) rfl dX6_endIfStuck_13 ?_
      refine va_iald hx hb hK hP 2 1 (f := ma N2 8) rfl rfl h.1 dX6_endIfStuck_16 ?_
      have h := h.2
      refine lv_aload_n hx hb dX6_endIfStuck_17 rfl (lv_at hl 0 rfl) ?_
      refine va_get (D := (dC, dI)) (ci := 6) (v := .int (mg N2 2)) (C := RX6) (T := TX6) (N := 10) hx hb hts hinX6 hown hK hP 0 rfl rfl 2 (by decide) f3 (fun _ h9 => h9) rfl dX6_endIfStuck_18 ?_
      have hPc := hP.sub (ws' := (cnW cB cI cJ cZ h1 a1 M1)) [4, 5, 6, 7] rfl
      have hDc := hD.sub (ws' := (cnW cB cI cJ cZ h1 a1 M1)) [4, 5, 6, 7] (by decide) rfl
      have hFc := va_free (wc := (cnW cB cI cJ cZ h1 a1 M1)) hD hS hA [4, 5, 6, 7] rfl
      refine va_calli (va_runV (As := [.int (ma N2 8 (Int32.toNatClampNeg (mg N2 3))), .int (mg N2 2)]) (rest := []) ⟨hx, hb, hml, hown, hts⟩ (kX1_anyWordFits l dC dI cB cI cJ cZ h1 a1 H.size (ma N2 8 (Int32.toNatClampNeg (mg N2 3))) (mg N2 2) M1 _ h) (cwV 2 hts gX6_endIfStuck_X1_anyWordFits rfl rfl rfl (by decide +kernel) ⟨Nat.le_of_ble_eq_true rfl, Nat.le_of_ble_eq_true rfl⟩) (cnpV hK hPc hDc) rfl rfl hl.1 rfl (lv_room (Nat.le_of_ble_eq_true rfl)) dX6_endIfStuck_21 ⟨Nat.le_of_ble_eq_true rfl, Nat.le_of_ble_eq_true rfl⟩) hS (fun q _ z => hFc q z) hFc (fun r5 u t H1 locs ht hvm hw hB hz1 hk1 hS => ?_)
      obtain ⟨N6, rfl⟩ : ∃ z, z = u := ⟨_, rfl⟩
      obtain ⟨hP1, hK1, hD1⟩ := hB
      rw [ht] at hP1
      obtain ⟨hP, hD⟩ := va_join (wr := [(h0, .inr (6, [.int (mg N2 0), .int (mg N2 1), .int (mg N2 2), .int (mg N2 3), .int (mg N2 4), .int (mg N2 5), .int (mg N2 6), .ref (a0 7), .ref (a0 8), .ref (a0 9)])), (a0 7, .inl (cI, 2, .inl (ma N2 7))), (a0 8, .inl (cI, 2, .inl (ma N2 8))), (a0 9, .inl (cI, 2, .inl (ma N2 9)))]) (w1 := (cnW cB cI cJ cZ h1 a1 N6)) hP hD [4, 5, 6, 7] [0, 1, 2, 3] rfl rfl (by decide) (by decide) hk1 hFc hP1 hD1
      have hP := hP.sub (ws' := (qcW cB cI cJ cZ h0 a0 h1 a1 N2 N6)) [0, 1, 2, 3, 4, 5, 6, 7] rfl
      have hD := hD.sub (ws' := (qcW cB cI cJ cZ h0 a0 h1 a1 N2 N6)) [0, 1, 2, 3, 4, 5, 6, 7] (by decide) rfl
      generalize H1 = H at hP hS ⊢
      obtain ⟨b7, rfl, h⟩ := hw
      try dsimp only at h
      refine lv_if_ne (tgt := 31) hx hb dX6_endIfStuck_24 (by decide) (fun c8 => ?_) (fun c8 => ?_)
      · have h := h.2 c8
        exact W.vret hx hb hr (fun t ht hW => ⟨⟨(N2, N6), rfl, h, by rw [ht]; exact hP, va_K.moved hW.alike hK, hD⟩, hS.F ht⟩) hS.2.2 dX6_endIfStuck_31
      · have h := h.1 c8
        refine lv_aload_n hx hb dX6_endIfStuck_27 rfl (lv_at hl 0 rfl) ?_
        have hPc := hP.sub (ws' := (qrW cB cI cJ cZ h0 a0 N2)) [0, 1, 2, 3] rfl
        have hDc := hD.sub (ws' := (qrW cB cI cJ cZ h0 a0 N2)) [0, 1, 2, 3] (by decide) rfl
        have hFc := va_free (wc := (qrW cB cI cJ cZ h0 a0 N2)) hD hS hA [0, 1, 2, 3] rfl
        refine va_callv (va_runV (As := []) (rest := []) ⟨hx, hb, hml, hown, hts⟩ (kX6_finish l dC dI cB cI cJ cZ h0 a0 H.size  N2 _ h) (cwV 0 hts gX6_endIfStuck_X6_finish rfl rfl rfl (by decide +kernel) ⟨Nat.le_of_ble_eq_true rfl, Nat.le_of_ble_eq_true rfl⟩) (qrpV hK hPc hDc) rfl rfl hl.1 rfl (lv_room (Nat.le_of_ble_eq_true rfl)) dX6_endIfStuck_28 ⟨Nat.le_of_ble_eq_true rfl, Nat.le_of_ble_eq_true rfl⟩) hS (fun q _ z => hFc q z) hFc (fun u t H1 locs ht hvm hw hB hz1 hk1 hS => ?_)
        obtain ⟨N10, rfl⟩ : ∃ z, z = u := ⟨_, rfl⟩
        obtain ⟨hP1, hK1, hD1⟩ := hB
        rw [ht] at hP1
        obtain ⟨hP, hD⟩ := va_join (wr := [(h1, .inr (1, [.int (mg N6 0), .ref (a1 1), .int (mg N6 2), .ref (a1 3), .int (mg N6 4), .ref (a1 5)])), (a1 1, .inl (cI, 4, .inl (ma N6 1))), (a1 3, .inl (cI, 4, .inl (ma N6 3))), (a1 5, .inl (cI, 2, .inl (ma N6 5)))]) (w1 := (qrW cB cI cJ cZ h0 a0 N10)) hP hD [0, 1, 2, 3] [4, 5, 6, 7] rfl rfl (by decide) (by decide) hk1 hFc hP1 hD1
        have hP := hP.sub (ws' := (qcW cB cI cJ cZ h0 a0 h1 a1 N10 N6)) [4, 5, 6, 7, 0, 1, 2, 3] rfl
        have hD := hD.sub (ws' := (qcW cB cI cJ cZ h0 a0 h1 a1 N10 N6)) [4, 5, 6, 7, 0, 1, 2, 3] (by decide) rfl
        generalize H1 = H at hP hS ⊢
        have h := hw
        try dsimp only at h
        exact W.vret hx hb hr (fun t ht hW => ⟨⟨(N10, N6), rfl, h, by rw [ht]; exact hP, va_K.moved hW.alike hK, hD⟩, hS.F ht⟩) hS.2.2 dX6_endIfStuck_31
  have hl := lv_entry ([.ref h0, .ref h1]) (n := 2) (Nat.le_of_ble_eq_true rfl)
  rw [lg_entry_eq]
  generalize (lg_sl ([.ref h0, .ref h1]) ++ List.replicate (2 - (lg_sl ([.ref h0, .ref h1])).length) Slot.unset).toArray = ls at hl ⊢
  have hl : lv_has ls 2 [(0, .ref h0), (1, .ref h1)] := hl
  exact bE M0 M1 s.heap [] ls hP hD hS hl h
def wX6_say (p2 : Int32) (M0 : gS) (M1 : gS) (Q : gS → gS → Prop) : Prop :=
 (vp_in (mg M0 3) 2 ∧ (wX1_cost p2 (ma M0 8 (Int32.toNatClampNeg (mg M0 3))) M1 (fun (r1 : Int32) (N2 : gS) => (∀ x3 : Int32, x3 = ((mg M0 2) - r1) → (∀ N4 : gS, N4 = sg M0 2 x3 → (vp_in (mg N4 3) 2 ∧ (∀ N5 : gS, N5 = sa N4 8 (Int32.toNatClampNeg (mg N4 3)) p2 → (vp_in (mg N5 3) 2 ∧ (∀ x6 : Int32, x6 = ((ma N5 9 (Int32.toNatClampNeg (mg N5 3))) + (1 : Int32)) → (vp_in (mg N5 3) 2 ∧ (∀ N7 : gS, N7 = sa N5 9 (Int32.toNatClampNeg (mg N5 3)) x6 → (∀ x8 : Int32, x8 = ((mg N7 4) + (1 : Int32)) → (∀ N9 : gS, N9 = sg N7 4 x8 → (∀ x10 : Int32, x10 = ((1 : Int32) - (mg N9 3)) → (∀ N11 : gS, N11 = sg N9 3 x10 → (wX6_endIfStuck  N11 N2 (fun (N13 : gS) (N14 : gS) => (Q N13 N14))))))))))))))))))
def rmX6_say : Room := { frames := 3, cells := 0, slots := 0, locals := 66 }
set_option maxHeartbeats 4000000 in
set_option maxRecDepth 100000 in
theorem kX6_say (l : Launch) (dC : Nat → ClassId) (dI : Nat → Nat → Nat) (cB cI cJ cZ : ClassId) (h0 : Nat) (a0 : Nat → Nat) (h1 : Nat) (a1 : Nat → Nat) (sz : Nat) (p2 : Int32) (M0 : gS) (M1 : gS) (Q : gS → gS → Prop) (h : wX6_say p2 M0 M1 Q) : Met l yX6_say wsX6_say rmX6_say (va_Pc [.ref h0, .ref h1, .int p2] (qcI dC dI cB cI cJ cZ h0 a0 h1 a1 M0 M1 sz)) (va_Qv (fun (u : gS × gS) => Q u.1 u.2) (qcB dC dI cB cI cJ cZ h0 a0 h1 a1 (va_A (qcW cB cI cJ cZ h0 a0 h1 a1 M0 M1) sz)) (va_A (qcW cB cI cJ cZ h0 a0 h1 a1 M0 M1) sz)) 0 0 (va_A (qcW cB cI cJ cZ h0 a0 h1 a1 M0 M1) sz) := by
  refine Met.ofW (cc := cX6_say) (maxL := 3) (ret := none) (by decide) rfl ?_
  intro p e s m args below meth c s₁ B hml hv
  obtain ⟨rfl, hsz, hP, hK, hD0⟩ := hv
  have hx := B.exec
  have hb := B.bytes
  have hr := B.returns
  have hts := atoms_spec (ws := wsX6_say) B.pre
  have hown : s.vm.findClass RX6 = some m.cls := findClass_of_methodNamed B.named
  have hlocks := B.notSynchronized
  subst hsz
  have hD := hD0.self (sz := s.heap.size)
  generalize hAe : va_A (qcW cB cI cJ cZ h0 a0 h1 a1 M0 M1) s.heap.size = A at hD ⊢
  have hA : ∀ q : Nat, s.heap.size ≤ q → A q := fun q h => by rw [← hAe]; exact Or.inr h
  have hS : va_S A s.heap s.heap [] := va_S.rf
  have hinX6 : ∀ w ∈ wsX60, w ∈ wsX6_say := by decide +kernel
  have f1 := hts (.fieldLink RX6 32 "LastWords$Quarrel" "left" "I") (by decide +kernel)
  have f2 := hts (.fieldLink RX6 22 "LastWords$Quarrel" "last" "[I") (by decide +kernel)
  have f3 := hts (.fieldLink RX6 35 "LastWords$Quarrel" "turn" "I") (by decide +kernel)
  have f4 := hts (.fieldLink RX6 25 "LastWords$Quarrel" "said" "[I") (by decide +kernel)
  have f5 := hts (.fieldLink RX6 38 "LastWords$Quarrel" "moves" "I") (by decide +kernel)
  have bE : ∀ (M0 : gS) (M1 : gS) (H : Heap) (locs : List Loc) (ls : Array Slot), va_P (dC, dI) vwCl (qcW cB cI cJ cZ h0 a0 h1 a1 M0 M1) H → va_D A (qcW cB cI cJ cZ h0 a0 h1 a1 M0 M1) → va_S A s.heap H locs → lv_has ls 3 [(0, .ref h0), (1, .ref h1), (2, .int p2)] → wX6_say p2 M0 M1 Q → W p l e (headSpec wsX6_say rmX6_say).room s m ([.ref h0, .ref h1, .int p2] : List Value).toArray below meth c H locs 0 0 (MQ below (va_Qv (fun (u : gS × gS) => Q u.1 u.2) (qcB dC dI cB cI cJ cZ h0 a0 h1 a1 A) A) ([.ref h0, .ref h1, .int p2] : List Value).toArray s 0 0 A) (F0 m 0 ls []) := by
    intro M0 M1 H locs ls hP hD hS hl h
    unfold wX6_say at h
    refine lv_aload_n hx hb dX6_say_0 rfl (lv_at hl 0 rfl) ?_
    refine lv_dup hx hb dX6_say_1 rfl ?_
    refine va_get (D := (dC, dI)) (ci := 6) (v := .int (mg M0 2)) (C := RX6) (T := TX6) (N := 10) hx hb hts hinX6 hown hK hP 0 rfl rfl 2 (by decide) f1 (fun _ h9 => h9) rfl dX6_say_2 ?_
    refine lv_aload_n hx hb dX6_say_5 rfl (lv_at hl 1 rfl) ?_
    refine lv_iload_n hx hb dX6_say_6 rfl (lv_at hl 2 rfl) ?_
    refine lv_aload_n hx hb dX6_say_7 rfl (lv_at hl 0 rfl) ?_
    refine va_get (D := (dC, dI)) (ci := 6) (v := .ref (a0 8)) (C := RX6) (T := TX6) (N := 10) hx hb hts hinX6 hown hK hP 0 rfl rfl 8 (by decide) f2 (fun _ h9 => h9) rfl dX6_say_8 ?_
    refine lv_aload_n hx hb dX6_say_11 rfl (lv_at hl 0 rfl) ?_
    refine va_get (D := (dC, dI)) (ci := 6) (v := .int (mg M0 3)) (C := RX6) (T := TX6) (N := 10) hx hb hts hinX6 hown hK hP 0 rfl rfl 3 (by decide) f3 (fun _ h9 => h9) rfl dX6_say_12 ?_
    refine va_iald hx hb hK hP 2 1 (f := ma M0 8) rfl rfl h.1 dX6_say_15 ?_
    have h := h.2
    have hPc := hP.sub (ws' := (cnW cB cI cJ cZ h1 a1 M1)) [4, 5, 6, 7] rfl
    have hDc := hD.sub (ws' := (cnW cB cI cJ cZ h1 a1 M1)) [4, 5, 6, 7] (by decide) rfl
    have hFc := va_free (wc := (cnW cB cI cJ cZ h1 a1 M1)) hD hS hA [4, 5, 6, 7] rfl
    refine va_calli (va_runV (As := [.int p2, .int (ma M0 8 (Int32.toNatClampNeg (mg M0 3)))]) (rest := [.int (mg M0 2), .ref h0]) ⟨hx, hb, hml, hown, hts⟩ (kX1_cost l dC dI cB cI cJ cZ h1 a1 H.size p2 (ma M0 8 (Int32.toNatClampNeg (mg M0 3))) M1 _ h) (cwV 2 hts gX6_say_X1_cost rfl rfl rfl (by decide +kernel) ⟨Nat.le_of_ble_eq_true rfl, Nat.le_of_ble_eq_true rfl⟩) (cnpV hK hPc hDc) rfl rfl hl.1 rfl (lv_room (Nat.le_of_ble_eq_true rfl)) dX6_say_16 ⟨Nat.le_of_ble_eq_true rfl, Nat.le_of_ble_eq_true rfl⟩) hS (fun q _ z => hFc q z) hFc (fun r1 u t H1 locs ht hvm hw hB hz1 hk1 hS => ?_)
    obtain ⟨N2, rfl⟩ : ∃ z, z = u := ⟨_, rfl⟩
    obtain ⟨hP1, hK1, hD1⟩ := hB
    rw [ht] at hP1
    obtain ⟨hP, hD⟩ := va_join (wr := [(h0, .inr (6, [.int (mg M0 0), .int (mg M0 1), .int (mg M0 2), .int (mg M0 3), .int (mg M0 4), .int (mg M0 5), .int (mg M0 6), .ref (a0 7), .ref (a0 8), .ref (a0 9)])), (a0 7, .inl (cI, 2, .inl (ma M0 7))), (a0 8, .inl (cI, 2, .inl (ma M0 8))), (a0 9, .inl (cI, 2, .inl (ma M0 9)))]) (w1 := (cnW cB cI cJ cZ h1 a1 N2)) hP hD [4, 5, 6, 7] [0, 1, 2, 3] rfl rfl (by decide) (by decide) hk1 hFc hP1 hD1
    have hP := hP.sub (ws' := (qcW cB cI cJ cZ h0 a0 h1 a1 M0 N2)) [0, 1, 2, 3, 4, 5, 6, 7] rfl
    have hD := hD.sub (ws' := (qcW cB cI cJ cZ h0 a0 h1 a1 M0 N2)) [0, 1, 2, 3, 4, 5, 6, 7] (by decide) rfl
    generalize H1 = H at hP hS ⊢
    have h := hw
    try dsimp only at h
    refine lv_isub hx hb dX6_say_19 ?_
    refine lv_topi (fun x3 ex3 => ?_)
    have h := h x3 ex3
    refine va_put (D := (dC, dI)) (ci := 6) (v := .int x3) (ty := .int) (C := RX6) (T := TX6) (N := 10) hx hb hts hinX6 tyX6 tyX6_ok nmX6 hown hK hP hD hS 0 rfl rfl 2 (by decide) f1 (fun _ h9 => h9) rfl (by decide +kernel) rfl rfl (Nat.le_of_ble_eq_true rfl) dX6_say_20 (fun H locs hP hD hS => ?_)
    have hP := qcP_0_f2 hP
    have hD := qcD_0_f2 hD
    have h := h _ rfl
    generalize sg M0 2 x3 = N4 at hP hD h
    refine lv_aload_n hx hb dX6_say_23 rfl (lv_at hl 0 rfl) ?_
    refine va_get (D := (dC, dI)) (ci := 6) (v := .ref (a0 8)) (C := RX6) (T := TX6) (N := 10) hx hb hts hinX6 hown hK hP 0 rfl rfl 8 (by decide) f2 (fun _ h9 => h9) rfl dX6_say_24 ?_
    refine lv_aload_n hx hb dX6_say_27 rfl (lv_at hl 0 rfl) ?_
    refine va_get (D := (dC, dI)) (ci := 6) (v := .int (mg N4 3)) (C := RX6) (T := TX6) (N := 10) hx hb hts hinX6 hown hK hP 0 rfl rfl 3 (by decide) f3 (fun _ h9 => h9) rfl dX6_say_28 ?_
    refine lv_iload_n hx hb dX6_say_31 rfl (lv_at hl 2 rfl) ?_
    refine va_iast hx hb hK hP hD hS 2 1 (f := ma N4 8) rfl rfl h.1 dX6_say_32 (fun H locs hP hD hS => ?_)
    have h := h.2
    have hP := qcP_0_a8 hP
    have hD := qcD_0_a8 hD
    have h := h _ rfl
    generalize sa N4 8 (Int32.toNatClampNeg (mg N4 3)) p2 = N5 at hP hD h
    refine lv_aload_n hx hb dX6_say_33 rfl (lv_at hl 0 rfl) ?_
    refine va_get (D := (dC, dI)) (ci := 6) (v := .ref (a0 9)) (C := RX6) (T := TX6) (N := 10) hx hb hts hinX6 hown hK hP 0 rfl rfl 9 (by decide) f4 (fun _ h9 => h9) rfl dX6_say_34 ?_
    refine lv_aload_n hx hb dX6_say_37 rfl (lv_at hl 0 rfl) ?_
    refine va_get (D := (dC, dI)) (ci := 6) (v := .int (mg N5 3)) (C := RX6) (T := TX6) (N := 10) hx hb hts hinX6 hown hK hP 0 rfl rfl 3 (by decide) f3 (fun _ h9 => h9) rfl dX6_say_38 ?_
    refine lv_dup2_11 hx hb dX6_say_41 rfl rfl ?_
    refine va_iald hx hb hK hP 3 1 (f := ma N5 9) rfl rfl h.1 dX6_say_42 ?_
    have h := h.2
    refine lv_iconst (v := 1) hx hb dX6_say_43 (by decide) ?_
    refine lv_iadd hx hb dX6_say_44 ?_
    refine lv_topi (fun x6 ex6 => ?_)
    have h := h x6 ex6
    refine va_iast hx hb hK hP hD hS 3 1 (f := ma N5 9) rfl rfl h.1 dX6_say_45 (fun H locs hP hD hS => ?_)
    have h := h.2
    have hP := qcP_0_a9 hP
    have hD := qcD_0_a9 hD
    have h := h _ rfl
    generalize sa N5 9 (Int32.toNatClampNeg (mg N5 3)) x6 = N7 at hP hD h
    refine lv_aload_n hx hb dX6_say_46 rfl (lv_at hl 0 rfl) ?_
    refine lv_dup hx hb dX6_say_47 rfl ?_
    refine va_get (D := (dC, dI)) (ci := 6) (v := .int (mg N7 4)) (C := RX6) (T := TX6) (N := 10) hx hb hts hinX6 hown hK hP 0 rfl rfl 4 (by decide) f5 (fun _ h9 => h9) rfl dX6_say_48 ?_
    refine lv_iconst (v := 1) hx hb dX6_say_51 (by decide) ?_
    refine lv_iadd hx hb dX6_say_52 ?_
    refine lv_topi (fun x8 ex8 => ?_)
    have h := h x8 ex8
    refine va_put (D := (dC, dI)) (ci := 6) (v := .int x8) (ty := .int) (C := RX6) (T := TX6) (N := 10) hx hb hts hinX6 tyX6 tyX6_ok nmX6 hown hK hP hD hS 0 rfl rfl 4 (by decide) f5 (fun _ h9 => h9) rfl (by decide +kernel) rfl rfl (Nat.le_of_ble_eq_true rfl) dX6_say_53 (fun H locs hP hD hS => ?_)
    have hP := qcP_0_f4 hP
    have hD := qcD_0_f4 hD
    have h := h _ rfl
    generalize sg N7 4 x8 = N9 at hP hD h
    refine lv_aload_n hx hb dX6_say_56 rfl (lv_at hl 0 rfl) ?_
    refine lv_iconst (v := 1) hx hb dX6_say_57 (by decide) ?_
    refine lv_aload_n hx hb dX6_say_58 rfl (lv_at hl 0 rfl) ?_
    refine va_get (D := (dC, dI)) (ci := 6) (v := .int (mg N9 3)) (C := RX6) (T := TX6) (N := 10) hx hb hts hinX6 hown hK hP 0 rfl rfl 3 (by decide) f3 (fun _ h9 => h9) rfl dX6_say_59 ?_
    refine lv_isub hx hb dX6_say_62 ?_
    refine lv_topi (fun x10 ex10 => ?_)
    have h := h x10 ex10
    refine va_put (D := (dC, dI)) (ci := 6) (v := .int x10) (ty := .int) (C := RX6) (T := TX6) (N := 10) hx hb hts hinX6 tyX6 tyX6_ok nmX6 hown hK hP hD hS 0 rfl rfl 3 (by decide) f3 (fun _ h9 => h9) rfl (by decide +kernel) rfl rfl (Nat.le_of_ble_eq_true rfl) dX6_say_63 (fun H locs hP hD hS => ?_)
    have hP := qcP_0_f3 hP
    have hD := qcD_0_f3 hD
    have h := h _ rfl
    generalize sg N9 3 x10 = N11 at hP hD h
    refine lv_aload_n hx hb dX6_say_66 rfl (lv_at hl 0 rfl) ?_
    refine lv_aload_n hx hb dX6_say_67 rfl (lv_at hl 1 rfl) ?_
    have hFc := gs_free hD hS hA
    refine va_callv (va_runV (As := [.ref h1]) (rest := []) ⟨hx, hb, hml, hown, hts⟩ (kX6_endIfStuck l dC dI cB cI cJ cZ h0 a0 h1 a1 H.size  N11 N2 _ h) (cwV 1 hts gX6_say_X6_endIfStuck rfl rfl rfl (by decide +kernel) ⟨Nat.le_of_ble_eq_true rfl, Nat.le_of_ble_eq_true rfl⟩) (qcpV hK hP hD) rfl rfl hl.1 rfl (lv_room (Nat.le_of_ble_eq_true rfl)) dX6_say_68 ⟨Nat.le_of_ble_eq_true rfl, Nat.le_of_ble_eq_true rfl⟩) hS (fun q _ z => hFc q z) hFc (fun u t H1 locs ht hvm hw hB hz1 hk1 hS => ?_)
    obtain ⟨N13, N14⟩ := u
    obtain ⟨hP, hD⟩ := gs_back ht hFc hB
    generalize H1 = H at hP hS ⊢
    have h := hw
    try dsimp only at h
    exact W.vret hx hb hr (fun t ht hW => ⟨⟨(N13, N14), rfl, h, by rw [ht]; exact hP, va_K.moved hW.alike hK, hD⟩, hS.F ht⟩) hS.2.2 dX6_say_71
  have hl := lv_entry ([.ref h0, .ref h1, .int p2]) (n := 3) (Nat.le_of_ble_eq_true rfl)
  rw [lg_entry_eq]
  generalize (lg_sl ([.ref h0, .ref h1, .int p2]) ++ List.replicate (3 - (lg_sl ([.ref h0, .ref h1, .int p2])).length) Slot.unset).toArray = ls at hl ⊢
  have hl : lv_has ls 3 [(0, .ref h0), (1, .ref h1), (2, .int p2)] := hl
  exact bE M0 M1 s.heap [] ls hP hD hS hl h
def wX6_throwPenny  (M0 : gS) (M1 : gS) (Q : gS → gS → Prop) : Prop :=
 (vp_in (mg M0 3) 2 ∧ (∀ x1 : Int32, x1 = ((ma M0 7 (Int32.toNatClampNeg (mg M0 3))) - (1 : Int32)) → (vp_in (mg M0 3) 2 ∧ (∀ N2 : gS, N2 = sa M0 7 (Int32.toNatClampNeg (mg M0 3)) x1 → (∀ x3 : Int32, x3 = ((mg N2 5) + (1 : Int32)) → (∀ N4 : gS, N4 = sg N2 5 x3 → (∀ x5 : Int32, x5 = ((mg N4 2) + (mg N4 1)) → (∀ N6 : gS, N6 = sg N4 2 x5 → (∀ x7 : Int32, x7 = ((mg N6 4) + (1 : Int32)) → (∀ N8 : gS, N8 = sg N6 4 x7 → (wX6_endIfStuck  N8 M1 (fun (N10 : gS) (N11 : gS) => (Q N10 N11)))))))))))))
def rmX6_throwPenny : Room := { frames := 3, cells := 0, slots := 0, locals := 66 }
set_option maxHeartbeats 4000000 in
set_option maxRecDepth 100000 in
theorem kX6_throwPenny (l : Launch) (dC : Nat → ClassId) (dI : Nat → Nat → Nat) (cB cI cJ cZ : ClassId) (h0 : Nat) (a0 : Nat → Nat) (h1 : Nat) (a1 : Nat → Nat) (sz : Nat)  (M0 : gS) (M1 : gS) (Q : gS → gS → Prop) (h : wX6_throwPenny  M0 M1 Q) : Met l yX6_throwPenny wsX6_throwPenny rmX6_throwPenny (va_Pc [.ref h0, .ref h1] (qcI dC dI cB cI cJ cZ h0 a0 h1 a1 M0 M1 sz)) (va_Qv (fun (u : gS × gS) => Q u.1 u.2) (qcB dC dI cB cI cJ cZ h0 a0 h1 a1 (va_A (qcW cB cI cJ cZ h0 a0 h1 a1 M0 M1) sz)) (va_A (qcW cB cI cJ cZ h0 a0 h1 a1 M0 M1) sz)) 0 0 (va_A (qcW cB cI cJ cZ h0 a0 h1 a1 M0 M1) sz) := by
  refine Met.ofW (cc := cX6_throwPenny) (maxL := 2) (ret := none) (by decide) rfl ?_
  intro p e s m args below meth c s₁ B hml hv
  obtain ⟨rfl, hsz, hP, hK, hD0⟩ := hv
  have hx := B.exec
  have hb := B.bytes
  have hr := B.returns
  have hts := atoms_spec (ws := wsX6_throwPenny) B.pre
  have hown : s.vm.findClass RX6 = some m.cls := findClass_of_methodNamed B.named
  have hlocks := B.notSynchronized
  subst hsz
  have hD := hD0.self (sz := s.heap.size)
  generalize hAe : va_A (qcW cB cI cJ cZ h0 a0 h1 a1 M0 M1) s.heap.size = A at hD ⊢
  have hA : ∀ q : Nat, s.heap.size ≤ q → A q := fun q h => by rw [← hAe]; exact Or.inr h
  have hS : va_S A s.heap s.heap [] := va_S.rf
  have hinX6 : ∀ w ∈ wsX60, w ∈ wsX6_throwPenny := by decide +kernel
  have f1 := hts (.fieldLink RX6 18 "LastWords$Quarrel" "purse" "[I") (by decide +kernel)
  have f2 := hts (.fieldLink RX6 35 "LastWords$Quarrel" "turn" "I") (by decide +kernel)
  have f3 := hts (.fieldLink RX6 41 "LastWords$Quarrel" "hat" "I") (by decide +kernel)
  have f4 := hts (.fieldLink RX6 32 "LastWords$Quarrel" "left" "I") (by decide +kernel)
  have f5 := hts (.fieldLink RX6 9 "LastWords$Quarrel" "verse" "I") (by decide +kernel)
  have f6 := hts (.fieldLink RX6 38 "LastWords$Quarrel" "moves" "I") (by decide +kernel)
  have bE : ∀ (M0 : gS) (M1 : gS) (H : Heap) (locs : List Loc) (ls : Array Slot), va_P (dC, dI) vwCl (qcW cB cI cJ cZ h0 a0 h1 a1 M0 M1) H → va_D A (qcW cB cI cJ cZ h0 a0 h1 a1 M0 M1) → va_S A s.heap H locs → lv_has ls 2 [(0, .ref h0), (1, .ref h1)] → wX6_throwPenny  M0 M1 Q → W p l e (headSpec wsX6_throwPenny rmX6_throwPenny).room s m ([.ref h0, .ref h1] : List Value).toArray below meth c H locs 0 0 (MQ below (va_Qv (fun (u : gS × gS) => Q u.1 u.2) (qcB dC dI cB cI cJ cZ h0 a0 h1 a1 A) A) ([.ref h0, .ref h1] : List Value).toArray s 0 0 A) (F0 m 0 ls []) := by
    intro M0 M1 H locs ls hP hD hS hl h
    unfold wX6_throwPenny at h
    refine lv_aload_n hx hb dX6_throwPenny_0 rfl (lv_at hl 0 rfl) ?_
    refine va_get (D := (dC, dI)) (ci := 6) (v := .ref (a0 7)) (C := RX6) (T := TX6) (N := 10) hx hb hts hinX6 hown hK hP 0 rfl rfl 7 (by decide) f1 (fun _ h9 => h9) rfl dX6_throwPenny_1 ?_
    refine lv_aload_n hx hb dX6_throwPenny_4 rfl (lv_at hl 0 rfl) ?_
    refine va_get (D := (dC, dI)) (ci := 6) (v := .int (mg M0 3)) (C := RX6) (T := TX6) (N := 10) hx hb hts hinX6 hown hK hP 0 rfl rfl 3 (by decide) f2 (fun _ h9 => h9) rfl dX6_throwPenny_5 ?_
    refine lv_dup2_11 hx hb dX6_throwPenny_8 rfl rfl ?_
    refine va_iald hx hb hK hP 1 1 (f := ma M0 7) rfl rfl h.1 dX6_throwPenny_9 ?_
    have h := h.2
    refine lv_iconst (v := 1) hx hb dX6_throwPenny_10 (by decide) ?_
    refine lv_isub hx hb dX6_throwPenny_11 ?_
    refine lv_topi (fun x1 ex1 => ?_)
    have h := h x1 ex1
    refine va_iast hx hb hK hP hD hS 1 1 (f := ma M0 7) rfl rfl h.1 dX6_throwPenny_12 (fun H locs hP hD hS => ?_)
    have h := h.2
    have hP := qcP_0_a7 hP
    have hD := qcD_0_a7 hD
    have h := h _ rfl
    generalize sa M0 7 (Int32.toNatClampNeg (mg M0 3)) x1 = N2 at hP hD h
    refine lv_aload_n hx hb dX6_throwPenny_13 rfl (lv_at hl 0 rfl) ?_
    refine lv_dup hx hb dX6_throwPenny_14 rfl ?_
    refine va_get (D := (dC, dI)) (ci := 6) (v := .int (mg N2 5)) (C := RX6) (T := TX6) (N := 10) hx hb hts hinX6 hown hK hP 0 rfl rfl 5 (by decide) f3 (fun _ h9 => h9) rfl dX6_throwPenny_15 ?_
    refine lv_iconst (v := 1) hx hb dX6_throwPenny_18 (by decide) ?_
    refine lv_iadd hx hb dX6_throwPenny_19 ?_
    refine lv_topi (fun x3 ex3 => ?_)
    have h := h x3 ex3
    refine va_put (D := (dC, dI)) (ci := 6) (v := .int x3) (ty := .int) (C := RX6) (T := TX6) (N := 10) hx hb hts hinX6 tyX6 tyX6_ok nmX6 hown hK hP hD hS 0 rfl rfl 5 (by decide) f3 (fun _ h9 => h9) rfl (by decide +kernel) rfl rfl (Nat.le_of_ble_eq_true rfl) dX6_throwPenny_20 (fun H locs hP hD hS => ?_)
    have hP := qcP_0_f5 hP
    have hD := qcD_0_f5 hD
    have h := h _ rfl
    generalize sg N2 5 x3 = N4 at hP hD h
    refine lv_aload_n hx hb dX6_throwPenny_23 rfl (lv_at hl 0 rfl) ?_
    refine lv_dup hx hb dX6_throwPenny_24 rfl ?_
    refine va_get (D := (dC, dI)) (ci := 6) (v := .int (mg N4 2)) (C := RX6) (T := TX6) (N := 10) hx hb hts hinX6 hown hK hP 0 rfl rfl 2 (by decide) f4 (fun _ h9 => h9) rfl dX6_throwPenny_25 ?_
    refine lv_aload_n hx hb dX6_throwPenny_28 rfl (lv_at hl 0 rfl) ?_
    refine va_get (D := (dC, dI)) (ci := 6) (v := .int (mg N4 1)) (C := RX6) (T := TX6) (N := 10) hx hb hts hinX6 hown hK hP 0 rfl rfl 1 (by decide) f5 (fun _ h9 => h9) rfl dX6_throwPenny_29 ?_
    refine lv_iadd hx hb dX6_throwPenny_32 ?_
    refine lv_topi (fun x5 ex5 => ?_)
    have h := h x5 ex5
    refine va_put (D := (dC, dI)) (ci := 6) (v := .int x5) (ty := .int) (C := RX6) (T := TX6) (N := 10) hx hb hts hinX6 tyX6 tyX6_ok nmX6 hown hK hP hD hS 0 rfl rfl 2 (by decide) f4 (fun _ h9 => h9) rfl (by decide +kernel) rfl rfl (Nat.le_of_ble_eq_true rfl) dX6_throwPenny_33 (fun H locs hP hD hS => ?_)
    have hP := qcP_0_f2 hP
    have hD := qcD_0_f2 hD
    have h := h _ rfl
    generalize sg N4 2 x5 = N6 at hP hD h
    refine lv_aload_n hx hb dX6_throwPenny_36 rfl (lv_at hl 0 rfl) ?_
    refine lv_dup hx hb dX6_throwPenny_37 rfl ?_
    refine va_get (D := (dC, dI)) (ci := 6) (v := .int (mg N6 4)) (C := RX6) (T := TX6) (N := 10) hx hb hts hinX6 hown hK hP 0 rfl rfl 4 (by decide) f6 (fun _ h9 => h9) rfl dX6_throwPenny_38 ?_
    refine lv_iconst (v := 1) hx hb dX6_throwPenny_41 (by decide) ?_
    refine lv_iadd hx hb dX6_throwPenny_42 ?_
    refine lv_topi (fun x7 ex7 => ?_)
    have h := h x7 ex7
    refine va_put (D := (dC, dI)) (ci := 6) (v := .int x7) (ty := .int) (C := RX6) (T := TX6) (N := 10) hx hb hts hinX6 tyX6 tyX6_ok nmX6 hown hK hP hD hS 0 rfl rfl 4 (by decide) f6 (fun _ h9 => h9) rfl (by decide +kernel) rfl rfl (Nat.le_of_ble_eq_true rfl) dX6_throwPenny_43 (fun H locs hP hD hS => ?_)
    have hP := qcP_0_f4 hP
    have hD := qcD_0_f4 hD
    have h := h _ rfl
    generalize sg N6 4 x7 = N8 at hP hD h
    refine lv_aload_n hx hb dX6_throwPenny_46 rfl (lv_at hl 0 rfl) ?_
    refine lv_aload_n hx hb dX6_throwPenny_47 rfl (lv_at hl 1 rfl) ?_
    have hFc := gs_free hD hS hA
    refine va_callv (va_runV (As := [.ref h1]) (rest := []) ⟨hx, hb, hml, hown, hts⟩ (kX6_endIfStuck l dC dI cB cI cJ cZ h0 a0 h1 a1 H.size  N8 M1 _ h) (cwV 1 hts gX6_throwPenny_X6_endIfStuck rfl rfl rfl (by decide +kernel) ⟨Nat.le_of_ble_eq_true rfl, Nat.le_of_ble_eq_true rfl⟩) (qcpV hK hP hD) rfl rfl hl.1 rfl (lv_room (Nat.le_of_ble_eq_true rfl)) dX6_throwPenny_48 ⟨Nat.le_of_ble_eq_true rfl, Nat.le_of_ble_eq_true rfl⟩) hS (fun q _ z => hFc q z) hFc (fun u t H1 locs ht hvm hw hB hz1 hk1 hS => ?_)
    obtain ⟨N10, N11⟩ := u
    obtain ⟨hP, hD⟩ := gs_back ht hFc hB
    generalize H1 = H at hP hS ⊢
    have h := hw
    try dsimp only at h
    exact W.vret hx hb hr (fun t ht hW => ⟨⟨(N10, N11), rfl, h, by rw [ht]; exact hP, va_K.moved hW.alike hK, hD⟩, hS.F ht⟩) hS.2.2 dX6_throwPenny_51
  have hl := lv_entry ([.ref h0, .ref h1]) (n := 2) (Nat.le_of_ble_eq_true rfl)
  rw [lg_entry_eq]
  generalize (lg_sl ([.ref h0, .ref h1]) ++ List.replicate (2 - (lg_sl ([.ref h0, .ref h1])).length) Slot.unset).toArray = ls at hl ⊢
  have hl : lv_has ls 2 [(0, .ref h0), (1, .ref h1)] := hl
  exact bE M0 M1 s.heap [] ls hP hD hS hl h
def wX6_beStill  (M0 : gS) (Q : gS → Prop) : Prop :=
 (∀ x1 : Int32, x1 = ((mg M0 4) + (1 : Int32)) → (∀ N2 : gS, N2 = sg M0 4 x1 → (wX6_finish  N2 (fun (N4 : gS) => (Q N4)))))
def rmX6_beStill : Room := { frames := 1, cells := 0, slots := 0, locals := 20 }
set_option maxHeartbeats 4000000 in
set_option maxRecDepth 100000 in
theorem kX6_beStill (l : Launch) (dC : Nat → ClassId) (dI : Nat → Nat → Nat) (cB cI cJ cZ : ClassId) (h0 : Nat) (a0 : Nat → Nat) (sz : Nat)  (M0 : gS) (Q : gS → Prop) (h : wX6_beStill  M0 Q) : Met l yX6_beStill wsX6_beStill rmX6_beStill (va_Pc [.ref h0] (qrI dC dI cB cI cJ cZ h0 a0 M0 sz)) (va_Qv (fun (u : gS) => Q u) (qrB dC dI cB cI cJ cZ h0 a0 (va_A (qrW cB cI cJ cZ h0 a0 M0) sz)) (va_A (qrW cB cI cJ cZ h0 a0 M0) sz)) 0 0 (va_A (qrW cB cI cJ cZ h0 a0 M0) sz) := by
  refine Met.ofW (cc := cX6_beStill) (maxL := 1) (ret := none) (by decide) rfl ?_
  intro p e s m args below meth c s₁ B hml hv
  obtain ⟨rfl, hsz, hP, hK, hD0⟩ := hv
  have hx := B.exec
  have hb := B.bytes
  have hr := B.returns
  have hts := atoms_spec (ws := wsX6_beStill) B.pre
  have hown : s.vm.findClass RX6 = some m.cls := findClass_of_methodNamed B.named
  have hlocks := B.notSynchronized
  subst hsz
  have hD := hD0.self (sz := s.heap.size)
  generalize hAe : va_A (qrW cB cI cJ cZ h0 a0 M0) s.heap.size = A at hD ⊢
  have hA : ∀ q : Nat, s.heap.size ≤ q → A q := fun q h => by rw [← hAe]; exact Or.inr h
  have hS : va_S A s.heap s.heap [] := va_S.rf
  have hinX6 : ∀ w ∈ wsX60, w ∈ wsX6_beStill := by decide +kernel
  have f1 := hts (.fieldLink RX6 38 "LastWords$Quarrel" "moves" "I") (by decide +kernel)
  have bE : ∀ (M0 : gS) (H : Heap) (locs : List Loc) (ls : Array Slot), va_P (dC, dI) vwCl (qrW cB cI cJ cZ h0 a0 M0) H → va_D A (qrW cB cI cJ cZ h0 a0 M0) → va_S A s.heap H locs → lv_has ls 1 [(0, .ref h0)] → wX6_beStill  M0 Q → W p l e (headSpec wsX6_beStill rmX6_beStill).room s m ([.ref h0] : List Value).toArray below meth c H locs 0 0 (MQ below (va_Qv (fun (u : gS) => Q u) (qrB dC dI cB cI cJ cZ h0 a0 A) A) ([.ref h0] : List Value).toArray s 0 0 A) (F0 m 0 ls []) := by
    intro M0 H locs ls hP hD hS hl h
    unfold wX6_beStill at h
    refine lv_aload_n hx hb dX6_beStill_0 rfl (lv_at hl 0 rfl) ?_
    refine lv_dup hx hb dX6_beStill_1 rfl ?_
    refine va_get (D := (dC, dI)) (ci := 6) (v := .int (mg M0 4)) (C := RX6) (T := TX6) (N := 10) hx hb hts hinX6 hown hK hP 0 rfl rfl 4 (by decide) f1 (fun _ h9 => h9) rfl dX6_beStill_2 ?_
    refine lv_iconst (v := 1) hx hb dX6_beStill_5 (by decide) ?_
    refine lv_iadd hx hb dX6_beStill_6 ?_
    refine lv_topi (fun x1 ex1 => ?_)
    have h := h x1 ex1
    refine va_put (D := (dC, dI)) (ci := 6) (v := .int x1) (ty := .int) (C := RX6) (T := TX6) (N := 10) hx hb hts hinX6 tyX6 tyX6_ok nmX6 hown hK hP hD hS 0 rfl rfl 4 (by decide) f1 (fun _ h9 => h9) rfl (by decide +kernel) rfl rfl (Nat.le_of_ble_eq_true rfl) dX6_beStill_7 (fun H locs hP hD hS => ?_)
    have hP := qrP_0_f4 hP
    have hD := qrD_0_f4 hD
    have h := h _ rfl
    generalize sg M0 4 x1 = N2 at hP hD h
    refine lv_aload_n hx hb dX6_beStill_10 rfl (lv_at hl 0 rfl) ?_
    have hFc := gs_free hD hS hA
    refine va_callv (va_runV (As := []) (rest := []) ⟨hx, hb, hml, hown, hts⟩ (kX6_finish l dC dI cB cI cJ cZ h0 a0 H.size  N2 _ h) (cwV 0 hts gX6_beStill_X6_finish rfl rfl rfl (by decide +kernel) ⟨Nat.le_of_ble_eq_true rfl, Nat.le_of_ble_eq_true rfl⟩) (qrpV hK hP hD) rfl rfl hl.1 rfl (lv_room (Nat.le_of_ble_eq_true rfl)) dX6_beStill_11 ⟨Nat.le_of_ble_eq_true rfl, Nat.le_of_ble_eq_true rfl⟩) hS (fun q _ z => hFc q z) hFc (fun u t H1 locs ht hvm hw hB hz1 hk1 hS => ?_)
    obtain ⟨N4, rfl⟩ : ∃ z, z = u := ⟨_, rfl⟩
    obtain ⟨hP, hD⟩ := gs_back ht hFc hB
    generalize H1 = H at hP hS ⊢
    have h := hw
    try dsimp only at h
    exact W.vret hx hb hr (fun t ht hW => ⟨⟨(N4), rfl, h, by rw [ht]; exact hP, va_K.moved hW.alike hK, hD⟩, hS.F ht⟩) hS.2.2 dX6_beStill_14
  have hl := lv_entry ([.ref h0]) (n := 1) (Nat.le_of_ble_eq_true rfl)
  rw [lg_entry_eq]
  generalize (lg_sl ([.ref h0]) ++ List.replicate (1 - (lg_sl ([.ref h0])).length) Slot.unset).toArray = ls at hl ⊢
  have hl : lv_has ls 1 [(0, .ref h0)] := hl
  exact bE M0 s.heap [] ls hP hD hS hl h
def wX6_start_36  (Q : gS → gS → Prop) (z0 : Int32) (M0 : gS) (M1 : gS) : Prop :=
 (∀ N1 : gS, N1 = sg M0 3 z0 → (wX6_endIfStuck  N1 M1 (fun (N3 : gS) (N4 : gS) => (Q N3 N4))))
def wX6_start (p2 : Int32) (p3 : Int32) (M0 : gS) (M1 : gS) (Q : gS → gS → Prop) : Prop :=
 (wX6_forgetWords  M0 (fun (N2 : gS) => (∀ N3 : gS, N3 = sg N2 0 (1 : Int32) → (wX1_verseOf p2 M1 (fun (r4 : Int32) (N5 : gS) => (∀ N6 : gS, N6 = sg N3 1 r4 → (∀ x7 : Int32, x7 = (mg N6 1) → (∀ N8 : gS, N8 = sg N6 2 x7 → ((p3 = 0 → (wX6_start_36  Q (0 : Int32) N8 N5))
 ∧ (¬ p3 = 0 → (wX6_start_36  Q (1 : Int32) N8 N5)))))))))))
def rmX6_start : Room := { frames := 3, cells := 0, slots := 0, locals := 66 }
set_option maxHeartbeats 4000000 in
set_option maxRecDepth 100000 in
theorem kX6_start (l : Launch) (dC : Nat → ClassId) (dI : Nat → Nat → Nat) (cB cI cJ cZ : ClassId) (h0 : Nat) (a0 : Nat → Nat) (h1 : Nat) (a1 : Nat → Nat) (sz : Nat) (p2 : Int32) (p3 : Int32) (M0 : gS) (M1 : gS) (Q : gS → gS → Prop) (h : wX6_start p2 p3 M0 M1 Q) : Met l yX6_start wsX6_start rmX6_start (va_Pc [.ref h0, .ref h1, .int p2, .int p3] (qcI dC dI cB cI cJ cZ h0 a0 h1 a1 M0 M1 sz)) (va_Qv (fun (u : gS × gS) => Q u.1 u.2) (qcB dC dI cB cI cJ cZ h0 a0 h1 a1 (va_A (qcW cB cI cJ cZ h0 a0 h1 a1 M0 M1) sz)) (va_A (qcW cB cI cJ cZ h0 a0 h1 a1 M0 M1) sz)) 0 0 (va_A (qcW cB cI cJ cZ h0 a0 h1 a1 M0 M1) sz) := by
  refine Met.ofW (cc := cX6_start) (maxL := 4) (ret := none) (by decide) rfl ?_
  intro p e s m args below meth c s₁ B hml hv
  obtain ⟨rfl, hsz, hP, hK, hD0⟩ := hv
  have hx := B.exec
  have hb := B.bytes
  have hr := B.returns
  have hts := atoms_spec (ws := wsX6_start) B.pre
  have hown : s.vm.findClass RX6 = some m.cls := findClass_of_methodNamed B.named
  have hlocks := B.notSynchronized
  subst hsz
  have hD := hD0.self (sz := s.heap.size)
  generalize hAe : va_A (qcW cB cI cJ cZ h0 a0 h1 a1 M0 M1) s.heap.size = A at hD ⊢
  have hA : ∀ q : Nat, s.heap.size ≤ q → A q := fun q h => by rw [← hAe]; exact Or.inr h
  have hS : va_S A s.heap s.heap [] := va_S.rf
  have hinX6 : ∀ w ∈ wsX60, w ∈ wsX6_start := by decide +kernel
  have f1 := hts (.fieldLink RX6 35 "LastWords$Quarrel" "turn" "I") (by decide +kernel)
  have f2 := hts (.fieldLink RX6 28 "LastWords$Quarrel" "goesOn" "Z") (by decide +kernel)
  have f3 := hts (.fieldLink RX6 9 "LastWords$Quarrel" "verse" "I") (by decide +kernel)
  have f4 := hts (.fieldLink RX6 32 "LastWords$Quarrel" "left" "I") (by decide +kernel)
  have b36 : ∀ (z0 : Int32) (M0 : gS) (M1 : gS) (H : Heap) (locs : List Loc) (ls : Array Slot), va_P (dC, dI) vwCl (qcW cB cI cJ cZ h0 a0 h1 a1 M0 M1) H → va_D A (qcW cB cI cJ cZ h0 a0 h1 a1 M0 M1) → va_S A s.heap H locs → lv_has ls 4 [(0, .ref h0), (1, .ref h1)] → wX6_start_36  Q z0 M0 M1 → W p l e (headSpec wsX6_start rmX6_start).room s m ([.ref h0, .ref h1, .int p2, .int p3] : List Value).toArray below meth c H locs 0 0 (MQ below (va_Qv (fun (u : gS × gS) => Q u.1 u.2) (qcB dC dI cB cI cJ cZ h0 a0 h1 a1 A) A) ([.ref h0, .ref h1, .int p2, .int p3] : List Value).toArray s 0 0 A) (F0 m 36 ls [.int z0, .ref h0]) := by
    intro  z0 M0 M1 H locs ls hP hD hS hl h
    unfold wX6_start_36 at h
    refine va_put (D := (dC, dI)) (ci := 6) (v := .int z0) (ty := .int) (C := RX6) (T := TX6) (N := 10) hx hb hts hinX6 tyX6 tyX6_ok nmX6 hown hK hP hD hS 0 rfl rfl 3 (by decide) f1 (fun _ h9 => h9) rfl (by decide +kernel) rfl rfl (Nat.le_of_ble_eq_true rfl) dX6_start_36 (fun H locs hP hD hS => ?_)
    have hP := qcP_0_f3 hP
    have hD := qcD_0_f3 hD
    have h := h _ rfl
    generalize sg M0 3 z0 = N1 at hP hD h
    refine lv_aload_n hx hb dX6_start_39 rfl (lv_at hl 0 rfl) ?_
    refine lv_aload_n hx hb dX6_start_40 rfl (lv_at hl 1 rfl) ?_
    have hFc := gs_free hD hS hA
    refine va_callv (va_runV (As := [.ref h1]) (rest := []) ⟨hx, hb, hml, hown, hts⟩ (kX6_endIfStuck l dC dI cB cI cJ cZ h0 a0 h1 a1 H.size  N1 M1 _ h) (cwV 1 hts gX6_start_X6_endIfStuck rfl rfl rfl (by decide +kernel) ⟨Nat.le_of_ble_eq_true rfl, Nat.le_of_ble_eq_true rfl⟩) (qcpV hK hP hD) rfl rfl hl.1 rfl (lv_room (Nat.le_of_ble_eq_true rfl)) dX6_start_41 ⟨Nat.le_of_ble_eq_true rfl, Nat.le_of_ble_eq_true rfl⟩) hS (fun q _ z => hFc q z) hFc (fun u t H1 locs ht hvm hw hB hz1 hk1 hS => ?_)
    obtain ⟨N3, N4⟩ := u
    obtain ⟨hP, hD⟩ := gs_back ht hFc hB
    generalize H1 = H at hP hS ⊢
    have h := hw
    try dsimp only at h
    exact W.vret hx hb hr (fun t ht hW => ⟨⟨(N3, N4), rfl, h, by rw [ht]; exact hP, va_K.moved hW.alike hK, hD⟩, hS.F ht⟩) hS.2.2 dX6_start_44
  have bE : ∀ (M0 : gS) (M1 : gS) (H : Heap) (locs : List Loc) (ls : Array Slot), va_P (dC, dI) vwCl (qcW cB cI cJ cZ h0 a0 h1 a1 M0 M1) H → va_D A (qcW cB cI cJ cZ h0 a0 h1 a1 M0 M1) → va_S A s.heap H locs → lv_has ls 4 [(0, .ref h0), (1, .ref h1), (2, .int p2), (3, .int p3)] → wX6_start p2 p3 M0 M1 Q → W p l e (headSpec wsX6_start rmX6_start).room s m ([.ref h0, .ref h1, .int p2, .int p3] : List Value).toArray below meth c H locs 0 0 (MQ below (va_Qv (fun (u : gS × gS) => Q u.1 u.2) (qcB dC dI cB cI cJ cZ h0 a0 h1 a1 A) A) ([.ref h0, .ref h1, .int p2, .int p3] : List Value).toArray s 0 0 A) (F0 m 0 ls []) := by
    intro M0 M1 H locs ls hP hD hS hl h
    unfold wX6_start at h
    refine lv_aload_n hx hb dX6_start_0 rfl (lv_at hl 0 rfl) ?_
    have hPc := hP.sub (ws' := (qrW cB cI cJ cZ h0 a0 M0)) [0, 1, 2, 3] rfl
    have hDc := hD.sub (ws' := (qrW cB cI cJ cZ h0 a0 M0)) [0, 1, 2, 3] (by decide) rfl
    have hFc := va_free (wc := (qrW cB cI cJ cZ h0 a0 M0)) hD hS hA [0, 1, 2, 3] rfl
    refine va_callv (va_runV (As := []) (rest := []) ⟨hx, hb, hml, hown, hts⟩ (kX6_forgetWords l dC dI cB cI cJ cZ h0 a0 H.size  M0 _ h) (cwV 0 hts gX6_start_X6_forgetWords rfl rfl rfl (by decide +kernel) ⟨Nat.le_of_ble_eq_true rfl, Nat.le_of_ble_eq_true rfl⟩) (qrpV hK hPc hDc) rfl rfl hl.1 rfl (lv_room (Nat.le_of_ble_eq_true rfl)) dX6_start_1 ⟨Nat.le_of_ble_eq_true rfl, Nat.le_of_ble_eq_true rfl⟩) hS (fun q _ z => hFc q z) hFc (fun u t H1 locs ht hvm hw hB hz1 hk1 hS => ?_)
    obtain ⟨N2, rfl⟩ : ∃ z, z = u := ⟨_, rfl⟩
    obtain ⟨hP1, hK1, hD1⟩ := hB
    rw [ht] at hP1
    obtain ⟨hP, hD⟩ := va_join (wr := [(h1, .inr (1, [.int (mg M1 0), .ref (a1 1), .int (mg M1 2), .ref (a1 3), .int (mg M1 4), .ref (a1 5)])), (a1 1, .inl (cI, 4, .inl (ma M1 1))), (a1 3, .inl (cI, 4, .inl (ma M1 3))), (a1 5, .inl (cI, 2, .inl (ma M1 5)))]) (w1 := (qrW cB cI cJ cZ h0 a0 N2)) hP hD [0, 1, 2, 3] [4, 5, 6, 7] rfl rfl (by decide) (by decide) hk1 hFc hP1 hD1
    have hP := hP.sub (ws' := (qcW cB cI cJ cZ h0 a0 h1 a1 N2 M1)) [4, 5, 6, 7, 0, 1, 2, 3] rfl
    have hD := hD.sub (ws' := (qcW cB cI cJ cZ h0 a0 h1 a1 N2 M1)) [4, 5, 6, 7, 0, 1, 2, 3] (by decide) rfl
    generalize H1 = H at hP hS ⊢
    have h := hw
    try dsimp only at h
    refine lv_aload_n hx hb dX6_start_4 rfl (lv_at hl 0 rfl) ?_
    refine lv_iconst (v := 1) hx hb dX6_start_5 (by decide) ?_
    refine va_put (D := (dC, dI)) (ci := 6) (v := .int (1 : Int32)) (ty := .boolean) (C := RX6) (T := TX6) (N := 10) hx hb hts hinX6 tyX6 tyX6_ok nmX6 hown hK hP hD hS 0 rfl rfl 0 (by decide) f2 (fun _ h9 => h9) rfl (by decide +kernel) rfl rfl (Nat.le_of_ble_eq_true rfl) dX6_start_6 (fun H locs hP hD hS => ?_)
    have hP := qcP_0_f0 hP
    have hD := qcD_0_f0 hD
    have h := h _ rfl
    generalize sg N2 0 (1 : Int32) = N3 at hP hD h
    refine lv_aload_n hx hb dX6_start_9 rfl (lv_at hl 0 rfl) ?_
    refine lv_aload_n hx hb dX6_start_10 rfl (lv_at hl 1 rfl) ?_
    refine lv_iload_n hx hb dX6_start_11 rfl (lv_at hl 2 rfl) ?_
    have hPc := hP.sub (ws' := (cnW cB cI cJ cZ h1 a1 M1)) [4, 5, 6, 7] rfl
    have hDc := hD.sub (ws' := (cnW cB cI cJ cZ h1 a1 M1)) [4, 5, 6, 7] (by decide) rfl
    have hFc := va_free (wc := (cnW cB cI cJ cZ h1 a1 M1)) hD hS hA [4, 5, 6, 7] rfl
    refine va_calli (va_runV (As := [.int p2]) (rest := [.ref h0]) ⟨hx, hb, hml, hown, hts⟩ (kX1_verseOf l dC dI cB cI cJ cZ h1 a1 H.size p2 M1 _ h) (cwV 1 hts gX6_start_X1_verseOf rfl rfl rfl (by decide +kernel) ⟨Nat.le_of_ble_eq_true rfl, Nat.le_of_ble_eq_true rfl⟩) (cnpV hK hPc hDc) rfl rfl hl.1 rfl (lv_room (Nat.le_of_ble_eq_true rfl)) dX6_start_12 ⟨Nat.le_of_ble_eq_true rfl, Nat.le_of_ble_eq_true rfl⟩) hS (fun q _ z => hFc q z) hFc (fun r4 u t H1 locs ht hvm hw hB hz1 hk1 hS => ?_)
    obtain ⟨N5, rfl⟩ : ∃ z, z = u := ⟨_, rfl⟩
    obtain ⟨hP1, hK1, hD1⟩ := hB
    rw [ht] at hP1
    obtain ⟨hP, hD⟩ := va_join (wr := [(h0, .inr (6, [.int (mg N3 0), .int (mg N3 1), .int (mg N3 2), .int (mg N3 3), .int (mg N3 4), .int (mg N3 5), .int (mg N3 6), .ref (a0 7), .ref (a0 8), .ref (a0 9)])), (a0 7, .inl (cI, 2, .inl (ma N3 7))), (a0 8, .inl (cI, 2, .inl (ma N3 8))), (a0 9, .inl (cI, 2, .inl (ma N3 9)))]) (w1 := (cnW cB cI cJ cZ h1 a1 N5)) hP hD [4, 5, 6, 7] [0, 1, 2, 3] rfl rfl (by decide) (by decide) hk1 hFc hP1 hD1
    have hP := hP.sub (ws' := (qcW cB cI cJ cZ h0 a0 h1 a1 N3 N5)) [0, 1, 2, 3, 4, 5, 6, 7] rfl
    have hD := hD.sub (ws' := (qcW cB cI cJ cZ h0 a0 h1 a1 N3 N5)) [0, 1, 2, 3, 4, 5, 6, 7] (by decide) rfl
    generalize H1 = H at hP hS ⊢
    have h := hw
    try dsimp only at h
    refine va_put (D := (dC, dI)) (ci := 6) (v := .int r4) (ty := .int) (C := RX6) (T := TX6) (N := 10) hx hb hts hinX6 tyX6 tyX6_ok nmX6 hown hK hP hD hS 0 rfl rfl 1 (by decide) f3 (fun _ h9 => h9) rfl (by decide +kernel) rfl rfl (Nat.le_of_ble_eq_true rfl) dX6_start_15 (fun H locs hP hD hS => ?_)
    have hP := qcP_0_f1 hP
    have hD := qcD_0_f1 hD
    have h := h _ rfl
    generalize sg N3 1 r4 = N6 at hP hD h
    refine lv_aload_n hx hb dX6_start_18 rfl (lv_at hl 0 rfl) ?_
    refine lv_aload_n hx hb dX6_start_19 rfl (lv_at hl 0 rfl) ?_
    refine va_get (D := (dC, dI)) (ci := 6) (v := .int (mg N6 1)) (C := RX6) (T := TX6) (N := 10) hx hb hts hinX6 hown hK hP 0 rfl rfl 1 (by decide) f3 (fun _ h9 => h9) rfl dX6_start_20 ?_
    refine lv_topi (fun x7 ex7 => ?_)
    have h := h x7 ex7
    refine va_put (D := (dC, dI)) (ci := 6) (v := .int x7) (ty := .int) (C := RX6) (T := TX6) (N := 10) hx hb hts hinX6 tyX6 tyX6_ok nmX6 hown hK hP hD hS 0 rfl rfl 2 (by decide) f4 (fun _ h9 => h9) rfl (by decide +kernel) rfl rfl (Nat.le_of_ble_eq_true rfl) dX6_start_23 (fun H locs hP hD hS => ?_)
    have hP := qcP_0_f2 hP
    have hD := qcD_0_f2 hD
    have h := h _ rfl
    generalize sg N6 2 x7 = N8 at hP hD h
    refine lv_aload_n hx hb dX6_start_26 rfl (lv_at hl 0 rfl) ?_
    refine lv_iload_n hx hb dX6_start_27 rfl (lv_at hl 3 rfl) ?_
    refine lv_if_ne (tgt := 35) hx hb dX6_start_28 (by decide) (fun c9 => ?_) (fun c9 => ?_)
    · have h := h.2 c9
      refine lv_iconst (v := 1) hx hb dX6_start_35 (by decide) ?_
      exact b36  (1 : Int32) N8 N5 H locs ls hP hD hS (lv_sub hl [0, 1] rfl) h
    · have h := h.1 c9
      refine lv_iconst (v := 0) hx hb dX6_start_31 (by decide) ?_
      refine lv_goto (tgt := 36) hx hb dX6_start_32 (by decide) ?_
      exact b36  (0 : Int32) N8 N5 H locs ls hP hD hS (lv_sub hl [0, 1] rfl) h
  have hl := lv_entry ([.ref h0, .ref h1, .int p2, .int p3]) (n := 4) (Nat.le_of_ble_eq_true rfl)
  rw [lg_entry_eq]
  generalize (lg_sl ([.ref h0, .ref h1, .int p2, .int p3]) ++ List.replicate (4 - (lg_sl ([.ref h0, .ref h1, .int p2, .int p3])).length) Slot.unset).toArray = ls at hl ⊢
  have hl : lv_has ls 4 [(0, .ref h0), (1, .ref h1), (2, .int p2), (3, .int p3)] := hl
  exact bE M0 M1 s.heap [] ls hP hD hS hl h
def wX6_ownWord (p1 : Int32) (M0 : gS) (Q : Int64 → gS → Prop) : Prop :=
 ((p1 = (-8 : Int32) → (vp_in (mg M0 3) 2 ∧ (Q (Int32.toInt64 (ma M0 9 (Int32.toNatClampNeg (mg M0 3)))) M0)))
 ∧ (¬ p1 = (-8 : Int32) → ((p1 = (-7 : Int32) → (vp_in ((1 : Int32) - (mg M0 3)) 2 ∧ (((ma M0 8 (Int32.toNatClampNeg ((1 : Int32) - (mg M0 3)))) = (-1 : Int32) → (Q (9 : Int64) M0))
 ∧ (¬ (ma M0 8 (Int32.toNatClampNeg ((1 : Int32) - (mg M0 3)))) = (-1 : Int32) → (vp_in ((1 : Int32) - (mg M0 3)) 2 ∧ (Q (Int32.toInt64 (ma M0 8 (Int32.toNatClampNeg ((1 : Int32) - (mg M0 3))))) M0))))))
 ∧ (¬ p1 = (-7 : Int32) → ((p1 = (-6 : Int32) → (vp_in (mg M0 3) 2 ∧ (((ma M0 8 (Int32.toNatClampNeg (mg M0 3))) = (-1 : Int32) → (Q (9 : Int64) M0))
 ∧ (¬ (ma M0 8 (Int32.toNatClampNeg (mg M0 3))) = (-1 : Int32) → (vp_in (mg M0 3) 2 ∧ (Q (Int32.toInt64 (ma M0 8 (Int32.toNatClampNeg (mg M0 3)))) M0))))))
 ∧ (¬ p1 = (-6 : Int32) → ((p1 = (-5 : Int32) → (vp_in ((1 : Int32) - (mg M0 3)) 2 ∧ (Q (Int32.toInt64 (ma M0 7 (Int32.toNatClampNeg ((1 : Int32) - (mg M0 3))))) M0)))
 ∧ (¬ p1 = (-5 : Int32) → ((p1 = (-4 : Int32) → (vp_in (mg M0 3) 2 ∧ (Q (Int32.toInt64 (ma M0 7 (Int32.toNatClampNeg (mg M0 3)))) M0)))
 ∧ (¬ p1 = (-4 : Int32) → ((p1 = (-3 : Int32) → (Q (Int32.toInt64 (mg M0 1)) M0))
 ∧ (¬ p1 = (-3 : Int32) → ((p1 = (-2 : Int32) → (Q (Int32.toInt64 (mg M0 2)) M0))
 ∧ (¬ p1 = (-2 : Int32) → ((p1 = (-1 : Int32) → (Q (Int32.toInt64 (mg M0 3)) M0))
 ∧ (¬ p1 = (-1 : Int32) → (Q (Int32.toInt64 (mg M0 4)) M0)))))))))))))))))
def rmX6_ownWord : Room := { frames := 0, cells := 0, slots := 0, locals := 0 }
set_option maxHeartbeats 4000000 in
set_option maxRecDepth 100000 in
theorem kX6_ownWord (l : Launch) (dC : Nat → ClassId) (dI : Nat → Nat → Nat) (cB cI cJ cZ : ClassId) (h0 : Nat) (a0 : Nat → Nat) (sz : Nat) (p1 : Int32) (M0 : gS) (Q : Int64 → gS → Prop) (h : wX6_ownWord p1 M0 Q) : Met l yX6_ownWord wsX6_ownWord rmX6_ownWord (va_Pc [.ref h0, .int p1] (qrI dC dI cB cI cJ cZ h0 a0 M0 sz)) (va_Ql (fun (r : Int64) (u : gS) => Q r u) (qrB dC dI cB cI cJ cZ h0 a0 (va_A (qrW cB cI cJ cZ h0 a0 M0) sz)) (va_A (qrW cB cI cJ cZ h0 a0 M0) sz)) 0 0 (va_A (qrW cB cI cJ cZ h0 a0 M0) sz) := by
  refine Met.ofW (cc := cX6_ownWord) (maxL := 2) (ret := (some .long)) (by decide) rfl ?_
  intro p e s m args below meth c s₁ B hml hv
  obtain ⟨rfl, hsz, hP, hK, hD0⟩ := hv
  have hx := B.exec
  have hb := B.bytes
  have hr := B.returns
  have hts := atoms_spec (ws := wsX6_ownWord) B.pre
  have hown : s.vm.findClass RX6 = some m.cls := findClass_of_methodNamed B.named
  have hlocks := B.notSynchronized
  subst hsz
  have hD := hD0.self (sz := s.heap.size)
  generalize hAe : va_A (qrW cB cI cJ cZ h0 a0 M0) s.heap.size = A at hD ⊢
  have hA : ∀ q : Nat, s.heap.size ≤ q → A q := fun q h => by rw [← hAe]; exact Or.inr h
  have hS : va_S A s.heap s.heap [] := va_S.rf
  have hinX6 : ∀ w ∈ wsX60, w ∈ wsX6_ownWord := by decide +kernel
  have f1 := hts (.fieldLink RX6 25 "LastWords$Quarrel" "said" "[I") (by decide +kernel)
  have f2 := hts (.fieldLink RX6 35 "LastWords$Quarrel" "turn" "I") (by decide +kernel)
  have f3 := hts (.fieldLink RX6 22 "LastWords$Quarrel" "last" "[I") (by decide +kernel)
  have f4 := hts (.constantLong RX6 97 (9)) (by decide +kernel)
  have f5 := hts (.fieldLink RX6 18 "LastWords$Quarrel" "purse" "[I") (by decide +kernel)
  have f6 := hts (.fieldLink RX6 9 "LastWords$Quarrel" "verse" "I") (by decide +kernel)
  have f7 := hts (.fieldLink RX6 32 "LastWords$Quarrel" "left" "I") (by decide +kernel)
  have f8 := hts (.fieldLink RX6 38 "LastWords$Quarrel" "moves" "I") (by decide +kernel)
  have bE : ∀ (M0 : gS) (H : Heap) (locs : List Loc) (ls : Array Slot), va_P (dC, dI) vwCl (qrW cB cI cJ cZ h0 a0 M0) H → va_D A (qrW cB cI cJ cZ h0 a0 M0) → va_S A s.heap H locs → lv_has ls 2 [(0, .ref h0), (1, .int p1)] → wX6_ownWord p1 M0 Q → W p l e (headSpec wsX6_ownWord rmX6_ownWord).room s m ([.ref h0, .int p1] : List Value).toArray below meth c H locs 0 0 (MQ below (va_Ql (fun (r : Int64) (u : gS) => Q r u) (qrB dC dI cB cI cJ cZ h0 a0 A) A) ([.ref h0, .int p1] : List Value).toArray s 0 0 A) (F0 m 0 ls []) := by
    intro M0 H locs ls hP hD hS hl h
    unfold wX6_ownWord at h
    refine lv_iload_n hx hb dX6_ownWord_0 rfl (lv_at hl 1 rfl) ?_
    by_cases c1 : p1 = (-8 : Int32)
    · have h := h.1 c1
      refine lv_tableIn (tgt := 154) hx hb dX6_ownWord_1 (by rw [c1]; decide) (by rw [c1]; decide) (by rw [c1]; rfl) (by decide) ?_
      refine lv_aload_n hx hb dX6_ownWord_154 rfl (lv_at hl 0 rfl) ?_
      refine va_get (D := (dC, dI)) (ci := 6) (v := .ref (a0 9)) (C := RX6) (T := TX6) (N := 10) hx hb hts hinX6 hown hK hP 0 rfl rfl 9 (by decide) f1 (fun _ h9 => h9) rfl dX6_ownWord_155 ?_
      refine lv_aload_n hx hb dX6_ownWord_158 rfl (lv_at hl 0 rfl) ?_
      refine va_get (D := (dC, dI)) (ci := 6) (v := .int (mg M0 3)) (C := RX6) (T := TX6) (N := 10) hx hb hts hinX6 hown hK hP 0 rfl rfl 3 (by decide) f2 (fun _ h9 => h9) rfl dX6_ownWord_159 ?_
      refine va_iald hx hb hK hP 3 1 (f := ma M0 9) rfl rfl h.1 dX6_ownWord_162 ?_
      have h := h.2
      refine lv_i2l hx hb dX6_ownWord_163 rfl ?_
      exact W.lret (v := (Int32.toInt64 (ma M0 9 (Int32.toNatClampNeg (mg M0 3))))) hx hb hr (fun t ht hW => ⟨⟨_, (M0), rfl, h, by rw [ht]; exact hP, va_K.moved hW.alike hK, hD⟩, hS.F ht⟩) hS.2.2 dX6_ownWord_164
    have h := h.2 c1
    by_cases c2 : p1 = (-7 : Int32)
    · have h := h.1 c2
      refine lv_tableIn (tgt := 120) hx hb dX6_ownWord_1 (by rw [c2]; decide) (by rw [c2]; decide) (by rw [c2]; rfl) (by decide) ?_
      refine lv_aload_n hx hb dX6_ownWord_120 rfl (lv_at hl 0 rfl) ?_
      refine va_get (D := (dC, dI)) (ci := 6) (v := .ref (a0 8)) (C := RX6) (T := TX6) (N := 10) hx hb hts hinX6 hown hK hP 0 rfl rfl 8 (by decide) f3 (fun _ h9 => h9) rfl dX6_ownWord_121 ?_
      refine lv_iconst (v := 1) hx hb dX6_ownWord_124 (by decide) ?_
      refine lv_aload_n hx hb dX6_ownWord_125 rfl (lv_at hl 0 rfl) ?_
      refine va_get (D := (dC, dI)) (ci := 6) (v := .int (mg M0 3)) (C := RX6) (T := TX6) (N := 10) hx hb hts hinX6 hown hK hP 0 rfl rfl 3 (by decide) f2 (fun _ h9 => h9) rfl dX6_ownWord_126 ?_
      refine lv_isub hx hb dX6_ownWord_129 ?_
      refine va_iald hx hb hK hP 2 1 (f := ma M0 8) rfl rfl h.1 dX6_ownWord_130 ?_
      have h := h.2
      refine lv_iconst (v := (-1)) hx hb dX6_ownWord_131 (by decide) ?_
      refine lv_icmp_ne (tgt := 141) hx hb dX6_ownWord_132 (by decide) (fun c3 => ?_) (fun c3 => ?_)
      · have h := h.2 c3
        refine lv_aload_n hx hb dX6_ownWord_141 rfl (lv_at hl 0 rfl) ?_
        refine va_get (D := (dC, dI)) (ci := 6) (v := .ref (a0 8)) (C := RX6) (T := TX6) (N := 10) hx hb hts hinX6 hown hK hP 0 rfl rfl 8 (by decide) f3 (fun _ h9 => h9) rfl dX6_ownWord_142 ?_
        refine lv_iconst (v := 1) hx hb dX6_ownWord_145 (by decide) ?_
        refine lv_aload_n hx hb dX6_ownWord_146 rfl (lv_at hl 0 rfl) ?_
        refine va_get (D := (dC, dI)) (ci := 6) (v := .int (mg M0 3)) (C := RX6) (T := TX6) (N := 10) hx hb hts hinX6 hown hK hP 0 rfl rfl 3 (by decide) f2 (fun _ h9 => h9) rfl dX6_ownWord_147 ?_
        refine lv_isub hx hb dX6_ownWord_150 ?_
        refine va_iald hx hb hK hP 2 1 (f := ma M0 8) rfl rfl h.1 dX6_ownWord_151 ?_
        have h := h.2
        refine lv_i2l hx hb dX6_ownWord_152 rfl ?_
        exact W.lret (v := (Int32.toInt64 (ma M0 8 (Int32.toNatClampNeg ((1 : Int32) - (mg M0 3)))))) hx hb hr (fun t ht hW => ⟨⟨_, (M0), rfl, h, by rw [ht]; exact hP, va_K.moved hW.alike hK, hD⟩, hS.F ht⟩) hS.2.2 dX6_ownWord_153
      · have h := h.1 c3
        refine lv_ldc2 (v := (9)) hx hb hown f4 dX6_ownWord_135 ?_
        refine lv_goto (tgt := 153) hx hb dX6_ownWord_138 (by decide) ?_
        exact W.lret (v := (9 : Int64)) hx hb hr (fun t ht hW => ⟨⟨_, (M0), rfl, h, by rw [ht]; exact hP, va_K.moved hW.alike hK, hD⟩, hS.F ht⟩) hS.2.2 dX6_ownWord_153
    have h := h.2 c2
    by_cases c4 : p1 = (-6 : Int32)
    · have h := h.1 c4
      refine lv_tableIn (tgt := 90) hx hb dX6_ownWord_1 (by rw [c4]; decide) (by rw [c4]; decide) (by rw [c4]; rfl) (by decide) ?_
      refine lv_aload_n hx hb dX6_ownWord_90 rfl (lv_at hl 0 rfl) ?_
      refine va_get (D := (dC, dI)) (ci := 6) (v := .ref (a0 8)) (C := RX6) (T := TX6) (N := 10) hx hb hts hinX6 hown hK hP 0 rfl rfl 8 (by decide) f3 (fun _ h9 => h9) rfl dX6_ownWord_91 ?_
      refine lv_aload_n hx hb dX6_ownWord_94 rfl (lv_at hl 0 rfl) ?_
      refine va_get (D := (dC, dI)) (ci := 6) (v := .int (mg M0 3)) (C := RX6) (T := TX6) (N := 10) hx hb hts hinX6 hown hK hP 0 rfl rfl 3 (by decide) f2 (fun _ h9 => h9) rfl dX6_ownWord_95 ?_
      refine va_iald hx hb hK hP 2 1 (f := ma M0 8) rfl rfl h.1 dX6_ownWord_98 ?_
      have h := h.2
      refine lv_iconst (v := (-1)) hx hb dX6_ownWord_99 (by decide) ?_
      refine lv_icmp_ne (tgt := 109) hx hb dX6_ownWord_100 (by decide) (fun c5 => ?_) (fun c5 => ?_)
      · have h := h.2 c5
        refine lv_aload_n hx hb dX6_ownWord_109 rfl (lv_at hl 0 rfl) ?_
        refine va_get (D := (dC, dI)) (ci := 6) (v := .ref (a0 8)) (C := RX6) (T := TX6) (N := 10) hx hb hts hinX6 hown hK hP 0 rfl rfl 8 (by decide) f3 (fun _ h9 => h9) rfl dX6_ownWord_110 ?_
        refine lv_aload_n hx hb dX6_ownWord_113 rfl (lv_at hl 0 rfl) ?_
        refine va_get (D := (dC, dI)) (ci := 6) (v := .int (mg M0 3)) (C := RX6) (T := TX6) (N := 10) hx hb hts hinX6 hown hK hP 0 rfl rfl 3 (by decide) f2 (fun _ h9 => h9) rfl dX6_ownWord_114 ?_
        refine va_iald hx hb hK hP 2 1 (f := ma M0 8) rfl rfl h.1 dX6_ownWord_117 ?_
        have h := h.2
        refine lv_i2l hx hb dX6_ownWord_118 rfl ?_
        exact W.lret (v := (Int32.toInt64 (ma M0 8 (Int32.toNatClampNeg (mg M0 3))))) hx hb hr (fun t ht hW => ⟨⟨_, (M0), rfl, h, by rw [ht]; exact hP, va_K.moved hW.alike hK, hD⟩, hS.F ht⟩) hS.2.2 dX6_ownWord_119
      · have h := h.1 c5
        refine lv_ldc2 (v := (9)) hx hb hown f4 dX6_ownWord_103 ?_
        refine lv_goto (tgt := 119) hx hb dX6_ownWord_106 (by decide) ?_
        exact W.lret (v := (9 : Int64)) hx hb hr (fun t ht hW => ⟨⟨_, (M0), rfl, h, by rw [ht]; exact hP, va_K.moved hW.alike hK, hD⟩, hS.F ht⟩) hS.2.2 dX6_ownWord_119
    have h := h.2 c4
    by_cases c6 : p1 = (-5 : Int32)
    · have h := h.1 c6
      refine lv_tableIn (tgt := 77) hx hb dX6_ownWord_1 (by rw [c6]; decide) (by rw [c6]; decide) (by rw [c6]; rfl) (by decide) ?_
      refine lv_aload_n hx hb dX6_ownWord_77 rfl (lv_at hl 0 rfl) ?_
      refine va_get (D := (dC, dI)) (ci := 6) (v := .ref (a0 7)) (C := RX6) (T := TX6) (N := 10) hx hb hts hinX6 hown hK hP 0 rfl rfl 7 (by decide) f5 (fun _ h9 => h9) rfl dX6_ownWord_78 ?_
      refine lv_iconst (v := 1) hx hb dX6_ownWord_81 (by decide) ?_
      refine lv_aload_n hx hb dX6_ownWord_82 rfl (lv_at hl 0 rfl) ?_
      refine va_get (D := (dC, dI)) (ci := 6) (v := .int (mg M0 3)) (C := RX6) (T := TX6) (N := 10) hx hb hts hinX6 hown hK hP 0 rfl rfl 3 (by decide) f2 (fun _ h9 => h9) rfl dX6_ownWord_83 ?_
      refine lv_isub hx hb dX6_ownWord_86 ?_
      refine va_iald hx hb hK hP 1 1 (f := ma M0 7) rfl rfl h.1 dX6_ownWord_87 ?_
      have h := h.2
      refine lv_i2l hx hb dX6_ownWord_88 rfl ?_
      exact W.lret (v := (Int32.toInt64 (ma M0 7 (Int32.toNatClampNeg ((1 : Int32) - (mg M0 3)))))) hx hb hr (fun t ht hW => ⟨⟨_, (M0), rfl, h, by rw [ht]; exact hP, va_K.moved hW.alike hK, hD⟩, hS.F ht⟩) hS.2.2 dX6_ownWord_89
    have h := h.2 c6
    by_cases c7 : p1 = (-4 : Int32)
    · have h := h.1 c7
      refine lv_tableIn (tgt := 66) hx hb dX6_ownWord_1 (by rw [c7]; decide) (by rw [c7]; decide) (by rw [c7]; rfl) (by decide) ?_
      refine lv_aload_n hx hb dX6_ownWord_66 rfl (lv_at hl 0 rfl) ?_
      refine va_get (D := (dC, dI)) (ci := 6) (v := .ref (a0 7)) (C := RX6) (T := TX6) (N := 10) hx hb hts hinX6 hown hK hP 0 rfl rfl 7 (by decide) f5 (fun _ h9 => h9) rfl dX6_ownWord_67 ?_
      refine lv_aload_n hx hb dX6_ownWord_70 rfl (lv_at hl 0 rfl) ?_
      refine va_get (D := (dC, dI)) (ci := 6) (v := .int (mg M0 3)) (C := RX6) (T := TX6) (N := 10) hx hb hts hinX6 hown hK hP 0 rfl rfl 3 (by decide) f2 (fun _ h9 => h9) rfl dX6_ownWord_71 ?_
      refine va_iald hx hb hK hP 1 1 (f := ma M0 7) rfl rfl h.1 dX6_ownWord_74 ?_
      have h := h.2
      refine lv_i2l hx hb dX6_ownWord_75 rfl ?_
      exact W.lret (v := (Int32.toInt64 (ma M0 7 (Int32.toNatClampNeg (mg M0 3))))) hx hb hr (fun t ht hW => ⟨⟨_, (M0), rfl, h, by rw [ht]; exact hP, va_K.moved hW.alike hK, hD⟩, hS.F ht⟩) hS.2.2 dX6_ownWord_76
    have h := h.2 c7
    by_cases c8 : p1 = (-3 : Int32)
    · have h := h.1 c8
      refine lv_tableIn (tgt := 60) hx hb dX6_ownWord_1 (by rw [c8]; decide) (by rw [c8]; decide) (by rw [c8]; rfl) (by decide) ?_
      refine lv_aload_n hx hb dX6_ownWord_60 rfl (lv_at hl 0 rfl) ?_
      refine va_get (D := (dC, dI)) (ci := 6) (v := .int (mg M0 1)) (C := RX6) (T := TX6) (N := 10) hx hb hts hinX6 hown hK hP 0 rfl rfl 1 (by decide) f6 (fun _ h9 => h9) rfl dX6_ownWord_61 ?_
      refine lv_i2l hx hb dX6_ownWord_64 rfl ?_
      exact W.lret (v := (Int32.toInt64 (mg M0 1))) hx hb hr (fun t ht hW => ⟨⟨_, (M0), rfl, h, by rw [ht]; exact hP, va_K.moved hW.alike hK, hD⟩, hS.F ht⟩) hS.2.2 dX6_ownWord_65
    have h := h.2 c8
    by_cases c9 : p1 = (-2 : Int32)
    · have h := h.1 c9
      refine lv_tableIn (tgt := 54) hx hb dX6_ownWord_1 (by rw [c9]; decide) (by rw [c9]; decide) (by rw [c9]; rfl) (by decide) ?_
      refine lv_aload_n hx hb dX6_ownWord_54 rfl (lv_at hl 0 rfl) ?_
      refine va_get (D := (dC, dI)) (ci := 6) (v := .int (mg M0 2)) (C := RX6) (T := TX6) (N := 10) hx hb hts hinX6 hown hK hP 0 rfl rfl 2 (by decide) f7 (fun _ h9 => h9) rfl dX6_ownWord_55 ?_
      refine lv_i2l hx hb dX6_ownWord_58 rfl ?_
      exact W.lret (v := (Int32.toInt64 (mg M0 2))) hx hb hr (fun t ht hW => ⟨⟨_, (M0), rfl, h, by rw [ht]; exact hP, va_K.moved hW.alike hK, hD⟩, hS.F ht⟩) hS.2.2 dX6_ownWord_59
    have h := h.2 c9
    by_cases c10 : p1 = (-1 : Int32)
    · have h := h.1 c10
      refine lv_tableIn (tgt := 48) hx hb dX6_ownWord_1 (by rw [c10]; decide) (by rw [c10]; decide) (by rw [c10]; rfl) (by decide) ?_
      refine lv_aload_n hx hb dX6_ownWord_48 rfl (lv_at hl 0 rfl) ?_
      refine va_get (D := (dC, dI)) (ci := 6) (v := .int (mg M0 3)) (C := RX6) (T := TX6) (N := 10) hx hb hts hinX6 hown hK hP 0 rfl rfl 3 (by decide) f2 (fun _ h9 => h9) rfl dX6_ownWord_49 ?_
      refine lv_i2l hx hb dX6_ownWord_52 rfl ?_
      exact W.lret (v := (Int32.toInt64 (mg M0 3))) hx hb hr (fun t ht hW => ⟨⟨_, (M0), rfl, h, by rw [ht]; exact hP, va_K.moved hW.alike hK, hD⟩, hS.F ht⟩) hS.2.2 dX6_ownWord_53
    have h := h.2 c10
    refine lv_tableOut (tgt := 165) hx hb dX6_ownWord_1 (by have qc1 : p1.toInt ≠ -8 := fun q => c1 (Int32.toInt_inj.mp (q.trans (by decide))); have qc2 : p1.toInt ≠ -7 := fun q => c2 (Int32.toInt_inj.mp (q.trans (by decide))); have qc4 : p1.toInt ≠ -6 := fun q => c4 (Int32.toInt_inj.mp (q.trans (by decide))); have qc6 : p1.toInt ≠ -5 := fun q => c6 (Int32.toInt_inj.mp (q.trans (by decide))); have qc7 : p1.toInt ≠ -4 := fun q => c7 (Int32.toInt_inj.mp (q.trans (by decide))); have qc8 : p1.toInt ≠ -3 := fun q => c8 (Int32.toInt_inj.mp (q.trans (by decide))); have qc9 : p1.toInt ≠ -2 := fun q => c9 (Int32.toInt_inj.mp (q.trans (by decide))); have qc10 : p1.toInt ≠ -1 := fun q => c10 (Int32.toInt_inj.mp (q.trans (by decide))); omega) (by decide) ?_
    refine lv_aload_n hx hb dX6_ownWord_165 rfl (lv_at hl 0 rfl) ?_
    refine va_get (D := (dC, dI)) (ci := 6) (v := .int (mg M0 4)) (C := RX6) (T := TX6) (N := 10) hx hb hts hinX6 hown hK hP 0 rfl rfl 4 (by decide) f8 (fun _ h9 => h9) rfl dX6_ownWord_166 ?_
    refine lv_i2l hx hb dX6_ownWord_169 rfl ?_
    exact W.lret (v := (Int32.toInt64 (mg M0 4))) hx hb hr (fun t ht hW => ⟨⟨_, (M0), rfl, h, by rw [ht]; exact hP, va_K.moved hW.alike hK, hD⟩, hS.F ht⟩) hS.2.2 dX6_ownWord_170
  have hl := lv_entry ([.ref h0, .int p1]) (n := 2) (Nat.le_of_ble_eq_true rfl)
  rw [lg_entry_eq]
  generalize (lg_sl ([.ref h0, .int p1]) ++ List.replicate (2 - (lg_sl ([.ref h0, .int p1])).length) Slot.unset).toArray = ls at hl ⊢
  have hl : lv_has ls 2 [(0, .ref h0), (1, .int p1)] := hl
  exact bE M0 s.heap [] ls hP hD hS hl h
