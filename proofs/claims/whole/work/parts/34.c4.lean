abbrev baW (cB cI cJ cZ : ClassId) (h0 : Nat) (a0 : Nat → Nat) (M0 : gS) : va_W := [(h0, .inr (0, [.ref (a0 0), .ref (a0 1), .ref (a0 2), .ref (a0 3), .int (mg M0 4), .ref (a0 5), .int (mg M0 6), .int (mg M0 7), .int (mg M0 8), .int (mg M0 9), .int (mg M0 10)])), (a0 0, .inl (cJ, 15, .inr (.inl (ml M0 0)))), (a0 1, .inl (cJ, 800, .inr (.inl (ml M0 1)))), (a0 2, .inl (cI, 4, .inl (ma M0 2))), (a0 3, .inl (cJ, 4, .inr (.inl (ml M0 3))))]
abbrev baI (dC : Nat → ClassId) (dI : Nat → Nat → Nat) (cB cI cJ cZ : ClassId) (h0 : Nat) (a0 : Nat → Nat) (M0 : gS) (sz : Nat) : State → Prop := fun U => U.heap.size = sz ∧ va_P (dC, dI) vwCl (baW cB cI cJ cZ h0 a0 M0) U.heap ∧ va_K (dC, dI) vwCl (gT cB cI cJ cZ) U ∧ va_D (fun _ => True) (baW cB cI cJ cZ h0 a0 M0)
abbrev baB (dC : Nat → ClassId) (dI : Nat → Nat → Nat) (cB cI cJ cZ : ClassId) (h0 : Nat) (a0 : Nat → Nat) (A : Nat → Prop) (u : gS) (t : State) : Prop := match u with
  | (M0) => va_P (dC, dI) vwCl (baW cB cI cJ cZ h0 a0 M0) t.heap ∧ va_K (dC, dI) vwCl (gT cB cI cJ cZ) t ∧ va_D A (baW cB cI cJ cZ h0 a0 M0)
theorem baP_0_f4 {D : va_G} {H : Heap} {cB cI cJ cZ : ClassId} {h0 : Nat} {a0 : Nat → Nat} {M0 : gS} {v : Int32} (h : va_P D vwCl ((baW cB cI cJ cZ h0 a0 M0).set 0 (h0, .inr (0, ([.ref (a0 0), .ref (a0 1), .ref (a0 2), .ref (a0 3), .int (mg M0 4), .ref (a0 5), .int (mg M0 6), .int (mg M0 7), .int (mg M0 8), .int (mg M0 9), .int (mg M0 10)]).set 4 (.int v)))) H) : va_P D vwCl (baW cB cI cJ cZ h0 a0 (sg M0 4 v)) H := h
theorem baD_0_f4 {A : Nat → Prop} {cB cI cJ cZ : ClassId} {h0 : Nat} {a0 : Nat → Nat} {M0 : gS} {v : Int32} (h : va_D A ((baW cB cI cJ cZ h0 a0 M0).set 0 (h0, .inr (0, ([.ref (a0 0), .ref (a0 1), .ref (a0 2), .ref (a0 3), .int (mg M0 4), .ref (a0 5), .int (mg M0 6), .int (mg M0 7), .int (mg M0 8), .int (mg M0 9), .int (mg M0 10)]).set 4 (.int v))))) : va_D A (baW cB cI cJ cZ h0 a0 (sg M0 4 v)) := h
theorem baP_0_f6 {D : va_G} {H : Heap} {cB cI cJ cZ : ClassId} {h0 : Nat} {a0 : Nat → Nat} {M0 : gS} {v : Int32} (h : va_P D vwCl ((baW cB cI cJ cZ h0 a0 M0).set 0 (h0, .inr (0, ([.ref (a0 0), .ref (a0 1), .ref (a0 2), .ref (a0 3), .int (mg M0 4), .ref (a0 5), .int (mg M0 6), .int (mg M0 7), .int (mg M0 8), .int (mg M0 9), .int (mg M0 10)]).set 6 (.int v)))) H) : va_P D vwCl (baW cB cI cJ cZ h0 a0 (sg M0 6 v)) H := h
theorem baD_0_f6 {A : Nat → Prop} {cB cI cJ cZ : ClassId} {h0 : Nat} {a0 : Nat → Nat} {M0 : gS} {v : Int32} (h : va_D A ((baW cB cI cJ cZ h0 a0 M0).set 0 (h0, .inr (0, ([.ref (a0 0), .ref (a0 1), .ref (a0 2), .ref (a0 3), .int (mg M0 4), .ref (a0 5), .int (mg M0 6), .int (mg M0 7), .int (mg M0 8), .int (mg M0 9), .int (mg M0 10)]).set 6 (.int v))))) : va_D A (baW cB cI cJ cZ h0 a0 (sg M0 6 v)) := h
theorem baP_0_f7 {D : va_G} {H : Heap} {cB cI cJ cZ : ClassId} {h0 : Nat} {a0 : Nat → Nat} {M0 : gS} {v : Int32} (h : va_P D vwCl ((baW cB cI cJ cZ h0 a0 M0).set 0 (h0, .inr (0, ([.ref (a0 0), .ref (a0 1), .ref (a0 2), .ref (a0 3), .int (mg M0 4), .ref (a0 5), .int (mg M0 6), .int (mg M0 7), .int (mg M0 8), .int (mg M0 9), .int (mg M0 10)]).set 7 (.int v)))) H) : va_P D vwCl (baW cB cI cJ cZ h0 a0 (sg M0 7 v)) H := h
theorem baD_0_f7 {A : Nat → Prop} {cB cI cJ cZ : ClassId} {h0 : Nat} {a0 : Nat → Nat} {M0 : gS} {v : Int32} (h : va_D A ((baW cB cI cJ cZ h0 a0 M0).set 0 (h0, .inr (0, ([.ref (a0 0), .ref (a0 1), .ref (a0 2), .ref (a0 3), .int (mg M0 4), .ref (a0 5), .int (mg M0 6), .int (mg M0 7), .int (mg M0 8), .int (mg M0 9), .int (mg M0 10)]).set 7 (.int v))))) : va_D A (baW cB cI cJ cZ h0 a0 (sg M0 7 v)) := h
theorem baP_0_f8 {D : va_G} {H : Heap} {cB cI cJ cZ : ClassId} {h0 : Nat} {a0 : Nat → Nat} {M0 : gS} {v : Int32} (h : va_P D vwCl ((baW cB cI cJ cZ h0 a0 M0).set 0 (h0, .inr (0, ([.ref (a0 0), .ref (a0 1), .ref (a0 2), .ref (a0 3), .int (mg M0 4), .ref (a0 5), .int (mg M0 6), .int (mg M0 7), .int (mg M0 8), .int (mg M0 9), .int (mg M0 10)]).set 8 (.int v)))) H) : va_P D vwCl (baW cB cI cJ cZ h0 a0 (sg M0 8 v)) H := h
theorem baD_0_f8 {A : Nat → Prop} {cB cI cJ cZ : ClassId} {h0 : Nat} {a0 : Nat → Nat} {M0 : gS} {v : Int32} (h : va_D A ((baW cB cI cJ cZ h0 a0 M0).set 0 (h0, .inr (0, ([.ref (a0 0), .ref (a0 1), .ref (a0 2), .ref (a0 3), .int (mg M0 4), .ref (a0 5), .int (mg M0 6), .int (mg M0 7), .int (mg M0 8), .int (mg M0 9), .int (mg M0 10)]).set 8 (.int v))))) : va_D A (baW cB cI cJ cZ h0 a0 (sg M0 8 v)) := h
theorem baP_0_f9 {D : va_G} {H : Heap} {cB cI cJ cZ : ClassId} {h0 : Nat} {a0 : Nat → Nat} {M0 : gS} {v : Int32} (h : va_P D vwCl ((baW cB cI cJ cZ h0 a0 M0).set 0 (h0, .inr (0, ([.ref (a0 0), .ref (a0 1), .ref (a0 2), .ref (a0 3), .int (mg M0 4), .ref (a0 5), .int (mg M0 6), .int (mg M0 7), .int (mg M0 8), .int (mg M0 9), .int (mg M0 10)]).set 9 (.int v)))) H) : va_P D vwCl (baW cB cI cJ cZ h0 a0 (sg M0 9 v)) H := h
theorem baD_0_f9 {A : Nat → Prop} {cB cI cJ cZ : ClassId} {h0 : Nat} {a0 : Nat → Nat} {M0 : gS} {v : Int32} (h : va_D A ((baW cB cI cJ cZ h0 a0 M0).set 0 (h0, .inr (0, ([.ref (a0 0), .ref (a0 1), .ref (a0 2), .ref (a0 3), .int (mg M0 4), .ref (a0 5), .int (mg M0 6), .int (mg M0 7), .int (mg M0 8), .int (mg M0 9), .int (mg M0 10)]).set 9 (.int v))))) : va_D A (baW cB cI cJ cZ h0 a0 (sg M0 9 v)) := h
theorem baP_0_f10 {D : va_G} {H : Heap} {cB cI cJ cZ : ClassId} {h0 : Nat} {a0 : Nat → Nat} {M0 : gS} {v : Int32} (h : va_P D vwCl ((baW cB cI cJ cZ h0 a0 M0).set 0 (h0, .inr (0, ([.ref (a0 0), .ref (a0 1), .ref (a0 2), .ref (a0 3), .int (mg M0 4), .ref (a0 5), .int (mg M0 6), .int (mg M0 7), .int (mg M0 8), .int (mg M0 9), .int (mg M0 10)]).set 10 (.int v)))) H) : va_P D vwCl (baW cB cI cJ cZ h0 a0 (sg M0 10 v)) H := h
theorem baD_0_f10 {A : Nat → Prop} {cB cI cJ cZ : ClassId} {h0 : Nat} {a0 : Nat → Nat} {M0 : gS} {v : Int32} (h : va_D A ((baW cB cI cJ cZ h0 a0 M0).set 0 (h0, .inr (0, ([.ref (a0 0), .ref (a0 1), .ref (a0 2), .ref (a0 3), .int (mg M0 4), .ref (a0 5), .int (mg M0 6), .int (mg M0 7), .int (mg M0 8), .int (mg M0 9), .int (mg M0 10)]).set 10 (.int v))))) : va_D A (baW cB cI cJ cZ h0 a0 (sg M0 10 v)) := h
theorem baP_0_a0 {D : va_G} {H : Heap} {cB cI cJ cZ : ClassId} {h0 : Nat} {a0 : Nat → Nat} {M0 : gS} {j : Nat} {v : Int64} (h : va_P D vwCl ((baW cB cI cJ cZ h0 a0 M0).set 1 (a0 0, .inl (cJ, 15, .inr (.inl (vp_updL (ml M0 0) j v))))) H) : va_P D vwCl (baW cB cI cJ cZ h0 a0 (sl M0 0 j v)) H := h
theorem baD_0_a0 {A : Nat → Prop} {cB cI cJ cZ : ClassId} {h0 : Nat} {a0 : Nat → Nat} {M0 : gS} {j : Nat} {v : Int64} (h : va_D A ((baW cB cI cJ cZ h0 a0 M0).set 1 (a0 0, .inl (cJ, 15, .inr (.inl (vp_updL (ml M0 0) j v)))))) : va_D A (baW cB cI cJ cZ h0 a0 (sl M0 0 j v)) := h
theorem baP_0_a1 {D : va_G} {H : Heap} {cB cI cJ cZ : ClassId} {h0 : Nat} {a0 : Nat → Nat} {M0 : gS} {j : Nat} {v : Int64} (h : va_P D vwCl ((baW cB cI cJ cZ h0 a0 M0).set 2 (a0 1, .inl (cJ, 800, .inr (.inl (vp_updL (ml M0 1) j v))))) H) : va_P D vwCl (baW cB cI cJ cZ h0 a0 (sl M0 1 j v)) H := h
theorem baD_0_a1 {A : Nat → Prop} {cB cI cJ cZ : ClassId} {h0 : Nat} {a0 : Nat → Nat} {M0 : gS} {j : Nat} {v : Int64} (h : va_D A ((baW cB cI cJ cZ h0 a0 M0).set 2 (a0 1, .inl (cJ, 800, .inr (.inl (vp_updL (ml M0 1) j v)))))) : va_D A (baW cB cI cJ cZ h0 a0 (sl M0 1 j v)) := h
theorem baP_0_a2 {D : va_G} {H : Heap} {cB cI cJ cZ : ClassId} {h0 : Nat} {a0 : Nat → Nat} {M0 : gS} {j : Nat} {v : Int32} (h : va_P D vwCl ((baW cB cI cJ cZ h0 a0 M0).set 3 (a0 2, .inl (cI, 4, .inl (upd (ma M0 2) j v)))) H) : va_P D vwCl (baW cB cI cJ cZ h0 a0 (sa M0 2 j v)) H := h
theorem baD_0_a2 {A : Nat → Prop} {cB cI cJ cZ : ClassId} {h0 : Nat} {a0 : Nat → Nat} {M0 : gS} {j : Nat} {v : Int32} (h : va_D A ((baW cB cI cJ cZ h0 a0 M0).set 3 (a0 2, .inl (cI, 4, .inl (upd (ma M0 2) j v))))) : va_D A (baW cB cI cJ cZ h0 a0 (sa M0 2 j v)) := h
theorem baP_0_c2 {D : va_G} {H : Heap} {cB cI cJ cZ : ClassId} {h0 : Nat} {a0 : Nat → Nat} {M0 : gS} {f : Nat → Int32} (h : va_P D vwCl ((baW cB cI cJ cZ h0 a0 M0).set 3 (a0 2, .inl (cI, 4, .inl f))) H) : va_P D vwCl (baW cB cI cJ cZ h0 a0 (sF M0 2 f)) H := h
theorem baD_0_c2 {A : Nat → Prop} {cB cI cJ cZ : ClassId} {h0 : Nat} {a0 : Nat → Nat} {M0 : gS} {f : Nat → Int32} (h : va_D A ((baW cB cI cJ cZ h0 a0 M0).set 3 (a0 2, .inl (cI, 4, .inl f)))) : va_D A (baW cB cI cJ cZ h0 a0 (sF M0 2 f)) := h
theorem baP_0_a3 {D : va_G} {H : Heap} {cB cI cJ cZ : ClassId} {h0 : Nat} {a0 : Nat → Nat} {M0 : gS} {j : Nat} {v : Int64} (h : va_P D vwCl ((baW cB cI cJ cZ h0 a0 M0).set 4 (a0 3, .inl (cJ, 4, .inr (.inl (vp_updL (ml M0 3) j v))))) H) : va_P D vwCl (baW cB cI cJ cZ h0 a0 (sl M0 3 j v)) H := h
theorem baD_0_a3 {A : Nat → Prop} {cB cI cJ cZ : ClassId} {h0 : Nat} {a0 : Nat → Nat} {M0 : gS} {j : Nat} {v : Int64} (h : va_D A ((baW cB cI cJ cZ h0 a0 M0).set 4 (a0 3, .inl (cJ, 4, .inr (.inl (vp_updL (ml M0 3) j v)))))) : va_D A (baW cB cI cJ cZ h0 a0 (sl M0 3 j v)) := h
theorem bapV {s : State} {dC : Nat → ClassId} {dI : Nat → Nat → Nat} {A : Nat → Prop} {cB cI cJ cZ : ClassId} {h0 : Nat} {a0 : Nat → Nat} {M0 : gS} {H : Heap} {As : List Value} (hK : va_K (dC, dI) vwCl (gT cB cI cJ cZ) s) (hP : va_P (dC, dI) vwCl (baW cB cI cJ cZ h0 a0 M0) H) (hD : va_D A (baW cB cI cJ cZ h0 a0 M0)) : PreV s H RX0 h0 (va_Pc (.ref h0 :: As) (baI dC dI cB cI cJ cZ h0 a0 M0 H.size)) As := ⟨fun a U g mk q => by obtain ⟨q0, q1, qP, qK, qD⟩ := q; exact ⟨q0, q1, qP, va_K.moved (u := U) (U := U.calling g mk a) (Vm.Alike.refl U.vm) qK, qD⟩, va_recv hK hP (ci := 0) (q0 := 0) rfl rfl, fun U hU hW => ⟨rfl, by rw [hU], by rw [hU]; exact hP, va_K.moved hW.alike hK, hD.weaken (fun _ _ _ _ => trivial)⟩⟩
theorem bapS {s : State} {dC : Nat → ClassId} {dI : Nat → Nat → Nat} {A : Nat → Prop} {cB cI cJ cZ : ClassId} {h0 : Nat} {a0 : Nat → Nat} {M0 : gS} {H : Heap} {As : List Value} (hK : va_K (dC, dI) vwCl (gT cB cI cJ cZ) s) (hP : va_P (dC, dI) vwCl (baW cB cI cJ cZ h0 a0 M0) H) (hD : va_D A (baW cB cI cJ cZ h0 a0 M0)) : PreS s H (va_Pc As (baI dC dI cB cI cJ cZ h0 a0 M0 H.size)) As := ⟨fun a U g mk q => by obtain ⟨q0, q1, qP, qK, qD⟩ := q; exact ⟨q0, q1, qP, va_K.moved (u := U) (U := U.calling g mk a) (Vm.Alike.refl U.vm) qK, qD⟩, fun U hU hW => ⟨rfl, by rw [hU], by rw [hU]; exact hP, va_K.moved hW.alike hK, hD.weaken (fun _ _ _ _ => trivial)⟩⟩

abbrev bcW (cB cI cJ cZ : ClassId) (h0 : Nat) (a0 : Nat → Nat) (a1 : Nat → Nat) (M0 : gS) (M1 : gS) : va_W := [(h0, .inr (0, [.ref (a0 0), .ref (a0 1), .ref (a0 2), .ref (a0 3), .int (mg M0 4), .ref (a0 5), .int (mg M0 6), .int (mg M0 7), .int (mg M0 8), .int (mg M0 9), .int (mg M0 10)])), (a0 0, .inl (cJ, 15, .inr (.inl (ml M0 0)))), (a0 1, .inl (cJ, 800, .inr (.inl (ml M0 1)))), (a0 2, .inl (cI, 4, .inl (ma M0 2))), (a0 3, .inl (cJ, 4, .inr (.inl (ml M0 3)))), (a0 5, .inr (1, [.int (mg M1 0), .ref (a1 1), .int (mg M1 2), .ref (a1 3), .int (mg M1 4), .ref (a1 5)])), (a1 1, .inl (cI, 4, .inl (ma M1 1))), (a1 3, .inl (cI, 4, .inl (ma M1 3))), (a1 5, .inl (cI, 2, .inl (ma M1 5)))]
abbrev bcI (dC : Nat → ClassId) (dI : Nat → Nat → Nat) (cB cI cJ cZ : ClassId) (h0 : Nat) (a0 : Nat → Nat) (a1 : Nat → Nat) (M0 : gS) (M1 : gS) (sz : Nat) : State → Prop := fun U => U.heap.size = sz ∧ va_P (dC, dI) vwCl (bcW cB cI cJ cZ h0 a0 a1 M0 M1) U.heap ∧ va_K (dC, dI) vwCl (gT cB cI cJ cZ) U ∧ va_D (fun _ => True) (bcW cB cI cJ cZ h0 a0 a1 M0 M1)
abbrev bcB (dC : Nat → ClassId) (dI : Nat → Nat → Nat) (cB cI cJ cZ : ClassId) (h0 : Nat) (a0 : Nat → Nat) (a1 : Nat → Nat) (A : Nat → Prop) (u : gS × gS) (t : State) : Prop := match u with
  | (M0, M1) => va_P (dC, dI) vwCl (bcW cB cI cJ cZ h0 a0 a1 M0 M1) t.heap ∧ va_K (dC, dI) vwCl (gT cB cI cJ cZ) t ∧ va_D A (bcW cB cI cJ cZ h0 a0 a1 M0 M1)
theorem bcP_0_f4 {D : va_G} {H : Heap} {cB cI cJ cZ : ClassId} {h0 : Nat} {a0 : Nat → Nat} {a1 : Nat → Nat} {M0 : gS} {M1 : gS} {v : Int32} (h : va_P D vwCl ((bcW cB cI cJ cZ h0 a0 a1 M0 M1).set 0 (h0, .inr (0, ([.ref (a0 0), .ref (a0 1), .ref (a0 2), .ref (a0 3), .int (mg M0 4), .ref (a0 5), .int (mg M0 6), .int (mg M0 7), .int (mg M0 8), .int (mg M0 9), .int (mg M0 10)]).set 4 (.int v)))) H) : va_P D vwCl (bcW cB cI cJ cZ h0 a0 a1 (sg M0 4 v) M1) H := h
theorem bcD_0_f4 {A : Nat → Prop} {cB cI cJ cZ : ClassId} {h0 : Nat} {a0 : Nat → Nat} {a1 : Nat → Nat} {M0 : gS} {M1 : gS} {v : Int32} (h : va_D A ((bcW cB cI cJ cZ h0 a0 a1 M0 M1).set 0 (h0, .inr (0, ([.ref (a0 0), .ref (a0 1), .ref (a0 2), .ref (a0 3), .int (mg M0 4), .ref (a0 5), .int (mg M0 6), .int (mg M0 7), .int (mg M0 8), .int (mg M0 9), .int (mg M0 10)]).set 4 (.int v))))) : va_D A (bcW cB cI cJ cZ h0 a0 a1 (sg M0 4 v) M1) := h
theorem bcP_0_f6 {D : va_G} {H : Heap} {cB cI cJ cZ : ClassId} {h0 : Nat} {a0 : Nat → Nat} {a1 : Nat → Nat} {M0 : gS} {M1 : gS} {v : Int32} (h : va_P D vwCl ((bcW cB cI cJ cZ h0 a0 a1 M0 M1).set 0 (h0, .inr (0, ([.ref (a0 0), .ref (a0 1), .ref (a0 2), .ref (a0 3), .int (mg M0 4), .ref (a0 5), .int (mg M0 6), .int (mg M0 7), .int (mg M0 8), .int (mg M0 9), .int (mg M0 10)]).set 6 (.int v)))) H) : va_P D vwCl (bcW cB cI cJ cZ h0 a0 a1 (sg M0 6 v) M1) H := h
theorem bcD_0_f6 {A : Nat → Prop} {cB cI cJ cZ : ClassId} {h0 : Nat} {a0 : Nat → Nat} {a1 : Nat → Nat} {M0 : gS} {M1 : gS} {v : Int32} (h : va_D A ((bcW cB cI cJ cZ h0 a0 a1 M0 M1).set 0 (h0, .inr (0, ([.ref (a0 0), .ref (a0 1), .ref (a0 2), .ref (a0 3), .int (mg M0 4), .ref (a0 5), .int (mg M0 6), .int (mg M0 7), .int (mg M0 8), .int (mg M0 9), .int (mg M0 10)]).set 6 (.int v))))) : va_D A (bcW cB cI cJ cZ h0 a0 a1 (sg M0 6 v) M1) := h
theorem bcP_0_f7 {D : va_G} {H : Heap} {cB cI cJ cZ : ClassId} {h0 : Nat} {a0 : Nat → Nat} {a1 : Nat → Nat} {M0 : gS} {M1 : gS} {v : Int32} (h : va_P D vwCl ((bcW cB cI cJ cZ h0 a0 a1 M0 M1).set 0 (h0, .inr (0, ([.ref (a0 0), .ref (a0 1), .ref (a0 2), .ref (a0 3), .int (mg M0 4), .ref (a0 5), .int (mg M0 6), .int (mg M0 7), .int (mg M0 8), .int (mg M0 9), .int (mg M0 10)]).set 7 (.int v)))) H) : va_P D vwCl (bcW cB cI cJ cZ h0 a0 a1 (sg M0 7 v) M1) H := h
theorem bcD_0_f7 {A : Nat → Prop} {cB cI cJ cZ : ClassId} {h0 : Nat} {a0 : Nat → Nat} {a1 : Nat → Nat} {M0 : gS} {M1 : gS} {v : Int32} (h : va_D A ((bcW cB cI cJ cZ h0 a0 a1 M0 M1).set 0 (h0, .inr (0, ([.ref (a0 0), .ref (a0 1), .ref (a0 2), .ref (a0 3), .int (mg M0 4), .ref (a0 5), .int (mg M0 6), .int (mg M0 7), .int (mg M0 8), .int (mg M0 9), .int (mg M0 10)]).set 7 (.int v))))) : va_D A (bcW cB cI cJ cZ h0 a0 a1 (sg M0 7 v) M1) := h
theorem bcP_0_f8 {D : va_G} {H : Heap} {cB cI cJ cZ : ClassId} {h0 : Nat} {a0 : Nat → Nat} {a1 : Nat → Nat} {M0 : gS} {M1 : gS} {v : Int32} (h : va_P D vwCl ((bcW cB cI cJ cZ h0 a0 a1 M0 M1).set 0 (h0, .inr (0, ([.ref (a0 0), .ref (a0 1), .ref (a0 2), .ref (a0 3), .int (mg M0 4), .ref (a0 5), .int (mg M0 6), .int (mg M0 7), .int (mg M0 8), .int (mg M0 9), .int (mg M0 10)]).set 8 (.int v)))) H) : va_P D vwCl (bcW cB cI cJ cZ h0 a0 a1 (sg M0 8 v) M1) H := h
theorem bcD_0_f8 {A : Nat → Prop} {cB cI cJ cZ : ClassId} {h0 : Nat} {a0 : Nat → Nat} {a1 : Nat → Nat} {M0 : gS} {M1 : gS} {v : Int32} (h : va_D A ((bcW cB cI cJ cZ h0 a0 a1 M0 M1).set 0 (h0, .inr (0, ([.ref (a0 0), .ref (a0 1), .ref (a0 2), .ref (a0 3), .int (mg M0 4), .ref (a0 5), .int (mg M0 6), .int (mg M0 7), .int (mg M0 8), .int (mg M0 9), .int (mg M0 10)]).set 8 (.int v))))) : va_D A (bcW cB cI cJ cZ h0 a0 a1 (sg M0 8 v) M1) := h
theorem bcP_0_f9 {D : va_G} {H : Heap} {cB cI cJ cZ : ClassId} {h0 : Nat} {a0 : Nat → Nat} {a1 : Nat → Nat} {M0 : gS} {M1 : gS} {v : Int32} (h : va_P D vwCl ((bcW cB cI cJ cZ h0 a0 a1 M0 M1).set 0 (h0, .inr (0, ([.ref (a0 0), .ref (a0 1), .ref (a0 2), .ref (a0 3), .int (mg M0 4), .ref (a0 5), .int (mg M0 6), .int (mg M0 7), .int (mg M0 8), .int (mg M0 9), .int (mg M0 10)]).set 9 (.int v)))) H) : va_P D vwCl (bcW cB cI cJ cZ h0 a0 a1 (sg M0 9 v) M1) H := h
theorem bcD_0_f9 {A : Nat → Prop} {cB cI cJ cZ : ClassId} {h0 : Nat} {a0 : Nat → Nat} {a1 : Nat → Nat} {M0 : gS} {M1 : gS} {v : Int32} (h : va_D A ((bcW cB cI cJ cZ h0 a0 a1 M0 M1).set 0 (h0, .inr (0, ([.ref (a0 0), .ref (a0 1), .ref (a0 2), .ref (a0 3), .int (mg M0 4), .ref (a0 5), .int (mg M0 6), .int (mg M0 7), .int (mg M0 8), .int (mg M0 9), .int (mg M0 10)]).set 9 (.int v))))) : va_D A (bcW cB cI cJ cZ h0 a0 a1 (sg M0 9 v) M1) := h
theorem bcP_0_f10 {D : va_G} {H : Heap} {cB cI cJ cZ : ClassId} {h0 : Nat} {a0 : Nat → Nat} {a1 : Nat → Nat} {M0 : gS} {M1 : gS} {v : Int32} (h : va_P D vwCl ((bcW cB cI cJ cZ h0 a0 a1 M0 M1).set 0 (h0, .inr (0, ([.ref (a0 0), .ref (a0 1), .ref (a0 2), .ref (a0 3), .int (mg M0 4), .ref (a0 5), .int (mg M0 6), .int (mg M0 7), .int (mg M0 8), .int (mg M0 9), .int (mg M0 10)]).set 10 (.int v)))) H) : va_P D vwCl (bcW cB cI cJ cZ h0 a0 a1 (sg M0 10 v) M1) H := h
theorem bcD_0_f10 {A : Nat → Prop} {cB cI cJ cZ : ClassId} {h0 : Nat} {a0 : Nat → Nat} {a1 : Nat → Nat} {M0 : gS} {M1 : gS} {v : Int32} (h : va_D A ((bcW cB cI cJ cZ h0 a0 a1 M0 M1).set 0 (h0, .inr (0, ([.ref (a0 0), .ref (a0 1), .ref (a0 2), .ref (a0 3), .int (mg M0 4), .ref (a0 5), .int (mg M0 6), .int (mg M0 7), .int (mg M0 8), .int (mg M0 9), .int (mg M0 10)]).set 10 (.int v))))) : va_D A (bcW cB cI cJ cZ h0 a0 a1 (sg M0 10 v) M1) := h
theorem bcP_0_a0 {D : va_G} {H : Heap} {cB cI cJ cZ : ClassId} {h0 : Nat} {a0 : Nat → Nat} {a1 : Nat → Nat} {M0 : gS} {M1 : gS} {j : Nat} {v : Int64} (h : va_P D vwCl ((bcW cB cI cJ cZ h0 a0 a1 M0 M1).set 1 (a0 0, .inl (cJ, 15, .inr (.inl (vp_updL (ml M0 0) j v))))) H) : va_P D vwCl (bcW cB cI cJ cZ h0 a0 a1 (sl M0 0 j v) M1) H := h
theorem bcD_0_a0 {A : Nat → Prop} {cB cI cJ cZ : ClassId} {h0 : Nat} {a0 : Nat → Nat} {a1 : Nat → Nat} {M0 : gS} {M1 : gS} {j : Nat} {v : Int64} (h : va_D A ((bcW cB cI cJ cZ h0 a0 a1 M0 M1).set 1 (a0 0, .inl (cJ, 15, .inr (.inl (vp_updL (ml M0 0) j v)))))) : va_D A (bcW cB cI cJ cZ h0 a0 a1 (sl M0 0 j v) M1) := h
theorem bcP_0_a1 {D : va_G} {H : Heap} {cB cI cJ cZ : ClassId} {h0 : Nat} {a0 : Nat → Nat} {a1 : Nat → Nat} {M0 : gS} {M1 : gS} {j : Nat} {v : Int64} (h : va_P D vwCl ((bcW cB cI cJ cZ h0 a0 a1 M0 M1).set 2 (a0 1, .inl (cJ, 800, .inr (.inl (vp_updL (ml M0 1) j v))))) H) : va_P D vwCl (bcW cB cI cJ cZ h0 a0 a1 (sl M0 1 j v) M1) H := h
theorem bcD_0_a1 {A : Nat → Prop} {cB cI cJ cZ : ClassId} {h0 : Nat} {a0 : Nat → Nat} {a1 : Nat → Nat} {M0 : gS} {M1 : gS} {j : Nat} {v : Int64} (h : va_D A ((bcW cB cI cJ cZ h0 a0 a1 M0 M1).set 2 (a0 1, .inl (cJ, 800, .inr (.inl (vp_updL (ml M0 1) j v)))))) : va_D A (bcW cB cI cJ cZ h0 a0 a1 (sl M0 1 j v) M1) := h
theorem bcP_0_a2 {D : va_G} {H : Heap} {cB cI cJ cZ : ClassId} {h0 : Nat} {a0 : Nat → Nat} {a1 : Nat → Nat} {M0 : gS} {M1 : gS} {j : Nat} {v : Int32} (h : va_P D vwCl ((bcW cB cI cJ cZ h0 a0 a1 M0 M1).set 3 (a0 2, .inl (cI, 4, .inl (upd (ma M0 2) j v)))) H) : va_P D vwCl (bcW cB cI cJ cZ h0 a0 a1 (sa M0 2 j v) M1) H := h
theorem bcD_0_a2 {A : Nat → Prop} {cB cI cJ cZ : ClassId} {h0 : Nat} {a0 : Nat → Nat} {a1 : Nat → Nat} {M0 : gS} {M1 : gS} {j : Nat} {v : Int32} (h : va_D A ((bcW cB cI cJ cZ h0 a0 a1 M0 M1).set 3 (a0 2, .inl (cI, 4, .inl (upd (ma M0 2) j v))))) : va_D A (bcW cB cI cJ cZ h0 a0 a1 (sa M0 2 j v) M1) := h
theorem bcP_0_c2 {D : va_G} {H : Heap} {cB cI cJ cZ : ClassId} {h0 : Nat} {a0 : Nat → Nat} {a1 : Nat → Nat} {M0 : gS} {M1 : gS} {f : Nat → Int32} (h : va_P D vwCl ((bcW cB cI cJ cZ h0 a0 a1 M0 M1).set 3 (a0 2, .inl (cI, 4, .inl f))) H) : va_P D vwCl (bcW cB cI cJ cZ h0 a0 a1 (sF M0 2 f) M1) H := h
theorem bcD_0_c2 {A : Nat → Prop} {cB cI cJ cZ : ClassId} {h0 : Nat} {a0 : Nat → Nat} {a1 : Nat → Nat} {M0 : gS} {M1 : gS} {f : Nat → Int32} (h : va_D A ((bcW cB cI cJ cZ h0 a0 a1 M0 M1).set 3 (a0 2, .inl (cI, 4, .inl f)))) : va_D A (bcW cB cI cJ cZ h0 a0 a1 (sF M0 2 f) M1) := h
theorem bcP_0_a3 {D : va_G} {H : Heap} {cB cI cJ cZ : ClassId} {h0 : Nat} {a0 : Nat → Nat} {a1 : Nat → Nat} {M0 : gS} {M1 : gS} {j : Nat} {v : Int64} (h : va_P D vwCl ((bcW cB cI cJ cZ h0 a0 a1 M0 M1).set 4 (a0 3, .inl (cJ, 4, .inr (.inl (vp_updL (ml M0 3) j v))))) H) : va_P D vwCl (bcW cB cI cJ cZ h0 a0 a1 (sl M0 3 j v) M1) H := h
theorem bcD_0_a3 {A : Nat → Prop} {cB cI cJ cZ : ClassId} {h0 : Nat} {a0 : Nat → Nat} {a1 : Nat → Nat} {M0 : gS} {M1 : gS} {j : Nat} {v : Int64} (h : va_D A ((bcW cB cI cJ cZ h0 a0 a1 M0 M1).set 4 (a0 3, .inl (cJ, 4, .inr (.inl (vp_updL (ml M0 3) j v)))))) : va_D A (bcW cB cI cJ cZ h0 a0 a1 (sl M0 3 j v) M1) := h
theorem bcP_1_f0 {D : va_G} {H : Heap} {cB cI cJ cZ : ClassId} {h0 : Nat} {a0 : Nat → Nat} {a1 : Nat → Nat} {M0 : gS} {M1 : gS} {v : Int32} (h : va_P D vwCl ((bcW cB cI cJ cZ h0 a0 a1 M0 M1).set 5 (a0 5, .inr (1, ([.int (mg M1 0), .ref (a1 1), .int (mg M1 2), .ref (a1 3), .int (mg M1 4), .ref (a1 5)]).set 0 (.int v)))) H) : va_P D vwCl (bcW cB cI cJ cZ h0 a0 a1 M0 (sg M1 0 v)) H := h
theorem bcD_1_f0 {A : Nat → Prop} {cB cI cJ cZ : ClassId} {h0 : Nat} {a0 : Nat → Nat} {a1 : Nat → Nat} {M0 : gS} {M1 : gS} {v : Int32} (h : va_D A ((bcW cB cI cJ cZ h0 a0 a1 M0 M1).set 5 (a0 5, .inr (1, ([.int (mg M1 0), .ref (a1 1), .int (mg M1 2), .ref (a1 3), .int (mg M1 4), .ref (a1 5)]).set 0 (.int v))))) : va_D A (bcW cB cI cJ cZ h0 a0 a1 M0 (sg M1 0 v)) := h
theorem bcP_1_f2 {D : va_G} {H : Heap} {cB cI cJ cZ : ClassId} {h0 : Nat} {a0 : Nat → Nat} {a1 : Nat → Nat} {M0 : gS} {M1 : gS} {v : Int32} (h : va_P D vwCl ((bcW cB cI cJ cZ h0 a0 a1 M0 M1).set 5 (a0 5, .inr (1, ([.int (mg M1 0), .ref (a1 1), .int (mg M1 2), .ref (a1 3), .int (mg M1 4), .ref (a1 5)]).set 2 (.int v)))) H) : va_P D vwCl (bcW cB cI cJ cZ h0 a0 a1 M0 (sg M1 2 v)) H := h
theorem bcD_1_f2 {A : Nat → Prop} {cB cI cJ cZ : ClassId} {h0 : Nat} {a0 : Nat → Nat} {a1 : Nat → Nat} {M0 : gS} {M1 : gS} {v : Int32} (h : va_D A ((bcW cB cI cJ cZ h0 a0 a1 M0 M1).set 5 (a0 5, .inr (1, ([.int (mg M1 0), .ref (a1 1), .int (mg M1 2), .ref (a1 3), .int (mg M1 4), .ref (a1 5)]).set 2 (.int v))))) : va_D A (bcW cB cI cJ cZ h0 a0 a1 M0 (sg M1 2 v)) := h
theorem bcP_1_f4 {D : va_G} {H : Heap} {cB cI cJ cZ : ClassId} {h0 : Nat} {a0 : Nat → Nat} {a1 : Nat → Nat} {M0 : gS} {M1 : gS} {v : Int32} (h : va_P D vwCl ((bcW cB cI cJ cZ h0 a0 a1 M0 M1).set 5 (a0 5, .inr (1, ([.int (mg M1 0), .ref (a1 1), .int (mg M1 2), .ref (a1 3), .int (mg M1 4), .ref (a1 5)]).set 4 (.int v)))) H) : va_P D vwCl (bcW cB cI cJ cZ h0 a0 a1 M0 (sg M1 4 v)) H := h
theorem bcD_1_f4 {A : Nat → Prop} {cB cI cJ cZ : ClassId} {h0 : Nat} {a0 : Nat → Nat} {a1 : Nat → Nat} {M0 : gS} {M1 : gS} {v : Int32} (h : va_D A ((bcW cB cI cJ cZ h0 a0 a1 M0 M1).set 5 (a0 5, .inr (1, ([.int (mg M1 0), .ref (a1 1), .int (mg M1 2), .ref (a1 3), .int (mg M1 4), .ref (a1 5)]).set 4 (.int v))))) : va_D A (bcW cB cI cJ cZ h0 a0 a1 M0 (sg M1 4 v)) := h
theorem bcP_1_a1 {D : va_G} {H : Heap} {cB cI cJ cZ : ClassId} {h0 : Nat} {a0 : Nat → Nat} {a1 : Nat → Nat} {M0 : gS} {M1 : gS} {j : Nat} {v : Int32} (h : va_P D vwCl ((bcW cB cI cJ cZ h0 a0 a1 M0 M1).set 6 (a1 1, .inl (cI, 4, .inl (upd (ma M1 1) j v)))) H) : va_P D vwCl (bcW cB cI cJ cZ h0 a0 a1 M0 (sa M1 1 j v)) H := h
theorem bcD_1_a1 {A : Nat → Prop} {cB cI cJ cZ : ClassId} {h0 : Nat} {a0 : Nat → Nat} {a1 : Nat → Nat} {M0 : gS} {M1 : gS} {j : Nat} {v : Int32} (h : va_D A ((bcW cB cI cJ cZ h0 a0 a1 M0 M1).set 6 (a1 1, .inl (cI, 4, .inl (upd (ma M1 1) j v))))) : va_D A (bcW cB cI cJ cZ h0 a0 a1 M0 (sa M1 1 j v)) := h
theorem bcP_1_c1 {D : va_G} {H : Heap} {cB cI cJ cZ : ClassId} {h0 : Nat} {a0 : Nat → Nat} {a1 : Nat → Nat} {M0 : gS} {M1 : gS} {f : Nat → Int32} (h : va_P D vwCl ((bcW cB cI cJ cZ h0 a0 a1 M0 M1).set 6 (a1 1, .inl (cI, 4, .inl f))) H) : va_P D vwCl (bcW cB cI cJ cZ h0 a0 a1 M0 (sF M1 1 f)) H := h
theorem bcD_1_c1 {A : Nat → Prop} {cB cI cJ cZ : ClassId} {h0 : Nat} {a0 : Nat → Nat} {a1 : Nat → Nat} {M0 : gS} {M1 : gS} {f : Nat → Int32} (h : va_D A ((bcW cB cI cJ cZ h0 a0 a1 M0 M1).set 6 (a1 1, .inl (cI, 4, .inl f)))) : va_D A (bcW cB cI cJ cZ h0 a0 a1 M0 (sF M1 1 f)) := h
theorem bcP_1_a3 {D : va_G} {H : Heap} {cB cI cJ cZ : ClassId} {h0 : Nat} {a0 : Nat → Nat} {a1 : Nat → Nat} {M0 : gS} {M1 : gS} {j : Nat} {v : Int32} (h : va_P D vwCl ((bcW cB cI cJ cZ h0 a0 a1 M0 M1).set 7 (a1 3, .inl (cI, 4, .inl (upd (ma M1 3) j v)))) H) : va_P D vwCl (bcW cB cI cJ cZ h0 a0 a1 M0 (sa M1 3 j v)) H := h
theorem bcD_1_a3 {A : Nat → Prop} {cB cI cJ cZ : ClassId} {h0 : Nat} {a0 : Nat → Nat} {a1 : Nat → Nat} {M0 : gS} {M1 : gS} {j : Nat} {v : Int32} (h : va_D A ((bcW cB cI cJ cZ h0 a0 a1 M0 M1).set 7 (a1 3, .inl (cI, 4, .inl (upd (ma M1 3) j v))))) : va_D A (bcW cB cI cJ cZ h0 a0 a1 M0 (sa M1 3 j v)) := h
theorem bcP_1_c3 {D : va_G} {H : Heap} {cB cI cJ cZ : ClassId} {h0 : Nat} {a0 : Nat → Nat} {a1 : Nat → Nat} {M0 : gS} {M1 : gS} {f : Nat → Int32} (h : va_P D vwCl ((bcW cB cI cJ cZ h0 a0 a1 M0 M1).set 7 (a1 3, .inl (cI, 4, .inl f))) H) : va_P D vwCl (bcW cB cI cJ cZ h0 a0 a1 M0 (sF M1 3 f)) H := h
theorem bcD_1_c3 {A : Nat → Prop} {cB cI cJ cZ : ClassId} {h0 : Nat} {a0 : Nat → Nat} {a1 : Nat → Nat} {M0 : gS} {M1 : gS} {f : Nat → Int32} (h : va_D A ((bcW cB cI cJ cZ h0 a0 a1 M0 M1).set 7 (a1 3, .inl (cI, 4, .inl f)))) : va_D A (bcW cB cI cJ cZ h0 a0 a1 M0 (sF M1 3 f)) := h
theorem bcP_1_a5 {D : va_G} {H : Heap} {cB cI cJ cZ : ClassId} {h0 : Nat} {a0 : Nat → Nat} {a1 : Nat → Nat} {M0 : gS} {M1 : gS} {j : Nat} {v : Int32} (h : va_P D vwCl ((bcW cB cI cJ cZ h0 a0 a1 M0 M1).set 8 (a1 5, .inl (cI, 2, .inl (upd (ma M1 5) j v)))) H) : va_P D vwCl (bcW cB cI cJ cZ h0 a0 a1 M0 (sa M1 5 j v)) H := h
theorem bcD_1_a5 {A : Nat → Prop} {cB cI cJ cZ : ClassId} {h0 : Nat} {a0 : Nat → Nat} {a1 : Nat → Nat} {M0 : gS} {M1 : gS} {j : Nat} {v : Int32} (h : va_D A ((bcW cB cI cJ cZ h0 a0 a1 M0 M1).set 8 (a1 5, .inl (cI, 2, .inl (upd (ma M1 5) j v))))) : va_D A (bcW cB cI cJ cZ h0 a0 a1 M0 (sa M1 5 j v)) := h
theorem bcP_1_c5 {D : va_G} {H : Heap} {cB cI cJ cZ : ClassId} {h0 : Nat} {a0 : Nat → Nat} {a1 : Nat → Nat} {M0 : gS} {M1 : gS} {f : Nat → Int32} (h : va_P D vwCl ((bcW cB cI cJ cZ h0 a0 a1 M0 M1).set 8 (a1 5, .inl (cI, 2, .inl f))) H) : va_P D vwCl (bcW cB cI cJ cZ h0 a0 a1 M0 (sF M1 5 f)) H := h
theorem bcD_1_c5 {A : Nat → Prop} {cB cI cJ cZ : ClassId} {h0 : Nat} {a0 : Nat → Nat} {a1 : Nat → Nat} {M0 : gS} {M1 : gS} {f : Nat → Int32} (h : va_D A ((bcW cB cI cJ cZ h0 a0 a1 M0 M1).set 8 (a1 5, .inl (cI, 2, .inl f)))) : va_D A (bcW cB cI cJ cZ h0 a0 a1 M0 (sF M1 5 f)) := h
theorem bcpV {s : State} {dC : Nat → ClassId} {dI : Nat → Nat → Nat} {A : Nat → Prop} {cB cI cJ cZ : ClassId} {h0 : Nat} {a0 : Nat → Nat} {a1 : Nat → Nat} {M0 : gS} {M1 : gS} {H : Heap} {As : List Value} (hK : va_K (dC, dI) vwCl (gT cB cI cJ cZ) s) (hP : va_P (dC, dI) vwCl (bcW cB cI cJ cZ h0 a0 a1 M0 M1) H) (hD : va_D A (bcW cB cI cJ cZ h0 a0 a1 M0 M1)) : PreV s H RX0 h0 (va_Pc (.ref h0 :: As) (bcI dC dI cB cI cJ cZ h0 a0 a1 M0 M1 H.size)) As := ⟨fun a U g mk q => by obtain ⟨q0, q1, qP, qK, qD⟩ := q; exact ⟨q0, q1, qP, va_K.moved (u := U) (U := U.calling g mk a) (Vm.Alike.refl U.vm) qK, qD⟩, va_recv hK hP (ci := 0) (q0 := 0) rfl rfl, fun U hU hW => ⟨rfl, by rw [hU], by rw [hU]; exact hP, va_K.moved hW.alike hK, hD.weaken (fun _ _ _ _ => trivial)⟩⟩
theorem bcpS {s : State} {dC : Nat → ClassId} {dI : Nat → Nat → Nat} {A : Nat → Prop} {cB cI cJ cZ : ClassId} {h0 : Nat} {a0 : Nat → Nat} {a1 : Nat → Nat} {M0 : gS} {M1 : gS} {H : Heap} {As : List Value} (hK : va_K (dC, dI) vwCl (gT cB cI cJ cZ) s) (hP : va_P (dC, dI) vwCl (bcW cB cI cJ cZ h0 a0 a1 M0 M1) H) (hD : va_D A (bcW cB cI cJ cZ h0 a0 a1 M0 M1)) : PreS s H (va_Pc As (bcI dC dI cB cI cJ cZ h0 a0 a1 M0 M1 H.size)) As := ⟨fun a U g mk q => by obtain ⟨q0, q1, qP, qK, qD⟩ := q; exact ⟨q0, q1, qP, va_K.moved (u := U) (U := U.calling g mk a) (Vm.Alike.refl U.vm) qK, qD⟩, fun U hU hW => ⟨rfl, by rw [hU], by rw [hU]; exact hP, va_K.moved hW.alike hK, hD.weaken (fun _ _ _ _ => trivial)⟩⟩

abbrev boW (cB cI cJ cZ : ClassId) (h0 : Nat) (a0 : Nat → Nat) (o0 : Option Nat) (h1 : Nat) (a1 : Nat → Nat) (M0 : gS) (M1 : gS) : va_W := [(h0, .inr (0, [.ref (a0 0), .ref (a0 1), .ref (a0 2), .ref (a0 3), .int (mg M0 4), va_rf o0, .int (mg M0 6), .int (mg M0 7), .int (mg M0 8), .int (mg M0 9), .int (mg M0 10)])), (a0 0, .inl (cJ, 15, .inr (.inl (ml M0 0)))), (a0 1, .inl (cJ, 800, .inr (.inl (ml M0 1)))), (a0 2, .inl (cI, 4, .inl (ma M0 2))), (a0 3, .inl (cJ, 4, .inr (.inl (ml M0 3)))), (h1, .inr (1, [.int (mg M1 0), .ref (a1 1), .int (mg M1 2), .ref (a1 3), .int (mg M1 4), .ref (a1 5)])), (a1 1, .inl (cI, 4, .inl (ma M1 1))), (a1 3, .inl (cI, 4, .inl (ma M1 3))), (a1 5, .inl (cI, 2, .inl (ma M1 5)))]
abbrev boI (dC : Nat → ClassId) (dI : Nat → Nat → Nat) (cB cI cJ cZ : ClassId) (h0 : Nat) (a0 : Nat → Nat) (o0 : Option Nat) (h1 : Nat) (a1 : Nat → Nat) (M0 : gS) (M1 : gS) (sz : Nat) : State → Prop := fun U => U.heap.size = sz ∧ va_P (dC, dI) vwCl (boW cB cI cJ cZ h0 a0 o0 h1 a1 M0 M1) U.heap ∧ va_K (dC, dI) vwCl (gT cB cI cJ cZ) U ∧ va_D (fun _ => True) (boW cB cI cJ cZ h0 a0 o0 h1 a1 M0 M1)
abbrev boB (dC : Nat → ClassId) (dI : Nat → Nat → Nat) (cB cI cJ cZ : ClassId) (h0 : Nat) (a0 : Nat → Nat) (o0 : Option Nat) (h1 : Nat) (a1 : Nat → Nat) (A : Nat → Prop) (u : gS × gS) (t : State) : Prop := match u with
  | (M0, M1) => va_P (dC, dI) vwCl (boW cB cI cJ cZ h0 a0 o0 h1 a1 M0 M1) t.heap ∧ va_K (dC, dI) vwCl (gT cB cI cJ cZ) t ∧ va_D A (boW cB cI cJ cZ h0 a0 o0 h1 a1 M0 M1)
theorem boP_0_f4 {D : va_G} {H : Heap} {cB cI cJ cZ : ClassId} {h0 : Nat} {a0 : Nat → Nat} {o0 : Option Nat} {h1 : Nat} {a1 : Nat → Nat} {M0 : gS} {M1 : gS} {v : Int32} (h : va_P D vwCl ((boW cB cI cJ cZ h0 a0 o0 h1 a1 M0 M1).set 0 (h0, .inr (0, ([.ref (a0 0), .ref (a0 1), .ref (a0 2), .ref (a0 3), .int (mg M0 4), va_rf o0, .int (mg M0 6), .int (mg M0 7), .int (mg M0 8), .int (mg M0 9), .int (mg M0 10)]).set 4 (.int v)))) H) : va_P D vwCl (boW cB cI cJ cZ h0 a0 o0 h1 a1 (sg M0 4 v) M1) H := h
theorem boD_0_f4 {A : Nat → Prop} {cB cI cJ cZ : ClassId} {h0 : Nat} {a0 : Nat → Nat} {o0 : Option Nat} {h1 : Nat} {a1 : Nat → Nat} {M0 : gS} {M1 : gS} {v : Int32} (h : va_D A ((boW cB cI cJ cZ h0 a0 o0 h1 a1 M0 M1).set 0 (h0, .inr (0, ([.ref (a0 0), .ref (a0 1), .ref (a0 2), .ref (a0 3), .int (mg M0 4), va_rf o0, .int (mg M0 6), .int (mg M0 7), .int (mg M0 8), .int (mg M0 9), .int (mg M0 10)]).set 4 (.int v))))) : va_D A (boW cB cI cJ cZ h0 a0 o0 h1 a1 (sg M0 4 v) M1) := h
theorem boP_0_f5 {D : va_G} {H : Heap} {cB cI cJ cZ : ClassId} {h0 : Nat} {a0 : Nat → Nat} {o0 : Option Nat} {h1 : Nat} {a1 : Nat → Nat} {M0 : gS} {M1 : gS} {v : Nat} (h : va_P D vwCl ((boW cB cI cJ cZ h0 a0 o0 h1 a1 M0 M1).set 0 (h0, .inr (0, ([.ref (a0 0), .ref (a0 1), .ref (a0 2), .ref (a0 3), .int (mg M0 4), va_rf o0, .int (mg M0 6), .int (mg M0 7), .int (mg M0 8), .int (mg M0 9), .int (mg M0 10)]).set 5 (.ref v)))) H) : va_P D vwCl (boW cB cI cJ cZ h0 a0 (some v) h1 a1 M0 M1) H := h
theorem boD_0_f5 {A : Nat → Prop} {cB cI cJ cZ : ClassId} {h0 : Nat} {a0 : Nat → Nat} {o0 : Option Nat} {h1 : Nat} {a1 : Nat → Nat} {M0 : gS} {M1 : gS} {v : Nat} (h : va_D A ((boW cB cI cJ cZ h0 a0 o0 h1 a1 M0 M1).set 0 (h0, .inr (0, ([.ref (a0 0), .ref (a0 1), .ref (a0 2), .ref (a0 3), .int (mg M0 4), va_rf o0, .int (mg M0 6), .int (mg M0 7), .int (mg M0 8), .int (mg M0 9), .int (mg M0 10)]).set 5 (.ref v))))) : va_D A (boW cB cI cJ cZ h0 a0 (some v) h1 a1 M0 M1) := h
theorem boP_0_f6 {D : va_G} {H : Heap} {cB cI cJ cZ : ClassId} {h0 : Nat} {a0 : Nat → Nat} {o0 : Option Nat} {h1 : Nat} {a1 : Nat → Nat} {M0 : gS} {M1 : gS} {v : Int32} (h : va_P D vwCl ((boW cB cI cJ cZ h0 a0 o0 h1 a1 M0 M1).set 0 (h0, .inr (0, ([.ref (a0 0), .ref (a0 1), .ref (a0 2), .ref (a0 3), .int (mg M0 4), va_rf o0, .int (mg M0 6), .int (mg M0 7), .int (mg M0 8), .int (mg M0 9), .int (mg M0 10)]).set 6 (.int v)))) H) : va_P D vwCl (boW cB cI cJ cZ h0 a0 o0 h1 a1 (sg M0 6 v) M1) H := h
theorem boD_0_f6 {A : Nat → Prop} {cB cI cJ cZ : ClassId} {h0 : Nat} {a0 : Nat → Nat} {o0 : Option Nat} {h1 : Nat} {a1 : Nat → Nat} {M0 : gS} {M1 : gS} {v : Int32} (h : va_D A ((boW cB cI cJ cZ h0 a0 o0 h1 a1 M0 M1).set 0 (h0, .inr (0, ([.ref (a0 0), .ref (a0 1), .ref (a0 2), .ref (a0 3), .int (mg M0 4), va_rf o0, .int (mg M0 6), .int (mg M0 7), .int (mg M0 8), .int (mg M0 9), .int (mg M0 10)]).set 6 (.int v))))) : va_D A (boW cB cI cJ cZ h0 a0 o0 h1 a1 (sg M0 6 v) M1) := h
theorem boP_0_f7 {D : va_G} {H : Heap} {cB cI cJ cZ : ClassId} {h0 : Nat} {a0 : Nat → Nat} {o0 : Option Nat} {h1 : Nat} {a1 : Nat → Nat} {M0 : gS} {M1 : gS} {v : Int32} (h : va_P D vwCl ((boW cB cI cJ cZ h0 a0 o0 h1 a1 M0 M1).set 0 (h0, .inr (0, ([.ref (a0 0), .ref (a0 1), .ref (a0 2), .ref (a0 3), .int (mg M0 4), va_rf o0, .int (mg M0 6), .int (mg M0 7), .int (mg M0 8), .int (mg M0 9), .int (mg M0 10)]).set 7 (.int v)))) H) : va_P D vwCl (boW cB cI cJ cZ h0 a0 o0 h1 a1 (sg M0 7 v) M1) H := h
theorem boD_0_f7 {A : Nat → Prop} {cB cI cJ cZ : ClassId} {h0 : Nat} {a0 : Nat → Nat} {o0 : Option Nat} {h1 : Nat} {a1 : Nat → Nat} {M0 : gS} {M1 : gS} {v : Int32} (h : va_D A ((boW cB cI cJ cZ h0 a0 o0 h1 a1 M0 M1).set 0 (h0, .inr (0, ([.ref (a0 0), .ref (a0 1), .ref (a0 2), .ref (a0 3), .int (mg M0 4), va_rf o0, .int (mg M0 6), .int (mg M0 7), .int (mg M0 8), .int (mg M0 9), .int (mg M0 10)]).set 7 (.int v))))) : va_D A (boW cB cI cJ cZ h0 a0 o0 h1 a1 (sg M0 7 v) M1) := h
theorem boP_0_f8 {D : va_G} {H : Heap} {cB cI cJ cZ : ClassId} {h0 : Nat} {a0 : Nat → Nat} {o0 : Option Nat} {h1 : Nat} {a1 : Nat → Nat} {M0 : gS} {M1 : gS} {v : Int32} (h : va_P D vwCl ((boW cB cI cJ cZ h0 a0 o0 h1 a1 M0 M1).set 0 (h0, .inr (0, ([.ref (a0 0), .ref (a0 1), .ref (a0 2), .ref (a0 3), .int (mg M0 4), va_rf o0, .int (mg M0 6), .int (mg M0 7), .int (mg M0 8), .int (mg M0 9), .int (mg M0 10)]).set 8 (.int v)))) H) : va_P D vwCl (boW cB cI cJ cZ h0 a0 o0 h1 a1 (sg M0 8 v) M1) H := h
theorem boD_0_f8 {A : Nat → Prop} {cB cI cJ cZ : ClassId} {h0 : Nat} {a0 : Nat → Nat} {o0 : Option Nat} {h1 : Nat} {a1 : Nat → Nat} {M0 : gS} {M1 : gS} {v : Int32} (h : va_D A ((boW cB cI cJ cZ h0 a0 o0 h1 a1 M0 M1).set 0 (h0, .inr (0, ([.ref (a0 0), .ref (a0 1), .ref (a0 2), .ref (a0 3), .int (mg M0 4), va_rf o0, .int (mg M0 6), .int (mg M0 7), .int (mg M0 8), .int (mg M0 9), .int (mg M0 10)]).set 8 (.int v))))) : va_D A (boW cB cI cJ cZ h0 a0 o0 h1 a1 (sg M0 8 v) M1) := h
theorem boP_0_f9 {D : va_G} {H : Heap} {cB cI cJ cZ : ClassId} {h0 : Nat} {a0 : Nat → Nat} {o0 : Option Nat} {h1 : Nat} {a1 : Nat → Nat} {M0 : gS} {M1 : gS} {v : Int32} (h : va_P D vwCl ((boW cB cI cJ cZ h0 a0 o0 h1 a1 M0 M1).set 0 (h0, .inr (0, ([.ref (a0 0), .ref (a0 1), .ref (a0 2), .ref (a0 3), .int (mg M0 4), va_rf o0, .int (mg M0 6), .int (mg M0 7), .int (mg M0 8), .int (mg M0 9), .int (mg M0 10)]).set 9 (.int v)))) H) : va_P D vwCl (boW cB cI cJ cZ h0 a0 o0 h1 a1 (sg M0 9 v) M1) H := h
theorem boD_0_f9 {A : Nat → Prop} {cB cI cJ cZ : ClassId} {h0 : Nat} {a0 : Nat → Nat} {o0 : Option Nat} {h1 : Nat} {a1 : Nat → Nat} {M0 : gS} {M1 : gS} {v : Int32} (h : va_D A ((boW cB cI cJ cZ h0 a0 o0 h1 a1 M0 M1).set 0 (h0, .inr (0, ([.ref (a0 0), .ref (a0 1), .ref (a0 2), .ref (a0 3), .int (mg M0 4), va_rf o0, .int (mg M0 6), .int (mg M0 7), .int (mg M0 8), .int (mg M0 9), .int (mg M0 10)]).set 9 (.int v))))) : va_D A (boW cB cI cJ cZ h0 a0 o0 h1 a1 (sg M0 9 v) M1) := h
theorem boP_0_f10 {D : va_G} {H : Heap} {cB cI cJ cZ : ClassId} {h0 : Nat} {a0 : Nat → Nat} {o0 : Option Nat} {h1 : Nat} {a1 : Nat → Nat} {M0 : gS} {M1 : gS} {v : Int32} (h : va_P D vwCl ((boW cB cI cJ cZ h0 a0 o0 h1 a1 M0 M1).set 0 (h0, .inr (0, ([.ref (a0 0), .ref (a0 1), .ref (a0 2), .ref (a0 3), .int (mg M0 4), va_rf o0, .int (mg M0 6), .int (mg M0 7), .int (mg M0 8), .int (mg M0 9), .int (mg M0 10)]).set 10 (.int v)))) H) : va_P D vwCl (boW cB cI cJ cZ h0 a0 o0 h1 a1 (sg M0 10 v) M1) H := h
theorem boD_0_f10 {A : Nat → Prop} {cB cI cJ cZ : ClassId} {h0 : Nat} {a0 : Nat → Nat} {o0 : Option Nat} {h1 : Nat} {a1 : Nat → Nat} {M0 : gS} {M1 : gS} {v : Int32} (h : va_D A ((boW cB cI cJ cZ h0 a0 o0 h1 a1 M0 M1).set 0 (h0, .inr (0, ([.ref (a0 0), .ref (a0 1), .ref (a0 2), .ref (a0 3), .int (mg M0 4), va_rf o0, .int (mg M0 6), .int (mg M0 7), .int (mg M0 8), .int (mg M0 9), .int (mg M0 10)]).set 10 (.int v))))) : va_D A (boW cB cI cJ cZ h0 a0 o0 h1 a1 (sg M0 10 v) M1) := h
theorem boP_0_a0 {D : va_G} {H : Heap} {cB cI cJ cZ : ClassId} {h0 : Nat} {a0 : Nat → Nat} {o0 : Option Nat} {h1 : Nat} {a1 : Nat → Nat} {M0 : gS} {M1 : gS} {j : Nat} {v : Int64} (h : va_P D vwCl ((boW cB cI cJ cZ h0 a0 o0 h1 a1 M0 M1).set 1 (a0 0, .inl (cJ, 15, .inr (.inl (vp_updL (ml M0 0) j v))))) H) : va_P D vwCl (boW cB cI cJ cZ h0 a0 o0 h1 a1 (sl M0 0 j v) M1) H := h
theorem boD_0_a0 {A : Nat → Prop} {cB cI cJ cZ : ClassId} {h0 : Nat} {a0 : Nat → Nat} {o0 : Option Nat} {h1 : Nat} {a1 : Nat → Nat} {M0 : gS} {M1 : gS} {j : Nat} {v : Int64} (h : va_D A ((boW cB cI cJ cZ h0 a0 o0 h1 a1 M0 M1).set 1 (a0 0, .inl (cJ, 15, .inr (.inl (vp_updL (ml M0 0) j v)))))) : va_D A (boW cB cI cJ cZ h0 a0 o0 h1 a1 (sl M0 0 j v) M1) := h
theorem boP_0_a1 {D : va_G} {H : Heap} {cB cI cJ cZ : ClassId} {h0 : Nat} {a0 : Nat → Nat} {o0 : Option Nat} {h1 : Nat} {a1 : Nat → Nat} {M0 : gS} {M1 : gS} {j : Nat} {v : Int64} (h : va_P D vwCl ((boW cB cI cJ cZ h0 a0 o0 h1 a1 M0 M1).set 2 (a0 1, .inl (cJ, 800, .inr (.inl (vp_updL (ml M0 1) j v))))) H) : va_P D vwCl (boW cB cI cJ cZ h0 a0 o0 h1 a1 (sl M0 1 j v) M1) H := h
theorem boD_0_a1 {A : Nat → Prop} {cB cI cJ cZ : ClassId} {h0 : Nat} {a0 : Nat → Nat} {o0 : Option Nat} {h1 : Nat} {a1 : Nat → Nat} {M0 : gS} {M1 : gS} {j : Nat} {v : Int64} (h : va_D A ((boW cB cI cJ cZ h0 a0 o0 h1 a1 M0 M1).set 2 (a0 1, .inl (cJ, 800, .inr (.inl (vp_updL (ml M0 1) j v)))))) : va_D A (boW cB cI cJ cZ h0 a0 o0 h1 a1 (sl M0 1 j v) M1) := h
theorem boP_0_a2 {D : va_G} {H : Heap} {cB cI cJ cZ : ClassId} {h0 : Nat} {a0 : Nat → Nat} {o0 : Option Nat} {h1 : Nat} {a1 : Nat → Nat} {M0 : gS} {M1 : gS} {j : Nat} {v : Int32} (h : va_P D vwCl ((boW cB cI cJ cZ h0 a0 o0 h1 a1 M0 M1).set 3 (a0 2, .inl (cI, 4, .inl (upd (ma M0 2) j v)))) H) : va_P D vwCl (boW cB cI cJ cZ h0 a0 o0 h1 a1 (sa M0 2 j v) M1) H := h
theorem boD_0_a2 {A : Nat → Prop} {cB cI cJ cZ : ClassId} {h0 : Nat} {a0 : Nat → Nat} {o0 : Option Nat} {h1 : Nat} {a1 : Nat → Nat} {M0 : gS} {M1 : gS} {j : Nat} {v : Int32} (h : va_D A ((boW cB cI cJ cZ h0 a0 o0 h1 a1 M0 M1).set 3 (a0 2, .inl (cI, 4, .inl (upd (ma M0 2) j v))))) : va_D A (boW cB cI cJ cZ h0 a0 o0 h1 a1 (sa M0 2 j v) M1) := h
theorem boP_0_c2 {D : va_G} {H : Heap} {cB cI cJ cZ : ClassId} {h0 : Nat} {a0 : Nat → Nat} {o0 : Option Nat} {h1 : Nat} {a1 : Nat → Nat} {M0 : gS} {M1 : gS} {f : Nat → Int32} (h : va_P D vwCl ((boW cB cI cJ cZ h0 a0 o0 h1 a1 M0 M1).set 3 (a0 2, .inl (cI, 4, .inl f))) H) : va_P D vwCl (boW cB cI cJ cZ h0 a0 o0 h1 a1 (sF M0 2 f) M1) H := h
theorem boD_0_c2 {A : Nat → Prop} {cB cI cJ cZ : ClassId} {h0 : Nat} {a0 : Nat → Nat} {o0 : Option Nat} {h1 : Nat} {a1 : Nat → Nat} {M0 : gS} {M1 : gS} {f : Nat → Int32} (h : va_D A ((boW cB cI cJ cZ h0 a0 o0 h1 a1 M0 M1).set 3 (a0 2, .inl (cI, 4, .inl f)))) : va_D A (boW cB cI cJ cZ h0 a0 o0 h1 a1 (sF M0 2 f) M1) := h
theorem boP_0_a3 {D : va_G} {H : Heap} {cB cI cJ cZ : ClassId} {h0 : Nat} {a0 : Nat → Nat} {o0 : Option Nat} {h1 : Nat} {a1 : Nat → Nat} {M0 : gS} {M1 : gS} {j : Nat} {v : Int64} (h : va_P D vwCl ((boW cB cI cJ cZ h0 a0 o0 h1 a1 M0 M1).set 4 (a0 3, .inl (cJ, 4, .inr (.inl (vp_updL (ml M0 3) j v))))) H) : va_P D vwCl (boW cB cI cJ cZ h0 a0 o0 h1 a1 (sl M0 3 j v) M1) H := h
theorem boD_0_a3 {A : Nat → Prop} {cB cI cJ cZ : ClassId} {h0 : Nat} {a0 : Nat → Nat} {o0 : Option Nat} {h1 : Nat} {a1 : Nat → Nat} {M0 : gS} {M1 : gS} {j : Nat} {v : Int64} (h : va_D A ((boW cB cI cJ cZ h0 a0 o0 h1 a1 M0 M1).set 4 (a0 3, .inl (cJ, 4, .inr (.inl (vp_updL (ml M0 3) j v)))))) : va_D A (boW cB cI cJ cZ h0 a0 o0 h1 a1 (sl M0 3 j v) M1) := h
theorem boP_1_f0 {D : va_G} {H : Heap} {cB cI cJ cZ : ClassId} {h0 : Nat} {a0 : Nat → Nat} {o0 : Option Nat} {h1 : Nat} {a1 : Nat → Nat} {M0 : gS} {M1 : gS} {v : Int32} (h : va_P D vwCl ((boW cB cI cJ cZ h0 a0 o0 h1 a1 M0 M1).set 5 (h1, .inr (1, ([.int (mg M1 0), .ref (a1 1), .int (mg M1 2), .ref (a1 3), .int (mg M1 4), .ref (a1 5)]).set 0 (.int v)))) H) : va_P D vwCl (boW cB cI cJ cZ h0 a0 o0 h1 a1 M0 (sg M1 0 v)) H := h
theorem boD_1_f0 {A : Nat → Prop} {cB cI cJ cZ : ClassId} {h0 : Nat} {a0 : Nat → Nat} {o0 : Option Nat} {h1 : Nat} {a1 : Nat → Nat} {M0 : gS} {M1 : gS} {v : Int32} (h : va_D A ((boW cB cI cJ cZ h0 a0 o0 h1 a1 M0 M1).set 5 (h1, .inr (1, ([.int (mg M1 0), .ref (a1 1), .int (mg M1 2), .ref (a1 3), .int (mg M1 4), .ref (a1 5)]).set 0 (.int v))))) : va_D A (boW cB cI cJ cZ h0 a0 o0 h1 a1 M0 (sg M1 0 v)) := h
theorem boP_1_f2 {D : va_G} {H : Heap} {cB cI cJ cZ : ClassId} {h0 : Nat} {a0 : Nat → Nat} {o0 : Option Nat} {h1 : Nat} {a1 : Nat → Nat} {M0 : gS} {M1 : gS} {v : Int32} (h : va_P D vwCl ((boW cB cI cJ cZ h0 a0 o0 h1 a1 M0 M1).set 5 (h1, .inr (1, ([.int (mg M1 0), .ref (a1 1), .int (mg M1 2), .ref (a1 3), .int (mg M1 4), .ref (a1 5)]).set 2 (.int v)))) H) : va_P D vwCl (boW cB cI cJ cZ h0 a0 o0 h1 a1 M0 (sg M1 2 v)) H := h
theorem boD_1_f2 {A : Nat → Prop} {cB cI cJ cZ : ClassId} {h0 : Nat} {a0 : Nat → Nat} {o0 : Option Nat} {h1 : Nat} {a1 : Nat → Nat} {M0 : gS} {M1 : gS} {v : Int32} (h : va_D A ((boW cB cI cJ cZ h0 a0 o0 h1 a1 M0 M1).set 5 (h1, .inr (1, ([.int (mg M1 0), .ref (a1 1), .int (mg M1 2), .ref (a1 3), .int (mg M1 4), .ref (a1 5)]).set 2 (.int v))))) : va_D A (boW cB cI cJ cZ h0 a0 o0 h1 a1 M0 (sg M1 2 v)) := h
theorem boP_1_f4 {D : va_G} {H : Heap} {cB cI cJ cZ : ClassId} {h0 : Nat} {a0 : Nat → Nat} {o0 : Option Nat} {h1 : Nat} {a1 : Nat → Nat} {M0 : gS} {M1 : gS} {v : Int32} (h : va_P D vwCl ((boW cB cI cJ cZ h0 a0 o0 h1 a1 M0 M1).set 5 (h1, .inr (1, ([.int (mg M1 0), .ref (a1 1), .int (mg M1 2), .ref (a1 3), .int (mg M1 4), .ref (a1 5)]).set 4 (.int v)))) H) : va_P D vwCl (boW cB cI cJ cZ h0 a0 o0 h1 a1 M0 (sg M1 4 v)) H := h
theorem boD_1_f4 {A : Nat → Prop} {cB cI cJ cZ : ClassId} {h0 : Nat} {a0 : Nat → Nat} {o0 : Option Nat} {h1 : Nat} {a1 : Nat → Nat} {M0 : gS} {M1 : gS} {v : Int32} (h : va_D A ((boW cB cI cJ cZ h0 a0 o0 h1 a1 M0 M1).set 5 (h1, .inr (1, ([.int (mg M1 0), .ref (a1 1), .int (mg M1 2), .ref (a1 3), .int (mg M1 4), .ref (a1 5)]).set 4 (.int v))))) : va_D A (boW cB cI cJ cZ h0 a0 o0 h1 a1 M0 (sg M1 4 v)) := h
theorem boP_1_a1 {D : va_G} {H : Heap} {cB cI cJ cZ : ClassId} {h0 : Nat} {a0 : Nat → Nat} {o0 : Option Nat} {h1 : Nat} {a1 : Nat → Nat} {M0 : gS} {M1 : gS} {j : Nat} {v : Int32} (h : va_P D vwCl ((boW cB cI cJ cZ h0 a0 o0 h1 a1 M0 M1).set 6 (a1 1, .inl (cI, 4, .inl (upd (ma M1 1) j v)))) H) : va_P D vwCl (boW cB cI cJ cZ h0 a0 o0 h1 a1 M0 (sa M1 1 j v)) H := h
theorem boD_1_a1 {A : Nat → Prop} {cB cI cJ cZ : ClassId} {h0 : Nat} {a0 : Nat → Nat} {o0 : Option Nat} {h1 : Nat} {a1 : Nat → Nat} {M0 : gS} {M1 : gS} {j : Nat} {v : Int32} (h : va_D A ((boW cB cI cJ cZ h0 a0 o0 h1 a1 M0 M1).set 6 (a1 1, .inl (cI, 4, .inl (upd (ma M1 1) j v))))) : va_D A (boW cB cI cJ cZ h0 a0 o0 h1 a1 M0 (sa M1 1 j v)) := h
theorem boP_1_c1 {D : va_G} {H : Heap} {cB cI cJ cZ : ClassId} {h0 : Nat} {a0 : Nat → Nat} {o0 : Option Nat} {h1 : Nat} {a1 : Nat → Nat} {M0 : gS} {M1 : gS} {f : Nat → Int32} (h : va_P D vwCl ((boW cB cI cJ cZ h0 a0 o0 h1 a1 M0 M1).set 6 (a1 1, .inl (cI, 4, .inl f))) H) : va_P D vwCl (boW cB cI cJ cZ h0 a0 o0 h1 a1 M0 (sF M1 1 f)) H := h
theorem boD_1_c1 {A : Nat → Prop} {cB cI cJ cZ : ClassId} {h0 : Nat} {a0 : Nat → Nat} {o0 : Option Nat} {h1 : Nat} {a1 : Nat → Nat} {M0 : gS} {M1 : gS} {f : Nat → Int32} (h : va_D A ((boW cB cI cJ cZ h0 a0 o0 h1 a1 M0 M1).set 6 (a1 1, .inl (cI, 4, .inl f)))) : va_D A (boW cB cI cJ cZ h0 a0 o0 h1 a1 M0 (sF M1 1 f)) := h
theorem boP_1_a3 {D : va_G} {H : Heap} {cB cI cJ cZ : ClassId} {h0 : Nat} {a0 : Nat → Nat} {o0 : Option Nat} {h1 : Nat} {a1 : Nat → Nat} {M0 : gS} {M1 : gS} {j : Nat} {v : Int32} (h : va_P D vwCl ((boW cB cI cJ cZ h0 a0 o0 h1 a1 M0 M1).set 7 (a1 3, .inl (cI, 4, .inl (upd (ma M1 3) j v)))) H) : va_P D vwCl (boW cB cI cJ cZ h0 a0 o0 h1 a1 M0 (sa M1 3 j v)) H := h
theorem boD_1_a3 {A : Nat → Prop} {cB cI cJ cZ : ClassId} {h0 : Nat} {a0 : Nat → Nat} {o0 : Option Nat} {h1 : Nat} {a1 : Nat → Nat} {M0 : gS} {M1 : gS} {j : Nat} {v : Int32} (h : va_D A ((boW cB cI cJ cZ h0 a0 o0 h1 a1 M0 M1).set 7 (a1 3, .inl (cI, 4, .inl (upd (ma M1 3) j v))))) : va_D A (boW cB cI cJ cZ h0 a0 o0 h1 a1 M0 (sa M1 3 j v)) := h
theorem boP_1_c3 {D : va_G} {H : Heap} {cB cI cJ cZ : ClassId} {h0 : Nat} {a0 : Nat → Nat} {o0 : Option Nat} {h1 : Nat} {a1 : Nat → Nat} {M0 : gS} {M1 : gS} {f : Nat → Int32} (h : va_P D vwCl ((boW cB cI cJ cZ h0 a0 o0 h1 a1 M0 M1).set 7 (a1 3, .inl (cI, 4, .inl f))) H) : va_P D vwCl (boW cB cI cJ cZ h0 a0 o0 h1 a1 M0 (sF M1 3 f)) H := h
theorem boD_1_c3 {A : Nat → Prop} {cB cI cJ cZ : ClassId} {h0 : Nat} {a0 : Nat → Nat} {o0 : Option Nat} {h1 : Nat} {a1 : Nat → Nat} {M0 : gS} {M1 : gS} {f : Nat → Int32} (h : va_D A ((boW cB cI cJ cZ h0 a0 o0 h1 a1 M0 M1).set 7 (a1 3, .inl (cI, 4, .inl f)))) : va_D A (boW cB cI cJ cZ h0 a0 o0 h1 a1 M0 (sF M1 3 f)) := h
theorem boP_1_a5 {D : va_G} {H : Heap} {cB cI cJ cZ : ClassId} {h0 : Nat} {a0 : Nat → Nat} {o0 : Option Nat} {h1 : Nat} {a1 : Nat → Nat} {M0 : gS} {M1 : gS} {j : Nat} {v : Int32} (h : va_P D vwCl ((boW cB cI cJ cZ h0 a0 o0 h1 a1 M0 M1).set 8 (a1 5, .inl (cI, 2, .inl (upd (ma M1 5) j v)))) H) : va_P D vwCl (boW cB cI cJ cZ h0 a0 o0 h1 a1 M0 (sa M1 5 j v)) H := h
theorem boD_1_a5 {A : Nat → Prop} {cB cI cJ cZ : ClassId} {h0 : Nat} {a0 : Nat → Nat} {o0 : Option Nat} {h1 : Nat} {a1 : Nat → Nat} {M0 : gS} {M1 : gS} {j : Nat} {v : Int32} (h : va_D A ((boW cB cI cJ cZ h0 a0 o0 h1 a1 M0 M1).set 8 (a1 5, .inl (cI, 2, .inl (upd (ma M1 5) j v))))) : va_D A (boW cB cI cJ cZ h0 a0 o0 h1 a1 M0 (sa M1 5 j v)) := h
theorem boP_1_c5 {D : va_G} {H : Heap} {cB cI cJ cZ : ClassId} {h0 : Nat} {a0 : Nat → Nat} {o0 : Option Nat} {h1 : Nat} {a1 : Nat → Nat} {M0 : gS} {M1 : gS} {f : Nat → Int32} (h : va_P D vwCl ((boW cB cI cJ cZ h0 a0 o0 h1 a1 M0 M1).set 8 (a1 5, .inl (cI, 2, .inl f))) H) : va_P D vwCl (boW cB cI cJ cZ h0 a0 o0 h1 a1 M0 (sF M1 5 f)) H := h
theorem boD_1_c5 {A : Nat → Prop} {cB cI cJ cZ : ClassId} {h0 : Nat} {a0 : Nat → Nat} {o0 : Option Nat} {h1 : Nat} {a1 : Nat → Nat} {M0 : gS} {M1 : gS} {f : Nat → Int32} (h : va_D A ((boW cB cI cJ cZ h0 a0 o0 h1 a1 M0 M1).set 8 (a1 5, .inl (cI, 2, .inl f)))) : va_D A (boW cB cI cJ cZ h0 a0 o0 h1 a1 M0 (sF M1 5 f)) := h
theorem bopV {s : State} {dC : Nat → ClassId} {dI : Nat → Nat → Nat} {A : Nat → Prop} {cB cI cJ cZ : ClassId} {h0 : Nat} {a0 : Nat → Nat} {o0 : Option Nat} {h1 : Nat} {a1 : Nat → Nat} {M0 : gS} {M1 : gS} {H : Heap} {As : List Value} (hK : va_K (dC, dI) vwCl (gT cB cI cJ cZ) s) (hP : va_P (dC, dI) vwCl (boW cB cI cJ cZ h0 a0 o0 h1 a1 M0 M1) H) (hD : va_D A (boW cB cI cJ cZ h0 a0 o0 h1 a1 M0 M1)) : PreV s H RX0 h0 (va_Pc (.ref h0 :: As) (boI dC dI cB cI cJ cZ h0 a0 o0 h1 a1 M0 M1 H.size)) As := ⟨fun a U g mk q => by obtain ⟨q0, q1, qP, qK, qD⟩ := q; exact ⟨q0, q1, qP, va_K.moved (u := U) (U := U.calling g mk a) (Vm.Alike.refl U.vm) qK, qD⟩, va_recv hK hP (ci := 0) (q0 := 0) rfl rfl, fun U hU hW => ⟨rfl, by rw [hU], by rw [hU]; exact hP, va_K.moved hW.alike hK, hD.weaken (fun _ _ _ _ => trivial)⟩⟩
theorem bopS {s : State} {dC : Nat → ClassId} {dI : Nat → Nat → Nat} {A : Nat → Prop} {cB cI cJ cZ : ClassId} {h0 : Nat} {a0 : Nat → Nat} {o0 : Option Nat} {h1 : Nat} {a1 : Nat → Nat} {M0 : gS} {M1 : gS} {H : Heap} {As : List Value} (hK : va_K (dC, dI) vwCl (gT cB cI cJ cZ) s) (hP : va_P (dC, dI) vwCl (boW cB cI cJ cZ h0 a0 o0 h1 a1 M0 M1) H) (hD : va_D A (boW cB cI cJ cZ h0 a0 o0 h1 a1 M0 M1)) : PreS s H (va_Pc As (boI dC dI cB cI cJ cZ h0 a0 o0 h1 a1 M0 M1 H.size)) As := ⟨fun a U g mk q => by obtain ⟨q0, q1, qP, qK, qD⟩ := q; exact ⟨q0, q1, qP, va_K.moved (u := U) (U := U.calling g mk a) (Vm.Alike.refl U.vm) qK, qD⟩, fun U hU hW => ⟨rfl, by rw [hU], by rw [hU]; exact hP, va_K.moved hW.alike hK, hD.weaken (fun _ _ _ _ => trivial)⟩⟩

abbrev bqW (cB cI cJ cZ : ClassId) (h0 : Nat) (a0 : Nat → Nat) (o0 : Option Nat) (h1 : Nat) (a1 : Nat → Nat) (h2 : Nat) (a2 : Nat → Nat) (M0 : gS) (M1 : gS) (M2 : gS) : va_W := [(h0, .inr (0, [.ref (a0 0), .ref (a0 1), .ref (a0 2), .ref (a0 3), .int (mg M0 4), va_rf o0, .int (mg M0 6), .int (mg M0 7), .int (mg M0 8), .int (mg M0 9), .int (mg M0 10)])), (a0 0, .inl (cJ, 15, .inr (.inl (ml M0 0)))), (a0 1, .inl (cJ, 800, .inr (.inl (ml M0 1)))), (a0 2, .inl (cI, 4, .inl (ma M0 2))), (a0 3, .inl (cJ, 4, .inr (.inl (ml M0 3)))), (h1, .inr (1, [.int (mg M1 0), .ref (a1 1), .int (mg M1 2), .ref (a1 3), .int (mg M1 4), .ref (a1 5)])), (a1 1, .inl (cI, 4, .inl (ma M1 1))), (a1 3, .inl (cI, 4, .inl (ma M1 3))), (a1 5, .inl (cI, 2, .inl (ma M1 5))), (h2, .inr (6, [.int (mg M2 0), .int (mg M2 1), .int (mg M2 2), .int (mg M2 3), .int (mg M2 4), .int (mg M2 5), .int (mg M2 6), .ref (a2 7), .ref (a2 8), .ref (a2 9)])), (a2 7, .inl (cI, 2, .inl (ma M2 7))), (a2 8, .inl (cI, 2, .inl (ma M2 8))), (a2 9, .inl (cI, 2, .inl (ma M2 9)))]
abbrev bqI (dC : Nat → ClassId) (dI : Nat → Nat → Nat) (cB cI cJ cZ : ClassId) (h0 : Nat) (a0 : Nat → Nat) (o0 : Option Nat) (h1 : Nat) (a1 : Nat → Nat) (h2 : Nat) (a2 : Nat → Nat) (M0 : gS) (M1 : gS) (M2 : gS) (sz : Nat) : State → Prop := fun U => U.heap.size = sz ∧ va_P (dC, dI) vwCl (bqW cB cI cJ cZ h0 a0 o0 h1 a1 h2 a2 M0 M1 M2) U.heap ∧ va_K (dC, dI) vwCl (gT cB cI cJ cZ) U ∧ va_D (fun _ => True) (bqW cB cI cJ cZ h0 a0 o0 h1 a1 h2 a2 M0 M1 M2)
abbrev bqB (dC : Nat → ClassId) (dI : Nat → Nat → Nat) (cB cI cJ cZ : ClassId) (h0 : Nat) (a0 : Nat → Nat) (o0 : Option Nat) (h1 : Nat) (a1 : Nat → Nat) (h2 : Nat) (a2 : Nat → Nat) (A : Nat → Prop) (u : gS × gS × gS) (t : State) : Prop := match u with
  | (M0, M1, M2) => va_P (dC, dI) vwCl (bqW cB cI cJ cZ h0 a0 o0 h1 a1 h2 a2 M0 M1 M2) t.heap ∧ va_K (dC, dI) vwCl (gT cB cI cJ cZ) t ∧ va_D A (bqW cB cI cJ cZ h0 a0 o0 h1 a1 h2 a2 M0 M1 M2)
theorem bqP_0_f4 {D : va_G} {H : Heap} {cB cI cJ cZ : ClassId} {h0 : Nat} {a0 : Nat → Nat} {o0 : Option Nat} {h1 : Nat} {a1 : Nat → Nat} {h2 : Nat} {a2 : Nat → Nat} {M0 : gS} {M1 : gS} {M2 : gS} {v : Int32} (h : va_P D vwCl ((bqW cB cI cJ cZ h0 a0 o0 h1 a1 h2 a2 M0 M1 M2).set 0 (h0, .inr (0, ([.ref (a0 0), .ref (a0 1), .ref (a0 2), .ref (a0 3), .int (mg M0 4), va_rf o0, .int (mg M0 6), .int (mg M0 7), .int (mg M0 8), .int (mg M0 9), .int (mg M0 10)]).set 4 (.int v)))) H) : va_P D vwCl (bqW cB cI cJ cZ h0 a0 o0 h1 a1 h2 a2 (sg M0 4 v) M1 M2) H := h
theorem bqD_0_f4 {A : Nat → Prop} {cB cI cJ cZ : ClassId} {h0 : Nat} {a0 : Nat → Nat} {o0 : Option Nat} {h1 : Nat} {a1 : Nat → Nat} {h2 : Nat} {a2 : Nat → Nat} {M0 : gS} {M1 : gS} {M2 : gS} {v : Int32} (h : va_D A ((bqW cB cI cJ cZ h0 a0 o0 h1 a1 h2 a2 M0 M1 M2).set 0 (h0, .inr (0, ([.ref (a0 0), .ref (a0 1), .ref (a0 2), .ref (a0 3), .int (mg M0 4), va_rf o0, .int (mg M0 6), .int (mg M0 7), .int (mg M0 8), .int (mg M0 9), .int (mg M0 10)]).set 4 (.int v))))) : va_D A (bqW cB cI cJ cZ h0 a0 o0 h1 a1 h2 a2 (sg M0 4 v) M1 M2) := h
theorem bqP_0_f5 {D : va_G} {H : Heap} {cB cI cJ cZ : ClassId} {h0 : Nat} {a0 : Nat → Nat} {o0 : Option Nat} {h1 : Nat} {a1 : Nat → Nat} {h2 : Nat} {a2 : Nat → Nat} {M0 : gS} {M1 : gS} {M2 : gS} {v : Nat} (h : va_P D vwCl ((bqW cB cI cJ cZ h0 a0 o0 h1 a1 h2 a2 M0 M1 M2).set 0 (h0, .inr (0, ([.ref (a0 0), .ref (a0 1), .ref (a0 2), .ref (a0 3), .int (mg M0 4), va_rf o0, .int (mg M0 6), .int (mg M0 7), .int (mg M0 8), .int (mg M0 9), .int (mg M0 10)]).set 5 (.ref v)))) H) : va_P D vwCl (bqW cB cI cJ cZ h0 a0 (some v) h1 a1 h2 a2 M0 M1 M2) H := h
theorem bqD_0_f5 {A : Nat → Prop} {cB cI cJ cZ : ClassId} {h0 : Nat} {a0 : Nat → Nat} {o0 : Option Nat} {h1 : Nat} {a1 : Nat → Nat} {h2 : Nat} {a2 : Nat → Nat} {M0 : gS} {M1 : gS} {M2 : gS} {v : Nat} (h : va_D A ((bqW cB cI cJ cZ h0 a0 o0 h1 a1 h2 a2 M0 M1 M2).set 0 (h0, .inr (0, ([.ref (a0 0), .ref (a0 1), .ref (a0 2), .ref (a0 3), .int (mg M0 4), va_rf o0, .int (mg M0 6), .int (mg M0 7), .int (mg M0 8), .int (mg M0 9), .int (mg M0 10)]).set 5 (.ref v))))) : va_D A (bqW cB cI cJ cZ h0 a0 (some v) h1 a1 h2 a2 M0 M1 M2) := h
theorem bqP_0_f6 {D : va_G} {H : Heap} {cB cI cJ cZ : ClassId} {h0 : Nat} {a0 : Nat → Nat} {o0 : Option Nat} {h1 : Nat} {a1 : Nat → Nat} {h2 : Nat} {a2 : Nat → Nat} {M0 : gS} {M1 : gS} {M2 : gS} {v : Int32} (h : va_P D vwCl ((bqW cB cI cJ cZ h0 a0 o0 h1 a1 h2 a2 M0 M1 M2).set 0 (h0, .inr (0, ([.ref (a0 0), .ref (a0 1), .ref (a0 2), .ref (a0 3), .int (mg M0 4), va_rf o0, .int (mg M0 6), .int (mg M0 7), .int (mg M0 8), .int (mg M0 9), .int (mg M0 10)]).set 6 (.int v)))) H) : va_P D vwCl (bqW cB cI cJ cZ h0 a0 o0 h1 a1 h2 a2 (sg M0 6 v) M1 M2) H := h
theorem bqD_0_f6 {A : Nat → Prop} {cB cI cJ cZ : ClassId} {h0 : Nat} {a0 : Nat → Nat} {o0 : Option Nat} {h1 : Nat} {a1 : Nat → Nat} {h2 : Nat} {a2 : Nat → Nat} {M0 : gS} {M1 : gS} {M2 : gS} {v : Int32} (h : va_D A ((bqW cB cI cJ cZ h0 a0 o0 h1 a1 h2 a2 M0 M1 M2).set 0 (h0, .inr (0, ([.ref (a0 0), .ref (a0 1), .ref (a0 2), .ref (a0 3), .int (mg M0 4), va_rf o0, .int (mg M0 6), .int (mg M0 7), .int (mg M0 8), .int (mg M0 9), .int (mg M0 10)]).set 6 (.int v))))) : va_D A (bqW cB cI cJ cZ h0 a0 o0 h1 a1 h2 a2 (sg M0 6 v) M1 M2) := h
theorem bqP_0_f7 {D : va_G} {H : Heap} {cB cI cJ cZ : ClassId} {h0 : Nat} {a0 : Nat → Nat} {o0 : Option Nat} {h1 : Nat} {a1 : Nat → Nat} {h2 : Nat} {a2 : Nat → Nat} {M0 : gS} {M1 : gS} {M2 : gS} {v : Int32} (h : va_P D vwCl ((bqW cB cI cJ cZ h0 a0 o0 h1 a1 h2 a2 M0 M1 M2).set 0 (h0, .inr (0, ([.ref (a0 0), .ref (a0 1), .ref (a0 2), .ref (a0 3), .int (mg M0 4), va_rf o0, .int (mg M0 6), .int (mg M0 7), .int (mg M0 8), .int (mg M0 9), .int (mg M0 10)]).set 7 (.int v)))) H) : va_P D vwCl (bqW cB cI cJ cZ h0 a0 o0 h1 a1 h2 a2 (sg M0 7 v) M1 M2) H := h
theorem bqD_0_f7 {A : Nat → Prop} {cB cI cJ cZ : ClassId} {h0 : Nat} {a0 : Nat → Nat} {o0 : Option Nat} {h1 : Nat} {a1 : Nat → Nat} {h2 : Nat} {a2 : Nat → Nat} {M0 : gS} {M1 : gS} {M2 : gS} {v : Int32} (h : va_D A ((bqW cB cI cJ cZ h0 a0 o0 h1 a1 h2 a2 M0 M1 M2).set 0 (h0, .inr (0, ([.ref (a0 0), .ref (a0 1), .ref (a0 2), .ref (a0 3), .int (mg M0 4), va_rf o0, .int (mg M0 6), .int (mg M0 7), .int (mg M0 8), .int (mg M0 9), .int (mg M0 10)]).set 7 (.int v))))) : va_D A (bqW cB cI cJ cZ h0 a0 o0 h1 a1 h2 a2 (sg M0 7 v) M1 M2) := h
theorem bqP_0_f8 {D : va_G} {H : Heap} {cB cI cJ cZ : ClassId} {h0 : Nat} {a0 : Nat → Nat} {o0 : Option Nat} {h1 : Nat} {a1 : Nat → Nat} {h2 : Nat} {a2 : Nat → Nat} {M0 : gS} {M1 : gS} {M2 : gS} {v : Int32} (h : va_P D vwCl ((bqW cB cI cJ cZ h0 a0 o0 h1 a1 h2 a2 M0 M1 M2).set 0 (h0, .inr (0, ([.ref (a0 0), .ref (a0 1), .ref (a0 2), .ref (a0 3), .int (mg M0 4), va_rf o0, .int (mg M0 6), .int (mg M0 7), .int (mg M0 8), .int (mg M0 9), .int (mg M0 10)]).set 8 (.int v)))) H) : va_P D vwCl (bqW cB cI cJ cZ h0 a0 o0 h1 a1 h2 a2 (sg M0 8 v) M1 M2) H := h
theorem bqD_0_f8 {A : Nat → Prop} {cB cI cJ cZ : ClassId} {h0 : Nat} {a0 : Nat → Nat} {o0 : Option Nat} {h1 : Nat} {a1 : Nat → Nat} {h2 : Nat} {a2 : Nat → Nat} {M0 : gS} {M1 : gS} {M2 : gS} {v : Int32} (h : va_D A ((bqW cB cI cJ cZ h0 a0 o0 h1 a1 h2 a2 M0 M1 M2).set 0 (h0, .inr (0, ([.ref (a0 0), .ref (a0 1), .ref (a0 2), .ref (a0 3), .int (mg M0 4), va_rf o0, .int (mg M0 6), .int (mg M0 7), .int (mg M0 8), .int (mg M0 9), .int (mg M0 10)]).set 8 (.int v))))) : va_D A (bqW cB cI cJ cZ h0 a0 o0 h1 a1 h2 a2 (sg M0 8 v) M1 M2) := h
theorem bqP_0_f9 {D : va_G} {H : Heap} {cB cI cJ cZ : ClassId} {h0 : Nat} {a0 : Nat → Nat} {o0 : Option Nat} {h1 : Nat} {a1 : Nat → Nat} {h2 : Nat} {a2 : Nat → Nat} {M0 : gS} {M1 : gS} {M2 : gS} {v : Int32} (h : va_P D vwCl ((bqW cB cI cJ cZ h0 a0 o0 h1 a1 h2 a2 M0 M1 M2).set 0 (h0, .inr (0, ([.ref (a0 0), .ref (a0 1), .ref (a0 2), .ref (a0 3), .int (mg M0 4), va_rf o0, .int (mg M0 6), .int (mg M0 7), .int (mg M0 8), .int (mg M0 9), .int (mg M0 10)]).set 9 (.int v)))) H) : va_P D vwCl (bqW cB cI cJ cZ h0 a0 o0 h1 a1 h2 a2 (sg M0 9 v) M1 M2) H := h
theorem bqD_0_f9 {A : Nat → Prop} {cB cI cJ cZ : ClassId} {h0 : Nat} {a0 : Nat → Nat} {o0 : Option Nat} {h1 : Nat} {a1 : Nat → Nat} {h2 : Nat} {a2 : Nat → Nat} {M0 : gS} {M1 : gS} {M2 : gS} {v : Int32} (h : va_D A ((bqW cB cI cJ cZ h0 a0 o0 h1 a1 h2 a2 M0 M1 M2).set 0 (h0, .inr (0, ([.ref (a0 0), .ref (a0 1), .ref (a0 2), .ref (a0 3), .int (mg M0 4), va_rf o0, .int (mg M0 6), .int (mg M0 7), .int (mg M0 8), .int (mg M0 9), .int (mg M0 10)]).set 9 (.int v))))) : va_D A (bqW cB cI cJ cZ h0 a0 o0 h1 a1 h2 a2 (sg M0 9 v) M1 M2) := h
theorem bqP_0_f10 {D : va_G} {H : Heap} {cB cI cJ cZ : ClassId} {h0 : Nat} {a0 : Nat → Nat} {o0 : Option Nat} {h1 : Nat} {a1 : Nat → Nat} {h2 : Nat} {a2 : Nat → Nat} {M0 : gS} {M1 : gS} {M2 : gS} {v : Int32} (h : va_P D vwCl ((bqW cB cI cJ cZ h0 a0 o0 h1 a1 h2 a2 M0 M1 M2).set 0 (h0, .inr (0, ([.ref (a0 0), .ref (a0 1), .ref (a0 2), .ref (a0 3), .int (mg M0 4), va_rf o0, .int (mg M0 6), .int (mg M0 7), .int (mg M0 8), .int (mg M0 9), .int (mg M0 10)]).set 10 (.int v)))) H) : va_P D vwCl (bqW cB cI cJ cZ h0 a0 o0 h1 a1 h2 a2 (sg M0 10 v) M1 M2) H := h
theorem bqD_0_f10 {A : Nat → Prop} {cB cI cJ cZ : ClassId} {h0 : Nat} {a0 : Nat → Nat} {o0 : Option Nat} {h1 : Nat} {a1 : Nat → Nat} {h2 : Nat} {a2 : Nat → Nat} {M0 : gS} {M1 : gS} {M2 : gS} {v : Int32} (h : va_D A ((bqW cB cI cJ cZ h0 a0 o0 h1 a1 h2 a2 M0 M1 M2).set 0 (h0, .inr (0, ([.ref (a0 0), .ref (a0 1), .ref (a0 2), .ref (a0 3), .int (mg M0 4), va_rf o0, .int (mg M0 6), .int (mg M0 7), .int (mg M0 8), .int (mg M0 9), .int (mg M0 10)]).set 10 (.int v))))) : va_D A (bqW cB cI cJ cZ h0 a0 o0 h1 a1 h2 a2 (sg M0 10 v) M1 M2) := h
theorem bqP_0_a0 {D : va_G} {H : Heap} {cB cI cJ cZ : ClassId} {h0 : Nat} {a0 : Nat → Nat} {o0 : Option Nat} {h1 : Nat} {a1 : Nat → Nat} {h2 : Nat} {a2 : Nat → Nat} {M0 : gS} {M1 : gS} {M2 : gS} {j : Nat} {v : Int64} (h : va_P D vwCl ((bqW cB cI cJ cZ h0 a0 o0 h1 a1 h2 a2 M0 M1 M2).set 1 (a0 0, .inl (cJ, 15, .inr (.inl (vp_updL (ml M0 0) j v))))) H) : va_P D vwCl (bqW cB cI cJ cZ h0 a0 o0 h1 a1 h2 a2 (sl M0 0 j v) M1 M2) H := h
theorem bqD_0_a0 {A : Nat → Prop} {cB cI cJ cZ : ClassId} {h0 : Nat} {a0 : Nat → Nat} {o0 : Option Nat} {h1 : Nat} {a1 : Nat → Nat} {h2 : Nat} {a2 : Nat → Nat} {M0 : gS} {M1 : gS} {M2 : gS} {j : Nat} {v : Int64} (h : va_D A ((bqW cB cI cJ cZ h0 a0 o0 h1 a1 h2 a2 M0 M1 M2).set 1 (a0 0, .inl (cJ, 15, .inr (.inl (vp_updL (ml M0 0) j v)))))) : va_D A (bqW cB cI cJ cZ h0 a0 o0 h1 a1 h2 a2 (sl M0 0 j v) M1 M2) := h
theorem bqP_0_a1 {D : va_G} {H : Heap} {cB cI cJ cZ : ClassId} {h0 : Nat} {a0 : Nat → Nat} {o0 : Option Nat} {h1 : Nat} {a1 : Nat → Nat} {h2 : Nat} {a2 : Nat → Nat} {M0 : gS} {M1 : gS} {M2 : gS} {j : Nat} {v : Int64} (h : va_P D vwCl ((bqW cB cI cJ cZ h0 a0 o0 h1 a1 h2 a2 M0 M1 M2).set 2 (a0 1, .inl (cJ, 800, .inr (.inl (vp_updL (ml M0 1) j v))))) H) : va_P D vwCl (bqW cB cI cJ cZ h0 a0 o0 h1 a1 h2 a2 (sl M0 1 j v) M1 M2) H := h
theorem bqD_0_a1 {A : Nat → Prop} {cB cI cJ cZ : ClassId} {h0 : Nat} {a0 : Nat → Nat} {o0 : Option Nat} {h1 : Nat} {a1 : Nat → Nat} {h2 : Nat} {a2 : Nat → Nat} {M0 : gS} {M1 : gS} {M2 : gS} {j : Nat} {v : Int64} (h : va_D A ((bqW cB cI cJ cZ h0 a0 o0 h1 a1 h2 a2 M0 M1 M2).set 2 (a0 1, .inl (cJ, 800, .inr (.inl (vp_updL (ml M0 1) j v)))))) : va_D A (bqW cB cI cJ cZ h0 a0 o0 h1 a1 h2 a2 (sl M0 1 j v) M1 M2) := h
theorem bqP_0_a2 {D : va_G} {H : Heap} {cB cI cJ cZ : ClassId} {h0 : Nat} {a0 : Nat → Nat} {o0 : Option Nat} {h1 : Nat} {a1 : Nat → Nat} {h2 : Nat} {a2 : Nat → Nat} {M0 : gS} {M1 : gS} {M2 : gS} {j : Nat} {v : Int32} (h : va_P D vwCl ((bqW cB cI cJ cZ h0 a0 o0 h1 a1 h2 a2 M0 M1 M2).set 3 (a0 2, .inl (cI, 4, .inl (upd (ma M0 2) j v)))) H) : va_P D vwCl (bqW cB cI cJ cZ h0 a0 o0 h1 a1 h2 a2 (sa M0 2 j v) M1 M2) H := h
theorem bqD_0_a2 {A : Nat → Prop} {cB cI cJ cZ : ClassId} {h0 : Nat} {a0 : Nat → Nat} {o0 : Option Nat} {h1 : Nat} {a1 : Nat → Nat} {h2 : Nat} {a2 : Nat → Nat} {M0 : gS} {M1 : gS} {M2 : gS} {j : Nat} {v : Int32} (h : va_D A ((bqW cB cI cJ cZ h0 a0 o0 h1 a1 h2 a2 M0 M1 M2).set 3 (a0 2, .inl (cI, 4, .inl (upd (ma M0 2) j v))))) : va_D A (bqW cB cI cJ cZ h0 a0 o0 h1 a1 h2 a2 (sa M0 2 j v) M1 M2) := h
theorem bqP_0_c2 {D : va_G} {H : Heap} {cB cI cJ cZ : ClassId} {h0 : Nat} {a0 : Nat → Nat} {o0 : Option Nat} {h1 : Nat} {a1 : Nat → Nat} {h2 : Nat} {a2 : Nat → Nat} {M0 : gS} {M1 : gS} {M2 : gS} {f : Nat → Int32} (h : va_P D vwCl ((bqW cB cI cJ cZ h0 a0 o0 h1 a1 h2 a2 M0 M1 M2).set 3 (a0 2, .inl (cI, 4, .inl f))) H) : va_P D vwCl (bqW cB cI cJ cZ h0 a0 o0 h1 a1 h2 a2 (sF M0 2 f) M1 M2) H := h
theorem bqD_0_c2 {A : Nat → Prop} {cB cI cJ cZ : ClassId} {h0 : Nat} {a0 : Nat → Nat} {o0 : Option Nat} {h1 : Nat} {a1 : Nat → Nat} {h2 : Nat} {a2 : Nat → Nat} {M0 : gS} {M1 : gS} {M2 : gS} {f : Nat → Int32} (h : va_D A ((bqW cB cI cJ cZ h0 a0 o0 h1 a1 h2 a2 M0 M1 M2).set 3 (a0 2, .inl (cI, 4, .inl f)))) : va_D A (bqW cB cI cJ cZ h0 a0 o0 h1 a1 h2 a2 (sF M0 2 f) M1 M2) := h
theorem bqP_0_a3 {D : va_G} {H : Heap} {cB cI cJ cZ : ClassId} {h0 : Nat} {a0 : Nat → Nat} {o0 : Option Nat} {h1 : Nat} {a1 : Nat → Nat} {h2 : Nat} {a2 : Nat → Nat} {M0 : gS} {M1 : gS} {M2 : gS} {j : Nat} {v : Int64} (h : va_P D vwCl ((bqW cB cI cJ cZ h0 a0 o0 h1 a1 h2 a2 M0 M1 M2).set 4 (a0 3, .inl (cJ, 4, .inr (.inl (vp_updL (ml M0 3) j v))))) H) : va_P D vwCl (bqW cB cI cJ cZ h0 a0 o0 h1 a1 h2 a2 (sl M0 3 j v) M1 M2) H := h
theorem bqD_0_a3 {A : Nat → Prop} {cB cI cJ cZ : ClassId} {h0 : Nat} {a0 : Nat → Nat} {o0 : Option Nat} {h1 : Nat} {a1 : Nat → Nat} {h2 : Nat} {a2 : Nat → Nat} {M0 : gS} {M1 : gS} {M2 : gS} {j : Nat} {v : Int64} (h : va_D A ((bqW cB cI cJ cZ h0 a0 o0 h1 a1 h2 a2 M0 M1 M2).set 4 (a0 3, .inl (cJ, 4, .inr (.inl (vp_updL (ml M0 3) j v)))))) : va_D A (bqW cB cI cJ cZ h0 a0 o0 h1 a1 h2 a2 (sl M0 3 j v) M1 M2) := h
theorem bqP_1_f0 {D : va_G} {H : Heap} {cB cI cJ cZ : ClassId} {h0 : Nat} {a0 : Nat → Nat} {o0 : Option Nat} {h1 : Nat} {a1 : Nat → Nat} {h2 : Nat} {a2 : Nat → Nat} {M0 : gS} {M1 : gS} {M2 : gS} {v : Int32} (h : va_P D vwCl ((bqW cB cI cJ cZ h0 a0 o0 h1 a1 h2 a2 M0 M1 M2).set 5 (h1, .inr (1, ([.int (mg M1 0), .ref (a1 1), .int (mg M1 2), .ref (a1 3), .int (mg M1 4), .ref (a1 5)]).set 0 (.int v)))) H) : va_P D vwCl (bqW cB cI cJ cZ h0 a0 o0 h1 a1 h2 a2 M0 (sg M1 0 v) M2) H := h
theorem bqD_1_f0 {A : Nat → Prop} {cB cI cJ cZ : ClassId} {h0 : Nat} {a0 : Nat → Nat} {o0 : Option Nat} {h1 : Nat} {a1 : Nat → Nat} {h2 : Nat} {a2 : Nat → Nat} {M0 : gS} {M1 : gS} {M2 : gS} {v : Int32} (h : va_D A ((bqW cB cI cJ cZ h0 a0 o0 h1 a1 h2 a2 M0 M1 M2).set 5 (h1, .inr (1, ([.int (mg M1 0), .ref (a1 1), .int (mg M1 2), .ref (a1 3), .int (mg M1 4), .ref (a1 5)]).set 0 (.int v))))) : va_D A (bqW cB cI cJ cZ h0 a0 o0 h1 a1 h2 a2 M0 (sg M1 0 v) M2) := h
theorem bqP_1_f2 {D : va_G} {H : Heap} {cB cI cJ cZ : ClassId} {h0 : Nat} {a0 : Nat → Nat} {o0 : Option Nat} {h1 : Nat} {a1 : Nat → Nat} {h2 : Nat} {a2 : Nat → Nat} {M0 : gS} {M1 : gS} {M2 : gS} {v : Int32} (h : va_P D vwCl ((bqW cB cI cJ cZ h0 a0 o0 h1 a1 h2 a2 M0 M1 M2).set 5 (h1, .inr (1, ([.int (mg M1 0), .ref (a1 1), .int (mg M1 2), .ref (a1 3), .int (mg M1 4), .ref (a1 5)]).set 2 (.int v)))) H) : va_P D vwCl (bqW cB cI cJ cZ h0 a0 o0 h1 a1 h2 a2 M0 (sg M1 2 v) M2) H := h
theorem bqD_1_f2 {A : Nat → Prop} {cB cI cJ cZ : ClassId} {h0 : Nat} {a0 : Nat → Nat} {o0 : Option Nat} {h1 : Nat} {a1 : Nat → Nat} {h2 : Nat} {a2 : Nat → Nat} {M0 : gS} {M1 : gS} {M2 : gS} {v : Int32} (h : va_D A ((bqW cB cI cJ cZ h0 a0 o0 h1 a1 h2 a2 M0 M1 M2).set 5 (h1, .inr (1, ([.int (mg M1 0), .ref (a1 1), .int (mg M1 2), .ref (a1 3), .int (mg M1 4), .ref (a1 5)]).set 2 (.int v))))) : va_D A (bqW cB cI cJ cZ h0 a0 o0 h1 a1 h2 a2 M0 (sg M1 2 v) M2) := h
theorem bqP_1_f4 {D : va_G} {H : Heap} {cB cI cJ cZ : ClassId} {h0 : Nat} {a0 : Nat → Nat} {o0 : Option Nat} {h1 : Nat} {a1 : Nat → Nat} {h2 : Nat} {a2 : Nat → Nat} {M0 : gS} {M1 : gS} {M2 : gS} {v : Int32} (h : va_P D vwCl ((bqW cB cI cJ cZ h0 a0 o0 h1 a1 h2 a2 M0 M1 M2).set 5 (h1, .inr (1, ([.int (mg M1 0), .ref (a1 1), .int (mg M1 2), .ref (a1 3), .int (mg M1 4), .ref (a1 5)]).set 4 (.int v)))) H) : va_P D vwCl (bqW cB cI cJ cZ h0 a0 o0 h1 a1 h2 a2 M0 (sg M1 4 v) M2) H := h
theorem bqD_1_f4 {A : Nat → Prop} {cB cI cJ cZ : ClassId} {h0 : Nat} {a0 : Nat → Nat} {o0 : Option Nat} {h1 : Nat} {a1 : Nat → Nat} {h2 : Nat} {a2 : Nat → Nat} {M0 : gS} {M1 : gS} {M2 : gS} {v : Int32} (h : va_D A ((bqW cB cI cJ cZ h0 a0 o0 h1 a1 h2 a2 M0 M1 M2).set 5 (h1, .inr (1, ([.int (mg M1 0), .ref (a1 1), .int (mg M1 2), .ref (a1 3), .int (mg M1 4), .ref (a1 5)]).set 4 (.int v))))) : va_D A (bqW cB cI cJ cZ h0 a0 o0 h1 a1 h2 a2 M0 (sg M1 4 v) M2) := h
theorem bqP_1_a1 {D : va_G} {H : Heap} {cB cI cJ cZ : ClassId} {h0 : Nat} {a0 : Nat → Nat} {o0 : Option Nat} {h1 : Nat} {a1 : Nat → Nat} {h2 : Nat} {a2 : Nat → Nat} {M0 : gS} {M1 : gS} {M2 : gS} {j : Nat} {v : Int32} (h : va_P D vwCl ((bqW cB cI cJ cZ h0 a0 o0 h1 a1 h2 a2 M0 M1 M2).set 6 (a1 1, .inl (cI, 4, .inl (upd (ma M1 1) j v)))) H) : va_P D vwCl (bqW cB cI cJ cZ h0 a0 o0 h1 a1 h2 a2 M0 (sa M1 1 j v) M2) H := h
theorem bqD_1_a1 {A : Nat → Prop} {cB cI cJ cZ : ClassId} {h0 : Nat} {a0 : Nat → Nat} {o0 : Option Nat} {h1 : Nat} {a1 : Nat → Nat} {h2 : Nat} {a2 : Nat → Nat} {M0 : gS} {M1 : gS} {M2 : gS} {j : Nat} {v : Int32} (h : va_D A ((bqW cB cI cJ cZ h0 a0 o0 h1 a1 h2 a2 M0 M1 M2).set 6 (a1 1, .inl (cI, 4, .inl (upd (ma M1 1) j v))))) : va_D A (bqW cB cI cJ cZ h0 a0 o0 h1 a1 h2 a2 M0 (sa M1 1 j v) M2) := h
theorem bqP_1_c1 {D : va_G} {H : Heap} {cB cI cJ cZ : ClassId} {h0 : Nat} {a0 : Nat → Nat} {o0 : Option Nat} {h1 : Nat} {a1 : Nat → Nat} {h2 : Nat} {a2 : Nat → Nat} {M0 : gS} {M1 : gS} {M2 : gS} {f : Nat → Int32} (h : va_P D vwCl ((bqW cB cI cJ cZ h0 a0 o0 h1 a1 h2 a2 M0 M1 M2).set 6 (a1 1, .inl (cI, 4, .inl f))) H) : va_P D vwCl (bqW cB cI cJ cZ h0 a0 o0 h1 a1 h2 a2 M0 (sF M1 1 f) M2) H := h
theorem bqD_1_c1 {A : Nat → Prop} {cB cI cJ cZ : ClassId} {h0 : Nat} {a0 : Nat → Nat} {o0 : Option Nat} {h1 : Nat} {a1 : Nat → Nat} {h2 : Nat} {a2 : Nat → Nat} {M0 : gS} {M1 : gS} {M2 : gS} {f : Nat → Int32} (h : va_D A ((bqW cB cI cJ cZ h0 a0 o0 h1 a1 h2 a2 M0 M1 M2).set 6 (a1 1, .inl (cI, 4, .inl f)))) : va_D A (bqW cB cI cJ cZ h0 a0 o0 h1 a1 h2 a2 M0 (sF M1 1 f) M2) := h
theorem bqP_1_a3 {D : va_G} {H : Heap} {cB cI cJ cZ : ClassId} {h0 : Nat} {a0 : Nat → Nat} {o0 : Option Nat} {h1 : Nat} {a1 : Nat → Nat} {h2 : Nat} {a2 : Nat → Nat} {M0 : gS} {M1 : gS} {M2 : gS} {j : Nat} {v : Int32} (h : va_P D vwCl ((bqW cB cI cJ cZ h0 a0 o0 h1 a1 h2 a2 M0 M1 M2).set 7 (a1 3, .inl (cI, 4, .inl (upd (ma M1 3) j v)))) H) : va_P D vwCl (bqW cB cI cJ cZ h0 a0 o0 h1 a1 h2 a2 M0 (sa M1 3 j v) M2) H := h
theorem bqD_1_a3 {A : Nat → Prop} {cB cI cJ cZ : ClassId} {h0 : Nat} {a0 : Nat → Nat} {o0 : Option Nat} {h1 : Nat} {a1 : Nat → Nat} {h2 : Nat} {a2 : Nat → Nat} {M0 : gS} {M1 : gS} {M2 : gS} {j : Nat} {v : Int32} (h : va_D A ((bqW cB cI cJ cZ h0 a0 o0 h1 a1 h2 a2 M0 M1 M2).set 7 (a1 3, .inl (cI, 4, .inl (upd (ma M1 3) j v))))) : va_D A (bqW cB cI cJ cZ h0 a0 o0 h1 a1 h2 a2 M0 (sa M1 3 j v) M2) := h
theorem bqP_1_c3 {D : va_G} {H : Heap} {cB cI cJ cZ : ClassId} {h0 : Nat} {a0 : Nat → Nat} {o0 : Option Nat} {h1 : Nat} {a1 : Nat → Nat} {h2 : Nat} {a2 : Nat → Nat} {M0 : gS} {M1 : gS} {M2 : gS} {f : Nat → Int32} (h : va_P D vwCl ((bqW cB cI cJ cZ h0 a0 o0 h1 a1 h2 a2 M0 M1 M2).set 7 (a1 3, .inl (cI, 4, .inl f))) H) : va_P D vwCl (bqW cB cI cJ cZ h0 a0 o0 h1 a1 h2 a2 M0 (sF M1 3 f) M2) H := h
theorem bqD_1_c3 {A : Nat → Prop} {cB cI cJ cZ : ClassId} {h0 : Nat} {a0 : Nat → Nat} {o0 : Option Nat} {h1 : Nat} {a1 : Nat → Nat} {h2 : Nat} {a2 : Nat → Nat} {M0 : gS} {M1 : gS} {M2 : gS} {f : Nat → Int32} (h : va_D A ((bqW cB cI cJ cZ h0 a0 o0 h1 a1 h2 a2 M0 M1 M2).set 7 (a1 3, .inl (cI, 4, .inl f)))) : va_D A (bqW cB cI cJ cZ h0 a0 o0 h1 a1 h2 a2 M0 (sF M1 3 f) M2) := h
theorem bqP_1_a5 {D : va_G} {H : Heap} {cB cI cJ cZ : ClassId} {h0 : Nat} {a0 : Nat → Nat} {o0 : Option Nat} {h1 : Nat} {a1 : Nat → Nat} {h2 : Nat} {a2 : Nat → Nat} {M0 : gS} {M1 : gS} {M2 : gS} {j : Nat} {v : Int32} (h : va_P D vwCl ((bqW cB cI cJ cZ h0 a0 o0 h1 a1 h2 a2 M0 M1 M2).set 8 (a1 5, .inl (cI, 2, .inl (upd (ma M1 5) j v)))) H) : va_P D vwCl (bqW cB cI cJ cZ h0 a0 o0 h1 a1 h2 a2 M0 (sa M1 5 j v) M2) H := h
theorem bqD_1_a5 {A : Nat → Prop} {cB cI cJ cZ : ClassId} {h0 : Nat} {a0 : Nat → Nat} {o0 : Option Nat} {h1 : Nat} {a1 : Nat → Nat} {h2 : Nat} {a2 : Nat → Nat} {M0 : gS} {M1 : gS} {M2 : gS} {j : Nat} {v : Int32} (h : va_D A ((bqW cB cI cJ cZ h0 a0 o0 h1 a1 h2 a2 M0 M1 M2).set 8 (a1 5, .inl (cI, 2, .inl (upd (ma M1 5) j v))))) : va_D A (bqW cB cI cJ cZ h0 a0 o0 h1 a1 h2 a2 M0 (sa M1 5 j v) M2) := h
theorem bqP_1_c5 {D : va_G} {H : Heap} {cB cI cJ cZ : ClassId} {h0 : Nat} {a0 : Nat → Nat} {o0 : Option Nat} {h1 : Nat} {a1 : Nat → Nat} {h2 : Nat} {a2 : Nat → Nat} {M0 : gS} {M1 : gS} {M2 : gS} {f : Nat → Int32} (h : va_P D vwCl ((bqW cB cI cJ cZ h0 a0 o0 h1 a1 h2 a2 M0 M1 M2).set 8 (a1 5, .inl (cI, 2, .inl f))) H) : va_P D vwCl (bqW cB cI cJ cZ h0 a0 o0 h1 a1 h2 a2 M0 (sF M1 5 f) M2) H := h
theorem bqD_1_c5 {A : Nat → Prop} {cB cI cJ cZ : ClassId} {h0 : Nat} {a0 : Nat → Nat} {o0 : Option Nat} {h1 : Nat} {a1 : Nat → Nat} {h2 : Nat} {a2 : Nat → Nat} {M0 : gS} {M1 : gS} {M2 : gS} {f : Nat → Int32} (h : va_D A ((bqW cB cI cJ cZ h0 a0 o0 h1 a1 h2 a2 M0 M1 M2).set 8 (a1 5, .inl (cI, 2, .inl f)))) : va_D A (bqW cB cI cJ cZ h0 a0 o0 h1 a1 h2 a2 M0 (sF M1 5 f) M2) := h
theorem bqP_2_f0 {D : va_G} {H : Heap} {cB cI cJ cZ : ClassId} {h0 : Nat} {a0 : Nat → Nat} {o0 : Option Nat} {h1 : Nat} {a1 : Nat → Nat} {h2 : Nat} {a2 : Nat → Nat} {M0 : gS} {M1 : gS} {M2 : gS} {v : Int32} (h : va_P D vwCl ((bqW cB cI cJ cZ h0 a0 o0 h1 a1 h2 a2 M0 M1 M2).set 9 (h2, .inr (6, ([.int (mg M2 0), .int (mg M2 1), .int (mg M2 2), .int (mg M2 3), .int (mg M2 4), .int (mg M2 5), .int (mg M2 6), .ref (a2 7), .ref (a2 8), .ref (a2 9)]).set 0 (.int v)))) H) : va_P D vwCl (bqW cB cI cJ cZ h0 a0 o0 h1 a1 h2 a2 M0 M1 (sg M2 0 v)) H := h
theorem bqD_2_f0 {A : Nat → Prop} {cB cI cJ cZ : ClassId} {h0 : Nat} {a0 : Nat → Nat} {o0 : Option Nat} {h1 : Nat} {a1 : Nat → Nat} {h2 : Nat} {a2 : Nat → Nat} {M0 : gS} {M1 : gS} {M2 : gS} {v : Int32} (h : va_D A ((bqW cB cI cJ cZ h0 a0 o0 h1 a1 h2 a2 M0 M1 M2).set 9 (h2, .inr (6, ([.int (mg M2 0), .int (mg M2 1), .int (mg M2 2), .int (mg M2 3), .int (mg M2 4), .int (mg M2 5), .int (mg M2 6), .ref (a2 7), .ref (a2 8), .ref (a2 9)]).set 0 (.int v))))) : va_D A (bqW cB cI cJ cZ h0 a0 o0 h1 a1 h2 a2 M0 M1 (sg M2 0 v)) := h
theorem bqP_2_f1 {D : va_G} {H : Heap} {cB cI cJ cZ : ClassId} {h0 : Nat} {a0 : Nat → Nat} {o0 : Option Nat} {h1 : Nat} {a1 : Nat → Nat} {h2 : Nat} {a2 : Nat → Nat} {M0 : gS} {M1 : gS} {M2 : gS} {v : Int32} (h : va_P D vwCl ((bqW cB cI cJ cZ h0 a0 o0 h1 a1 h2 a2 M0 M1 M2).set 9 (h2, .inr (6, ([.int (mg M2 0), .int (mg M2 1), .int (mg M2 2), .int (mg M2 3), .int (mg M2 4), .int (mg M2 5), .int (mg M2 6), .ref (a2 7), .ref (a2 8), .ref (a2 9)]).set 1 (.int v)))) H) : va_P D vwCl (bqW cB cI cJ cZ h0 a0 o0 h1 a1 h2 a2 M0 M1 (sg M2 1 v)) H := h
theorem bqD_2_f1 {A : Nat → Prop} {cB cI cJ cZ : ClassId} {h0 : Nat} {a0 : Nat → Nat} {o0 : Option Nat} {h1 : Nat} {a1 : Nat → Nat} {h2 : Nat} {a2 : Nat → Nat} {M0 : gS} {M1 : gS} {M2 : gS} {v : Int32} (h : va_D A ((bqW cB cI cJ cZ h0 a0 o0 h1 a1 h2 a2 M0 M1 M2).set 9 (h2, .inr (6, ([.int (mg M2 0), .int (mg M2 1), .int (mg M2 2), .int (mg M2 3), .int (mg M2 4), .int (mg M2 5), .int (mg M2 6), .ref (a2 7), .ref (a2 8), .ref (a2 9)]).set 1 (.int v))))) : va_D A (bqW cB cI cJ cZ h0 a0 o0 h1 a1 h2 a2 M0 M1 (sg M2 1 v)) := h
theorem bqP_2_f2 {D : va_G} {H : Heap} {cB cI cJ cZ : ClassId} {h0 : Nat} {a0 : Nat → Nat} {o0 : Option Nat} {h1 : Nat} {a1 : Nat → Nat} {h2 : Nat} {a2 : Nat → Nat} {M0 : gS} {M1 : gS} {M2 : gS} {v : Int32} (h : va_P D vwCl ((bqW cB cI cJ cZ h0 a0 o0 h1 a1 h2 a2 M0 M1 M2).set 9 (h2, .inr (6, ([.int (mg M2 0), .int (mg M2 1), .int (mg M2 2), .int (mg M2 3), .int (mg M2 4), .int (mg M2 5), .int (mg M2 6), .ref (a2 7), .ref (a2 8), .ref (a2 9)]).set 2 (.int v)))) H) : va_P D vwCl (bqW cB cI cJ cZ h0 a0 o0 h1 a1 h2 a2 M0 M1 (sg M2 2 v)) H := h
theorem bqD_2_f2 {A : Nat → Prop} {cB cI cJ cZ : ClassId} {h0 : Nat} {a0 : Nat → Nat} {o0 : Option Nat} {h1 : Nat} {a1 : Nat → Nat} {h2 : Nat} {a2 : Nat → Nat} {M0 : gS} {M1 : gS} {M2 : gS} {v : Int32} (h : va_D A ((bqW cB cI cJ cZ h0 a0 o0 h1 a1 h2 a2 M0 M1 M2).set 9 (h2, .inr (6, ([.int (mg M2 0), .int (mg M2 1), .int (mg M2 2), .int (mg M2 3), .int (mg M2 4), .int (mg M2 5), .int (mg M2 6), .ref (a2 7), .ref (a2 8), .ref (a2 9)]).set 2 (.int v))))) : va_D A (bqW cB cI cJ cZ h0 a0 o0 h1 a1 h2 a2 M0 M1 (sg M2 2 v)) := h
theorem bqP_2_f3 {D : va_G} {H : Heap} {cB cI cJ cZ : ClassId} {h0 : Nat} {a0 : Nat → Nat} {o0 : Option Nat} {h1 : Nat} {a1 : Nat → Nat} {h2 : Nat} {a2 : Nat → Nat} {M0 : gS} {M1 : gS} {M2 : gS} {v : Int32} (h : va_P D vwCl ((bqW cB cI cJ cZ h0 a0 o0 h1 a1 h2 a2 M0 M1 M2).set 9 (h2, .inr (6, ([.int (mg M2 0), .int (mg M2 1), .int (mg M2 2), .int (mg M2 3), .int (mg M2 4), .int (mg M2 5), .int (mg M2 6), .ref (a2 7), .ref (a2 8), .ref (a2 9)]).set 3 (.int v)))) H) : va_P D vwCl (bqW cB cI cJ cZ h0 a0 o0 h1 a1 h2 a2 M0 M1 (sg M2 3 v)) H := h
theorem bqD_2_f3 {A : Nat → Prop} {cB cI cJ cZ : ClassId} {h0 : Nat} {a0 : Nat → Nat} {o0 : Option Nat} {h1 : Nat} {a1 : Nat → Nat} {h2 : Nat} {a2 : Nat → Nat} {M0 : gS} {M1 : gS} {M2 : gS} {v : Int32} (h : va_D A ((bqW cB cI cJ cZ h0 a0 o0 h1 a1 h2 a2 M0 M1 M2).set 9 (h2, .inr (6, ([.int (mg M2 0), .int (mg M2 1), .int (mg M2 2), .int (mg M2 3), .int (mg M2 4), .int (mg M2 5), .int (mg M2 6), .ref (a2 7), .ref (a2 8), .ref (a2 9)]).set 3 (.int v))))) : va_D A (bqW cB cI cJ cZ h0 a0 o0 h1 a1 h2 a2 M0 M1 (sg M2 3 v)) := h
theorem bqP_2_f4 {D : va_G} {H : Heap} {cB cI cJ cZ : ClassId} {h0 : Nat} {a0 : Nat → Nat} {o0 : Option Nat} {h1 : Nat} {a1 : Nat → Nat} {h2 : Nat} {a2 : Nat → Nat} {M0 : gS} {M1 : gS} {M2 : gS} {v : Int32} (h : va_P D vwCl ((bqW cB cI cJ cZ h0 a0 o0 h1 a1 h2 a2 M0 M1 M2).set 9 (h2, .inr (6, ([.int (mg M2 0), .int (mg M2 1), .int (mg M2 2), .int (mg M2 3), .int (mg M2 4), .int (mg M2 5), .int (mg M2 6), .ref (a2 7), .ref (a2 8), .ref (a2 9)]).set 4 (.int v)))) H) : va_P D vwCl (bqW cB cI cJ cZ h0 a0 o0 h1 a1 h2 a2 M0 M1 (sg M2 4 v)) H := h
theorem bqD_2_f4 {A : Nat → Prop} {cB cI cJ cZ : ClassId} {h0 : Nat} {a0 : Nat → Nat} {o0 : Option Nat} {h1 : Nat} {a1 : Nat → Nat} {h2 : Nat} {a2 : Nat → Nat} {M0 : gS} {M1 : gS} {M2 : gS} {v : Int32} (h : va_D A ((bqW cB cI cJ cZ h0 a0 o0 h1 a1 h2 a2 M0 M1 M2).set 9 (h2, .inr (6, ([.int (mg M2 0), .int (mg M2 1), .int (mg M2 2), .int (mg M2 3), .int (mg M2 4), .int (mg M2 5), .int (mg M2 6), .ref (a2 7), .ref (a2 8), .ref (a2 9)]).set 4 (.int v))))) : va_D A (bqW cB cI cJ cZ h0 a0 o0 h1 a1 h2 a2 M0 M1 (sg M2 4 v)) := h
theorem bqP_2_f5 {D : va_G} {H : Heap} {cB cI cJ cZ : ClassId} {h0 : Nat} {a0 : Nat → Nat} {o0 : Option Nat} {h1 : Nat} {a1 : Nat → Nat} {h2 : Nat} {a2 : Nat → Nat} {M0 : gS} {M1 : gS} {M2 : gS} {v : Int32} (h : va_P D vwCl ((bqW cB cI cJ cZ h0 a0 o0 h1 a1 h2 a2 M0 M1 M2).set 9 (h2, .inr (6, ([.int (mg M2 0), .int (mg M2 1), .int (mg M2 2), .int (mg M2 3), .int (mg M2 4), .int (mg M2 5), .int (mg M2 6), .ref (a2 7), .ref (a2 8), .ref (a2 9)]).set 5 (.int v)))) H) : va_P D vwCl (bqW cB cI cJ cZ h0 a0 o0 h1 a1 h2 a2 M0 M1 (sg M2 5 v)) H := h
theorem bqD_2_f5 {A : Nat → Prop} {cB cI cJ cZ : ClassId} {h0 : Nat} {a0 : Nat → Nat} {o0 : Option Nat} {h1 : Nat} {a1 : Nat → Nat} {h2 : Nat} {a2 : Nat → Nat} {M0 : gS} {M1 : gS} {M2 : gS} {v : Int32} (h : va_D A ((bqW cB cI cJ cZ h0 a0 o0 h1 a1 h2 a2 M0 M1 M2).set 9 (h2, .inr (6, ([.int (mg M2 0), .int (mg M2 1), .int (mg M2 2), .int (mg M2 3), .int (mg M2 4), .int (mg M2 5), .int (mg M2 6), .ref (a2 7), .ref (a2 8), .ref (a2 9)]).set 5 (.int v))))) : va_D A (bqW cB cI cJ cZ h0 a0 o0 h1 a1 h2 a2 M0 M1 (sg M2 5 v)) := h
theorem bqP_2_f6 {D : va_G} {H : Heap} {cB cI cJ cZ : ClassId} {h0 : Nat} {a0 : Nat → Nat} {o0 : Option Nat} {h1 : Nat} {a1 : Nat → Nat} {h2 : Nat} {a2 : Nat → Nat} {M0 : gS} {M1 : gS} {M2 : gS} {v : Int32} (h : va_P D vwCl ((bqW cB cI cJ cZ h0 a0 o0 h1 a1 h2 a2 M0 M1 M2).set 9 (h2, .inr (6, ([.int (mg M2 0), .int (mg M2 1), .int (mg M2 2), .int (mg M2 3), .int (mg M2 4), .int (mg M2 5), .int (mg M2 6), .ref (a2 7), .ref (a2 8), .ref (a2 9)]).set 6 (.int v)))) H) : va_P D vwCl (bqW cB cI cJ cZ h0 a0 o0 h1 a1 h2 a2 M0 M1 (sg M2 6 v)) H := h
theorem bqD_2_f6 {A : Nat → Prop} {cB cI cJ cZ : ClassId} {h0 : Nat} {a0 : Nat → Nat} {o0 : Option Nat} {h1 : Nat} {a1 : Nat → Nat} {h2 : Nat} {a2 : Nat → Nat} {M0 : gS} {M1 : gS} {M2 : gS} {v : Int32} (h : va_D A ((bqW cB cI cJ cZ h0 a0 o0 h1 a1 h2 a2 M0 M1 M2).set 9 (h2, .inr (6, ([.int (mg M2 0), .int (mg M2 1), .int (mg M2 2), .int (mg M2 3), .int (mg M2 4), .int (mg M2 5), .int (mg M2 6), .ref (a2 7), .ref (a2 8), .ref (a2 9)]).set 6 (.int v))))) : va_D A (bqW cB cI cJ cZ h0 a0 o0 h1 a1 h2 a2 M0 M1 (sg M2 6 v)) := h
theorem bqP_2_a7 {D : va_G} {H : Heap} {cB cI cJ cZ : ClassId} {h0 : Nat} {a0 : Nat → Nat} {o0 : Option Nat} {h1 : Nat} {a1 : Nat → Nat} {h2 : Nat} {a2 : Nat → Nat} {M0 : gS} {M1 : gS} {M2 : gS} {j : Nat} {v : Int32} (h : va_P D vwCl ((bqW cB cI cJ cZ h0 a0 o0 h1 a1 h2 a2 M0 M1 M2).set 10 (a2 7, .inl (cI, 2, .inl (upd (ma M2 7) j v)))) H) : va_P D vwCl (bqW cB cI cJ cZ h0 a0 o0 h1 a1 h2 a2 M0 M1 (sa M2 7 j v)) H := h
theorem bqD_2_a7 {A : Nat → Prop} {cB cI cJ cZ : ClassId} {h0 : Nat} {a0 : Nat → Nat} {o0 : Option Nat} {h1 : Nat} {a1 : Nat → Nat} {h2 : Nat} {a2 : Nat → Nat} {M0 : gS} {M1 : gS} {M2 : gS} {j : Nat} {v : Int32} (h : va_D A ((bqW cB cI cJ cZ h0 a0 o0 h1 a1 h2 a2 M0 M1 M2).set 10 (a2 7, .inl (cI, 2, .inl (upd (ma M2 7) j v))))) : va_D A (bqW cB cI cJ cZ h0 a0 o0 h1 a1 h2 a2 M0 M1 (sa M2 7 j v)) := h
theorem bqP_2_c7 {D : va_G} {H : Heap} {cB cI cJ cZ : ClassId} {h0 : Nat} {a0 : Nat → Nat} {o0 : Option Nat} {h1 : Nat} {a1 : Nat → Nat} {h2 : Nat} {a2 : Nat → Nat} {M0 : gS} {M1 : gS} {M2 : gS} {f : Nat → Int32} (h : va_P D vwCl ((bqW cB cI cJ cZ h0 a0 o0 h1 a1 h2 a2 M0 M1 M2).set 10 (a2 7, .inl (cI, 2, .inl f))) H) : va_P D vwCl (bqW cB cI cJ cZ h0 a0 o0 h1 a1 h2 a2 M0 M1 (sF M2 7 f)) H := h
theorem bqD_2_c7 {A : Nat → Prop} {cB cI cJ cZ : ClassId} {h0 : Nat} {a0 : Nat → Nat} {o0 : Option Nat} {h1 : Nat} {a1 : Nat → Nat} {h2 : Nat} {a2 : Nat → Nat} {M0 : gS} {M1 : gS} {M2 : gS} {f : Nat → Int32} (h : va_D A ((bqW cB cI cJ cZ h0 a0 o0 h1 a1 h2 a2 M0 M1 M2).set 10 (a2 7, .inl (cI, 2, .inl f)))) : va_D A (bqW cB cI cJ cZ h0 a0 o0 h1 a1 h2 a2 M0 M1 (sF M2 7 f)) := h
theorem bqP_2_a8 {D : va_G} {H : Heap} {cB cI cJ cZ : ClassId} {h0 : Nat} {a0 : Nat → Nat} {o0 : Option Nat} {h1 : Nat} {a1 : Nat → Nat} {h2 : Nat} {a2 : Nat → Nat} {M0 : gS} {M1 : gS} {M2 : gS} {j : Nat} {v : Int32} (h : va_P D vwCl ((bqW cB cI cJ cZ h0 a0 o0 h1 a1 h2 a2 M0 M1 M2).set 11 (a2 8, .inl (cI, 2, .inl (upd (ma M2 8) j v)))) H) : va_P D vwCl (bqW cB cI cJ cZ h0 a0 o0 h1 a1 h2 a2 M0 M1 (sa M2 8 j v)) H := h
theorem bqD_2_a8 {A : Nat → Prop} {cB cI cJ cZ : ClassId} {h0 : Nat} {a0 : Nat → Nat} {o0 : Option Nat} {h1 : Nat} {a1 : Nat → Nat} {h2 : Nat} {a2 : Nat → Nat} {M0 : gS} {M1 : gS} {M2 : gS} {j : Nat} {v : Int32} (h : va_D A ((bqW cB cI cJ cZ h0 a0 o0 h1 a1 h2 a2 M0 M1 M2).set 11 (a2 8, .inl (cI, 2, .inl (upd (ma M2 8) j v))))) : va_D A (bqW cB cI cJ cZ h0 a0 o0 h1 a1 h2 a2 M0 M1 (sa M2 8 j v)) := h
theorem bqP_2_c8 {D : va_G} {H : Heap} {cB cI cJ cZ : ClassId} {h0 : Nat} {a0 : Nat → Nat} {o0 : Option Nat} {h1 : Nat} {a1 : Nat → Nat} {h2 : Nat} {a2 : Nat → Nat} {M0 : gS} {M1 : gS} {M2 : gS} {f : Nat → Int32} (h : va_P D vwCl ((bqW cB cI cJ cZ h0 a0 o0 h1 a1 h2 a2 M0 M1 M2).set 11 (a2 8, .inl (cI, 2, .inl f))) H) : va_P D vwCl (bqW cB cI cJ cZ h0 a0 o0 h1 a1 h2 a2 M0 M1 (sF M2 8 f)) H := h
theorem bqD_2_c8 {A : Nat → Prop} {cB cI cJ cZ : ClassId} {h0 : Nat} {a0 : Nat → Nat} {o0 : Option Nat} {h1 : Nat} {a1 : Nat → Nat} {h2 : Nat} {a2 : Nat → Nat} {M0 : gS} {M1 : gS} {M2 : gS} {f : Nat → Int32} (h : va_D A ((bqW cB cI cJ cZ h0 a0 o0 h1 a1 h2 a2 M0 M1 M2).set 11 (a2 8, .inl (cI, 2, .inl f)))) : va_D A (bqW cB cI cJ cZ h0 a0 o0 h1 a1 h2 a2 M0 M1 (sF M2 8 f)) := h
theorem bqP_2_a9 {D : va_G} {H : Heap} {cB cI cJ cZ : ClassId} {h0 : Nat} {a0 : Nat → Nat} {o0 : Option Nat} {h1 : Nat} {a1 : Nat → Nat} {h2 : Nat} {a2 : Nat → Nat} {M0 : gS} {M1 : gS} {M2 : gS} {j : Nat} {v : Int32} (h : va_P D vwCl ((bqW cB cI cJ cZ h0 a0 o0 h1 a1 h2 a2 M0 M1 M2).set 12 (a2 9, .inl (cI, 2, .inl (upd (ma M2 9) j v)))) H) : va_P D vwCl (bqW cB cI cJ cZ h0 a0 o0 h1 a1 h2 a2 M0 M1 (sa M2 9 j v)) H := h
theorem bqD_2_a9 {A : Nat → Prop} {cB cI cJ cZ : ClassId} {h0 : Nat} {a0 : Nat → Nat} {o0 : Option Nat} {h1 : Nat} {a1 : Nat → Nat} {h2 : Nat} {a2 : Nat → Nat} {M0 : gS} {M1 : gS} {M2 : gS} {j : Nat} {v : Int32} (h : va_D A ((bqW cB cI cJ cZ h0 a0 o0 h1 a1 h2 a2 M0 M1 M2).set 12 (a2 9, .inl (cI, 2, .inl (upd (ma M2 9) j v))))) : va_D A (bqW cB cI cJ cZ h0 a0 o0 h1 a1 h2 a2 M0 M1 (sa M2 9 j v)) := h
theorem bqP_2_c9 {D : va_G} {H : Heap} {cB cI cJ cZ : ClassId} {h0 : Nat} {a0 : Nat → Nat} {o0 : Option Nat} {h1 : Nat} {a1 : Nat → Nat} {h2 : Nat} {a2 : Nat → Nat} {M0 : gS} {M1 : gS} {M2 : gS} {f : Nat → Int32} (h : va_P D vwCl ((bqW cB cI cJ cZ h0 a0 o0 h1 a1 h2 a2 M0 M1 M2).set 12 (a2 9, .inl (cI, 2, .inl f))) H) : va_P D vwCl (bqW cB cI cJ cZ h0 a0 o0 h1 a1 h2 a2 M0 M1 (sF M2 9 f)) H := h
theorem bqD_2_c9 {A : Nat → Prop} {cB cI cJ cZ : ClassId} {h0 : Nat} {a0 : Nat → Nat} {o0 : Option Nat} {h1 : Nat} {a1 : Nat → Nat} {h2 : Nat} {a2 : Nat → Nat} {M0 : gS} {M1 : gS} {M2 : gS} {f : Nat → Int32} (h : va_D A ((bqW cB cI cJ cZ h0 a0 o0 h1 a1 h2 a2 M0 M1 M2).set 12 (a2 9, .inl (cI, 2, .inl f)))) : va_D A (bqW cB cI cJ cZ h0 a0 o0 h1 a1 h2 a2 M0 M1 (sF M2 9 f)) := h
theorem bqpV {s : State} {dC : Nat → ClassId} {dI : Nat → Nat → Nat} {A : Nat → Prop} {cB cI cJ cZ : ClassId} {h0 : Nat} {a0 : Nat → Nat} {o0 : Option Nat} {h1 : Nat} {a1 : Nat → Nat} {h2 : Nat} {a2 : Nat → Nat} {M0 : gS} {M1 : gS} {M2 : gS} {H : Heap} {As : List Value} (hK : va_K (dC, dI) vwCl (gT cB cI cJ cZ) s) (hP : va_P (dC, dI) vwCl (bqW cB cI cJ cZ h0 a0 o0 h1 a1 h2 a2 M0 M1 M2) H) (hD : va_D A (bqW cB cI cJ cZ h0 a0 o0 h1 a1 h2 a2 M0 M1 M2)) : PreV s H RX0 h0 (va_Pc (.ref h0 :: As) (bqI dC dI cB cI cJ cZ h0 a0 o0 h1 a1 h2 a2 M0 M1 M2 H.size)) As := ⟨fun a U g mk q => by obtain ⟨q0, q1, qP, qK, qD⟩ := q; exact ⟨q0, q1, qP, va_K.moved (u := U) (U := U.calling g mk a) (Vm.Alike.refl U.vm) qK, qD⟩, va_recv hK hP (ci := 0) (q0 := 0) rfl rfl, fun U hU hW => ⟨rfl, by rw [hU], by rw [hU]; exact hP, va_K.moved hW.alike hK, hD.weaken (fun _ _ _ _ => trivial)⟩⟩
theorem bqpS {s : State} {dC : Nat → ClassId} {dI : Nat → Nat → Nat} {A : Nat → Prop} {cB cI cJ cZ : ClassId} {h0 : Nat} {a0 : Nat → Nat} {o0 : Option Nat} {h1 : Nat} {a1 : Nat → Nat} {h2 : Nat} {a2 : Nat → Nat} {M0 : gS} {M1 : gS} {M2 : gS} {H : Heap} {As : List Value} (hK : va_K (dC, dI) vwCl (gT cB cI cJ cZ) s) (hP : va_P (dC, dI) vwCl (bqW cB cI cJ cZ h0 a0 o0 h1 a1 h2 a2 M0 M1 M2) H) (hD : va_D A (bqW cB cI cJ cZ h0 a0 o0 h1 a1 h2 a2 M0 M1 M2)) : PreS s H (va_Pc As (bqI dC dI cB cI cJ cZ h0 a0 o0 h1 a1 h2 a2 M0 M1 M2 H.size)) As := ⟨fun a U g mk q => by obtain ⟨q0, q1, qP, qK, qD⟩ := q; exact ⟨q0, q1, qP, va_K.moved (u := U) (U := U.calling g mk a) (Vm.Alike.refl U.vm) qK, qD⟩, fun U hU hW => ⟨rfl, by rw [hU], by rw [hU]; exact hP, va_K.moved hW.alike hK, hD.weaken (fun _ _ _ _ => trivial)⟩⟩
def wX0_holds (p1 : Int64) (p2 : Int32) (p3 : Int32)  (Q : Bool → Prop) : Prop :=
 (((lg_cmp (((Int64.toUInt64 p1 >>> (Int64.toUInt64 (Int32.toInt64 (((8 : Int32) * p3) + p2)) &&& Int64.toUInt64 63)).toInt64) &&& (1 : Int64)) (0 : Int64)) = 0 → (Q false ))
 ∧ (¬ (lg_cmp (((Int64.toUInt64 p1 >>> (Int64.toUInt64 (Int32.toInt64 (((8 : Int32) * p3) + p2)) &&& Int64.toUInt64 63)).toInt64) &&& (1 : Int64)) (0 : Int64)) = 0 → (Q true )))
def rmX0_holds : Room := { frames := 0, cells := 0, slots := 0, locals := 0 }
set_option maxHeartbeats 4000000 in
set_option maxRecDepth 100000 in
theorem kX0_holds (l : Launch) (dC : Nat → ClassId) (dI : Nat → Nat → Nat) (cB cI cJ cZ : ClassId)  (sz : Nat) (p1 : Int64) (p2 : Int32) (p3 : Int32)  (Q : Bool → Prop) (h : wX0_holds p1 p2 p3  Q) : Met l yX0_holds wsX0_holds rmX0_holds (va_Pc [.long p1, .int p2, .int p3] (e0I dC dI cB cI cJ cZ   sz)) (va_Qi (fun (r : Int32) (u : Unit) => ∃ b : Bool, r = bI b ∧ Q b ) (e0B dC dI cB cI cJ cZ  (va_A (e0W cB cI cJ cZ  ) sz)) (va_A (e0W cB cI cJ cZ  ) sz)) 0 0 (va_A (e0W cB cI cJ cZ  ) sz) := by
  refine Met.ofW (cc := cX0_holds) (maxL := 4) (ret := (some .boolean)) (by decide) rfl ?_
  intro p e s m args below meth c s₁ B hml hv
  obtain ⟨rfl, hsz, hP, hK, hD0⟩ := hv
  have hx := B.exec
  have hb := B.bytes
  have hr := B.returns
  have hts := atoms_spec (ws := wsX0_holds) B.pre
  have hown : s.vm.findClass RX0 = some m.cls := findClass_of_methodNamed B.named
  have hlocks := B.notSynchronized
  subst hsz
  have hD := hD0.self (sz := s.heap.size)
  generalize hAe : va_A (e0W cB cI cJ cZ  ) s.heap.size = A at hD ⊢
  have hA : ∀ q : Nat, s.heap.size ≤ q → A q := fun q h => by rw [← hAe]; exact Or.inr h
  have hS : va_S A s.heap s.heap [] := va_S.rf
  have bE : ∀  (H : Heap) (locs : List Loc) (ls : Array Slot), va_P (dC, dI) vwCl (e0W cB cI cJ cZ  ) H → va_D A (e0W cB cI cJ cZ  ) → va_S A s.heap H locs → lv_has ls 4 [(0, .long p1), (2, .int p2), (3, .int p3)] → wX0_holds p1 p2 p3  Q → W p l e (headSpec wsX0_holds rmX0_holds).room s m ([.long p1, .int p2, .int p3] : List Value).toArray below meth c H locs 0 0 (MQ below (va_Qi (fun (r : Int32) (u : Unit) => ∃ b : Bool, r = bI b ∧ Q b ) (e0B dC dI cB cI cJ cZ  A) A) ([.long p1, .int p2, .int p3] : List Value).toArray s 0 0 A) (F0 m 0 ls []) := by
    intro  H locs ls hP hD hS hl h
    unfold wX0_holds at h
    refine lv_lload_n hx hb dX0_holds_0 rfl (lv_at hl 0 rfl) ?_
    refine lv_bipush (v := (8)) hx hb dX0_holds_1 (by decide) ?_
    refine lv_iload_n hx hb dX0_holds_3 rfl (lv_at hl 2 rfl) ?_
    refine lv_imul hx hb dX0_holds_4 ?_
    refine lv_iload_n hx hb dX0_holds_5 rfl (lv_at hl 1 rfl) ?_
    refine lv_iadd hx hb dX0_holds_6 ?_
    refine lv_lushr hx hb dX0_holds_7 rfl ?_
    refine lv_lconst (v := 1) hx hb dX0_holds_8 (by decide) ?_
    refine lv_land hx hb dX0_holds_9 ?_
    refine lv_lconst (v := 0) hx hb dX0_holds_10 (by decide) ?_
    refine W.lcmp hx hb dX0_holds_11 ?_
    refine lv_if_eq (tgt := 19) hx hb dX0_holds_12 (by decide) (fun c1 => ?_) (fun c1 => ?_)
    · have h := h.1 c1
      refine lv_iconst (v := 0) hx hb dX0_holds_19 (by decide) ?_
      exact W.zret (v := (bI false)) hx hb hr (nar_bI false) (fun t ht hW => ⟨⟨_, (), rfl, ⟨false, rfl, h⟩, by rw [ht]; exact hP, va_K.moved hW.alike hK, hD⟩, hS.F ht⟩) hS.2.2 dX0_holds_20
    · have h := h.2 c1
      refine lv_iconst (v := 1) hx hb dX0_holds_15 (by decide) ?_
      refine lv_goto (tgt := 20) hx hb dX0_holds_16 (by decide) ?_
      exact W.zret (v := (bI true)) hx hb hr (nar_bI true) (fun t ht hW => ⟨⟨_, (), rfl, ⟨true, rfl, h⟩, by rw [ht]; exact hP, va_K.moved hW.alike hK, hD⟩, hS.F ht⟩) hS.2.2 dX0_holds_20
  have hl := lv_entry ([.long p1, .int p2, .int p3]) (n := 4) (Nat.le_of_ble_eq_true rfl)
  rw [lg_entry_eq]
  generalize (lg_sl ([.long p1, .int p2, .int p3]) ++ List.replicate (4 - (lg_sl ([.long p1, .int p2, .int p3])).length) Slot.unset).toArray = ls at hl ⊢
  have hl : lv_has ls 4 [(0, .long p1), (2, .int p2), (3, .int p3)] := hl
  exact bE  s.heap [] ls hP hD hS hl h
def wX0_withThrows (p1 : Int64)  (Q : Int64 → Prop) : Prop :=
 (∀ x1 : Int64, x1 = (p1 ||| ((p1 <<< (Int32.toInt64 (1 : Int32) &&& 63)) &&& (-72340172838076674 : Int64))) → (∀ x2 : Int64, x2 = (x1 ||| ((x1 <<< (Int32.toInt64 (2 : Int32) &&& 63)) &&& (-217020518514230020 : Int64))) → (Q (x2 ||| ((x2 <<< (Int32.toInt64 (4 : Int32) &&& 63)) &&& (-1085102592571150096 : Int64))) )))
def rmX0_withThrows : Room := { frames := 0, cells := 0, slots := 0, locals := 0 }
set_option maxHeartbeats 4000000 in
set_option maxRecDepth 100000 in
theorem kX0_withThrows (l : Launch) (dC : Nat → ClassId) (dI : Nat → Nat → Nat) (cB cI cJ cZ : ClassId)  (sz : Nat) (p1 : Int64)  (Q : Int64 → Prop) (h : wX0_withThrows p1  Q) : Met l yX0_withThrows wsX0_withThrows rmX0_withThrows (va_Pc [.long p1] (e0I dC dI cB cI cJ cZ   sz)) (va_Ql (fun (r : Int64) (u : Unit) => Q r ) (e0B dC dI cB cI cJ cZ  (va_A (e0W cB cI cJ cZ  ) sz)) (va_A (e0W cB cI cJ cZ  ) sz)) 0 0 (va_A (e0W cB cI cJ cZ  ) sz) := by
  refine Met.ofW (cc := cX0_withThrows) (maxL := 4) (ret := (some .long)) (by decide) rfl ?_
  intro p e s m args below meth c s₁ B hml hv
  obtain ⟨rfl, hsz, hP, hK, hD0⟩ := hv
  have hx := B.exec
  have hb := B.bytes
  have hr := B.returns
  have hts := atoms_spec (ws := wsX0_withThrows) B.pre
  have hown : s.vm.findClass RX0 = some m.cls := findClass_of_methodNamed B.named
  have hlocks := B.notSynchronized
  subst hsz
  have hD := hD0.self (sz := s.heap.size)
  generalize hAe : va_A (e0W cB cI cJ cZ  ) s.heap.size = A at hD ⊢
  have hA : ∀ q : Nat, s.heap.size ≤ q → A q := fun q h => by rw [← hAe]; exact Or.inr h
  have hS : va_S A s.heap s.heap [] := va_S.rf
  have f1 := hts (.constantLong RX0 138 (-72340172838076674)) (by decide +kernel)
  have f2 := hts (.constantLong RX0 140 (-217020518514230020)) (by decide +kernel)
  have f3 := hts (.constantLong RX0 142 (-1085102592571150096)) (by decide +kernel)
  have bE : ∀  (H : Heap) (locs : List Loc) (ls : Array Slot), va_P (dC, dI) vwCl (e0W cB cI cJ cZ  ) H → va_D A (e0W cB cI cJ cZ  ) → va_S A s.heap H locs → lv_has ls 4 [(0, .long p1)] → wX0_withThrows p1  Q → W p l e (headSpec wsX0_withThrows rmX0_withThrows).room s m ([.long p1] : List Value).toArray below meth c H locs 0 0 (MQ below (va_Ql (fun (r : Int64) (u : Unit) => Q r ) (e0B dC dI cB cI cJ cZ  A) A) ([.long p1] : List Value).toArray s 0 0 A) (F0 m 0 ls []) := by
    intro  H locs ls hP hD hS hl h
    unfold wX0_withThrows at h
    refine lv_lload_n hx hb dX0_withThrows_0 rfl (lv_at hl 0 rfl) ?_
    refine lv_lload_n hx hb dX0_withThrows_1 rfl (lv_at hl 0 rfl) ?_
    refine lv_iconst (v := 1) hx hb dX0_withThrows_2 (by decide) ?_
    refine lv_lshl hx hb dX0_withThrows_3 rfl ?_
    refine lv_ldc2 (v := (-72340172838076674)) hx hb hown f1 dX0_withThrows_4 ?_
    refine lv_land hx hb dX0_withThrows_7 ?_
    refine lv_lor hx hb dX0_withThrows_8 ?_
    refine lv_topl (fun x1 ex1 => ?_)
    have h := h x1 ex1
    refine lv_lstore_n (lv' := [(2, .long x1), (0, .long p1)]) hx hb dX0_withThrows_9 rfl hl (by decide) rfl (fun ls hl => ?_)
    refine lv_lload_n hx hb dX0_withThrows_10 rfl (lv_at hl 0 rfl) ?_
    refine lv_lload_n hx hb dX0_withThrows_11 rfl (lv_at hl 0 rfl) ?_
    refine lv_iconst (v := 2) hx hb dX0_withThrows_12 (by decide) ?_
    refine lv_lshl hx hb dX0_withThrows_13 rfl ?_
    refine lv_ldc2 (v := (-217020518514230020)) hx hb hown f2 dX0_withThrows_14 ?_
    refine lv_land hx hb dX0_withThrows_17 ?_
    refine lv_lor hx hb dX0_withThrows_18 ?_
    refine lv_topl (fun x2 ex2 => ?_)
    have h := h x2 ex2
    refine lv_lstore_n (lv' := [(2, .long x2), (0, .long p1)]) hx hb dX0_withThrows_19 rfl hl (by decide) rfl (fun ls hl => ?_)
    refine lv_lload_n hx hb dX0_withThrows_20 rfl (lv_at hl 0 rfl) ?_
    refine lv_lload_n hx hb dX0_withThrows_21 rfl (lv_at hl 0 rfl) ?_
    refine lv_iconst (v := 4) hx hb dX0_withThrows_22 (by decide) ?_
    refine lv_lshl hx hb dX0_withThrows_23 rfl ?_
    refine lv_ldc2 (v := (-1085102592571150096)) hx hb hown f3 dX0_withThrows_24 ?_
    refine lv_land hx hb dX0_withThrows_27 ?_
    refine lv_lor hx hb dX0_withThrows_28 ?_
    exact W.lret (v := (x2 ||| ((x2 <<< (Int32.toInt64 (4 : Int32) &&& 63)) &&& (-1085102592571150096 : Int64)))) hx hb hr (fun t ht hW => ⟨⟨_, (), rfl, h, by rw [ht]; exact hP, va_K.moved hW.alike hK, hD⟩, hS.F ht⟩) hS.2.2 dX0_withThrows_29
  have hl := lv_entry ([.long p1]) (n := 4) (Nat.le_of_ble_eq_true rfl)
  rw [lg_entry_eq]
  generalize (lg_sl ([.long p1]) ++ List.replicate (4 - (lg_sl ([.long p1])).length) Slot.unset).toArray = ls at hl ⊢
  have hl : lv_has ls 4 [(0, .long p1)] := hl
  exact bE  s.heap [] ls hP hD hS hl h
def wX0_swapped (p1 : Int64)  (Q : Int64 → Prop) : Prop :=
 (∀ x1 : Int64, x1 = ((p1 ^^^ ((Int64.toUInt64 p1 >>> (Int64.toUInt64 (Int32.toInt64 (7 : Int32)) &&& Int64.toUInt64 63)).toInt64)) &&& (47851476196393130 : Int64)) → (∀ x2 : Int64, x2 = ((p1 ^^^ x1) ^^^ (x1 <<< (Int32.toInt64 (7 : Int32) &&& 63))) → (∀ x3 : Int64, x3 = ((x2 ^^^ ((Int64.toUInt64 x2 >>> (Int64.toUInt64 (Int32.toInt64 (14 : Int32)) &&& Int64.toUInt64 63)).toInt64)) &&& (225176545447116 : Int64)) → (∀ x4 : Int64, x4 = ((x2 ^^^ x3) ^^^ (x3 <<< (Int32.toInt64 (14 : Int32) &&& 63))) → (∀ x5 : Int64, x5 = ((x4 ^^^ ((Int64.toUInt64 x4 >>> (Int64.toUInt64 (Int32.toInt64 (28 : Int32)) &&& Int64.toUInt64 63)).toInt64)) &&& (4042322160 : Int64)) → (Q ((x4 ^^^ x5) ^^^ (x5 <<< (Int32.toInt64 (28 : Int32) &&& 63))) ))))))
def rmX0_swapped : Room := { frames := 0, cells := 0, slots := 0, locals := 0 }
set_option maxHeartbeats 4000000 in
set_option maxRecDepth 100000 in
theorem kX0_swapped (l : Launch) (dC : Nat → ClassId) (dI : Nat → Nat → Nat) (cB cI cJ cZ : ClassId)  (sz : Nat) (p1 : Int64)  (Q : Int64 → Prop) (h : wX0_swapped p1  Q) : Met l yX0_swapped wsX0_swapped rmX0_swapped (va_Pc [.long p1] (e0I dC dI cB cI cJ cZ   sz)) (va_Ql (fun (r : Int64) (u : Unit) => Q r ) (e0B dC dI cB cI cJ cZ  (va_A (e0W cB cI cJ cZ  ) sz)) (va_A (e0W cB cI cJ cZ  ) sz)) 0 0 (va_A (e0W cB cI cJ cZ  ) sz) := by
  refine Met.ofW (cc := cX0_swapped) (maxL := 12) (ret := (some .long)) (by decide) rfl ?_
  intro p e s m args below meth c s₁ B hml hv
  obtain ⟨rfl, hsz, hP, hK, hD0⟩ := hv
  have hx := B.exec
  have hb := B.bytes
  have hr := B.returns
  have hts := atoms_spec (ws := wsX0_swapped) B.pre
  have hown : s.vm.findClass RX0 = some m.cls := findClass_of_methodNamed B.named
  have hlocks := B.notSynchronized
  subst hsz
  have hD := hD0.self (sz := s.heap.size)
  generalize hAe : va_A (e0W cB cI cJ cZ  ) s.heap.size = A at hD ⊢
  have hA : ∀ q : Nat, s.heap.size ≤ q → A q := fun q h => by rw [← hAe]; exact Or.inr h
  have hS : va_S A s.heap s.heap [] := va_S.rf
  have f1 := hts (.constantLong RX0 144 (47851476196393130)) (by decide +kernel)
  have f2 := hts (.constantLong RX0 146 (225176545447116)) (by decide +kernel)
  have f3 := hts (.constantLong RX0 148 (4042322160)) (by decide +kernel)
  have bE : ∀  (H : Heap) (locs : List Loc) (ls : Array Slot), va_P (dC, dI) vwCl (e0W cB cI cJ cZ  ) H → va_D A (e0W cB cI cJ cZ  ) → va_S A s.heap H locs → lv_has ls 12 [(0, .long p1)] → wX0_swapped p1  Q → W p l e (headSpec wsX0_swapped rmX0_swapped).room s m ([.long p1] : List Value).toArray below meth c H locs 0 0 (MQ below (va_Ql (fun (r : Int64) (u : Unit) => Q r ) (e0B dC dI cB cI cJ cZ  A) A) ([.long p1] : List Value).toArray s 0 0 A) (F0 m 0 ls []) := by
    intro  H locs ls hP hD hS hl h
    unfold wX0_swapped at h
    refine lv_lload_n hx hb dX0_swapped_0 rfl (lv_at hl 0 rfl) ?_
    refine lv_lload_n hx hb dX0_swapped_1 rfl (lv_at hl 0 rfl) ?_
    refine lv_bipush (v := (7)) hx hb dX0_swapped_2 (by decide) ?_
    refine lv_lushr hx hb dX0_swapped_4 rfl ?_
    refine lv_lxor hx hb dX0_swapped_5 ?_
    refine lv_ldc2 (v := (47851476196393130)) hx hb hown f1 dX0_swapped_6 ?_
    refine lv_land hx hb dX0_swapped_9 ?_
    refine lv_topl (fun x1 ex1 => ?_)
    have h := h x1 ex1
    refine lv_lstore_n (lv' := [(2, .long x1), (0, .long p1)]) hx hb dX0_swapped_10 rfl hl (by decide) rfl (fun ls hl => ?_)
    refine lv_lload_n hx hb dX0_swapped_11 rfl (lv_at hl 1 rfl) ?_
    refine lv_lload_n hx hb dX0_swapped_12 rfl (lv_at hl 0 rfl) ?_
    refine lv_lxor hx hb dX0_swapped_13 ?_
    refine lv_lload_n hx hb dX0_swapped_14 rfl (lv_at hl 0 rfl) ?_
    refine lv_bipush (v := (7)) hx hb dX0_swapped_15 (by decide) ?_
    refine lv_lshl hx hb dX0_swapped_17 rfl ?_
    refine lv_lxor hx hb dX0_swapped_18 ?_
    refine lv_topl (fun x2 ex2 => ?_)
    have h := h x2 ex2
    refine lv_lstore (lv' := [(4, .long x2), (2, .long x1), (0, .long p1)]) hx hb dX0_swapped_19 hl (by decide) rfl (fun ls hl => ?_)
    refine lv_lload hx hb dX0_swapped_21 (lv_at hl 0 rfl) ?_
    refine lv_lload hx hb dX0_swapped_23 (lv_at hl 0 rfl) ?_
    refine lv_bipush (v := (14)) hx hb dX0_swapped_25 (by decide) ?_
    refine lv_lushr hx hb dX0_swapped_27 rfl ?_
    refine lv_lxor hx hb dX0_swapped_28 ?_
    refine lv_ldc2 (v := (225176545447116)) hx hb hown f2 dX0_swapped_29 ?_
    refine lv_land hx hb dX0_swapped_32 ?_
    refine lv_topl (fun x3 ex3 => ?_)
    have h := h x3 ex3
    refine lv_lstore (lv' := [(6, .long x3), (4, .long x2), (2, .long x1), (0, .long p1)]) hx hb dX0_swapped_33 hl (by decide) rfl (fun ls hl => ?_)
    refine lv_lload hx hb dX0_swapped_35 (lv_at hl 1 rfl) ?_
    refine lv_lload hx hb dX0_swapped_37 (lv_at hl 0 rfl) ?_
    refine lv_lxor hx hb dX0_swapped_39 ?_
    refine lv_lload hx hb dX0_swapped_40 (lv_at hl 0 rfl) ?_
    refine lv_bipush (v := (14)) hx hb dX0_swapped_42 (by decide) ?_
    refine lv_lshl hx hb dX0_swapped_44 rfl ?_
    refine lv_lxor hx hb dX0_swapped_45 ?_
    refine lv_topl (fun x4 ex4 => ?_)
    have h := h x4 ex4
    refine lv_lstore (lv' := [(8, .long x4), (6, .long x3), (4, .long x2), (2, .long x1), (0, .long p1)]) hx hb dX0_swapped_46 hl (by decide) rfl (fun ls hl => ?_)
    refine lv_lload hx hb dX0_swapped_48 (lv_at hl 0 rfl) ?_
    refine lv_lload hx hb dX0_swapped_50 (lv_at hl 0 rfl) ?_
    refine lv_bipush (v := (28)) hx hb dX0_swapped_52 (by decide) ?_
    refine lv_lushr hx hb dX0_swapped_54 rfl ?_
    refine lv_lxor hx hb dX0_swapped_55 ?_
    refine lv_ldc2 (v := (4042322160)) hx hb hown f3 dX0_swapped_56 ?_
    refine lv_land hx hb dX0_swapped_59 ?_
    refine lv_topl (fun x5 ex5 => ?_)
    have h := h x5 ex5
    refine lv_lstore (lv' := [(10, .long x5), (8, .long x4), (6, .long x3), (4, .long x2), (2, .long x1), (0, .long p1)]) hx hb dX0_swapped_60 hl (by decide) rfl (fun ls hl => ?_)
    refine lv_lload hx hb dX0_swapped_62 (lv_at hl 1 rfl) ?_
    refine lv_lload hx hb dX0_swapped_64 (lv_at hl 0 rfl) ?_
    refine lv_lxor hx hb dX0_swapped_66 ?_
    refine lv_lload hx hb dX0_swapped_67 (lv_at hl 0 rfl) ?_
    refine lv_bipush (v := (28)) hx hb dX0_swapped_69 (by decide) ?_
    refine lv_lshl hx hb dX0_swapped_71 rfl ?_
    refine lv_lxor hx hb dX0_swapped_72 ?_
    exact W.lret (v := ((x4 ^^^ x5) ^^^ (x5 <<< (Int32.toInt64 (28 : Int32) &&& 63)))) hx hb hr (fun t ht hW => ⟨⟨_, (), rfl, h, by rw [ht]; exact hP, va_K.moved hW.alike hK, hD⟩, hS.F ht⟩) hS.2.2 dX0_swapped_73
  have hl := lv_entry ([.long p1]) (n := 12) (Nat.le_of_ble_eq_true rfl)
  rw [lg_entry_eq]
  generalize (lg_sl ([.long p1]) ++ List.replicate (12 - (lg_sl ([.long p1])).length) Slot.unset).toArray = ls at hl ⊢
  have hl : lv_has ls 12 [(0, .long p1)] := hl
  exact bE  s.heap [] ls hP hD hS hl h
def wX0_placeOf (p1 : Int32) (p2 : Int32) (p3 : Int32)  (Q : Int32 → Prop) : Prop :=
 (Q (((((p1 &&& (31 : Int32)) * (5 : Int32)) + p2) * (5 : Int32)) + p3) )
def rmX0_placeOf : Room := { frames := 0, cells := 0, slots := 0, locals := 0 }
set_option maxHeartbeats 4000000 in
set_option maxRecDepth 100000 in
theorem kX0_placeOf (l : Launch) (dC : Nat → ClassId) (dI : Nat → Nat → Nat) (cB cI cJ cZ : ClassId)  (sz : Nat) (p1 : Int32) (p2 : Int32) (p3 : Int32)  (Q : Int32 → Prop) (h : wX0_placeOf p1 p2 p3  Q) : Met l yX0_placeOf wsX0_placeOf rmX0_placeOf (va_Pc [.int p1, .int p2, .int p3] (e0I dC dI cB cI cJ cZ   sz)) (va_Qi (fun (r : Int32) (u : Unit) => Q r ) (e0B dC dI cB cI cJ cZ  (va_A (e0W cB cI cJ cZ  ) sz)) (va_A (e0W cB cI cJ cZ  ) sz)) 0 0 (va_A (e0W cB cI cJ cZ  ) sz) := by
  refine Met.ofW (cc := cX0_placeOf) (maxL := 3) (ret := (some .int)) (by decide) rfl ?_
  intro p e s m args below meth c s₁ B hml hv
  obtain ⟨rfl, hsz, hP, hK, hD0⟩ := hv
  have hx := B.exec
  have hb := B.bytes
  have hr := B.returns
  have hts := atoms_spec (ws := wsX0_placeOf) B.pre
  have hown : s.vm.findClass RX0 = some m.cls := findClass_of_methodNamed B.named
  have hlocks := B.notSynchronized
  subst hsz
  have hD := hD0.self (sz := s.heap.size)
  generalize hAe : va_A (e0W cB cI cJ cZ  ) s.heap.size = A at hD ⊢
  have hA : ∀ q : Nat, s.heap.size ≤ q → A q := fun q h => by rw [← hAe]; exact Or.inr h
  have hS : va_S A s.heap s.heap [] := va_S.rf
  have bE : ∀  (H : Heap) (locs : List Loc) (ls : Array Slot), va_P (dC, dI) vwCl (e0W cB cI cJ cZ  ) H → va_D A (e0W cB cI cJ cZ  ) → va_S A s.heap H locs → lv_has ls 3 [(0, .int p1), (1, .int p2), (2, .int p3)] → wX0_placeOf p1 p2 p3  Q → W p l e (headSpec wsX0_placeOf rmX0_placeOf).room s m ([.int p1, .int p2, .int p3] : List Value).toArray below meth c H locs 0 0 (MQ below (va_Qi (fun (r : Int32) (u : Unit) => Q r ) (e0B dC dI cB cI cJ cZ  A) A) ([.int p1, .int p2, .int p3] : List Value).toArray s 0 0 A) (F0 m 0 ls []) := by
    intro  H locs ls hP hD hS hl h
    unfold wX0_placeOf at h
    refine lv_iload_n hx hb dX0_placeOf_0 rfl (lv_at hl 0 rfl) ?_
    refine lv_bipush (v := (31)) hx hb dX0_placeOf_1 (by decide) ?_
    refine lv_iand hx hb dX0_placeOf_3 ?_
    refine lv_iconst (v := 5) hx hb dX0_placeOf_4 (by decide) ?_
    refine lv_imul hx hb dX0_placeOf_5 ?_
    refine lv_iload_n hx hb dX0_placeOf_6 rfl (lv_at hl 1 rfl) ?_
    refine lv_iadd hx hb dX0_placeOf_7 ?_
    refine lv_iconst (v := 5) hx hb dX0_placeOf_8 (by decide) ?_
    refine lv_imul hx hb dX0_placeOf_9 ?_
    refine lv_iload_n hx hb dX0_placeOf_10 rfl (lv_at hl 2 rfl) ?_
    refine lv_iadd hx hb dX0_placeOf_11 ?_
    exact W.iret (v := (((((p1 &&& (31 : Int32)) * (5 : Int32)) + p2) * (5 : Int32)) + p3)) hx hb hr (fun t ht hW => ⟨⟨_, (), rfl, h, by rw [ht]; exact hP, va_K.moved hW.alike hK, hD⟩, hS.F ht⟩) hS.2.2 dX0_placeOf_12
  have hl := lv_entry ([.int p1, .int p2, .int p3]) (n := 3) (Nat.le_of_ble_eq_true rfl)
  rw [lg_entry_eq]
  generalize (lg_sl ([.int p1, .int p2, .int p3]) ++ List.replicate (3 - (lg_sl ([.int p1, .int p2, .int p3])).length) Slot.unset).toArray = ls at hl ⊢
  have hl : lv_has ls 3 [(0, .int p1), (1, .int p2), (2, .int p3)] := hl
  exact bE  s.heap [] ls hP hD hS hl h
def wX0_purses (p1 : Int32) (M0 : gS) (Q : Int64 → gS → Prop) : Prop :=
 ((0 ≤ p1 → (((14 : Int32) ≤ p1 → (Q (ml M0 0 14) M0))
 ∧ (¬ (14 : Int32) ≤ p1 → (vp_in p1 15 ∧ (Q (ml M0 0 (Int32.toNatClampNeg p1)) M0)))))
 ∧ (¬ 0 ≤ p1 → (Q (0 : Int64) M0)))
def rmX0_purses : Room := { frames := 0, cells := 0, slots := 0, locals := 0 }
set_option maxHeartbeats 4000000 in
set_option maxRecDepth 100000 in
theorem kX0_purses (l : Launch) (dC : Nat → ClassId) (dI : Nat → Nat → Nat) (cB cI cJ cZ : ClassId) (h0 : Nat) (a0 : Nat → Nat) (sz : Nat) (p1 : Int32) (M0 : gS) (Q : Int64 → gS → Prop) (h : wX0_purses p1 M0 Q) : Met l yX0_purses wsX0_purses rmX0_purses (va_Pc [.ref h0, .int p1] (baI dC dI cB cI cJ cZ h0 a0 M0 sz)) (va_Ql (fun (r : Int64) (u : gS) => Q r u) (baB dC dI cB cI cJ cZ h0 a0 (va_A (baW cB cI cJ cZ h0 a0 M0) sz)) (va_A (baW cB cI cJ cZ h0 a0 M0) sz)) 0 0 (va_A (baW cB cI cJ cZ h0 a0 M0) sz) := by
  refine Met.ofW (cc := cX0_purses) (maxL := 2) (ret := (some .long)) (by decide) rfl ?_
  intro p e s m args below meth c s₁ B hml hv
  obtain ⟨rfl, hsz, hP, hK, hD0⟩ := hv
  have hx := B.exec
  have hb := B.bytes
  have hr := B.returns
  have hts := atoms_spec (ws := wsX0_purses) B.pre
  have hown : s.vm.findClass RX0 = some m.cls := findClass_of_methodNamed B.named
  have hlocks := B.notSynchronized
  subst hsz
  have hD := hD0.self (sz := s.heap.size)
  generalize hAe : va_A (baW cB cI cJ cZ h0 a0 M0) s.heap.size = A at hD ⊢
  have hA : ∀ q : Nat, s.heap.size ≤ q → A q := fun q h => by rw [← hAe]; exact Or.inr h
  have hS : va_S A s.heap s.heap [] := va_S.rf
  have hinX0 : ∀ w ∈ wsX00, w ∈ wsX0_purses := by decide +kernel
  have f1 := hts (.fieldLink RX0 11 "LastWords$BestPlay" "atMost" "[J") (by decide +kernel)
  have bE : ∀ (M0 : gS) (H : Heap) (locs : List Loc) (ls : Array Slot), va_P (dC, dI) vwCl (baW cB cI cJ cZ h0 a0 M0) H → va_D A (baW cB cI cJ cZ h0 a0 M0) → va_S A s.heap H locs → lv_has ls 2 [(0, .ref h0), (1, .int p1)] → wX0_purses p1 M0 Q → W p l e (headSpec wsX0_purses rmX0_purses).room s m ([.ref h0, .int p1] : List Value).toArray below meth c H locs 0 0 (MQ below (va_Ql (fun (r : Int64) (u : gS) => Q r u) (baB dC dI cB cI cJ cZ h0 a0 A) A) ([.ref h0, .int p1] : List Value).toArray s 0 0 A) (F0 m 0 ls []) := by
    intro M0 H locs ls hP hD hS hl h
    unfold wX0_purses at h
    refine lv_iload_n hx hb dX0_purses_0 rfl (lv_at hl 1 rfl) ?_
    refine lv_if_ge (tgt := 6) hx hb dX0_purses_1 (by decide) (fun c1 => ?_) (fun c1 => ?_)
    · have h := h.1 c1
      refine lv_aload_n hx hb dX0_purses_6 rfl (lv_at hl 0 rfl) ?_
      refine va_get (D := (dC, dI)) (ci := 0) (v := .ref (a0 0)) (C := RX0) (T := TX0) (N := 11) hx hb hts hinX0 hown hK hP 0 rfl rfl 0 (by decide) f1 (fun _ h9 => h9) rfl dX0_purses_7 ?_
      refine lv_iload_n hx hb dX0_purses_10 rfl (lv_at hl 1 rfl) ?_
      refine lv_bipush (v := (14)) hx hb dX0_purses_11 (by decide) ?_
      refine lv_icmp_ge (tgt := 20) hx hb dX0_purses_13 (by decide) (fun c2 => ?_) (fun c2 => ?_)
      · have h := h.1 c2
        refine lv_bipush (v := (14)) hx hb dX0_purses_20 (by decide) ?_
        refine wc_lald (j := 14) hx hb hK hP 1 2 (f := ml M0 0) rfl rfl (by decide) (by decide) (by decide) dX0_purses_22 ?_
        exact W.lret (v := (ml M0 0 14)) hx hb hr (fun t ht hW => ⟨⟨_, (M0), rfl, h, by rw [ht]; exact hP, va_K.moved hW.alike hK, hD⟩, hS.F ht⟩) hS.2.2 dX0_purses_23
      · have h := h.2 c2
        refine lv_iload_n hx hb dX0_purses_16 rfl (lv_at hl 1 rfl) ?_
        refine lv_goto (tgt := 22) hx hb dX0_purses_17 (by decide) ?_
        refine va_lald hx hb hK hP 1 2 (f := ml M0 0) rfl rfl h.1 dX0_purses_22 ?_
        have h := h.2
        exact W.lret (v := (ml M0 0 (Int32.toNatClampNeg p1))) hx hb hr (fun t ht hW => ⟨⟨_, (M0), rfl, h, by rw [ht]; exact hP, va_K.moved hW.alike hK, hD⟩, hS.F ht⟩) hS.2.2 dX0_purses_23
    · have h := h.2 c1
      refine lv_lconst (v := 0) hx hb dX0_purses_4 (by decide) ?_
      exact W.lret (v := (0 : Int64)) hx hb hr (fun t ht hW => ⟨⟨_, (M0), rfl, h, by rw [ht]; exact hP, va_K.moved hW.alike hK, hD⟩, hS.F ht⟩) hS.2.2 dX0_purses_5
  have hl := lv_entry ([.ref h0, .int p1]) (n := 2) (Nat.le_of_ble_eq_true rfl)
  rw [lg_entry_eq]
  generalize (lg_sl ([.ref h0, .int p1]) ++ List.replicate (2 - (lg_sl ([.ref h0, .int p1])).length) Slot.unset).toArray = ls at hl ⊢
  have hl : lv_has ls 2 [(0, .ref h0), (1, .int p1)] := hl
  exact bE M0 s.heap [] ls hP hD hS hl h
def wX0_kindOf (p1 : Int32) (M0 : gS) (Q : Int32 → gS → Prop) : Prop :=
 (((mg M0 10) = (1 : Int32) → (Q (0 : Int32) M0))
 ∧ (¬ (mg M0 10) = (1 : Int32) → (Q (p1 + (1 : Int32)) M0)))
def rmX0_kindOf : Room := { frames := 0, cells := 0, slots := 0, locals := 0 }
set_option maxHeartbeats 4000000 in
set_option maxRecDepth 100000 in
theorem kX0_kindOf (l : Launch) (dC : Nat → ClassId) (dI : Nat → Nat → Nat) (cB cI cJ cZ : ClassId) (h0 : Nat) (a0 : Nat → Nat) (sz : Nat) (p1 : Int32) (M0 : gS) (Q : Int32 → gS → Prop) (h : wX0_kindOf p1 M0 Q) : Met l yX0_kindOf wsX0_kindOf rmX0_kindOf (va_Pc [.ref h0, .int p1] (baI dC dI cB cI cJ cZ h0 a0 M0 sz)) (va_Qi (fun (r : Int32) (u : gS) => Q r u) (baB dC dI cB cI cJ cZ h0 a0 (va_A (baW cB cI cJ cZ h0 a0 M0) sz)) (va_A (baW cB cI cJ cZ h0 a0 M0) sz)) 0 0 (va_A (baW cB cI cJ cZ h0 a0 M0) sz) := by
  refine Met.ofW (cc := cX0_kindOf) (maxL := 2) (ret := (some .int)) (by decide) rfl ?_
  intro p e s m args below meth c s₁ B hml hv
  obtain ⟨rfl, hsz, hP, hK, hD0⟩ := hv
  have hx := B.exec
  have hb := B.bytes
  have hr := B.returns
  have hts := atoms_spec (ws := wsX0_kindOf) B.pre
  have hown : s.vm.findClass RX0 = some m.cls := findClass_of_methodNamed B.named
  have hlocks := B.notSynchronized
  subst hsz
  have hD := hD0.self (sz := s.heap.size)
  generalize hAe : va_A (baW cB cI cJ cZ h0 a0 M0) s.heap.size = A at hD ⊢
  have hA : ∀ q : Nat, s.heap.size ≤ q → A q := fun q h => by rw [← hAe]; exact Or.inr h
  have hS : va_S A s.heap s.heap [] := va_S.rf
  have hinX0 : ∀ w ∈ wsX00, w ∈ wsX0_kindOf := by decide +kernel
  have f1 := hts (.fieldLink RX0 112 "LastWords$BestPlay" "kinds" "I") (by decide +kernel)
  have bE : ∀ (M0 : gS) (H : Heap) (locs : List Loc) (ls : Array Slot), va_P (dC, dI) vwCl (baW cB cI cJ cZ h0 a0 M0) H → va_D A (baW cB cI cJ cZ h0 a0 M0) → va_S A s.heap H locs → lv_has ls 2 [(0, .ref h0), (1, .int p1)] → wX0_kindOf p1 M0 Q → W p l e (headSpec wsX0_kindOf rmX0_kindOf).room s m ([.ref h0, .int p1] : List Value).toArray below meth c H locs 0 0 (MQ below (va_Qi (fun (r : Int32) (u : gS) => Q r u) (baB dC dI cB cI cJ cZ h0 a0 A) A) ([.ref h0, .int p1] : List Value).toArray s 0 0 A) (F0 m 0 ls []) := by
    intro M0 H locs ls hP hD hS hl h
    unfold wX0_kindOf at h
    refine lv_aload_n hx hb dX0_kindOf_0 rfl (lv_at hl 0 rfl) ?_
    refine va_get (D := (dC, dI)) (ci := 0) (v := .int (mg M0 10)) (C := RX0) (T := TX0) (N := 11) hx hb hts hinX0 hown hK hP 0 rfl rfl 10 (by decide) f1 (fun _ h9 => h9) rfl dX0_kindOf_1 ?_
    refine lv_iconst (v := 1) hx hb dX0_kindOf_4 (by decide) ?_
    refine lv_icmp_ne (tgt := 12) hx hb dX0_kindOf_5 (by decide) (fun c1 => ?_) (fun c1 => ?_)
    · have h := h.2 c1
      refine lv_iload_n hx hb dX0_kindOf_12 rfl (lv_at hl 1 rfl) ?_
      refine lv_iconst (v := 1) hx hb dX0_kindOf_13 (by decide) ?_
      refine lv_iadd hx hb dX0_kindOf_14 ?_
      exact W.iret (v := (p1 + (1 : Int32))) hx hb hr (fun t ht hW => ⟨⟨_, (M0), rfl, h, by rw [ht]; exact hP, va_K.moved hW.alike hK, hD⟩, hS.F ht⟩) hS.2.2 dX0_kindOf_15
    · have h := h.1 c1
      refine lv_iconst (v := 0) hx hb dX0_kindOf_8 (by decide) ?_
      refine lv_goto (tgt := 15) hx hb dX0_kindOf_9 (by decide) ?_
      exact W.iret (v := (0 : Int32)) hx hb hr (fun t ht hW => ⟨⟨_, (M0), rfl, h, by rw [ht]; exact hP, va_K.moved hW.alike hK, hD⟩, hS.F ht⟩) hS.2.2 dX0_kindOf_15
  have hl := lv_entry ([.ref h0, .int p1]) (n := 2) (Nat.le_of_ble_eq_true rfl)
  rw [lg_entry_eq]
  generalize (lg_sl ([.ref h0, .int p1]) ++ List.replicate (2 - (lg_sl ([.ref h0, .int p1])).length) Slot.unset).toArray = ls at hl ⊢
  have hl : lv_has ls 2 [(0, .ref h0), (1, .int p1)] := hl
  exact bE M0 s.heap [] ls hP hD hS hl h
def wX0_tooLong (p1 : Int32) (M0 : gS) (Q : Int64 → gS → Prop) : Prop :=
 ((p1 ≤ (200 : Int32) → (Q (0 : Int64) M0))
 ∧ (¬ p1 ≤ (200 : Int32) → (¬ (mg M0 6) = 0 ∧ (wX0_purses (((p1 - (200 : Int32)) - (1 : Int32)) / (mg M0 6)) M0 (fun (r2 : Int64) (N3 : gS) => (Q r2 N3))))))
def rmX0_tooLong : Room := { frames := 1, cells := 0, slots := 0, locals := 21 }
set_option maxHeartbeats 4000000 in
set_option maxRecDepth 100000 in
theorem kX0_tooLong (l : Launch) (dC : Nat → ClassId) (dI : Nat → Nat → Nat) (cB cI cJ cZ : ClassId) (h0 : Nat) (a0 : Nat → Nat) (sz : Nat) (p1 : Int32) (M0 : gS) (Q : Int64 → gS → Prop) (h : wX0_tooLong p1 M0 Q) : Met l yX0_tooLong wsX0_tooLong rmX0_tooLong (va_Pc [.ref h0, .int p1] (baI dC dI cB cI cJ cZ h0 a0 M0 sz)) (va_Ql (fun (r : Int64) (u : gS) => Q r u) (baB dC dI cB cI cJ cZ h0 a0 (va_A (baW cB cI cJ cZ h0 a0 M0) sz)) (va_A (baW cB cI cJ cZ h0 a0 M0) sz)) 0 0 (va_A (baW cB cI cJ cZ h0 a0 M0) sz) := by
  refine Met.ofW (cc := cX0_tooLong) (maxL := 2) (ret := (some .long)) (by decide) rfl ?_
  intro p e s m args below meth c s₁ B hml hv
  obtain ⟨rfl, hsz, hP, hK, hD0⟩ := hv
  have hx := B.exec
  have hb := B.bytes
  have hr := B.returns
  have hts := atoms_spec (ws := wsX0_tooLong) B.pre
  have hown : s.vm.findClass RX0 = some m.cls := findClass_of_methodNamed B.named
  have hlocks := B.notSynchronized
  subst hsz
  have hD := hD0.self (sz := s.heap.size)
  generalize hAe : va_A (baW cB cI cJ cZ h0 a0 M0) s.heap.size = A at hD ⊢
  have hA : ∀ q : Nat, s.heap.size ≤ q → A q := fun q h => by rw [← hAe]; exact Or.inr h
  have hS : va_S A s.heap s.heap [] := va_S.rf
  have hinX0 : ∀ w ∈ wsX00, w ∈ wsX0_tooLong := by decide +kernel
  have f1 := hts (.fieldLink RX0 29 "LastWords$BestPlay" "verse" "I") (by decide +kernel)
  have bE : ∀ (M0 : gS) (H : Heap) (locs : List Loc) (ls : Array Slot), va_P (dC, dI) vwCl (baW cB cI cJ cZ h0 a0 M0) H → va_D A (baW cB cI cJ cZ h0 a0 M0) → va_S A s.heap H locs → lv_has ls 2 [(0, .ref h0), (1, .int p1)] → wX0_tooLong p1 M0 Q → W p l e (headSpec wsX0_tooLong rmX0_tooLong).room s m ([.ref h0, .int p1] : List Value).toArray below meth c H locs 0 0 (MQ below (va_Ql (fun (r : Int64) (u : gS) => Q r u) (baB dC dI cB cI cJ cZ h0 a0 A) A) ([.ref h0, .int p1] : List Value).toArray s 0 0 A) (F0 m 0 ls []) := by
    intro M0 H locs ls hP hD hS hl h
    unfold wX0_tooLong at h
    refine lv_iload_n hx hb dX0_tooLong_0 rfl (lv_at hl 1 rfl) ?_
    refine lv_sipush (v := (200)) hx hb dX0_tooLong_1 (by decide) ?_
    refine lv_icmp_le (tgt := 26) hx hb dX0_tooLong_4 (by decide) (fun c1 => ?_) (fun c1 => ?_)
    · have h := h.1 c1
      refine lv_lconst (v := 0) hx hb dX0_tooLong_26 (by decide) ?_
      exact W.lret (v := (0 : Int64)) hx hb hr (fun t ht hW => ⟨⟨_, (M0), rfl, h, by rw [ht]; exact hP, va_K.moved hW.alike hK, hD⟩, hS.F ht⟩) hS.2.2 dX0_tooLong_27
    · have h := h.2 c1
      refine lv_aload_n hx hb dX0_tooLong_7 rfl (lv_at hl 0 rfl) ?_
      refine lv_iload_n hx hb dX0_tooLong_8 rfl (lv_at hl 1 rfl) ?_
      refine lv_sipush (v := (200)) hx hb dX0_tooLong_9 (by decide) ?_
      refine lv_isub hx hb dX0_tooLong_12 ?_
      refine lv_iconst (v := 1) hx hb dX0_tooLong_13 (by decide) ?_
      refine lv_isub hx hb dX0_tooLong_14 ?_
      refine lv_aload_n hx hb dX0_tooLong_15 rfl (lv_at hl 0 rfl) ?_
      refine va_get (D := (dC, dI)) (ci := 0) (v := .int (mg M0 6)) (C := RX0) (T := TX0) (N := 11) hx hb hts hinX0 hown hK hP 0 rfl rfl 6 (by decide) f1 (fun _ h9 => h9) rfl dX0_tooLong_16 ?_
      refine lv_idiv hx hb dX0_tooLong_19 h.1 ?_
      have h := h.2
      have hFc := gs_free hD hS hA
      refine va_calll (va_runV (As := [.int (((p1 - (200 : Int32)) - (1 : Int32)) / (mg M0 6))]) (rest := []) ⟨hx, hb, hml, hown, hts⟩ (kX0_purses l dC dI cB cI cJ cZ h0 a0 H.size (((p1 - (200 : Int32)) - (1 : Int32)) / (mg M0 6)) M0 _ h) (cwV 1 hts gX0_tooLong_X0_purses rfl rfl rfl (by decide +kernel) ⟨Nat.le_of_ble_eq_true rfl, Nat.le_of_ble_eq_true rfl⟩) (bapV hK hP hD) rfl rfl hl.1 rfl (lv_room (Nat.le_of_ble_eq_true rfl)) dX0_tooLong_20 ⟨Nat.le_of_ble_eq_true rfl, Nat.le_of_ble_eq_true rfl⟩) hS (fun q _ z => hFc q z) hFc (fun r2 u t H1 locs ht hvm hw hB hz1 hk1 hS => ?_)
      obtain ⟨N3, rfl⟩ : ∃ z, z = u := ⟨_, rfl⟩
      obtain ⟨hP, hD⟩ := gs_back ht hFc hB
      generalize H1 = H at hP hS ⊢
      have h := hw
      try dsimp only at h
      refine lv_goto (tgt := 27) hx hb dX0_tooLong_23 (by decide) ?_
      exact W.lret (v := r2) hx hb hr (fun t ht hW => ⟨⟨_, (N3), rfl, h, by rw [ht]; exact hP, va_K.moved hW.alike hK, hD⟩, hS.F ht⟩) hS.2.2 dX0_tooLong_27
  have hl := lv_entry ([.ref h0, .int p1]) (n := 2) (Nat.le_of_ble_eq_true rfl)
  rw [lg_entry_eq]
  generalize (lg_sl ([.ref h0, .int p1]) ++ List.replicate (2 - (lg_sl ([.ref h0, .int p1])).length) Slot.unset).toArray = ls at hl ⊢
  have hl : lv_has ls 2 [(0, .ref h0), (1, .int p1)] := hl
  exact bE M0 s.heap [] ls hP hD hS hl h
def wX0_bySpeaking_5  (Q : Int64 → gS → Prop) : Nat → Int32 → Int64 → Int32 → gS → Prop
 | 0, _, _, _, _ => False
 | n + 1, y1, y2, y4, M0 => (((mg M0 4) ≤ y4 → (Q y2 M0))
 ∧ (¬ (mg M0 4) ≤ y4 → (vp_in y4 4 ∧ (vp_in ((ma M0 2 (Int32.toNatClampNeg y4)) + (y1 * (5 : Int32))) 800 ∧ (vp_in y4 4 ∧ (∀ x2 : Int64, x2 = (y2 ||| ((ml M0 1 (Int32.toNatClampNeg ((ma M0 2 (Int32.toNatClampNeg y4)) + (y1 * (5 : Int32))))) &&& (ml M0 3 (Int32.toNatClampNeg y4)))) → (∀ x3 : Int32, x3 = y4 + (1 : Int32) → (wX0_bySpeaking_5  Q n y1 x2 x3 M0))))))))
def wX0_bySpeaking (p1 : Int32) (M0 : gS) (Q : Int64 → gS → Prop) : Prop :=
 (∃ k5 : Nat, wX0_bySpeaking_5  Q k5 p1 (0 : Int64) (0 : Int32) M0)
def rmX0_bySpeaking : Room := { frames := 0, cells := 0, slots := 0, locals := 0 }
set_option maxHeartbeats 4000000 in
set_option maxRecDepth 100000 in
theorem kX0_bySpeaking (l : Launch) (dC : Nat → ClassId) (dI : Nat → Nat → Nat) (cB cI cJ cZ : ClassId) (h0 : Nat) (a0 : Nat → Nat) (sz : Nat) (p1 : Int32) (M0 : gS) (Q : Int64 → gS → Prop) (h : wX0_bySpeaking p1 M0 Q) : Met l yX0_bySpeaking wsX0_bySpeaking rmX0_bySpeaking (va_Pc [.ref h0, .int p1] (baI dC dI cB cI cJ cZ h0 a0 M0 sz)) (va_Ql (fun (r : Int64) (u : gS) => Q r u) (baB dC dI cB cI cJ cZ h0 a0 (va_A (baW cB cI cJ cZ h0 a0 M0) sz)) (va_A (baW cB cI cJ cZ h0 a0 M0) sz)) 0 0 (va_A (baW cB cI cJ cZ h0 a0 M0) sz) := by
  refine Met.ofW (cc := cX0_bySpeaking) (maxL := 5) (ret := (some .long)) (by decide) rfl ?_
  intro p e s m args below meth c s₁ B hml hv
  obtain ⟨rfl, hsz, hP, hK, hD0⟩ := hv
  have hx := B.exec
  have hb := B.bytes
  have hr := B.returns
  have hts := atoms_spec (ws := wsX0_bySpeaking) B.pre
  have hown : s.vm.findClass RX0 = some m.cls := findClass_of_methodNamed B.named
  have hlocks := B.notSynchronized
  subst hsz
  have hD := hD0.self (sz := s.heap.size)
  generalize hAe : va_A (baW cB cI cJ cZ h0 a0 M0) s.heap.size = A at hD ⊢
  have hA : ∀ q : Nat, s.heap.size ≤ q → A q := fun q h => by rw [← hAe]; exact Or.inr h
  have hS : va_S A s.heap s.heap [] := va_S.rf
  have hinX0 : ∀ w ∈ wsX00, w ∈ wsX0_bySpeaking := by decide +kernel
  have f1 := hts (.fieldLink RX0 135 "LastWords$BestPlay" "fitting" "I") (by decide +kernel)
  have f2 := hts (.fieldLink RX0 15 "LastWords$BestPlay" "lost" "[J") (by decide +kernel)
  have f3 := hts (.fieldLink RX0 18 "LastWords$BestPlay" "placesAfter" "[I") (by decide +kernel)
  have f4 := hts (.fieldLink RX0 22 "LastWords$BestPlay" "pursesAfter" "[J") (by decide +kernel)
  have b5 : ∀ (n : Nat) (y1 : Int32) (y2 : Int64) (y4 : Int32) (M0 : gS) (H : Heap) (locs : List Loc) (ls : Array Slot), va_P (dC, dI) vwCl (baW cB cI cJ cZ h0 a0 M0) H → va_D A (baW cB cI cJ cZ h0 a0 M0) → va_S A s.heap H locs → lv_has ls 5 [(0, .ref h0), (1, .int y1), (2, .long y2), (4, .int y4)] → wX0_bySpeaking_5  Q n y1 y2 y4 M0 → W p l e (headSpec wsX0_bySpeaking rmX0_bySpeaking).room s m ([.ref h0, .int p1] : List Value).toArray below meth c H locs 0 0 (MQ below (va_Ql (fun (r : Int64) (u : gS) => Q r u) (baB dC dI cB cI cJ cZ h0 a0 A) A) ([.ref h0, .int p1] : List Value).toArray s 0 0 A) (F0 m 5 ls []) := by
    intro  n
    induction n with
    | zero => intro y1 y2 y4 M0 H locs ls hP hD hS hl h; exact absurd h (by simp [wX0_bySpeaking_5])
    | succ n hB50 =>
      intro y1 y2 y4 M0 H locs ls hP hD hS hl h
      have hB5 := hB50
      rw [wX0_bySpeaking_5] at h
      refine lv_iload hx hb dX0_bySpeaking_5 (lv_at hl 3 rfl) ?_
      refine lv_aload_n hx hb dX0_bySpeaking_7 rfl (lv_at hl 0 rfl) ?_
      refine va_get (D := (dC, dI)) (ci := 0) (v := .int (mg M0 4)) (C := RX0) (T := TX0) (N := 11) hx hb hts hinX0 hown hK hP 0 rfl rfl 4 (by decide) f1 (fun _ h9 => h9) rfl dX0_bySpeaking_8 ?_
      refine lv_icmp_ge (tgt := 47) hx hb dX0_bySpeaking_11 (by decide) (fun c1 => ?_) (fun c1 => ?_)
      · have h := h.1 c1
        refine lv_lload_n hx hb dX0_bySpeaking_47 rfl (lv_at hl 2 rfl) ?_
        exact W.lret (v := y2) hx hb hr (fun t ht hW => ⟨⟨_, (M0), rfl, h, by rw [ht]; exact hP, va_K.moved hW.alike hK, hD⟩, hS.F ht⟩) hS.2.2 dX0_bySpeaking_48
      · have h := h.2 c1
        refine lv_lload_n hx hb dX0_bySpeaking_14 rfl (lv_at hl 2 rfl) ?_
        refine lv_aload_n hx hb dX0_bySpeaking_15 rfl (lv_at hl 0 rfl) ?_
        refine va_get (D := (dC, dI)) (ci := 0) (v := .ref (a0 1)) (C := RX0) (T := TX0) (N := 11) hx hb hts hinX0 hown hK hP 0 rfl rfl 1 (by decide) f2 (fun _ h9 => h9) rfl dX0_bySpeaking_16 ?_
        refine lv_aload_n hx hb dX0_bySpeaking_19 rfl (lv_at hl 0 rfl) ?_
        refine va_get (D := (dC, dI)) (ci := 0) (v := .ref (a0 2)) (C := RX0) (T := TX0) (N := 11) hx hb hts hinX0 hown hK hP 0 rfl rfl 2 (by decide) f3 (fun _ h9 => h9) rfl dX0_bySpeaking_20 ?_
        refine lv_iload hx hb dX0_bySpeaking_23 (lv_at hl 3 rfl) ?_
        refine va_iald hx hb hK hP 3 1 (f := ma M0 2) rfl rfl h.1 dX0_bySpeaking_25 ?_
        have h := h.2
        refine lv_iload_n hx hb dX0_bySpeaking_26 rfl (lv_at hl 1 rfl) ?_
        refine lv_iconst (v := 5) hx hb dX0_bySpeaking_27 (by decide) ?_
        refine lv_imul hx hb dX0_bySpeaking_28 ?_
        refine lv_iadd hx hb dX0_bySpeaking_29 ?_
        refine va_lald hx hb hK hP 2 2 (f := ml M0 1) rfl rfl h.1 dX0_bySpeaking_30 ?_
        have h := h.2
        refine lv_aload_n hx hb dX0_bySpeaking_31 rfl (lv_at hl 0 rfl) ?_
        refine va_get (D := (dC, dI)) (ci := 0) (v := .ref (a0 3)) (C := RX0) (T := TX0) (N := 11) hx hb hts hinX0 hown hK hP 0 rfl rfl 3 (by decide) f4 (fun _ h9 => h9) rfl dX0_bySpeaking_32 ?_
        refine lv_iload hx hb dX0_bySpeaking_35 (lv_at hl 3 rfl) ?_
        refine va_lald hx hb hK hP 4 2 (f := ml M0 3) rfl rfl h.1 dX0_bySpeaking_37 ?_
        have h := h.2
        refine lv_land hx hb dX0_bySpeaking_38 ?_
        refine lv_lor hx hb dX0_bySpeaking_39 ?_
        refine lv_topl (fun x2 ex2 => ?_)
        have h := h x2 ex2
        refine lv_lstore_n (lv' := [(2, .long x2), (0, .ref h0), (1, .int y1), (4, .int y4)]) hx hb dX0_bySpeaking_40 rfl hl (by decide) rfl (fun ls hl => ?_)
        obtain ⟨x3, ex3⟩ : ∃ y : Int32, y = y4 + (1 : Int32) := ⟨_, rfl⟩
        have h := h x3 ex3
        refine lv_iinc (v := x3) (lv' := [(4, .int x3), (2, .long x2), (0, .ref h0), (1, .int y1)]) hx hb dX0_bySpeaking_41 hl (k := 3) rfl (by rw [ex3]; rfl) (by decide) rfl (fun ls hl => ?_)
        refine lv_goto (tgt := 5) hx hb dX0_bySpeaking_44 (by decide) ?_
        exact hB5 y1 x2 x3 M0 H locs ls hP hD hS (lv_sub hl [2, 3, 1, 0] rfl) h
  have bE : ∀ (M0 : gS) (H : Heap) (locs : List Loc) (ls : Array Slot), va_P (dC, dI) vwCl (baW cB cI cJ cZ h0 a0 M0) H → va_D A (baW cB cI cJ cZ h0 a0 M0) → va_S A s.heap H locs → lv_has ls 5 [(0, .ref h0), (1, .int p1)] → wX0_bySpeaking p1 M0 Q → W p l e (headSpec wsX0_bySpeaking rmX0_bySpeaking).room s m ([.ref h0, .int p1] : List Value).toArray below meth c H locs 0 0 (MQ below (va_Ql (fun (r : Int64) (u : gS) => Q r u) (baB dC dI cB cI cJ cZ h0 a0 A) A) ([.ref h0, .int p1] : List Value).toArray s 0 0 A) (F0 m 0 ls []) := by
    intro M0 H locs ls hP hD hS hl h
    unfold wX0_bySpeaking at h
    refine lv_lconst (v := 0) hx hb dX0_bySpeaking_0 (by decide) ?_
    refine lv_lstore_n (lv' := [(2, .long (0 : Int64)), (0, .ref h0), (1, .int p1)]) hx hb dX0_bySpeaking_1 rfl hl (by decide) rfl (fun ls hl => ?_)
    refine lv_iconst (v := 0) hx hb dX0_bySpeaking_2 (by decide) ?_
    refine lv_istore (lv' := [(4, .int (0 : Int32)), (2, .long (0 : Int64)), (0, .ref h0), (1, .int p1)]) hx hb dX0_bySpeaking_3 hl (by decide) rfl (fun ls hl => ?_)
    obtain ⟨n9, h⟩ := h
    exact b5  n9 p1 (0 : Int64) (0 : Int32) M0 H locs ls hP hD hS (lv_sub hl [2, 3, 1, 0] rfl) h
  have hl := lv_entry ([.ref h0, .int p1]) (n := 5) (Nat.le_of_ble_eq_true rfl)
  rw [lg_entry_eq]
  generalize (lg_sl ([.ref h0, .int p1]) ++ List.replicate (5 - (lg_sl ([.ref h0, .int p1])).length) Slot.unset).toArray = ls at hl ⊢
  have hl : lv_has ls 5 [(0, .ref h0), (1, .int p1)] := hl
  exact bE M0 s.heap [] ls hP hD hS hl h
def wX0_winnersOf (p1 : Int32) (M0 : gS) (Q : Int64 → gS → Prop) : Prop :=
 (wX0_placeOf p1 (mg M0 7) (mg M0 8)  (fun (r1 : Int32)  => (vp_in r1 800 ∧ (wX0_swapped (ml M0 1 (Int32.toNatClampNeg r1))  (fun (r2 : Int64)  => (Q (r2 ^^^ (-1 : Int64)) M0))))))
def rmX0_winnersOf : Room := { frames := 1, cells := 0, slots := 0, locals := 31 }
set_option maxHeartbeats 4000000 in
set_option maxRecDepth 100000 in
theorem kX0_winnersOf (l : Launch) (dC : Nat → ClassId) (dI : Nat → Nat → Nat) (cB cI cJ cZ : ClassId) (h0 : Nat) (a0 : Nat → Nat) (sz : Nat) (p1 : Int32) (M0 : gS) (Q : Int64 → gS → Prop) (h : wX0_winnersOf p1 M0 Q) : Met l yX0_winnersOf wsX0_winnersOf rmX0_winnersOf (va_Pc [.ref h0, .int p1] (baI dC dI cB cI cJ cZ h0 a0 M0 sz)) (va_Ql (fun (r : Int64) (u : gS) => Q r u) (baB dC dI cB cI cJ cZ h0 a0 (va_A (baW cB cI cJ cZ h0 a0 M0) sz)) (va_A (baW cB cI cJ cZ h0 a0 M0) sz)) 0 0 (va_A (baW cB cI cJ cZ h0 a0 M0) sz) := by
  refine Met.ofW (cc := cX0_winnersOf) (maxL := 2) (ret := (some .long)) (by decide) rfl ?_
  intro p e s m args below meth c s₁ B hml hv
  obtain ⟨rfl, hsz, hP, hK, hD0⟩ := hv
  have hx := B.exec
  have hb := B.bytes
  have hr := B.returns
  have hts := atoms_spec (ws := wsX0_winnersOf) B.pre
  have hown : s.vm.findClass RX0 = some m.cls := findClass_of_methodNamed B.named
  have hlocks := B.notSynchronized
  subst hsz
  have hD := hD0.self (sz := s.heap.size)
  generalize hAe : va_A (baW cB cI cJ cZ h0 a0 M0) s.heap.size = A at hD ⊢
  have hA : ∀ q : Nat, s.heap.size ≤ q → A q := fun q h => by rw [← hAe]; exact Or.inr h
  have hS : va_S A s.heap s.heap [] := va_S.rf
  have hinX0 : ∀ w ∈ wsX00, w ∈ wsX0_winnersOf := by decide +kernel
  have f1 := hts (.fieldLink RX0 15 "LastWords$BestPlay" "lost" "[J") (by decide +kernel)
  have f2 := hts (.fieldLink RX0 75 "LastWords$BestPlay" "mineLast" "I") (by decide +kernel)
  have f3 := hts (.fieldLink RX0 82 "LastWords$BestPlay" "theirLast" "I") (by decide +kernel)
  have f4 := hts (.constantLong RX0 44 (-1)) (by decide +kernel)
  have bE : ∀ (M0 : gS) (H : Heap) (locs : List Loc) (ls : Array Slot), va_P (dC, dI) vwCl (baW cB cI cJ cZ h0 a0 M0) H → va_D A (baW cB cI cJ cZ h0 a0 M0) → va_S A s.heap H locs → lv_has ls 2 [(0, .ref h0), (1, .int p1)] → wX0_winnersOf p1 M0 Q → W p l e (headSpec wsX0_winnersOf rmX0_winnersOf).room s m ([.ref h0, .int p1] : List Value).toArray below meth c H locs 0 0 (MQ below (va_Ql (fun (r : Int64) (u : gS) => Q r u) (baB dC dI cB cI cJ cZ h0 a0 A) A) ([.ref h0, .int p1] : List Value).toArray s 0 0 A) (F0 m 0 ls []) := by
    intro M0 H locs ls hP hD hS hl h
    unfold wX0_winnersOf at h
    refine lv_aload_n hx hb dX0_winnersOf_0 rfl (lv_at hl 0 rfl) ?_
    refine va_get (D := (dC, dI)) (ci := 0) (v := .ref (a0 1)) (C := RX0) (T := TX0) (N := 11) hx hb hts hinX0 hown hK hP 0 rfl rfl 1 (by decide) f1 (fun _ h9 => h9) rfl dX0_winnersOf_1 ?_
    refine lv_iload_n hx hb dX0_winnersOf_4 rfl (lv_at hl 1 rfl) ?_
    refine lv_aload_n hx hb dX0_winnersOf_5 rfl (lv_at hl 0 rfl) ?_
    refine va_get (D := (dC, dI)) (ci := 0) (v := .int (mg M0 7)) (C := RX0) (T := TX0) (N := 11) hx hb hts hinX0 hown hK hP 0 rfl rfl 7 (by decide) f2 (fun _ h9 => h9) rfl dX0_winnersOf_6 ?_
    refine lv_aload_n hx hb dX0_winnersOf_9 rfl (lv_at hl 0 rfl) ?_
    refine va_get (D := (dC, dI)) (ci := 0) (v := .int (mg M0 8)) (C := RX0) (T := TX0) (N := 11) hx hb hts hinX0 hown hK hP 0 rfl rfl 8 (by decide) f3 (fun _ h9 => h9) rfl dX0_winnersOf_10 ?_
    have hPc := hP.sub (ws' := (e0W cB cI cJ cZ  )) [] rfl
    have hDc := hD.sub (ws' := (e0W cB cI cJ cZ  )) [] (by decide) rfl
    have hFc := va_free (wc := (e0W cB cI cJ cZ  )) hD hS hA [] rfl
    refine va_calli (va_runS (As := [.int p1, .int (mg M0 7), .int (mg M0 8)]) (rest := [.ref (a0 1)]) ⟨hx, hb, hml, hown, hts⟩ (kX0_placeOf l dC dI cB cI cJ cZ  H.size p1 (mg M0 7) (mg M0 8)  _ h) (cwS 3 hts gX0_winnersOf_X0_placeOf rfl rfl rfl (by decide +kernel) ⟨Nat.le_of_ble_eq_true rfl, Nat.le_of_ble_eq_true rfl⟩) (e0pS hK hPc hDc) rfl rfl hl.1 rfl (lv_room (Nat.le_of_ble_eq_true rfl)) dX0_winnersOf_13 ⟨Nat.le_of_ble_eq_true rfl, Nat.le_of_ble_eq_true rfl⟩) hS (fun q _ z => hFc q z) hFc (fun r1 u t H1 locs ht hvm hw hB hz1 hk1 hS => ?_)
    obtain ⟨hP1, hK1, hD1⟩ := hB
    rw [ht] at hP1
    obtain ⟨hP, hD⟩ := va_join (wr := [(h0, .inr (0, [.ref (a0 0), .ref (a0 1), .ref (a0 2), .ref (a0 3), .int (mg M0 4), .ref (a0 5), .int (mg M0 6), .int (mg M0 7), .int (mg M0 8), .int (mg M0 9), .int (mg M0 10)])), (a0 0, .inl (cJ, 15, .inr (.inl (ml M0 0)))), (a0 1, .inl (cJ, 800, .inr (.inl (ml M0 1)))), (a0 2, .inl (cI, 4, .inl (ma M0 2))), (a0 3, .inl (cJ, 4, .inr (.inl (ml M0 3))))]) (w1 := (e0W cB cI cJ cZ  )) hP hD [] [0, 1, 2, 3, 4] rfl rfl (by decide) (by decide) hk1 hFc hP1 hD1
    have hP := hP.sub (ws' := (baW cB cI cJ cZ h0 a0 M0)) [0, 1, 2, 3, 4] rfl
    have hD := hD.sub (ws' := (baW cB cI cJ cZ h0 a0 M0)) [0, 1, 2, 3, 4] (by decide) rfl
    generalize H1 = H at hP hS ⊢
    have h := hw
    try dsimp only at h
    refine va_lald hx hb hK hP 2 2 (f := ml M0 1) rfl rfl h.1 dX0_winnersOf_16 ?_
    have h := h.2
    have hPc := hP.sub (ws' := (e0W cB cI cJ cZ  )) [] rfl
    have hDc := hD.sub (ws' := (e0W cB cI cJ cZ  )) [] (by decide) rfl
    have hFc := va_free (wc := (e0W cB cI cJ cZ  )) hD hS hA [] rfl
    refine va_calll (va_runS (As := [.long (ml M0 1 (Int32.toNatClampNeg r1))]) (rest := []) ⟨hx, hb, hml, hown, hts⟩ (kX0_swapped l dC dI cB cI cJ cZ  H.size (ml M0 1 (Int32.toNatClampNeg r1))  _ h) (cwS 1 hts gX0_winnersOf_X0_swapped rfl rfl rfl (by decide +kernel) ⟨Nat.le_of_ble_eq_true rfl, Nat.le_of_ble_eq_true rfl⟩) (e0pS hK hPc hDc) rfl rfl hl.1 rfl (lv_room (Nat.le_of_ble_eq_true rfl)) dX0_winnersOf_17 ⟨Nat.le_of_ble_eq_true rfl, Nat.le_of_ble_eq_true rfl⟩) hS (fun q _ z => hFc q z) hFc (fun r2 u t H1 locs ht hvm hw hB hz1 hk1 hS => ?_)
    obtain ⟨hP1, hK1, hD1⟩ := hB
    rw [ht] at hP1
    obtain ⟨hP, hD⟩ := va_join (wr := [(h0, .inr (0, [.ref (a0 0), .ref (a0 1), .ref (a0 2), .ref (a0 3), .int (mg M0 4), .ref (a0 5), .int (mg M0 6), .int (mg M0 7), .int (mg M0 8), .int (mg M0 9), .int (mg M0 10)])), (a0 0, .inl (cJ, 15, .inr (.inl (ml M0 0)))), (a0 1, .inl (cJ, 800, .inr (.inl (ml M0 1)))), (a0 2, .inl (cI, 4, .inl (ma M0 2))), (a0 3, .inl (cJ, 4, .inr (.inl (ml M0 3))))]) (w1 := (e0W cB cI cJ cZ  )) hP hD [] [0, 1, 2, 3, 4] rfl rfl (by decide) (by decide) hk1 hFc hP1 hD1
    have hP := hP.sub (ws' := (baW cB cI cJ cZ h0 a0 M0)) [0, 1, 2, 3, 4] rfl
    have hD := hD.sub (ws' := (baW cB cI cJ cZ h0 a0 M0)) [0, 1, 2, 3, 4] (by decide) rfl
    generalize H1 = H at hP hS ⊢
    have h := hw
    try dsimp only at h
    refine lv_ldc2 (v := (-1)) hx hb hown f4 dX0_winnersOf_20 ?_
    refine lv_lxor hx hb dX0_winnersOf_23 ?_
    exact W.lret (v := (r2 ^^^ (-1 : Int64))) hx hb hr (fun t ht hW => ⟨⟨_, (M0), rfl, h, by rw [ht]; exact hP, va_K.moved hW.alike hK, hD⟩, hS.F ht⟩) hS.2.2 dX0_winnersOf_24
  have hl := lv_entry ([.ref h0, .int p1]) (n := 2) (Nat.le_of_ble_eq_true rfl)
  rw [lg_entry_eq]
  generalize (lg_sl ([.ref h0, .int p1]) ++ List.replicate (2 - (lg_sl ([.ref h0, .int p1])).length) Slot.unset).toArray = ls at hl ⊢
  have hl : lv_has ls 2 [(0, .ref h0), (1, .int p1)] := hl
  exact bE M0 s.heap [] ls hP hD hS hl h
def wX0_gatherWords_93 (B7 : Int32 → Int32 → Int32 → gS → gS → Prop) (Q : gS → gS → Prop) (y1 : Int32) (y2 : Int32) (y3 : Int32) (M0 : gS) (M1 : gS) : Prop :=
 (∀ x1 : Int32, x1 = y3 + (1 : Int32) → (B7 y1 y2 x1 M0 M1))
def wX0_gatherWords_7  (Q : gS → gS → Prop) : Nat → Int32 → Int32 → Int32 → gS → gS → Prop
 | 0, _, _, _, _, _ => False
 | n + 1, y1, y2, y3, M0, M1 => (((mg M1 2) ≤ y3 → (Q M0 M1))
 ∧ (¬ (mg M1 2) ≤ y3 → (((4 : Int32) ≤ y3 → (Q M0 M1))
 ∧ (¬ (4 : Int32) ≤ y3 → (wX1_cost y3 (y2 - (1 : Int32)) M1 (fun (r3 : Int32) (N4 : gS) => (∀ x5 : Int32, x5 = (y1 - r3) → ((x5 < 0 → (wX0_gatherWords_93 (fun (y1 : Int32) (y2 : Int32) (y3 : Int32) (M0 : gS) (M1 : gS) => wX0_gatherWords_7  Q n y1 y2 y3 M0 M1) Q y1 y2 y3 M0 N4))
 ∧ (¬ x5 < 0 → (wX0_kindOf y3 M0 (fun (r7 : Int32) (N8 : gS) => (wX0_placeOf x5 (0 : Int32) r7  (fun (r9 : Int32)  => (vp_in (mg M0 4) 4 ∧ (∀ N10 : gS, N10 = sa N8 2 (Int32.toNatClampNeg (mg M0 4)) r9 → (¬ (mg N10 6) = 0 ∧ (wX0_purses (x5 / (mg N10 6)) N10 (fun (r11 : Int64) (N12 : gS) => (vp_in (mg N10 4) 4 ∧ (∀ N13 : gS, N13 = sl N12 3 (Int32.toNatClampNeg (mg N10 4)) r11 → (∀ x14 : Int32, x14 = ((mg N13 4) + (1 : Int32)) → (∀ N15 : gS, N15 = sg N13 4 x14 → (wX0_gatherWords_93 (fun (y1 : Int32) (y2 : Int32) (y3 : Int32) (M0 : gS) (M1 : gS) => wX0_gatherWords_7  Q n y1 y2 y3 M0 M1) Q y1 y2 y3 N15 N4)))))))))))))))))))))))
def wX0_gatherWords (p1 : Int32) (p2 : Int32) (M0 : gS) (M1 : gS) (Q : gS → gS → Prop) : Prop :=
 (∀ N1 : gS, N1 = sg M0 4 (0 : Int32) → (∃ k7 : Nat, wX0_gatherWords_7  Q k7 p1 p2 (0 : Int32) N1 M1))
def rmX0_gatherWords : Room := { frames := 1, cells := 0, slots := 0, locals := 22 }
set_option maxHeartbeats 4000000 in
set_option maxRecDepth 100000 in
theorem kX0_gatherWords (l : Launch) (dC : Nat → ClassId) (dI : Nat → Nat → Nat) (cB cI cJ cZ : ClassId) (h0 : Nat) (a0 : Nat → Nat) (a1 : Nat → Nat) (sz : Nat) (p1 : Int32) (p2 : Int32) (M0 : gS) (M1 : gS) (Q : gS → gS → Prop) (h : wX0_gatherWords p1 p2 M0 M1 Q) : Met l yX0_gatherWords wsX0_gatherWords rmX0_gatherWords (va_Pc [.ref h0, .int p1, .int p2] (bcI dC dI cB cI cJ cZ h0 a0 a1 M0 M1 sz)) (va_Qv (fun (u : gS × gS) => Q u.1 u.2) (bcB dC dI cB cI cJ cZ h0 a0 a1 (va_A (bcW cB cI cJ cZ h0 a0 a1 M0 M1) sz)) (va_A (bcW cB cI cJ cZ h0 a0 a1 M0 M1) sz)) 0 0 (va_A (bcW cB cI cJ cZ h0 a0 a1 M0 M1) sz) := by
  refine Met.ofW (cc := cX0_gatherWords) (maxL := 5) (ret := none) (by decide) rfl ?_
  intro p e s m args below meth c s₁ B hml hv
  obtain ⟨rfl, hsz, hP, hK, hD0⟩ := hv
  have hx := B.exec
  have hb := B.bytes
  have hr := B.returns
  have hts := atoms_spec (ws := wsX0_gatherWords) B.pre
  have hown : s.vm.findClass RX0 = some m.cls := findClass_of_methodNamed B.named
  have hlocks := B.notSynchronized
  subst hsz
  have hD := hD0.self (sz := s.heap.size)
  generalize hAe : va_A (bcW cB cI cJ cZ h0 a0 a1 M0 M1) s.heap.size = A at hD ⊢
  have hA : ∀ q : Nat, s.heap.size ≤ q → A q := fun q h => by rw [← hAe]; exact Or.inr h
  have hS : va_S A s.heap s.heap [] := va_S.rf
  have hinX0 : ∀ w ∈ wsX00, w ∈ wsX0_gatherWords := by decide +kernel
  have hinX1 : ∀ w ∈ wsX10, w ∈ wsX0_gatherWords := by decide +kernel
  have f1 := hts (.fieldLink RX0 62 "LastWords$BestPlay" "corner" "LLastWords$Corner;") (by decide +kernel)
  have f2 := hts (.fieldLink RX0 66 "LastWords$Corner" "words" "I") (by decide +kernel)
  have f3 := hts (.fieldLink RX0 18 "LastWords$BestPlay" "placesAfter" "[I") (by decide +kernel)
  have f4 := hts (.fieldLink RX0 135 "LastWords$BestPlay" "fitting" "I") (by decide +kernel)
  have f5 := hts (.fieldLink RX0 22 "LastWords$BestPlay" "pursesAfter" "[J") (by decide +kernel)
  have f6 := hts (.fieldLink RX0 29 "LastWords$BestPlay" "verse" "I") (by decide +kernel)
  have b93 : ∀ (B7 : Int32 → Int32 → Int32 → gS → gS → Prop) (hB7 : ∀ (y1 : Int32) (y2 : Int32) (y3 : Int32) (M0 : gS) (M1 : gS) (H : Heap) (locs : List Loc) (ls : Array Slot), va_P (dC, dI) vwCl (bcW cB cI cJ cZ h0 a0 a1 M0 M1) H → va_D A (bcW cB cI cJ cZ h0 a0 a1 M0 M1) → va_S A s.heap H locs → lv_has ls 5 [(0, .ref h0), (1, .int y1), (2, .int y2), (3, .int y3)] → B7 y1 y2 y3 M0 M1 → W p l e (headSpec wsX0_gatherWords rmX0_gatherWords).room s m ([.ref h0, .int p1, .int p2] : List Value).toArray below meth c H locs 0 0 (MQ below (va_Qv (fun (u : gS × gS) => Q u.1 u.2) (bcB dC dI cB cI cJ cZ h0 a0 a1 A) A) ([.ref h0, .int p1, .int p2] : List Value).toArray s 0 0 A) (F0 m 7 ls [])) (y1 : Int32) (y2 : Int32) (y3 : Int32) (M0 : gS) (M1 : gS) (H : Heap) (locs : List Loc) (ls : Array Slot), va_P (dC, dI) vwCl (bcW cB cI cJ cZ h0 a0 a1 M0 M1) H → va_D A (bcW cB cI cJ cZ h0 a0 a1 M0 M1) → va_S A s.heap H locs → lv_has ls 5 [(0, .ref h0), (1, .int y1), (2, .int y2), (3, .int y3)] → wX0_gatherWords_93 B7 Q y1 y2 y3 M0 M1 → W p l e (headSpec wsX0_gatherWords rmX0_gatherWords).room s m ([.ref h0, .int p1, .int p2] : List Value).toArray below meth c H locs 0 0 (MQ below (va_Qv (fun (u : gS × gS) => Q u.1 u.2) (bcB dC dI cB cI cJ cZ h0 a0 a1 A) A) ([.ref h0, .int p1, .int p2] : List Value).toArray s 0 0 A) (F0 m 93 ls []) := by
    intro B7 hB7 y1 y2 y3 M0 M1 H locs ls hP hD hS hl h
    unfold wX0_gatherWords_93 at h
    obtain ⟨x1, ex1⟩ : ∃ y : Int32, y = y3 + (1 : Int32) := ⟨_, rfl⟩
    have h := h x1 ex1
    refine lv_iinc (v := x1) (lv' := [(3, .int x1), (0, .ref h0), (1, .int y1), (2, .int y2)]) hx hb dX0_gatherWords_93 hl (k := 3) rfl (by rw [ex1]; rfl) (by decide) rfl (fun ls hl => ?_)
    refine lv_goto (tgt := 7) hx hb dX0_gatherWords_96 (by decide) ?_
    exact hB7 y1 y2 x1 M0 M1 H locs ls hP hD hS (lv_sub hl [1, 2, 3, 0] rfl) h
  have b7 : ∀ (n : Nat) (y1 : Int32) (y2 : Int32) (y3 : Int32) (M0 : gS) (M1 : gS) (H : Heap) (locs : List Loc) (ls : Array Slot), va_P (dC, dI) vwCl (bcW cB cI cJ cZ h0 a0 a1 M0 M1) H → va_D A (bcW cB cI cJ cZ h0 a0 a1 M0 M1) → va_S A s.heap H locs → lv_has ls 5 [(0, .ref h0), (1, .int y1), (2, .int y2), (3, .int y3)] → wX0_gatherWords_7  Q n y1 y2 y3 M0 M1 → W p l e (headSpec wsX0_gatherWords rmX0_gatherWords).room s m ([.ref h0, .int p1, .int p2] : List Value).toArray below meth c H locs 0 0 (MQ below (va_Qv (fun (u : gS × gS) => Q u.1 u.2) (bcB dC dI cB cI cJ cZ h0 a0 a1 A) A) ([.ref h0, .int p1, .int p2] : List Value).toArray s 0 0 A) (F0 m 7 ls []) := by
    intro  n
    induction n with
    | zero => intro y1 y2 y3 M0 M1 H locs ls hP hD hS hl h; exact absurd h (by simp [wX0_gatherWords_7])
    | succ n hB70 =>
      intro y1 y2 y3 M0 M1 H locs ls hP hD hS hl h
      have hB7 := hB70
      rw [wX0_gatherWords_7] at h
      refine lv_iload_n hx hb dX0_gatherWords_7 rfl (lv_at hl 3 rfl) ?_
      refine lv_aload_n hx hb dX0_gatherWords_8 rfl (lv_at hl 0 rfl) ?_
      refine va_get (D := (dC, dI)) (ci := 0) (v := .ref (a0 5)) (C := RX0) (T := TX0) (N := 11) hx hb hts hinX0 hown hK hP 0 rfl rfl 5 (by decide) f1 (fun _ h9 => h9) rfl dX0_gatherWords_9 ?_
      refine va_get (D := (dC, dI)) (ci := 1) (v := .int (mg M1 2)) (C := RX1) (T := TX1) (N := 6) hx hb hts hinX1 hown hK hP 5 rfl rfl 2 (by decide) f2 (fun _ h9 => h9) rfl dX0_gatherWords_12 ?_
      refine lv_icmp_ge (tgt := 99) hx hb dX0_gatherWords_15 (by decide) (fun c1 => ?_) (fun c1 => ?_)
      · have h := h.1 c1
        exact W.vret hx hb hr (fun t ht hW => ⟨⟨(M0, M1), rfl, h, by rw [ht]; exact hP, va_K.moved hW.alike hK, hD⟩, hS.F ht⟩) hS.2.2 dX0_gatherWords_99
      · have h := h.2 c1
        refine lv_iload_n hx hb dX0_gatherWords_18 rfl (lv_at hl 3 rfl) ?_
        refine lv_iconst (v := 4) hx hb dX0_gatherWords_19 (by decide) ?_
        refine lv_icmp_ge (tgt := 99) hx hb dX0_gatherWords_20 (by decide) (fun c2 => ?_) (fun c2 => ?_)
        · have h := h.1 c2
          exact W.vret hx hb hr (fun t ht hW => ⟨⟨(M0, M1), rfl, h, by rw [ht]; exact hP, va_K.moved hW.alike hK, hD⟩, hS.F ht⟩) hS.2.2 dX0_gatherWords_99
        · have h := h.2 c2
          refine lv_iload_n hx hb dX0_gatherWords_23 rfl (lv_at hl 1 rfl) ?_
          refine lv_aload_n hx hb dX0_gatherWords_24 rfl (lv_at hl 0 rfl) ?_
          refine va_get (D := (dC, dI)) (ci := 0) (v := .ref (a0 5)) (C := RX0) (T := TX0) (N := 11) hx hb hts hinX0 hown hK hP 0 rfl rfl 5 (by decide) f1 (fun _ h9 => h9) rfl dX0_gatherWords_25 ?_
          refine lv_iload_n hx hb dX0_gatherWords_28 rfl (lv_at hl 3 rfl) ?_
          refine lv_iload_n hx hb dX0_gatherWords_29 rfl (lv_at hl 2 rfl) ?_
          refine lv_iconst (v := 1) hx hb dX0_gatherWords_30 (by decide) ?_
          refine lv_isub hx hb dX0_gatherWords_31 ?_
          have hPc := hP.sub (ws' := (cnW cB cI cJ cZ (a0 5) a1 M1)) [5, 6, 7, 8] rfl
          have hDc := hD.sub (ws' := (cnW cB cI cJ cZ (a0 5) a1 M1)) [5, 6, 7, 8] (by decide) rfl
          have hFc := va_free (wc := (cnW cB cI cJ cZ (a0 5) a1 M1)) hD hS hA [5, 6, 7, 8] rfl
          refine va_calli (va_runV (As := [.int y3, .int (y2 - (1 : Int32))]) (rest := [.int y1]) ⟨hx, hb, hml, hown, hts⟩ (kX1_cost l dC dI cB cI cJ cZ (a0 5) a1 H.size y3 (y2 - (1 : Int32)) M1 _ h) (cwV 2 hts gX0_gatherWords_X1_cost rfl rfl rfl (by decide +kernel) ⟨Nat.le_of_ble_eq_true rfl, Nat.le_of_ble_eq_true rfl⟩) (cnpV hK hPc hDc) rfl rfl hl.1 rfl (lv_room (Nat.le_of_ble_eq_true rfl)) dX0_gatherWords_32 ⟨Nat.le_of_ble_eq_true rfl, Nat.le_of_ble_eq_true rfl⟩) hS (fun q _ z => hFc q z) hFc (fun r3 u t H1 locs ht hvm hw hB hz1 hk1 hS => ?_)
          obtain ⟨N4, rfl⟩ : ∃ z, z = u := ⟨_, rfl⟩
          obtain ⟨hP1, hK1, hD1⟩ := hB
          rw [ht] at hP1
          obtain ⟨hP, hD⟩ := va_join (wr := [(h0, .inr (0, [.ref (a0 0), .ref (a0 1), .ref (a0 2), .ref (a0 3), .int (mg M0 4), .ref (a0 5), .int (mg M0 6), .int (mg M0 7), .int (mg M0 8), .int (mg M0 9), .int (mg M0 10)])), (a0 0, .inl (cJ, 15, .inr (.inl (ml M0 0)))), (a0 1, .inl (cJ, 800, .inr (.inl (ml M0 1)))), (a0 2, .inl (cI, 4, .inl (ma M0 2))), (a0 3, .inl (cJ, 4, .inr (.inl (ml M0 3))))]) (w1 := (cnW cB cI cJ cZ (a0 5) a1 N4)) hP hD [5, 6, 7, 8] [0, 1, 2, 3, 4] rfl rfl (by decide) (by decide) hk1 hFc hP1 hD1
          have hP := hP.sub (ws' := (bcW cB cI cJ cZ h0 a0 a1 M0 N4)) [0, 1, 2, 3, 4, 5, 6, 7, 8] rfl
          have hD := hD.sub (ws' := (bcW cB cI cJ cZ h0 a0 a1 M0 N4)) [0, 1, 2, 3, 4, 5, 6, 7, 8] (by decide) rfl
          generalize H1 = H at hP hS ⊢
          have h := hw
          try dsimp only at h
          refine lv_isub hx hb dX0_gatherWords_35 ?_
          refine lv_topi (fun x5 ex5 => ?_)
          have h := h x5 ex5
          refine lv_istore (lv' := [(4, .int x5), (0, .ref h0), (1, .int y1), (2, .int y2), (3, .int y3)]) hx hb dX0_gatherWords_36 hl (by decide) rfl (fun ls hl => ?_)
          refine lv_iload hx hb dX0_gatherWords_38 (lv_at hl 0 rfl) ?_
          refine lv_if_lt (tgt := 93) hx hb dX0_gatherWords_40 (by decide) (fun c6 => ?_) (fun c6 => ?_)
          · have h := h.1 c6
            exact b93 _ hB7 y1 y2 y3 M0 N4 H locs ls hP hD hS (lv_sub hl [1, 2, 3, 4] rfl) h
          · have h := h.2 c6
            refine lv_aload_n hx hb dX0_gatherWords_43 rfl (lv_at hl 1 rfl) ?_
            refine va_get (D := (dC, dI)) (ci := 0) (v := .ref (a0 2)) (C := RX0) (T := TX0) (N := 11) hx hb hts hinX0 hown hK hP 0 rfl rfl 2 (by decide) f3 (fun _ h9 => h9) rfl dX0_gatherWords_44 ?_
            refine lv_aload_n hx hb dX0_gatherWords_47 rfl (lv_at hl 1 rfl) ?_
            refine va_get (D := (dC, dI)) (ci := 0) (v := .int (mg M0 4)) (C := RX0) (T := TX0) (N := 11) hx hb hts hinX0 hown hK hP 0 rfl rfl 4 (by decide) f4 (fun _ h9 => h9) rfl dX0_gatherWords_48 ?_
            refine lv_iload hx hb dX0_gatherWords_51 (lv_at hl 0 rfl) ?_
            refine lv_iconst (v := 0) hx hb dX0_gatherWords_53 (by decide) ?_
            refine lv_aload_n hx hb dX0_gatherWords_54 rfl (lv_at hl 1 rfl) ?_
            refine lv_iload_n hx hb dX0_gatherWords_55 rfl (lv_at hl 4 rfl) ?_
            have hPc := hP.sub (ws' := (baW cB cI cJ cZ h0 a0 M0)) [0, 1, 2, 3, 4] rfl
            have hDc := hD.sub (ws' := (baW cB cI cJ cZ h0 a0 M0)) [0, 1, 2, 3, 4] (by decide) rfl
            have hFc := va_free (wc := (baW cB cI cJ cZ h0 a0 M0)) hD hS hA [0, 1, 2, 3, 4] rfl
            refine va_calli (va_runV (As := [.int y3]) (rest := [.int (0 : Int32), .int x5, .int (mg M0 4), .ref (a0 2)]) ⟨hx, hb, hml, hown, hts⟩ (kX0_kindOf l dC dI cB cI cJ cZ h0 a0 H.size y3 M0 _ h) (cwV 1 hts gX0_gatherWords_X0_kindOf rfl rfl rfl (by decide +kernel) ⟨Nat.le_of_ble_eq_true rfl, Nat.le_of_ble_eq_true rfl⟩) (bapV hK hPc hDc) rfl rfl hl.1 rfl (lv_room (Nat.le_of_ble_eq_true rfl)) dX0_gatherWords_56 ⟨Nat.le_of_ble_eq_true rfl, Nat.le_of_ble_eq_true rfl⟩) hS (fun q _ z => hFc q z) hFc (fun r7 u t H1 locs ht hvm hw hB hz1 hk1 hS => ?_)
            obtain ⟨N8, rfl⟩ : ∃ z, z = u := ⟨_, rfl⟩
            obtain ⟨hP1, hK1, hD1⟩ := hB
            rw [ht] at hP1
            obtain ⟨hP, hD⟩ := va_join (wr := [(a0 5, .inr (1, [.int (mg N4 0), .ref (a1 1), .int (mg N4 2), .ref (a1 3), .int (mg N4 4), .ref (a1 5)])), (a1 1, .inl (cI, 4, .inl (ma N4 1))), (a1 3, .inl (cI, 4, .inl (ma N4 3))), (a1 5, .inl (cI, 2, .inl (ma N4 5)))]) (w1 := (baW cB cI cJ cZ h0 a0 N8)) hP hD [0, 1, 2, 3, 4] [5, 6, 7, 8] rfl rfl (by decide) (by decide) hk1 hFc hP1 hD1
            have hP := hP.sub (ws' := (bcW cB cI cJ cZ h0 a0 a1 N8 N4)) [4, 5, 6, 7, 8, 0, 1, 2, 3] rfl
            have hD := hD.sub (ws' := (bcW cB cI cJ cZ h0 a0 a1 N8 N4)) [4, 5, 6, 7, 8, 0, 1, 2, 3] (by decide) rfl
            generalize H1 = H at hP hS ⊢
            have h := hw
            try dsimp only at h
            have hPc := hP.sub (ws' := (e0W cB cI cJ cZ  )) [] rfl
            have hDc := hD.sub (ws' := (e0W cB cI cJ cZ  )) [] (by decide) rfl
            have hFc := va_free (wc := (e0W cB cI cJ cZ  )) hD hS hA [] rfl
            refine va_calli (va_runS (As := [.int x5, .int (0 : Int32), .int r7]) (rest := [.int (mg M0 4), .ref (a0 2)]) ⟨hx, hb, hml, hown, hts⟩ (kX0_placeOf l dC dI cB cI cJ cZ  H.size x5 (0 : Int32) r7  _ h) (cwS 3 hts gX0_gatherWords_X0_placeOf rfl rfl rfl (by decide +kernel) ⟨Nat.le_of_ble_eq_true rfl, Nat.le_of_ble_eq_true rfl⟩) (e0pS hK hPc hDc) rfl rfl hl.1 rfl (lv_room (Nat.le_of_ble_eq_true rfl)) dX0_gatherWords_59 ⟨Nat.le_of_ble_eq_true rfl, Nat.le_of_ble_eq_true rfl⟩) hS (fun q _ z => hFc q z) hFc (fun r9 u t H1 locs ht hvm hw hB hz1 hk1 hS => ?_)
            obtain ⟨hP1, hK1, hD1⟩ := hB
            rw [ht] at hP1
            obtain ⟨hP, hD⟩ := va_join (wr := [(h0, .inr (0, [.ref (a0 0), .ref (a0 1), .ref (a0 2), .ref (a0 3), .int (mg N8 4), .ref (a0 5), .int (mg N8 6), .int (mg N8 7), .int (mg N8 8), .int (mg N8 9), .int (mg N8 10)])), (a0 0, .inl (cJ, 15, .inr (.inl (ml N8 0)))), (a0 1, .inl (cJ, 800, .inr (.inl (ml N8 1)))), (a0 2, .inl (cI, 4, .inl (ma N8 2))), (a0 3, .inl (cJ, 4, .inr (.inl (ml N8 3)))), (a0 5, .inr (1, [.int (mg N4 0), .ref (a1 1), .int (mg N4 2), .ref (a1 3), .int (mg N4 4), .ref (a1 5)])), (a1 1, .inl (cI, 4, .inl (ma N4 1))), (a1 3, .inl (cI, 4, .inl (ma N4 3))), (a1 5, .inl (cI, 2, .inl (ma N4 5)))]) (w1 := (e0W cB cI cJ cZ  )) hP hD [] [0, 1, 2, 3, 4, 5, 6, 7, 8] rfl rfl (by decide) (by decide) hk1 hFc hP1 hD1
            have hP := hP.sub (ws' := (bcW cB cI cJ cZ h0 a0 a1 N8 N4)) [0, 1, 2, 3, 4, 5, 6, 7, 8] rfl
            have hD := hD.sub (ws' := (bcW cB cI cJ cZ h0 a0 a1 N8 N4)) [0, 1, 2, 3, 4, 5, 6, 7, 8] (by decide) rfl
            generalize H1 = H at hP hS ⊢
            have h := hw
            try dsimp only at h
            refine va_iast hx hb hK hP hD hS 3 1 (f := ma N8 2) rfl rfl h.1 dX0_gatherWords_62 (fun H locs hP hD hS => ?_)
            have h := h.2
            have hP := bcP_0_a2 hP
            have hD := bcD_0_a2 hD
            have h := h _ rfl
            generalize sa N8 2 (Int32.toNatClampNeg (mg M0 4)) r9 = N10 at hP hD h
            refine lv_aload_n hx hb dX0_gatherWords_63 rfl (lv_at hl 1 rfl) ?_
            refine va_get (D := (dC, dI)) (ci := 0) (v := .ref (a0 3)) (C := RX0) (T := TX0) (N := 11) hx hb hts hinX0 hown hK hP 0 rfl rfl 3 (by decide) f5 (fun _ h9 => h9) rfl dX0_gatherWords_64 ?_
            refine lv_aload_n hx hb dX0_gatherWords_67 rfl (lv_at hl 1 rfl) ?_
            refine va_get (D := (dC, dI)) (ci := 0) (v := .int (mg N10 4)) (C := RX0) (T := TX0) (N := 11) hx hb hts hinX0 hown hK hP 0 rfl rfl 4 (by decide) f4 (fun _ h9 => h9) rfl dX0_gatherWords_68 ?_
            refine lv_aload_n hx hb dX0_gatherWords_71 rfl (lv_at hl 1 rfl) ?_
            refine lv_iload hx hb dX0_gatherWords_72 (lv_at hl 0 rfl) ?_
            refine lv_aload_n hx hb dX0_gatherWords_74 rfl (lv_at hl 1 rfl) ?_
            refine va_get (D := (dC, dI)) (ci := 0) (v := .int (mg N10 6)) (C := RX0) (T := TX0) (N := 11) hx hb hts hinX0 hown hK hP 0 rfl rfl 6 (by decide) f6 (fun _ h9 => h9) rfl dX0_gatherWords_75 ?_
            refine lv_idiv hx hb dX0_gatherWords_78 h.1 ?_
            have h := h.2
            have hPc := hP.sub (ws' := (baW cB cI cJ cZ h0 a0 N10)) [0, 1, 2, 3, 4] rfl
            have hDc := hD.sub (ws' := (baW cB cI cJ cZ h0 a0 N10)) [0, 1, 2, 3, 4] (by decide) rfl
            have hFc := va_free (wc := (baW cB cI cJ cZ h0 a0 N10)) hD hS hA [0, 1, 2, 3, 4] rfl
            refine va_calll (va_runV (As := [.int (x5 / (mg N10 6))]) (rest := [.int (mg N10 4), .ref (a0 3)]) ⟨hx, hb, hml, hown, hts⟩ (kX0_purses l dC dI cB cI cJ cZ h0 a0 H.size (x5 / (mg N10 6)) N10 _ h) (cwV 1 hts gX0_gatherWords_X0_purses rfl rfl rfl (by decide +kernel) ⟨Nat.le_of_ble_eq_true rfl, Nat.le_of_ble_eq_true rfl⟩) (bapV hK hPc hDc) rfl rfl hl.1 rfl (lv_room (Nat.le_of_ble_eq_true rfl)) dX0_gatherWords_79 ⟨Nat.le_of_ble_eq_true rfl, Nat.le_of_ble_eq_true rfl⟩) hS (fun q _ z => hFc q z) hFc (fun r11 u t H1 locs ht hvm hw hB hz1 hk1 hS => ?_)
            obtain ⟨N12, rfl⟩ : ∃ z, z = u := ⟨_, rfl⟩
            obtain ⟨hP1, hK1, hD1⟩ := hB
            rw [ht] at hP1
            obtain ⟨hP, hD⟩ := va_join (wr := [(a0 5, .inr (1, [.int (mg N4 0), .ref (a1 1), .int (mg N4 2), .ref (a1 3), .int (mg N4 4), .ref (a1 5)])), (a1 1, .inl (cI, 4, .inl (ma N4 1))), (a1 3, .inl (cI, 4, .inl (ma N4 3))), (a1 5, .inl (cI, 2, .inl (ma N4 5)))]) (w1 := (baW cB cI cJ cZ h0 a0 N12)) hP hD [0, 1, 2, 3, 4] [5, 6, 7, 8] rfl rfl (by decide) (by decide) hk1 hFc hP1 hD1
            have hP := hP.sub (ws' := (bcW cB cI cJ cZ h0 a0 a1 N12 N4)) [4, 5, 6, 7, 8, 0, 1, 2, 3] rfl
            have hD := hD.sub (ws' := (bcW cB cI cJ cZ h0 a0 a1 N12 N4)) [4, 5, 6, 7, 8, 0, 1, 2, 3] (by decide) rfl
            generalize H1 = H at hP hS ⊢
            have h := hw
            try dsimp only at h
            refine va_last hx hb hK hP hD hS 4 2 (f := ml N12 3) rfl rfl h.1 dX0_gatherWords_82 (fun H locs hP hD hS => ?_)
            have h := h.2
            have hP := bcP_0_a3 hP
            have hD := bcD_0_a3 hD
            have h := h _ rfl
            generalize sl N12 3 (Int32.toNatClampNeg (mg N10 4)) r11 = N13 at hP hD h
            refine lv_aload_n hx hb dX0_gatherWords_83 rfl (lv_at hl 1 rfl) ?_
            refine lv_dup hx hb dX0_gatherWords_84 rfl ?_
            refine va_get (D := (dC, dI)) (ci := 0) (v := .int (mg N13 4)) (C := RX0) (T := TX0) (N := 11) hx hb hts hinX0 hown hK hP 0 rfl rfl 4 (by decide) f4 (fun _ h9 => h9) rfl dX0_gatherWords_85 ?_
            refine lv_iconst (v := 1) hx hb dX0_gatherWords_88 (by decide) ?_
            refine lv_iadd hx hb dX0_gatherWords_89 ?_
            refine lv_topi (fun x14 ex14 => ?_)
            have h := h x14 ex14
            refine va_put (D := (dC, dI)) (ci := 0) (v := .int x14) (ty := .int) (C := RX0) (T := TX0) (N := 11) hx hb hts hinX0 tyX0 tyX0_ok nmX0 hown hK hP hD hS 0 rfl rfl 4 (by decide) f4 (fun _ h9 => h9) rfl (by decide +kernel) rfl rfl (Nat.le_of_ble_eq_true rfl) dX0_gatherWords_90 (fun H locs hP hD hS => ?_)
            have hP := bcP_0_f4 hP
            have hD := bcD_0_f4 hD
            have h := h _ rfl
            generalize sg N13 4 x14 = N15 at hP hD h
            exact b93 _ hB7 y1 y2 y3 N15 N4 H locs ls hP hD hS (lv_sub hl [1, 2, 3, 4] rfl) h
  have bE : ∀ (M0 : gS) (M1 : gS) (H : Heap) (locs : List Loc) (ls : Array Slot), va_P (dC, dI) vwCl (bcW cB cI cJ cZ h0 a0 a1 M0 M1) H → va_D A (bcW cB cI cJ cZ h0 a0 a1 M0 M1) → va_S A s.heap H locs → lv_has ls 5 [(0, .ref h0), (1, .int p1), (2, .int p2)] → wX0_gatherWords p1 p2 M0 M1 Q → W p l e (headSpec wsX0_gatherWords rmX0_gatherWords).room s m ([.ref h0, .int p1, .int p2] : List Value).toArray below meth c H locs 0 0 (MQ below (va_Qv (fun (u : gS × gS) => Q u.1 u.2) (bcB dC dI cB cI cJ cZ h0 a0 a1 A) A) ([.ref h0, .int p1, .int p2] : List Value).toArray s 0 0 A) (F0 m 0 ls []) := by
    intro M0 M1 H locs ls hP hD hS hl h
    unfold wX0_gatherWords at h
    refine lv_aload_n hx hb dX0_gatherWords_0 rfl (lv_at hl 0 rfl) ?_
    refine lv_iconst (v := 0) hx hb dX0_gatherWords_1 (by decide) ?_
    refine va_put (D := (dC, dI)) (ci := 0) (v := .int (0 : Int32)) (ty := .int) (C := RX0) (T := TX0) (N := 11) hx hb hts hinX0 tyX0 tyX0_ok nmX0 hown hK hP hD hS 0 rfl rfl 4 (by decide) f4 (fun _ h9 => h9) rfl (by decide +kernel) rfl rfl (Nat.le_of_ble_eq_true rfl) dX0_gatherWords_2 (fun H locs hP hD hS => ?_)
    have hP := bcP_0_f4 hP
    have hD := bcD_0_f4 hD
    have h := h _ rfl
    generalize sg M0 4 (0 : Int32) = N1 at hP hD h
    refine lv_iconst (v := 0) hx hb dX0_gatherWords_5 (by decide) ?_
    refine lv_istore_n (lv' := [(3, .int (0 : Int32)), (0, .ref h0), (1, .int p1), (2, .int p2)]) hx hb dX0_gatherWords_6 rfl hl (by decide) rfl (fun ls hl => ?_)
    obtain ⟨n9, h⟩ := h
    exact b7  n9 p1 p2 (0 : Int32) N1 M1 H locs ls hP hD hS (lv_sub hl [1, 2, 3, 0] rfl) h
  have hl := lv_entry ([.ref h0, .int p1, .int p2]) (n := 5) (Nat.le_of_ble_eq_true rfl)
  rw [lg_entry_eq]
  generalize (lg_sl ([.ref h0, .int p1, .int p2]) ++ List.replicate (5 - (lg_sl ([.ref h0, .int p1, .int p2])).length) Slot.unset).toArray = ls at hl ⊢
  have hl : lv_has ls 5 [(0, .ref h0), (1, .int p1), (2, .int p2)] := hl
  exact bE M0 M1 s.heap [] ls hP hD hS hl h
def wX0_fillSum_49 (B27 : Int32 → Int64 → Int32 → gS → gS → Prop) (Q : gS → gS → Prop) : Nat → Int32 → Int64 → Int32 → Int32 → gS → gS → Prop
 | 0, _, _, _, _, _, _ => False
 | n + 1, y1, y2, y4, y5, M0, M1 => (((mg M0 10) ≤ y5 → (∀ x2 : Int32, x2 = y4 + (1 : Int32) → (B27 y1 y2 x2 M0 M1)))
 ∧ (¬ (mg M0 10) ≤ y5 → (wX0_bySpeaking y5 M0 (fun (r3 : Int64) (N4 : gS) => (wX0_withThrows (r3 &&& y2)  (fun (r5 : Int64)  => (∀ x6 : Int64, x6 = (r5 &&& y2) → (wX0_placeOf y1 y4 y5  (fun (r7 : Int32)  => (wX0_swapped (x6 ^^^ (-1 : Int64))  (fun (r8 : Int64)  => (vp_in r7 800 ∧ (∀ N9 : gS, N9 = sl N4 1 (Int32.toNatClampNeg r7) r8 → (∀ x10 : Int32, x10 = y5 + (1 : Int32) → (wX0_fillSum_49 B27 Q n y1 y2 y4 x10 N9 M1)))))))))))))))
def wX0_fillSum_27  (Q : gS → gS → Prop) : Nat → Int32 → Int64 → Int32 → gS → gS → Prop
 | 0, _, _, _, _, _ => False
 | n + 1, y1, y2, y4, M0, M1 => (((mg M0 10) ≤ y4 → (Q M0 M1))
 ∧ (¬ (mg M0 10) ≤ y4 → (wX0_gatherWords y1 y4 M0 M1 (fun (N3 : gS) (N4 : gS) => (∀ x5 : Int32, x5 = (mg N3 9) → (∃ k49 : Nat, wX0_fillSum_49 (fun (y1 : Int32) (y2 : Int64) (y4 : Int32) (M0 : gS) (M1 : gS) => wX0_fillSum_27  Q n y1 y2 y4 M0 M1) Q k49 y1 y2 y4 x5 N3 N4))))))
def wX0_fillSum (p1 : Int32) (M0 : gS) (M1 : gS) (Q : gS → gS → Prop) : Prop :=
 (¬ (mg M0 6) = 0 ∧ (wX0_purses (p1 / (mg M0 6)) M0 (fun (r1 : Int64) (N2 : gS) => (wX0_tooLong p1 N2 (fun (r3 : Int64) (N4 : gS) => (∀ x5 : Int64, x5 = (r1 &&& (r3 ^^^ (-1 : Int64))) → (∀ x6 : Int32, x6 = (mg N4 9) → (∃ k27 : Nat, wX0_fillSum_27  Q k27 p1 x5 x6 N4 M1))))))))
def rmX0_fillSum : Room := { frames := 2, cells := 0, slots := 0, locals := 46 }
set_option maxHeartbeats 4000000 in
set_option maxRecDepth 100000 in
theorem kX0_fillSum (l : Launch) (dC : Nat → ClassId) (dI : Nat → Nat → Nat) (cB cI cJ cZ : ClassId) (h0 : Nat) (a0 : Nat → Nat) (a1 : Nat → Nat) (sz : Nat) (p1 : Int32) (M0 : gS) (M1 : gS) (Q : gS → gS → Prop) (h : wX0_fillSum p1 M0 M1 Q) : Met l yX0_fillSum wsX0_fillSum rmX0_fillSum (va_Pc [.ref h0, .int p1] (bcI dC dI cB cI cJ cZ h0 a0 a1 M0 M1 sz)) (va_Qv (fun (u : gS × gS) => Q u.1 u.2) (bcB dC dI cB cI cJ cZ h0 a0 a1 (va_A (bcW cB cI cJ cZ h0 a0 a1 M0 M1) sz)) (va_A (bcW cB cI cJ cZ h0 a0 a1 M0 M1) sz)) 0 0 (va_A (bcW cB cI cJ cZ h0 a0 a1 M0 M1) sz) := by
  refine Met.ofW (cc := cX0_fillSum) (maxL := 8) (ret := none) (by decide) rfl ?_
  intro p e s m args below meth c s₁ B hml hv
  obtain ⟨rfl, hsz, hP, hK, hD0⟩ := hv
  have hx := B.exec
  have hb := B.bytes
  have hr := B.returns
  have hts := atoms_spec (ws := wsX0_fillSum) B.pre
  have hown : s.vm.findClass RX0 = some m.cls := findClass_of_methodNamed B.named
  have hlocks := B.notSynchronized
  subst hsz
  have hD := hD0.self (sz := s.heap.size)
  generalize hAe : va_A (bcW cB cI cJ cZ h0 a0 a1 M0 M1) s.heap.size = A at hD ⊢
  have hA : ∀ q : Nat, s.heap.size ≤ q → A q := fun q h => by rw [← hAe]; exact Or.inr h
  have hS : va_S A s.heap s.heap [] := va_S.rf
  have hinX0 : ∀ w ∈ wsX00, w ∈ wsX0_fillSum := by decide +kernel
  have f1 := hts (.fieldLink RX0 112 "LastWords$BestPlay" "kinds" "I") (by decide +kernel)
  have f2 := hts (.fieldLink RX0 15 "LastWords$BestPlay" "lost" "[J") (by decide +kernel)
  have f3 := hts (.constantLong RX0 44 (-1)) (by decide +kernel)
  have f4 := hts (.fieldLink RX0 115 "LastWords$BestPlay" "fromKind" "I") (by decide +kernel)
  have f5 := hts (.fieldLink RX0 29 "LastWords$BestPlay" "verse" "I") (by decide +kernel)
  have b49 : ∀ (B27 : Int32 → Int64 → Int32 → gS → gS → Prop) (hB27 : ∀ (y1 : Int32) (y2 : Int64) (y4 : Int32) (M0 : gS) (M1 : gS) (H : Heap) (locs : List Loc) (ls : Array Slot), va_P (dC, dI) vwCl (bcW cB cI cJ cZ h0 a0 a1 M0 M1) H → va_D A (bcW cB cI cJ cZ h0 a0 a1 M0 M1) → va_S A s.heap H locs → lv_has ls 8 [(0, .ref h0), (1, .int y1), (2, .long y2), (4, .int y4)] → B27 y1 y2 y4 M0 M1 → W p l e (headSpec wsX0_fillSum rmX0_fillSum).room s m ([.ref h0, .int p1] : List Value).toArray below meth c H locs 0 0 (MQ below (va_Qv (fun (u : gS × gS) => Q u.1 u.2) (bcB dC dI cB cI cJ cZ h0 a0 a1 A) A) ([.ref h0, .int p1] : List Value).toArray s 0 0 A) (F0 m 27 ls [])) (n : Nat) (y1 : Int32) (y2 : Int64) (y4 : Int32) (y5 : Int32) (M0 : gS) (M1 : gS) (H : Heap) (locs : List Loc) (ls : Array Slot), va_P (dC, dI) vwCl (bcW cB cI cJ cZ h0 a0 a1 M0 M1) H → va_D A (bcW cB cI cJ cZ h0 a0 a1 M0 M1) → va_S A s.heap H locs → lv_has ls 8 [(0, .ref h0), (1, .int y1), (2, .long y2), (4, .int y4), (5, .int y5)] → wX0_fillSum_49 B27 Q n y1 y2 y4 y5 M0 M1 → W p l e (headSpec wsX0_fillSum rmX0_fillSum).room s m ([.ref h0, .int p1] : List Value).toArray below meth c H locs 0 0 (MQ below (va_Qv (fun (u : gS × gS) => Q u.1 u.2) (bcB dC dI cB cI cJ cZ h0 a0 a1 A) A) ([.ref h0, .int p1] : List Value).toArray s 0 0 A) (F0 m 49 ls []) := by
    intro B27 hB27 n
    induction n with
    | zero => intro y1 y2 y4 y5 M0 M1 H locs ls hP hD hS hl h; exact absurd h (by simp [wX0_fillSum_49])
    | succ n hB490 =>
      intro y1 y2 y4 y5 M0 M1 H locs ls hP hD hS hl h
      have hB49 := hB490
      rw [wX0_fillSum_49] at h
      refine lv_iload hx hb dX0_fillSum_49 (lv_at hl 4 rfl) ?_
      refine lv_aload_n hx hb dX0_fillSum_51 rfl (lv_at hl 0 rfl) ?_
      refine va_get (D := (dC, dI)) (ci := 0) (v := .int (mg M0 10)) (C := RX0) (T := TX0) (N := 11) hx hb hts hinX0 hown hK hP 0 rfl rfl 10 (by decide) f1 (fun _ h9 => h9) rfl dX0_fillSum_52 ?_
      refine lv_icmp_ge (tgt := 101) hx hb dX0_fillSum_55 (by decide) (fun c1 => ?_) (fun c1 => ?_)
      · have h := h.1 c1
        obtain ⟨x2, ex2⟩ : ∃ y : Int32, y = y4 + (1 : Int32) := ⟨_, rfl⟩
        have h := h x2 ex2
        refine lv_iinc (v := x2) (lv' := [(4, .int x2), (0, .ref h0), (1, .int y1), (2, .long y2), (5, .int y5)]) hx hb dX0_fillSum_101 hl (k := 3) rfl (by rw [ex2]; rfl) (by decide) rfl (fun ls hl => ?_)
        refine lv_goto (tgt := 27) hx hb dX0_fillSum_104 (by decide) ?_
        exact hB27 y1 y2 x2 M0 M1 H locs ls hP hD hS (lv_sub hl [1, 2, 3, 0] rfl) h
      · have h := h.2 c1
        refine lv_aload_n hx hb dX0_fillSum_58 rfl (lv_at hl 0 rfl) ?_
        refine lv_iload hx hb dX0_fillSum_59 (lv_at hl 4 rfl) ?_
        have hPc := hP.sub (ws' := (baW cB cI cJ cZ h0 a0 M0)) [0, 1, 2, 3, 4] rfl
        have hDc := hD.sub (ws' := (baW cB cI cJ cZ h0 a0 M0)) [0, 1, 2, 3, 4] (by decide) rfl
        have hFc := va_free (wc := (baW cB cI cJ cZ h0 a0 M0)) hD hS hA [0, 1, 2, 3, 4] rfl
        refine va_calll (va_runV (As := [.int y5]) (rest := []) ⟨hx, hb, hml, hown, hts⟩ (kX0_bySpeaking l dC dI cB cI cJ cZ h0 a0 H.size y5 M0 _ h) (cwV 1 hts gX0_fillSum_X0_bySpeaking rfl rfl rfl (by decide +kernel) ⟨Nat.le_of_ble_eq_true rfl, Nat.le_of_ble_eq_true rfl⟩) (bapV hK hPc hDc) rfl rfl hl.1 rfl (lv_room (Nat.le_of_ble_eq_true rfl)) dX0_fillSum_61 ⟨Nat.le_of_ble_eq_true rfl, Nat.le_of_ble_eq_true rfl⟩) hS (fun q _ z => hFc q z) hFc (fun r3 u t H1 locs ht hvm hw hB hz1 hk1 hS => ?_)
        obtain ⟨N4, rfl⟩ : ∃ z, z = u := ⟨_, rfl⟩
        obtain ⟨hP1, hK1, hD1⟩ := hB
        rw [ht] at hP1
        obtain ⟨hP, hD⟩ := va_join (wr := [(a0 5, .inr (1, [.int (mg M1 0), .ref (a1 1), .int (mg M1 2), .ref (a1 3), .int (mg M1 4), .ref (a1 5)])), (a1 1, .inl (cI, 4, .inl (ma M1 1))), (a1 3, .inl (cI, 4, .inl (ma M1 3))), (a1 5, .inl (cI, 2, .inl (ma M1 5)))]) (w1 := (baW cB cI cJ cZ h0 a0 N4)) hP hD [0, 1, 2, 3, 4] [5, 6, 7, 8] rfl rfl (by decide) (by decide) hk1 hFc hP1 hD1
        have hP := hP.sub (ws' := (bcW cB cI cJ cZ h0 a0 a1 N4 M1)) [4, 5, 6, 7, 8, 0, 1, 2, 3] rfl
        have hD := hD.sub (ws' := (bcW cB cI cJ cZ h0 a0 a1 N4 M1)) [4, 5, 6, 7, 8, 0, 1, 2, 3] (by decide) rfl
        generalize H1 = H at hP hS ⊢
        have h := hw
        try dsimp only at h
        refine lv_lload_n hx hb dX0_fillSum_64 rfl (lv_at hl 2 rfl) ?_
        refine lv_land hx hb dX0_fillSum_65 ?_
        have hPc := hP.sub (ws' := (e0W cB cI cJ cZ  )) [] rfl
        have hDc := hD.sub (ws' := (e0W cB cI cJ cZ  )) [] (by decide) rfl
        have hFc := va_free (wc := (e0W cB cI cJ cZ  )) hD hS hA [] rfl
        refine va_calll (va_runS (As := [.long (r3 &&& y2)]) (rest := []) ⟨hx, hb, hml, hown, hts⟩ (kX0_withThrows l dC dI cB cI cJ cZ  H.size (r3 &&& y2)  _ h) (cwS 1 hts gX0_fillSum_X0_withThrows rfl rfl rfl (by decide +kernel) ⟨Nat.le_of_ble_eq_true rfl, Nat.le_of_ble_eq_true rfl⟩) (e0pS hK hPc hDc) rfl rfl hl.1 rfl (lv_room (Nat.le_of_ble_eq_true rfl)) dX0_fillSum_66 ⟨Nat.le_of_ble_eq_true rfl, Nat.le_of_ble_eq_true rfl⟩) hS (fun q _ z => hFc q z) hFc (fun r5 u t H1 locs ht hvm hw hB hz1 hk1 hS => ?_)
        obtain ⟨hP1, hK1, hD1⟩ := hB
        rw [ht] at hP1
        obtain ⟨hP, hD⟩ := va_join (wr := [(h0, .inr (0, [.ref (a0 0), .ref (a0 1), .ref (a0 2), .ref (a0 3), .int (mg N4 4), .ref (a0 5), .int (mg N4 6), .int (mg N4 7), .int (mg N4 8), .int (mg N4 9), .int (mg N4 10)])), (a0 0, .inl (cJ, 15, .inr (.inl (ml N4 0)))), (a0 1, .inl (cJ, 800, .inr (.inl (ml N4 1)))), (a0 2, .inl (cI, 4, .inl (ma N4 2))), (a0 3, .inl (cJ, 4, .inr (.inl (ml N4 3)))), (a0 5, .inr (1, [.int (mg M1 0), .ref (a1 1), .int (mg M1 2), .ref (a1 3), .int (mg M1 4), .ref (a1 5)])), (a1 1, .inl (cI, 4, .inl (ma M1 1))), (a1 3, .inl (cI, 4, .inl (ma M1 3))), (a1 5, .inl (cI, 2, .inl (ma M1 5)))]) (w1 := (e0W cB cI cJ cZ  )) hP hD [] [0, 1, 2, 3, 4, 5, 6, 7, 8] rfl rfl (by decide) (by decide) hk1 hFc hP1 hD1
        have hP := hP.sub (ws' := (bcW cB cI cJ cZ h0 a0 a1 N4 M1)) [0, 1, 2, 3, 4, 5, 6, 7, 8] rfl
        have hD := hD.sub (ws' := (bcW cB cI cJ cZ h0 a0 a1 N4 M1)) [0, 1, 2, 3, 4, 5, 6, 7, 8] (by decide) rfl
        generalize H1 = H at hP hS ⊢
        have h := hw
        try dsimp only at h
        refine lv_lload_n hx hb dX0_fillSum_69 rfl (lv_at hl 2 rfl) ?_
        refine lv_land hx hb dX0_fillSum_70 ?_
        refine lv_topl (fun x6 ex6 => ?_)
        have h := h x6 ex6
        refine lv_lstore (lv' := [(6, .long x6), (0, .ref h0), (1, .int y1), (2, .long y2), (4, .int y4), (5, .int y5)]) hx hb dX0_fillSum_71 hl (by decide) rfl (fun ls hl => ?_)
        refine lv_aload_n hx hb dX0_fillSum_73 rfl (lv_at hl 1 rfl) ?_
        refine va_get (D := (dC, dI)) (ci := 0) (v := .ref (a0 1)) (C := RX0) (T := TX0) (N := 11) hx hb hts hinX0 hown hK hP 0 rfl rfl 1 (by decide) f2 (fun _ h9 => h9) rfl dX0_fillSum_74 ?_
        refine lv_iload_n hx hb dX0_fillSum_77 rfl (lv_at hl 2 rfl) ?_
        refine lv_iload hx hb dX0_fillSum_78 (lv_at hl 4 rfl) ?_
        refine lv_iload hx hb dX0_fillSum_80 (lv_at hl 5 rfl) ?_
        have hPc := hP.sub (ws' := (e0W cB cI cJ cZ  )) [] rfl
        have hDc := hD.sub (ws' := (e0W cB cI cJ cZ  )) [] (by decide) rfl
        have hFc := va_free (wc := (e0W cB cI cJ cZ  )) hD hS hA [] rfl
        refine va_calli (va_runS (As := [.int y1, .int y4, .int y5]) (rest := [.ref (a0 1)]) ⟨hx, hb, hml, hown, hts⟩ (kX0_placeOf l dC dI cB cI cJ cZ  H.size y1 y4 y5  _ h) (cwS 3 hts gX0_fillSum_X0_placeOf rfl rfl rfl (by decide +kernel) ⟨Nat.le_of_ble_eq_true rfl, Nat.le_of_ble_eq_true rfl⟩) (e0pS hK hPc hDc) rfl rfl hl.1 rfl (lv_room (Nat.le_of_ble_eq_true rfl)) dX0_fillSum_82 ⟨Nat.le_of_ble_eq_true rfl, Nat.le_of_ble_eq_true rfl⟩) hS (fun q _ z => hFc q z) hFc (fun r7 u t H1 locs ht hvm hw hB hz1 hk1 hS => ?_)
        obtain ⟨hP1, hK1, hD1⟩ := hB
        rw [ht] at hP1
        obtain ⟨hP, hD⟩ := va_join (wr := [(h0, .inr (0, [.ref (a0 0), .ref (a0 1), .ref (a0 2), .ref (a0 3), .int (mg N4 4), .ref (a0 5), .int (mg N4 6), .int (mg N4 7), .int (mg N4 8), .int (mg N4 9), .int (mg N4 10)])), (a0 0, .inl (cJ, 15, .inr (.inl (ml N4 0)))), (a0 1, .inl (cJ, 800, .inr (.inl (ml N4 1)))), (a0 2, .inl (cI, 4, .inl (ma N4 2))), (a0 3, .inl (cJ, 4, .inr (.inl (ml N4 3)))), (a0 5, .inr (1, [.int (mg M1 0), .ref (a1 1), .int (mg M1 2), .ref (a1 3), .int (mg M1 4), .ref (a1 5)])), (a1 1, .inl (cI, 4, .inl (ma M1 1))), (a1 3, .inl (cI, 4, .inl (ma M1 3))), (a1 5, .inl (cI, 2, .inl (ma M1 5)))]) (w1 := (e0W cB cI cJ cZ  )) hP hD [] [0, 1, 2, 3, 4, 5, 6, 7, 8] rfl rfl (by decide) (by decide) hk1 hFc hP1 hD1
        have hP := hP.sub (ws' := (bcW cB cI cJ cZ h0 a0 a1 N4 M1)) [0, 1, 2, 3, 4, 5, 6, 7, 8] rfl
        have hD := hD.sub (ws' := (bcW cB cI cJ cZ h0 a0 a1 N4 M1)) [0, 1, 2, 3, 4, 5, 6, 7, 8] (by decide) rfl
        generalize H1 = H at hP hS ⊢
        have h := hw
        try dsimp only at h
        refine lv_lload hx hb dX0_fillSum_85 (lv_at hl 0 rfl) ?_
        refine lv_ldc2 (v := (-1)) hx hb hown f3 dX0_fillSum_87 ?_
        refine lv_lxor hx hb dX0_fillSum_90 ?_
        have hPc := hP.sub (ws' := (e0W cB cI cJ cZ  )) [] rfl
        have hDc := hD.sub (ws' := (e0W cB cI cJ cZ  )) [] (by decide) rfl
        have hFc := va_free (wc := (e0W cB cI cJ cZ  )) hD hS hA [] rfl
        refine va_calll (va_runS (As := [.long (x6 ^^^ (-1 : Int64))]) (rest := [.int r7, .ref (a0 1)]) ⟨hx, hb, hml, hown, hts⟩ (kX0_swapped l dC dI cB cI cJ cZ  H.size (x6 ^^^ (-1 : Int64))  _ h) (cwS 1 hts gX0_fillSum_X0_swapped rfl rfl rfl (by decide +kernel) ⟨Nat.le_of_ble_eq_true rfl, Nat.le_of_ble_eq_true rfl⟩) (e0pS hK hPc hDc) rfl rfl hl.1 rfl (lv_room (Nat.le_of_ble_eq_true rfl)) dX0_fillSum_91 ⟨Nat.le_of_ble_eq_true rfl, Nat.le_of_ble_eq_true rfl⟩) hS (fun q _ z => hFc q z) hFc (fun r8 u t H1 locs ht hvm hw hB hz1 hk1 hS => ?_)
        obtain ⟨hP1, hK1, hD1⟩ := hB
        rw [ht] at hP1
        obtain ⟨hP, hD⟩ := va_join (wr := [(h0, .inr (0, [.ref (a0 0), .ref (a0 1), .ref (a0 2), .ref (a0 3), .int (mg N4 4), .ref (a0 5), .int (mg N4 6), .int (mg N4 7), .int (mg N4 8), .int (mg N4 9), .int (mg N4 10)])), (a0 0, .inl (cJ, 15, .inr (.inl (ml N4 0)))), (a0 1, .inl (cJ, 800, .inr (.inl (ml N4 1)))), (a0 2, .inl (cI, 4, .inl (ma N4 2))), (a0 3, .inl (cJ, 4, .inr (.inl (ml N4 3)))), (a0 5, .inr (1, [.int (mg M1 0), .ref (a1 1), .int (mg M1 2), .ref (a1 3), .int (mg M1 4), .ref (a1 5)])), (a1 1, .inl (cI, 4, .inl (ma M1 1))), (a1 3, .inl (cI, 4, .inl (ma M1 3))), (a1 5, .inl (cI, 2, .inl (ma M1 5)))]) (w1 := (e0W cB cI cJ cZ  )) hP hD [] [0, 1, 2, 3, 4, 5, 6, 7, 8] rfl rfl (by decide) (by decide) hk1 hFc hP1 hD1
        have hP := hP.sub (ws' := (bcW cB cI cJ cZ h0 a0 a1 N4 M1)) [0, 1, 2, 3, 4, 5, 6, 7, 8] rfl
        have hD := hD.sub (ws' := (bcW cB cI cJ cZ h0 a0 a1 N4 M1)) [0, 1, 2, 3, 4, 5, 6, 7, 8] (by decide) rfl
        generalize H1 = H at hP hS ⊢
        have h := hw
        try dsimp only at h
        refine va_last hx hb hK hP hD hS 2 2 (f := ml N4 1) rfl rfl h.1 dX0_fillSum_94 (fun H locs hP hD hS => ?_)
        have h := h.2
        have hP := bcP_0_a1 hP
        have hD := bcD_0_a1 hD
        have h := h _ rfl
        generalize sl N4 1 (Int32.toNatClampNeg r7) r8 = N9 at hP hD h
        obtain ⟨x10, ex10⟩ : ∃ y : Int32, y = y5 + (1 : Int32) := ⟨_, rfl⟩
        have h := h x10 ex10
        refine lv_iinc (v := x10) (lv' := [(5, .int x10), (6, .long x6), (0, .ref h0), (1, .int y1), (2, .long y2), (4, .int y4)]) hx hb dX0_fillSum_95 hl (k := 5) rfl (by rw [ex10]; rfl) (by decide) rfl (fun ls hl => ?_)
        refine lv_goto (tgt := 49) hx hb dX0_fillSum_98 (by decide) ?_
        exact hB49 y1 y2 y4 x10 N9 M1 H locs ls hP hD hS (lv_sub hl [2, 3, 4, 5, 0] rfl) h
  have b27 : ∀ (n : Nat) (y1 : Int32) (y2 : Int64) (y4 : Int32) (M0 : gS) (M1 : gS) (H : Heap) (locs : List Loc) (ls : Array Slot), va_P (dC, dI) vwCl (bcW cB cI cJ cZ h0 a0 a1 M0 M1) H → va_D A (bcW cB cI cJ cZ h0 a0 a1 M0 M1) → va_S A s.heap H locs → lv_has ls 8 [(0, .ref h0), (1, .int y1), (2, .long y2), (4, .int y4)] → wX0_fillSum_27  Q n y1 y2 y4 M0 M1 → W p l e (headSpec wsX0_fillSum rmX0_fillSum).room s m ([.ref h0, .int p1] : List Value).toArray below meth c H locs 0 0 (MQ below (va_Qv (fun (u : gS × gS) => Q u.1 u.2) (bcB dC dI cB cI cJ cZ h0 a0 a1 A) A) ([.ref h0, .int p1] : List Value).toArray s 0 0 A) (F0 m 27 ls []) := by
    intro  n
    induction n with
    | zero => intro y1 y2 y4 M0 M1 H locs ls hP hD hS hl h; exact absurd h (by simp [wX0_fillSum_27])
    | succ n hB270 =>
      intro y1 y2 y4 M0 M1 H locs ls hP hD hS hl h
      have hB27 := hB270
      rw [wX0_fillSum_27] at h
      refine lv_iload hx hb dX0_fillSum_27 (lv_at hl 3 rfl) ?_
      refine lv_aload_n hx hb dX0_fillSum_29 rfl (lv_at hl 0 rfl) ?_
      refine va_get (D := (dC, dI)) (ci := 0) (v := .int (mg M0 10)) (C := RX0) (T := TX0) (N := 11) hx hb hts hinX0 hown hK hP 0 rfl rfl 10 (by decide) f1 (fun _ h9 => h9) rfl dX0_fillSum_30 ?_
      refine lv_icmp_ge (tgt := 107) hx hb dX0_fillSum_33 (by decide) (fun c1 => ?_) (fun c1 => ?_)
      · have h := h.1 c1
        exact W.vret hx hb hr (fun t ht hW => ⟨⟨(M0, M1), rfl, h, by rw [ht]; exact hP, va_K.moved hW.alike hK, hD⟩, hS.F ht⟩) hS.2.2 dX0_fillSum_107
      · have h := h.2 c1
        refine lv_aload_n hx hb dX0_fillSum_36 rfl (lv_at hl 0 rfl) ?_
        refine lv_iload_n hx hb dX0_fillSum_37 rfl (lv_at hl 1 rfl) ?_
        refine lv_iload hx hb dX0_fillSum_38 (lv_at hl 3 rfl) ?_
        have hFc := gs_free hD hS hA
        refine va_callv (va_runV (As := [.int y1, .int y4]) (rest := []) ⟨hx, hb, hml, hown, hts⟩ (kX0_gatherWords l dC dI cB cI cJ cZ h0 a0 a1 H.size y1 y4 M0 M1 _ h) (cwV 2 hts gX0_fillSum_X0_gatherWords rfl rfl rfl (by decide +kernel) ⟨Nat.le_of_ble_eq_true rfl, Nat.le_of_ble_eq_true rfl⟩) (bcpV hK hP hD) rfl rfl hl.1 rfl (lv_room (Nat.le_of_ble_eq_true rfl)) dX0_fillSum_40 ⟨Nat.le_of_ble_eq_true rfl, Nat.le_of_ble_eq_true rfl⟩) hS (fun q _ z => hFc q z) hFc (fun u t H1 locs ht hvm hw hB hz1 hk1 hS => ?_)
        obtain ⟨N3, N4⟩ := u
        obtain ⟨hP, hD⟩ := gs_back ht hFc hB
        generalize H1 = H at hP hS ⊢
        have h := hw
        try dsimp only at h
        refine lv_aload_n hx hb dX0_fillSum_43 rfl (lv_at hl 0 rfl) ?_
        refine va_get (D := (dC, dI)) (ci := 0) (v := .int (mg N3 9)) (C := RX0) (T := TX0) (N := 11) hx hb hts hinX0 hown hK hP 0 rfl rfl 9 (by decide) f4 (fun _ h9 => h9) rfl dX0_fillSum_44 ?_
        refine lv_topi (fun x5 ex5 => ?_)
        have h := h x5 ex5
        refine lv_istore (lv' := [(5, .int x5), (0, .ref h0), (1, .int y1), (2, .long y2), (4, .int y4)]) hx hb dX0_fillSum_47 hl (by decide) rfl (fun ls hl => ?_)
        obtain ⟨n9, h⟩ := h
        exact b49 _ hB27 n9 y1 y2 y4 x5 N3 N4 H locs ls hP hD hS (lv_sub hl [1, 2, 3, 4, 0] rfl) h
  have bE : ∀ (M0 : gS) (M1 : gS) (H : Heap) (locs : List Loc) (ls : Array Slot), va_P (dC, dI) vwCl (bcW cB cI cJ cZ h0 a0 a1 M0 M1) H → va_D A (bcW cB cI cJ cZ h0 a0 a1 M0 M1) → va_S A s.heap H locs → lv_has ls 8 [(0, .ref h0), (1, .int p1)] → wX0_fillSum p1 M0 M1 Q → W p l e (headSpec wsX0_fillSum rmX0_fillSum).room s m ([.ref h0, .int p1] : List Value).toArray below meth c H locs 0 0 (MQ below (va_Qv (fun (u : gS × gS) => Q u.1 u.2) (bcB dC dI cB cI cJ cZ h0 a0 a1 A) A) ([.ref h0, .int p1] : List Value).toArray s 0 0 A) (F0 m 0 ls []) := by
    intro M0 M1 H locs ls hP hD hS hl h
    unfold wX0_fillSum at h
    refine lv_aload_n hx hb dX0_fillSum_0 rfl (lv_at hl 0 rfl) ?_
    refine lv_iload_n hx hb dX0_fillSum_1 rfl (lv_at hl 1 rfl) ?_
    refine lv_aload_n hx hb dX0_fillSum_2 rfl (lv_at hl 0 rfl) ?_
    refine va_get (D := (dC, dI)) (ci := 0) (v := .int (mg M0 6)) (C := RX0) (T := TX0) (N := 11) hx hb hts hinX0 hown hK hP 0 rfl rfl 6 (by decide) f5 (fun _ h9 => h9) rfl dX0_fillSum_3 ?_
    refine lv_idiv hx hb dX0_fillSum_6 h.1 ?_
    have h := h.2
    have hPc := hP.sub (ws' := (baW cB cI cJ cZ h0 a0 M0)) [0, 1, 2, 3, 4] rfl
    have hDc := hD.sub (ws' := (baW cB cI cJ cZ h0 a0 M0)) [0, 1, 2, 3, 4] (by decide) rfl
    have hFc := va_free (wc := (baW cB cI cJ cZ h0 a0 M0)) hD hS hA [0, 1, 2, 3, 4] rfl
    refine va_calll (va_runV (As := [.int (p1 / (mg M0 6))]) (rest := []) ⟨hx, hb, hml, hown, hts⟩ (kX0_purses l dC dI cB cI cJ cZ h0 a0 H.size (p1 / (mg M0 6)) M0 _ h) (cwV 1 hts gX0_fillSum_X0_purses rfl rfl rfl (by decide +kernel) ⟨Nat.le_of_ble_eq_true rfl, Nat.le_of_ble_eq_true rfl⟩) (bapV hK hPc hDc) rfl rfl hl.1 rfl (lv_room (Nat.le_of_ble_eq_true rfl)) dX0_fillSum_7 ⟨Nat.le_of_ble_eq_true rfl, Nat.le_of_ble_eq_true rfl⟩) hS (fun q _ z => hFc q z) hFc (fun r1 u t H1 locs ht hvm hw hB hz1 hk1 hS => ?_)
    obtain ⟨N2, rfl⟩ : ∃ z, z = u := ⟨_, rfl⟩
    obtain ⟨hP1, hK1, hD1⟩ := hB
    rw [ht] at hP1
    obtain ⟨hP, hD⟩ := va_join (wr := [(a0 5, .inr (1, [.int (mg M1 0), .ref (a1 1), .int (mg M1 2), .ref (a1 3), .int (mg M1 4), .ref (a1 5)])), (a1 1, .inl (cI, 4, .inl (ma M1 1))), (a1 3, .inl (cI, 4, .inl (ma M1 3))), (a1 5, .inl (cI, 2, .inl (ma M1 5)))]) (w1 := (baW cB cI cJ cZ h0 a0 N2)) hP hD [0, 1, 2, 3, 4] [5, 6, 7, 8] rfl rfl (by decide) (by decide) hk1 hFc hP1 hD1
    have hP := hP.sub (ws' := (bcW cB cI cJ cZ h0 a0 a1 N2 M1)) [4, 5, 6, 7, 8, 0, 1, 2, 3] rfl
    have hD := hD.sub (ws' := (bcW cB cI cJ cZ h0 a0 a1 N2 M1)) [4, 5, 6, 7, 8, 0, 1, 2, 3] (by decide) rfl
    generalize H1 = H at hP hS ⊢
    have h := hw
    try dsimp only at h
    refine lv_aload_n hx hb dX0_fillSum_10 rfl (lv_at hl 0 rfl) ?_
    refine lv_iload_n hx hb dX0_fillSum_11 rfl (lv_at hl 1 rfl) ?_
    have hPc := hP.sub (ws' := (baW cB cI cJ cZ h0 a0 N2)) [0, 1, 2, 3, 4] rfl
    have hDc := hD.sub (ws' := (baW cB cI cJ cZ h0 a0 N2)) [0, 1, 2, 3, 4] (by decide) rfl
    have hFc := va_free (wc := (baW cB cI cJ cZ h0 a0 N2)) hD hS hA [0, 1, 2, 3, 4] rfl
    refine va_calll (va_runV (As := [.int p1]) (rest := [.long r1]) ⟨hx, hb, hml, hown, hts⟩ (kX0_tooLong l dC dI cB cI cJ cZ h0 a0 H.size p1 N2 _ h) (cwV 1 hts gX0_fillSum_X0_tooLong rfl rfl rfl (by decide +kernel) ⟨Nat.le_of_ble_eq_true rfl, Nat.le_of_ble_eq_true rfl⟩) (bapV hK hPc hDc) rfl rfl hl.1 rfl (lv_room (Nat.le_of_ble_eq_true rfl)) dX0_fillSum_12 ⟨Nat.le_of_ble_eq_true rfl, Nat.le_of_ble_eq_true rfl⟩) hS (fun q _ z => hFc q z) hFc (fun r3 u t H1 locs ht hvm hw hB hz1 hk1 hS => ?_)
    obtain ⟨N4, rfl⟩ : ∃ z, z = u := ⟨_, rfl⟩
    obtain ⟨hP1, hK1, hD1⟩ := hB
    rw [ht] at hP1
    obtain ⟨hP, hD⟩ := va_join (wr := [(a0 5, .inr (1, [.int (mg M1 0), .ref (a1 1), .int (mg M1 2), .ref (a1 3), .int (mg M1 4), .ref (a1 5)])), (a1 1, .inl (cI, 4, .inl (ma M1 1))), (a1 3, .inl (cI, 4, .inl (ma M1 3))), (a1 5, .inl (cI, 2, .inl (ma M1 5)))]) (w1 := (baW cB cI cJ cZ h0 a0 N4)) hP hD [0, 1, 2, 3, 4] [5, 6, 7, 8] rfl rfl (by decide) (by decide) hk1 hFc hP1 hD1
    have hP := hP.sub (ws' := (bcW cB cI cJ cZ h0 a0 a1 N4 M1)) [4, 5, 6, 7, 8, 0, 1, 2, 3] rfl
    have hD := hD.sub (ws' := (bcW cB cI cJ cZ h0 a0 a1 N4 M1)) [4, 5, 6, 7, 8, 0, 1, 2, 3] (by decide) rfl
    generalize H1 = H at hP hS ⊢
    have h := hw
    try dsimp only at h
    refine lv_ldc2 (v := (-1)) hx hb hown f3 dX0_fillSum_15 ?_
    refine lv_lxor hx hb dX0_fillSum_18 ?_
    refine lv_land hx hb dX0_fillSum_19 ?_
    refine lv_topl (fun x5 ex5 => ?_)
    have h := h x5 ex5
    refine lv_lstore_n (lv' := [(2, .long x5), (0, .ref h0), (1, .int p1)]) hx hb dX0_fillSum_20 rfl hl (by decide) rfl (fun ls hl => ?_)
    refine lv_aload_n hx hb dX0_fillSum_21 rfl (lv_at hl 1 rfl) ?_
    refine va_get (D := (dC, dI)) (ci := 0) (v := .int (mg N4 9)) (C := RX0) (T := TX0) (N := 11) hx hb hts hinX0 hown hK hP 0 rfl rfl 9 (by decide) f4 (fun _ h9 => h9) rfl dX0_fillSum_22 ?_
    refine lv_topi (fun x6 ex6 => ?_)
    have h := h x6 ex6
    refine lv_istore (lv' := [(4, .int x6), (2, .long x5), (0, .ref h0), (1, .int p1)]) hx hb dX0_fillSum_25 hl (by decide) rfl (fun ls hl => ?_)
    obtain ⟨n9, h⟩ := h
    exact b27  n9 p1 x5 x6 N4 M1 H locs ls hP hD hS (lv_sub hl [2, 3, 1, 0] rfl) h
  have hl := lv_entry ([.ref h0, .int p1]) (n := 8) (Nat.le_of_ble_eq_true rfl)
  rw [lg_entry_eq]
  generalize (lg_sl ([.ref h0, .int p1]) ++ List.replicate (8 - (lg_sl ([.ref h0, .int p1])).length) Slot.unset).toArray = ls at hl ⊢
  have hl : lv_has ls 8 [(0, .ref h0), (1, .int p1)] := hl
  exact bE M0 M1 s.heap [] ls hP hD hS hl h
def wX0_prepare_99  (Q : gS → gS → Prop) (z0 : Int32) (M0 : gS) (M1 : gS) : Prop :=
 (∀ N1 : gS, N1 = sg M0 9 z0 → (Q N1 M1))
def wX0_prepare_98  (Q : gS → gS → Prop)  (M0 : gS) (M1 : gS) : Prop :=
 (wX0_prepare_99  Q (0 : Int32) M0 M1)
def wX0_prepare_42  (Q : gS → gS → Prop) (y3 : Int32) (z0 : Int32) (M0 : gS) (M1 : gS) : Prop :=
 (∀ N1 : gS, N1 = sg M0 10 z0 → (∀ x2 : Int32, x2 = (if ((mg N1 10) - (1 : Int32)) < (y3 / (8 : Int32)) then ((mg N1 10) - (1 : Int32)) else (y3 / (8 : Int32))) → (∀ N3 : gS, N3 = sg N1 7 x2 → (∀ x4 : Int32, x4 = (if ((mg N3 10) - (1 : Int32)) < (y3 - y3 / (8 : Int32) * (8 : Int32)) then ((mg N3 10) - (1 : Int32)) else (y3 - y3 / (8 : Int32) * (8 : Int32))) → (∀ N5 : gS, N5 = sg N3 8 x4 → (((mg N5 7) ≤ 0 → (wX0_prepare_98  Q N5 M1))
 ∧ (¬ (mg N5 7) ≤ 0 → (((mg N5 8) ≤ 0 → (wX0_prepare_98  Q N5 M1))
 ∧ (¬ (mg N5 8) ≤ 0 → (wX0_prepare_99  Q (1 : Int32) N5 M1))))))))))
def wX0_prepare (p2 : Int32) (p3 : Int32) (M0 : gS) (M1 : gS) (Q : gS → gS → Prop) : Prop :=
 (∀ x1 : Int32, x1 = (if (1 : Int32) < p2 then p2 else (1 : Int32)) → (∀ N2 : gS, N2 = sg M0 6 x1 → (((mg M1 4) = 0 → (wX0_prepare_42  Q p3 (1 : Int32) N2 M1))
 ∧ (¬ (mg M1 4) = 0 → (wX0_prepare_42  Q p3 (if (5 : Int32) < ((mg M1 2) + (1 : Int32)) then (5 : Int32) else ((mg M1 2) + (1 : Int32))) N2 M1)))))
def rmX0_prepare : Room := { frames := 1, cells := 0, slots := 0, locals := 21 }
set_option maxHeartbeats 4000000 in
set_option maxRecDepth 100000 in
theorem kX0_prepare (l : Launch) (dC : Nat → ClassId) (dI : Nat → Nat → Nat) (cB cI cJ cZ : ClassId) (h0 : Nat) (a0 : Nat → Nat) (o0 : Option Nat) (h1 : Nat) (a1 : Nat → Nat) (sz : Nat) (p2 : Int32) (p3 : Int32) (M0 : gS) (M1 : gS) (Q : gS → gS → Prop) (h : wX0_prepare p2 p3 M0 M1 Q) : Met l yX0_prepare wsX0_prepare rmX0_prepare (va_Pc [.ref h0, .ref h1, .int p2, .int p3] (boI dC dI cB cI cJ cZ h0 a0 o0 h1 a1 M0 M1 sz)) (va_Qv (fun (u : gS × gS) => Q u.1 u.2) (boB dC dI cB cI cJ cZ h0 a0 (some h1) h1 a1 (va_A (boW cB cI cJ cZ h0 a0 o0 h1 a1 M0 M1) sz)) (va_A (boW cB cI cJ cZ h0 a0 o0 h1 a1 M0 M1) sz)) 0 0 (va_A (boW cB cI cJ cZ h0 a0 o0 h1 a1 M0 M1) sz) := by
  refine Met.ofW (cc := cX0_prepare) (maxL := 4) (ret := none) (by decide) rfl ?_
  intro p e s m args below meth c s₁ B hml hv
  obtain ⟨rfl, hsz, hP, hK, hD0⟩ := hv
  have hx := B.exec
  have hb := B.bytes
  have hr := B.returns
  have hts := atoms_spec (ws := wsX0_prepare) B.pre
  have hown : s.vm.findClass RX0 = some m.cls := findClass_of_methodNamed B.named
  have hlocks := B.notSynchronized
  subst hsz
  have hD := hD0.self (sz := s.heap.size)
  generalize hAe : va_A (boW cB cI cJ cZ h0 a0 o0 h1 a1 M0 M1) s.heap.size = A at hD ⊢
  have hA : ∀ q : Nat, s.heap.size ≤ q → A q := fun q h => by rw [← hAe]; exact Or.inr h
  have hS : va_S A s.heap s.heap [] := va_S.rf
  have hinX0 : ∀ w ∈ wsX00, w ∈ wsX0_prepare := by decide +kernel
  have hinX1 : ∀ w ∈ wsX10, w ∈ wsX0_prepare := by decide +kernel
  have f1 := hts (.fieldLink RX0 115 "LastWords$BestPlay" "fromKind" "I") (by decide +kernel)
  have f2 := hts (.fieldLink RX0 112 "LastWords$BestPlay" "kinds" "I") (by decide +kernel)
  have f3 := hts (.methodLink RX0 109 Lib.Math.min.name) (by decide +kernel)
  have f4 := hts (.static Lib.Math.min.name) (by decide +kernel)
  have f5 := hts (.initialized "java/lang/Math") (by decide +kernel)
  have f6 := hts (.code Lib.Math.min.name Lib.Math.min.code 2 (some .int)) (by decide +kernel)
  have f7 := hts (.fieldLink RX0 75 "LastWords$BestPlay" "mineLast" "I") (by decide +kernel)
  have f8 := hts (.fieldLink RX0 82 "LastWords$BestPlay" "theirLast" "I") (by decide +kernel)
  have f9 := hts (.fieldLink RX0 62 "LastWords$BestPlay" "corner" "LLastWords$Corner;") (by decide +kernel)
  have f10 := hts (.methodLink RX0 101 Lib.Math.max.name) (by decide +kernel)
  have f11 := hts (.static Lib.Math.max.name) (by decide +kernel)
  have f12 := hts (.code Lib.Math.max.name Lib.Math.max.code 2 (some .int)) (by decide +kernel)
  have f13 := hts (.fieldLink RX0 29 "LastWords$BestPlay" "verse" "I") (by decide +kernel)
  have f14 := hts (.fieldLink RX0 106 "LastWords$Corner" "again" "I") (by decide +kernel)
  have f15 := hts (.fieldLink RX0 66 "LastWords$Corner" "words" "I") (by decide +kernel)
  have b99 : ∀ (z0 : Int32) (M0 : gS) (M1 : gS) (H : Heap) (locs : List Loc) (ls : Array Slot), va_P (dC, dI) vwCl (boW cB cI cJ cZ h0 a0 (some h1) h1 a1 M0 M1) H → va_D A (boW cB cI cJ cZ h0 a0 (some h1) h1 a1 M0 M1) → va_S A s.heap H locs → lv_has ls 4 [] → wX0_prepare_99  Q z0 M0 M1 → W p l e (headSpec wsX0_prepare rmX0_prepare).room s m ([.ref h0, .ref h1, .int p2, .int p3] : List Value).toArray below meth c H locs 0 0 (MQ below (va_Qv (fun (u : gS × gS) => Q u.1 u.2) (boB dC dI cB cI cJ cZ h0 a0 (some h1) h1 a1 A) A) ([.ref h0, .ref h1, .int p2, .int p3] : List Value).toArray s 0 0 A) (F0 m 99 ls [.int z0, .ref h0]) := by
    intro  z0 M0 M1 H locs ls hP hD hS hl h
    unfold wX0_prepare_99 at h
    refine va_put (D := (dC, dI)) (ci := 0) (v := .int z0) (ty := .int) (C := RX0) (T := TX0) (N := 11) hx hb hts hinX0 tyX0 tyX0_ok nmX0 hown hK hP hD hS 0 rfl rfl 9 (by decide) f1 (fun _ h9 => h9) rfl (by decide +kernel) rfl rfl (Nat.le_of_ble_eq_true rfl) dX0_prepare_99 (fun H locs hP hD hS => ?_)
    have hP := boP_0_f9 hP
    have hD := boD_0_f9 hD
    have h := h _ rfl
    generalize sg M0 9 z0 = N1 at hP hD h
    exact W.vret hx hb hr (fun t ht hW => ⟨⟨(N1, M1), rfl, h, by rw [ht]; exact hP, va_K.moved hW.alike hK, hD⟩, hS.F ht⟩) hS.2.2 dX0_prepare_102
  have b98 : ∀  (M0 : gS) (M1 : gS) (H : Heap) (locs : List Loc) (ls : Array Slot), va_P (dC, dI) vwCl (boW cB cI cJ cZ h0 a0 (some h1) h1 a1 M0 M1) H → va_D A (boW cB cI cJ cZ h0 a0 (some h1) h1 a1 M0 M1) → va_S A s.heap H locs → lv_has ls 4 [] → wX0_prepare_98  Q M0 M1 → W p l e (headSpec wsX0_prepare rmX0_prepare).room s m ([.ref h0, .ref h1, .int p2, .int p3] : List Value).toArray below meth c H locs 0 0 (MQ below (va_Qv (fun (u : gS × gS) => Q u.1 u.2) (boB dC dI cB cI cJ cZ h0 a0 (some h1) h1 a1 A) A) ([.ref h0, .ref h1, .int p2, .int p3] : List Value).toArray s 0 0 A) (F0 m 98 ls [.ref h0]) := by
    intro  M0 M1 H locs ls hP hD hS hl h
    unfold wX0_prepare_98 at h
    refine lv_iconst (v := 0) hx hb dX0_prepare_98 (by decide) ?_
    exact b99  (0 : Int32) M0 M1 H locs ls hP hD hS (lv_sub hl [] rfl) h
  have b42 : ∀ (y3 : Int32) (z0 : Int32) (M0 : gS) (M1 : gS) (H : Heap) (locs : List Loc) (ls : Array Slot), va_P (dC, dI) vwCl (boW cB cI cJ cZ h0 a0 (some h1) h1 a1 M0 M1) H → va_D A (boW cB cI cJ cZ h0 a0 (some h1) h1 a1 M0 M1) → va_S A s.heap H locs → lv_has ls 4 [(0, .ref h0), (3, .int y3)] → wX0_prepare_42  Q y3 z0 M0 M1 → W p l e (headSpec wsX0_prepare rmX0_prepare).room s m ([.ref h0, .ref h1, .int p2, .int p3] : List Value).toArray below meth c H locs 0 0 (MQ below (va_Qv (fun (u : gS × gS) => Q u.1 u.2) (boB dC dI cB cI cJ cZ h0 a0 (some h1) h1 a1 A) A) ([.ref h0, .ref h1, .int p2, .int p3] : List Value).toArray s 0 0 A) (F0 m 42 ls [.int z0, .ref h0]) := by
    intro  y3 z0 M0 M1 H locs ls hP hD hS hl h
    unfold wX0_prepare_42 at h
    refine va_put (D := (dC, dI)) (ci := 0) (v := .int z0) (ty := .int) (C := RX0) (T := TX0) (N := 11) hx hb hts hinX0 tyX0 tyX0_ok nmX0 hown hK hP hD hS 0 rfl rfl 10 (by decide) f2 (fun _ h9 => h9) rfl (by decide +kernel) rfl rfl (Nat.le_of_ble_eq_true rfl) dX0_prepare_42 (fun H locs hP hD hS => ?_)
    have hP := boP_0_f10 hP
    have hD := boD_0_f10 hD
    have h := h _ rfl
    generalize sg M0 10 z0 = N1 at hP hD h
    refine lv_aload_n hx hb dX0_prepare_45 rfl (lv_at hl 0 rfl) ?_
    refine lv_iload_n hx hb dX0_prepare_46 rfl (lv_at hl 1 rfl) ?_
    refine lv_bipush (v := (8)) hx hb dX0_prepare_47 (by decide) ?_
    refine lv_idiv hx hb dX0_prepare_49 (by decide) ?_
    refine lv_aload_n hx hb dX0_prepare_50 rfl (lv_at hl 0 rfl) ?_
    refine va_get (D := (dC, dI)) (ci := 0) (v := .int (mg N1 10)) (C := RX0) (T := TX0) (N := 11) hx hb hts hinX0 hown hK hP 0 rfl rfl 10 (by decide) f2 (fun _ h9 => h9) rfl dX0_prepare_51 ?_
    refine lv_iconst (v := 1) hx hb dX0_prepare_54 (by decide) ?_
    refine lv_isub hx hb dX0_prepare_55 ?_
    refine va_mmin hx hb (by rw [hml]; exact hl.1.symm) hown f3 f4 f5 f6 (Nat.le_of_ble_eq_true rfl) (Nat.le_of_ble_eq_true rfl) (Nat.le_of_ble_eq_true rfl) (Nat.le_of_ble_eq_true rfl) dX0_prepare_56 ?_
    refine lv_topi (fun x2 ex2 => ?_)
    have h := h x2 ex2
    refine va_put (D := (dC, dI)) (ci := 0) (v := .int x2) (ty := .int) (C := RX0) (T := TX0) (N := 11) hx hb hts hinX0 tyX0 tyX0_ok nmX0 hown hK hP hD hS 0 rfl rfl 7 (by decide) f7 (fun _ h9 => h9) rfl (by decide +kernel) rfl rfl (Nat.le_of_ble_eq_true rfl) dX0_prepare_59 (fun H locs hP hD hS => ?_)
    have hP := boP_0_f7 hP
    have hD := boD_0_f7 hD
    have h := h _ rfl
    generalize sg N1 7 x2 = N3 at hP hD h
    refine lv_aload_n hx hb dX0_prepare_62 rfl (lv_at hl 0 rfl) ?_
    refine lv_iload_n hx hb dX0_prepare_63 rfl (lv_at hl 1 rfl) ?_
    refine lv_bipush (v := (8)) hx hb dX0_prepare_64 (by decide) ?_
    refine lv_irem hx hb dX0_prepare_66 (by decide) ?_
    refine lv_aload_n hx hb dX0_prepare_67 rfl (lv_at hl 0 rfl) ?_
    refine va_get (D := (dC, dI)) (ci := 0) (v := .int (mg N3 10)) (C := RX0) (T := TX0) (N := 11) hx hb hts hinX0 hown hK hP 0 rfl rfl 10 (by decide) f2 (fun _ h9 => h9) rfl dX0_prepare_68 ?_
    refine lv_iconst (v := 1) hx hb dX0_prepare_71 (by decide) ?_
    refine lv_isub hx hb dX0_prepare_72 ?_
    refine va_mmin hx hb (by rw [hml]; exact hl.1.symm) hown f3 f4 f5 f6 (Nat.le_of_ble_eq_true rfl) (Nat.le_of_ble_eq_true rfl) (Nat.le_of_ble_eq_true rfl) (Nat.le_of_ble_eq_true rfl) dX0_prepare_73 ?_
    refine lv_topi (fun x4 ex4 => ?_)
    have h := h x4 ex4
    refine va_put (D := (dC, dI)) (ci := 0) (v := .int x4) (ty := .int) (C := RX0) (T := TX0) (N := 11) hx hb hts hinX0 tyX0 tyX0_ok nmX0 hown hK hP hD hS 0 rfl rfl 8 (by decide) f8 (fun _ h9 => h9) rfl (by decide +kernel) rfl rfl (Nat.le_of_ble_eq_true rfl) dX0_prepare_76 (fun H locs hP hD hS => ?_)
    have hP := boP_0_f8 hP
    have hD := boD_0_f8 hD
    have h := h _ rfl
    generalize sg N3 8 x4 = N5 at hP hD h
    refine lv_aload_n hx hb dX0_prepare_79 rfl (lv_at hl 0 rfl) ?_
    refine lv_aload_n hx hb dX0_prepare_80 rfl (lv_at hl 0 rfl) ?_
    refine va_get (D := (dC, dI)) (ci := 0) (v := .int (mg N5 7)) (C := RX0) (T := TX0) (N := 11) hx hb hts hinX0 hown hK hP 0 rfl rfl 7 (by decide) f7 (fun _ h9 => h9) rfl dX0_prepare_81 ?_
    refine lv_if_le (tgt := 98) hx hb dX0_prepare_84 (by decide) (fun c6 => ?_) (fun c6 => ?_)
    · have h := h.1 c6
      exact b98  N5 M1 H locs ls hP hD hS (lv_sub hl [] rfl) h
    · have h := h.2 c6
      refine lv_aload_n hx hb dX0_prepare_87 rfl (lv_at hl 0 rfl) ?_
      refine va_get (D := (dC, dI)) (ci := 0) (v := .int (mg N5 8)) (C := RX0) (T := TX0) (N := 11) hx hb hts hinX0 hown hK hP 0 rfl rfl 8 (by decide) f8 (fun _ h9 => h9) rfl dX0_prepare_88 ?_
      refine lv_if_le (tgt := 98) hx hb dX0_prepare_91 (by decide) (fun c7 => ?_) (fun c7 => ?_)
      · have h := h.1 c7
        exact b98  N5 M1 H locs ls hP hD hS (lv_sub hl [] rfl) h
      · have h := h.2 c7
        refine lv_iconst (v := 1) hx hb dX0_prepare_94 (by decide) ?_
        refine lv_goto (tgt := 99) hx hb dX0_prepare_95 (by decide) ?_
        exact b99  (1 : Int32) N5 M1 H locs ls hP hD hS (lv_sub hl [] rfl) h
  have bE : ∀ (M0 : gS) (M1 : gS) (H : Heap) (locs : List Loc) (ls : Array Slot), va_P (dC, dI) vwCl (boW cB cI cJ cZ h0 a0 o0 h1 a1 M0 M1) H → va_D A (boW cB cI cJ cZ h0 a0 o0 h1 a1 M0 M1) → va_S A s.heap H locs → lv_has ls 4 [(0, .ref h0), (1, .ref h1), (2, .int p2), (3, .int p3)] → wX0_prepare p2 p3 M0 M1 Q → W p l e (headSpec wsX0_prepare rmX0_prepare).room s m ([.ref h0, .ref h1, .int p2, .int p3] : List Value).toArray below meth c H locs 0 0 (MQ below (va_Qv (fun (u : gS × gS) => Q u.1 u.2) (boB dC dI cB cI cJ cZ h0 a0 (some h1) h1 a1 A) A) ([.ref h0, .ref h1, .int p2, .int p3] : List Value).toArray s 0 0 A) (F0 m 0 ls []) := by
    intro M0 M1 H locs ls hP hD hS hl h
    unfold wX0_prepare at h
    refine lv_aload_n hx hb dX0_prepare_0 rfl (lv_at hl 0 rfl) ?_
    refine lv_aload_n hx hb dX0_prepare_1 rfl (lv_at hl 1 rfl) ?_
    refine va_put (D := (dC, dI)) (ci := 0) (v := .ref h1) (ty := .object "LastWords$Corner") (C := RX0) (T := TX0) (N := 11) hx hb hts hinX0 tyX0 tyX0_ok nmX0 hown hK hP hD hS 0 rfl rfl 5 (by decide) f9 (fun _ h9 => h9) rfl (by decide +kernel) rfl rfl (Nat.le_of_ble_eq_true rfl) dX0_prepare_2 (fun H locs hP hD hS => ?_)
    have hP := boP_0_f5 hP
    have hD := boD_0_f5 hD
    refine lv_aload_n hx hb dX0_prepare_5 rfl (lv_at hl 0 rfl) ?_
    refine lv_iconst (v := 1) hx hb dX0_prepare_6 (by decide) ?_
    refine lv_iload_n hx hb dX0_prepare_7 rfl (lv_at hl 2 rfl) ?_
    refine va_mmax hx hb (by rw [hml]; exact hl.1.symm) hown f10 f11 f5 f12 (Nat.le_of_ble_eq_true rfl) (Nat.le_of_ble_eq_true rfl) (Nat.le_of_ble_eq_true rfl) (Nat.le_of_ble_eq_true rfl) dX0_prepare_8 ?_
    refine lv_topi (fun x1 ex1 => ?_)
    have h := h x1 ex1
    refine va_put (D := (dC, dI)) (ci := 0) (v := .int x1) (ty := .int) (C := RX0) (T := TX0) (N := 11) hx hb hts hinX0 tyX0 tyX0_ok nmX0 hown hK hP hD hS 0 rfl rfl 6 (by decide) f13 (fun _ h9 => h9) rfl (by decide +kernel) rfl rfl (Nat.le_of_ble_eq_true rfl) dX0_prepare_11 (fun H locs hP hD hS => ?_)
    have hP := boP_0_f6 hP
    have hD := boD_0_f6 hD
    have h := h _ rfl
    generalize sg M0 6 x1 = N2 at hP hD h
    refine lv_aload_n hx hb dX0_prepare_14 rfl (lv_at hl 0 rfl) ?_
    refine lv_aload_n hx hb dX0_prepare_15 rfl (lv_at hl 0 rfl) ?_
    refine va_get (D := (dC, dI)) (ci := 0) (v := .ref h1) (C := RX0) (T := TX0) (N := 11) hx hb hts hinX0 hown hK hP 0 rfl rfl 5 (by decide) f9 (fun _ h9 => h9) rfl dX0_prepare_16 ?_
    refine va_get (D := (dC, dI)) (ci := 1) (v := .int (mg M1 4)) (C := RX1) (T := TX1) (N := 6) hx hb hts hinX1 hown hK hP 5 rfl rfl 4 (by decide) f14 (fun _ h9 => h9) rfl dX0_prepare_19 ?_
    refine lv_if_ne (tgt := 29) hx hb dX0_prepare_22 (by decide) (fun c3 => ?_) (fun c3 => ?_)
    · have h := h.2 c3
      refine lv_aload_n hx hb dX0_prepare_29 rfl (lv_at hl 0 rfl) ?_
      refine va_get (D := (dC, dI)) (ci := 0) (v := .ref h1) (C := RX0) (T := TX0) (N := 11) hx hb hts hinX0 hown hK hP 0 rfl rfl 5 (by decide) f9 (fun _ h9 => h9) rfl dX0_prepare_30 ?_
      refine va_get (D := (dC, dI)) (ci := 1) (v := .int (mg M1 2)) (C := RX1) (T := TX1) (N := 6) hx hb hts hinX1 hown hK hP 5 rfl rfl 2 (by decide) f15 (fun _ h9 => h9) rfl dX0_prepare_33 ?_
      refine lv_iconst (v := 1) hx hb dX0_prepare_36 (by decide) ?_
      refine lv_iadd hx hb dX0_prepare_37 ?_
      refine lv_iconst (v := 5) hx hb dX0_prepare_38 (by decide) ?_
      refine va_mmin hx hb (by rw [hml]; exact hl.1.symm) hown f3 f4 f5 f6 (Nat.le_of_ble_eq_true rfl) (Nat.le_of_ble_eq_true rfl) (Nat.le_of_ble_eq_true rfl) (Nat.le_of_ble_eq_true rfl) dX0_prepare_39 ?_
      exact b42  p3 (if (5 : Int32) < ((mg M1 2) + (1 : Int32)) then (5 : Int32) else ((mg M1 2) + (1 : Int32))) N2 M1 H locs ls hP hD hS (lv_sub hl [0, 3] rfl) h
    · have h := h.1 c3
      refine lv_iconst (v := 1) hx hb dX0_prepare_25 (by decide) ?_
      refine lv_goto (tgt := 42) hx hb dX0_prepare_26 (by decide) ?_
      exact b42  p3 (1 : Int32) N2 M1 H locs ls hP hD hS (lv_sub hl [0, 3] rfl) h
  have hl := lv_entry ([.ref h0, .ref h1, .int p2, .int p3]) (n := 4) (Nat.le_of_ble_eq_true rfl)
  rw [lg_entry_eq]
  generalize (lg_sl ([.ref h0, .ref h1, .int p2, .int p3]) ++ List.replicate (4 - (lg_sl ([.ref h0, .ref h1, .int p2, .int p3])).length) Slot.unset).toArray = ls at hl ⊢
  have hl : lv_has ls 4 [(0, .ref h0), (1, .ref h1), (2, .int p2), (3, .int p3)] := hl
  exact bE M0 M1 s.heap [] ls hP hD hS hl h
def wX0_winners_94 (B14 : Int32 → Int32 → Int64 → Int32 → gS → gS → Prop) (Q : Int64 → gS → gS → Prop) (y3 : Int32) (y5 : Int32) (y6 : Int64) (y8 : Int32) (M0 : gS) (M1 : gS) : Prop :=
 (∀ x1 : Int32, x1 = y8 + (1 : Int32) → (B14 y3 y5 y6 x1 M0 M1))
def wX0_winners_14  (Q : Int64 → gS → gS → Prop) : Nat → Int32 → Int32 → Int64 → Int32 → gS → gS → Prop
 | 0, _, _, _, _, _, _ => False
 | n + 1, y3, y5, y6, y8, M0, M1 => (((y3 + ((mg M0 6) * y5)) < y8 → (Q y6 M0 M1))
 ∧ (¬ (y3 + ((mg M0 6) * y5)) < y8 → (wX0_fillSum y8 M0 M1 (fun (N3 : gS) (N4 : gS) => ((y8 < y3 → (wX0_winners_94 (fun (y3 : Int32) (y5 : Int32) (y6 : Int64) (y8 : Int32) (M0 : gS) (M1 : gS) => wX0_winners_14  Q n y3 y5 y6 y8 M0 M1) Q y3 y5 y6 y8 N3 N4))
 ∧ (¬ y8 < y3 → (¬ (mg N3 6) = 0 ∧ ((((y8 - y3) - (y8 - y3) / (mg N3 6) * (mg N3 6)) = 0 → (¬ (mg N3 6) = 0 ∧ (∀ x7 : Int32, x7 = ((y8 - y3) / (mg N3 6)) → (wX0_winnersOf y8 N3 (fun (r8 : Int64) (N9 : gS) => (wX0_purses x7 N9 (fun (r10 : Int64) (N11 : gS) => (wX0_purses (x7 - (1 : Int32)) N11 (fun (r12 : Int64) (N13 : gS) => (∀ x14 : Int64, x14 = (y6 ||| ((r8 &&& r10) &&& (r12 ^^^ (-1 : Int64)))) → (wX0_winners_94 (fun (y3 : Int32) (y5 : Int32) (y6 : Int64) (y8 : Int32) (M0 : gS) (M1 : gS) => wX0_winners_14  Q n y3 y5 y6 y8 M0 M1) Q y3 y5 x14 y8 N13 N4)))))))))))
 ∧ (¬ ((y8 - y3) - (y8 - y3) / (mg N3 6) * (mg N3 6)) = 0 → (wX0_winners_94 (fun (y3 : Int32) (y5 : Int32) (y6 : Int64) (y8 : Int32) (M0 : gS) (M1 : gS) => wX0_winners_14  Q n y3 y5 y6 y8 M0 M1) Q y3 y5 y6 y8 N3 N4))))))))))
def wX0_winners (p2 : Int32) (p3 : Int32) (p4 : Int32) (p5 : Int32) (M0 : gS) (M1 : gS) (Q : Int64 → gS → gS → Prop) : Prop :=
 (wX0_prepare p2 p4 M0 M1 (fun (N2 : gS) (N3 : gS) => (∃ k14 : Nat, wX0_winners_14  Q k14 p3 p5 (0 : Int64) (0 : Int32) N2 N3)))
def rmX0_winners : Room := { frames := 3, cells := 0, slots := 0, locals := 73 }
set_option maxHeartbeats 4000000 in
set_option maxRecDepth 100000 in
theorem kX0_winners (l : Launch) (dC : Nat → ClassId) (dI : Nat → Nat → Nat) (cB cI cJ cZ : ClassId) (h0 : Nat) (a0 : Nat → Nat) (o0 : Option Nat) (h1 : Nat) (a1 : Nat → Nat) (sz : Nat) (p2 : Int32) (p3 : Int32) (p4 : Int32) (p5 : Int32) (M0 : gS) (M1 : gS) (Q : Int64 → gS → gS → Prop) (h : wX0_winners p2 p3 p4 p5 M0 M1 Q) : Met l yX0_winners wsX0_winners rmX0_winners (va_Pc [.ref h0, .ref h1, .int p2, .int p3, .int p4, .int p5] (boI dC dI cB cI cJ cZ h0 a0 o0 h1 a1 M0 M1 sz)) (va_Ql (fun (r : Int64) (u : gS × gS) => Q r u.1 u.2) (boB dC dI cB cI cJ cZ h0 a0 (some h1) h1 a1 (va_A (boW cB cI cJ cZ h0 a0 o0 h1 a1 M0 M1) sz)) (va_A (boW cB cI cJ cZ h0 a0 o0 h1 a1 M0 M1) sz)) 0 0 (va_A (boW cB cI cJ cZ h0 a0 o0 h1 a1 M0 M1) sz) := by
  refine Met.ofW (cc := cX0_winners) (maxL := 10) (ret := (some .long)) (by decide) rfl ?_
  intro p e s m args below meth c s₁ B hml hv
  obtain ⟨rfl, hsz, hP, hK, hD0⟩ := hv
  have hx := B.exec
  have hb := B.bytes
  have hr := B.returns
  have hts := atoms_spec (ws := wsX0_winners) B.pre
  have hown : s.vm.findClass RX0 = some m.cls := findClass_of_methodNamed B.named
  have hlocks := B.notSynchronized
  subst hsz
  have hD := hD0.self (sz := s.heap.size)
  generalize hAe : va_A (boW cB cI cJ cZ h0 a0 o0 h1 a1 M0 M1) s.heap.size = A at hD ⊢
  have hA : ∀ q : Nat, s.heap.size ≤ q → A q := fun q h => by rw [← hAe]; exact Or.inr h
  have hS : va_S A s.heap s.heap [] := va_S.rf
  have hinX0 : ∀ w ∈ wsX00, w ∈ wsX0_winners := by decide +kernel
  have f1 := hts (.fieldLink RX0 29 "LastWords$BestPlay" "verse" "I") (by decide +kernel)
  have f2 := hts (.constantLong RX0 44 (-1)) (by decide +kernel)
  have b94 : ∀ (B14 : Int32 → Int32 → Int64 → Int32 → gS → gS → Prop) (hB14 : ∀ (y3 : Int32) (y5 : Int32) (y6 : Int64) (y8 : Int32) (M0 : gS) (M1 : gS) (H : Heap) (locs : List Loc) (ls : Array Slot), va_P (dC, dI) vwCl (boW cB cI cJ cZ h0 a0 (some h1) h1 a1 M0 M1) H → va_D A (boW cB cI cJ cZ h0 a0 (some h1) h1 a1 M0 M1) → va_S A s.heap H locs → lv_has ls 10 [(0, .ref h0), (3, .int y3), (5, .int y5), (6, .long y6), (8, .int y8)] → B14 y3 y5 y6 y8 M0 M1 → W p l e (headSpec wsX0_winners rmX0_winners).room s m ([.ref h0, .ref h1, .int p2, .int p3, .int p4, .int p5] : List Value).toArray below meth c H locs 0 0 (MQ below (va_Ql (fun (r : Int64) (u : gS × gS) => Q r u.1 u.2) (boB dC dI cB cI cJ cZ h0 a0 (some h1) h1 a1 A) A) ([.ref h0, .ref h1, .int p2, .int p3, .int p4, .int p5] : List Value).toArray s 0 0 A) (F0 m 14 ls [])) (y3 : Int32) (y5 : Int32) (y6 : Int64) (y8 : Int32) (M0 : gS) (M1 : gS) (H : Heap) (locs : List Loc) (ls : Array Slot), va_P (dC, dI) vwCl (boW cB cI cJ cZ h0 a0 (some h1) h1 a1 M0 M1) H → va_D A (boW cB cI cJ cZ h0 a0 (some h1) h1 a1 M0 M1) → va_S A s.heap H locs → lv_has ls 10 [(0, .ref h0), (3, .int y3), (5, .int y5), (6, .long y6), (8, .int y8)] → wX0_winners_94 B14 Q y3 y5 y6 y8 M0 M1 → W p l e (headSpec wsX0_winners rmX0_winners).room s m ([.ref h0, .ref h1, .int p2, .int p3, .int p4, .int p5] : List Value).toArray below meth c H locs 0 0 (MQ below (va_Ql (fun (r : Int64) (u : gS × gS) => Q r u.1 u.2) (boB dC dI cB cI cJ cZ h0 a0 (some h1) h1 a1 A) A) ([.ref h0, .ref h1, .int p2, .int p3, .int p4, .int p5] : List Value).toArray s 0 0 A) (F0 m 94 ls []) := by
    intro B14 hB14 y3 y5 y6 y8 M0 M1 H locs ls hP hD hS hl h
    unfold wX0_winners_94 at h
    obtain ⟨x1, ex1⟩ : ∃ y : Int32, y = y8 + (1 : Int32) := ⟨_, rfl⟩
    have h := h x1 ex1
    refine lv_iinc (v := x1) (lv' := [(8, .int x1), (0, .ref h0), (3, .int y3), (5, .int y5), (6, .long y6)]) hx hb dX0_winners_94 hl (k := 4) rfl (by rw [ex1]; rfl) (by decide) rfl (fun ls hl => ?_)
    refine lv_goto (tgt := 14) hx hb dX0_winners_97 (by decide) ?_
    exact hB14 y3 y5 y6 x1 M0 M1 H locs ls hP hD hS (lv_sub hl [1, 2, 3, 4, 0] rfl) h
  have b14 : ∀ (n : Nat) (y3 : Int32) (y5 : Int32) (y6 : Int64) (y8 : Int32) (M0 : gS) (M1 : gS) (H : Heap) (locs : List Loc) (ls : Array Slot), va_P (dC, dI) vwCl (boW cB cI cJ cZ h0 a0 (some h1) h1 a1 M0 M1) H → va_D A (boW cB cI cJ cZ h0 a0 (some h1) h1 a1 M0 M1) → va_S A s.heap H locs → lv_has ls 10 [(0, .ref h0), (3, .int y3), (5, .int y5), (6, .long y6), (8, .int y8)] → wX0_winners_14  Q n y3 y5 y6 y8 M0 M1 → W p l e (headSpec wsX0_winners rmX0_winners).room s m ([.ref h0, .ref h1, .int p2, .int p3, .int p4, .int p5] : List Value).toArray below meth c H locs 0 0 (MQ below (va_Ql (fun (r : Int64) (u : gS × gS) => Q r u.1 u.2) (boB dC dI cB cI cJ cZ h0 a0 (some h1) h1 a1 A) A) ([.ref h0, .ref h1, .int p2, .int p3, .int p4, .int p5] : List Value).toArray s 0 0 A) (F0 m 14 ls []) := by
    intro  n
    induction n with
    | zero => intro y3 y5 y6 y8 M0 M1 H locs ls hP hD hS hl h; exact absurd h (by simp [wX0_winners_14])
    | succ n hB140 =>
      intro y3 y5 y6 y8 M0 M1 H locs ls hP hD hS hl h
      have hB14 := hB140
      rw [wX0_winners_14] at h
      refine lv_iload hx hb dX0_winners_14 (lv_at hl 4 rfl) ?_
      refine lv_iload_n hx hb dX0_winners_16 rfl (lv_at hl 1 rfl) ?_
      refine lv_aload_n hx hb dX0_winners_17 rfl (lv_at hl 0 rfl) ?_
      refine va_get (D := (dC, dI)) (ci := 0) (v := .int (mg M0 6)) (C := RX0) (T := TX0) (N := 11) hx hb hts hinX0 hown hK hP 0 rfl rfl 6 (by decide) f1 (fun _ h9 => h9) rfl dX0_winners_18 ?_
      refine lv_iload hx hb dX0_winners_21 (lv_at hl 2 rfl) ?_
      refine lv_imul hx hb dX0_winners_23 ?_
      refine lv_iadd hx hb dX0_winners_24 ?_
      refine lv_icmp_gt (tgt := 100) hx hb dX0_winners_25 (by decide) (fun c1 => ?_) (fun c1 => ?_)
      · have h := h.1 c1
        refine lv_lload hx hb dX0_winners_100 (lv_at hl 3 rfl) ?_
        exact W.lret (v := y6) hx hb hr (fun t ht hW => ⟨⟨_, (M0, M1), rfl, h, by rw [ht]; exact hP, va_K.moved hW.alike hK, hD⟩, hS.F ht⟩) hS.2.2 dX0_winners_102
      · have h := h.2 c1
        refine lv_aload_n hx hb dX0_winners_28 rfl (lv_at hl 0 rfl) ?_
        refine lv_iload hx hb dX0_winners_29 (lv_at hl 4 rfl) ?_
        have hPc := hP.sub (ws' := (bcW cB cI cJ cZ h0 (va_up a0 5 h1) a1 M0 M1)) [0, 1, 2, 3, 4, 5, 6, 7, 8] rfl
        have hDc := hD.sub (ws' := (bcW cB cI cJ cZ h0 (va_up a0 5 h1) a1 M0 M1)) [0, 1, 2, 3, 4, 5, 6, 7, 8] (by decide) rfl
        have hFc := va_free (wc := (bcW cB cI cJ cZ h0 (va_up a0 5 h1) a1 M0 M1)) hD hS hA [0, 1, 2, 3, 4, 5, 6, 7, 8] rfl
        refine va_callv (va_runV (As := [.int y8]) (rest := []) ⟨hx, hb, hml, hown, hts⟩ (kX0_fillSum l dC dI cB cI cJ cZ h0 (va_up a0 5 h1) a1 H.size y8 M0 M1 _ h) (cwV 1 hts gX0_winners_X0_fillSum rfl rfl rfl (by decide +kernel) ⟨Nat.le_of_ble_eq_true rfl, Nat.le_of_ble_eq_true rfl⟩) (bcpV hK hPc hDc) rfl rfl hl.1 rfl (lv_room (Nat.le_of_ble_eq_true rfl)) dX0_winners_31 ⟨Nat.le_of_ble_eq_true rfl, Nat.le_of_ble_eq_true rfl⟩) hS (fun q _ z => hFc q z) hFc (fun u t H1 locs ht hvm hw hB hz1 hk1 hS => ?_)
        obtain ⟨N3, N4⟩ := u
        obtain ⟨hP1, hK1, hD1⟩ := hB
        rw [ht] at hP1
        obtain ⟨hP, hD⟩ := va_join (wr := []) (w1 := (bcW cB cI cJ cZ h0 (va_up a0 5 h1) a1 N3 N4)) hP hD [0, 1, 2, 3, 4, 5, 6, 7, 8] [] rfl rfl (by decide) (by decide) hk1 hFc hP1 hD1
        have hP := hP.sub (ws' := (boW cB cI cJ cZ h0 a0 (some h1) h1 a1 N3 N4)) [0, 1, 2, 3, 4, 5, 6, 7, 8] rfl
        have hD := hD.sub (ws' := (boW cB cI cJ cZ h0 a0 (some h1) h1 a1 N3 N4)) [0, 1, 2, 3, 4, 5, 6, 7, 8] (by decide) rfl
        generalize H1 = H at hP hS ⊢
        have h := hw
        try dsimp only at h
        refine lv_iload hx hb dX0_winners_34 (lv_at hl 4 rfl) ?_
        refine lv_iload_n hx hb dX0_winners_36 rfl (lv_at hl 1 rfl) ?_
        refine lv_icmp_lt (tgt := 94) hx hb dX0_winners_37 (by decide) (fun c5 => ?_) (fun c5 => ?_)
        · have h := h.1 c5
          exact b94 _ hB14 y3 y5 y6 y8 N3 N4 H locs ls hP hD hS (lv_sub hl [0, 1, 2, 3, 4] rfl) h
        · have h := h.2 c5
          refine lv_iload hx hb dX0_winners_40 (lv_at hl 4 rfl) ?_
          refine lv_iload_n hx hb dX0_winners_42 rfl (lv_at hl 1 rfl) ?_
          refine lv_isub hx hb dX0_winners_43 ?_
          refine lv_aload_n hx hb dX0_winners_44 rfl (lv_at hl 0 rfl) ?_
          refine va_get (D := (dC, dI)) (ci := 0) (v := .int (mg N3 6)) (C := RX0) (T := TX0) (N := 11) hx hb hts hinX0 hown hK hP 0 rfl rfl 6 (by decide) f1 (fun _ h9 => h9) rfl dX0_winners_45 ?_
          refine lv_irem hx hb dX0_winners_48 h.1 ?_
          have h := h.2
          refine lv_if_ne (tgt := 94) hx hb dX0_winners_49 (by decide) (fun c6 => ?_) (fun c6 => ?_)
          · have h := h.2 c6
            exact b94 _ hB14 y3 y5 y6 y8 N3 N4 H locs ls hP hD hS (lv_sub hl [0, 1, 2, 3, 4] rfl) h
          · have h := h.1 c6
            refine lv_iload hx hb dX0_winners_52 (lv_at hl 4 rfl) ?_
            refine lv_iload_n hx hb dX0_winners_54 rfl (lv_at hl 1 rfl) ?_
            refine lv_isub hx hb dX0_winners_55 ?_
            refine lv_aload_n hx hb dX0_winners_56 rfl (lv_at hl 0 rfl) ?_
            refine va_get (D := (dC, dI)) (ci := 0) (v := .int (mg N3 6)) (C := RX0) (T := TX0) (N := 11) hx hb hts hinX0 hown hK hP 0 rfl rfl 6 (by decide) f1 (fun _ h9 => h9) rfl dX0_winners_57 ?_
            refine lv_idiv hx hb dX0_winners_60 h.1 ?_
            have h := h.2
            refine lv_topi (fun x7 ex7 => ?_)
            have h := h x7 ex7
            refine lv_istore (lv' := [(9, .int x7), (0, .ref h0), (3, .int y3), (5, .int y5), (6, .long y6), (8, .int y8)]) hx hb dX0_winners_61 hl (by decide) rfl (fun ls hl => ?_)
            refine lv_lload hx hb dX0_winners_63 (lv_at hl 4 rfl) ?_
            refine lv_aload_n hx hb dX0_winners_65 rfl (lv_at hl 1 rfl) ?_
            refine lv_iload hx hb dX0_winners_66 (lv_at hl 5 rfl) ?_
            have hPc := hP.sub (ws' := (baW cB cI cJ cZ h0 (va_up a0 5 h1) N3)) [0, 1, 2, 3, 4] rfl
            have hDc := hD.sub (ws' := (baW cB cI cJ cZ h0 (va_up a0 5 h1) N3)) [0, 1, 2, 3, 4] (by decide) rfl
            have hFc := va_free (wc := (baW cB cI cJ cZ h0 (va_up a0 5 h1) N3)) hD hS hA [0, 1, 2, 3, 4] rfl
            refine va_calll (va_runV (As := [.int y8]) (rest := [.long y6]) ⟨hx, hb, hml, hown, hts⟩ (kX0_winnersOf l dC dI cB cI cJ cZ h0 (va_up a0 5 h1) H.size y8 N3 _ h) (cwV 1 hts gX0_winners_X0_winnersOf rfl rfl rfl (by decide +kernel) ⟨Nat.le_of_ble_eq_true rfl, Nat.le_of_ble_eq_true rfl⟩) (bapV hK hPc hDc) rfl rfl hl.1 rfl (lv_room (Nat.le_of_ble_eq_true rfl)) dX0_winners_68 ⟨Nat.le_of_ble_eq_true rfl, Nat.le_of_ble_eq_true rfl⟩) hS (fun q _ z => hFc q z) hFc (fun r8 u t H1 locs ht hvm hw hB hz1 hk1 hS => ?_)
            obtain ⟨N9, rfl⟩ : ∃ z, z = u := ⟨_, rfl⟩
            obtain ⟨hP1, hK1, hD1⟩ := hB
            rw [ht] at hP1
            obtain ⟨hP, hD⟩ := va_join (wr := [(h1, .inr (1, [.int (mg N4 0), .ref (a1 1), .int (mg N4 2), .ref (a1 3), .int (mg N4 4), .ref (a1 5)])), (a1 1, .inl (cI, 4, .inl (ma N4 1))), (a1 3, .inl (cI, 4, .inl (ma N4 3))), (a1 5, .inl (cI, 2, .inl (ma N4 5)))]) (w1 := (baW cB cI cJ cZ h0 (va_up a0 5 h1) N9)) hP hD [0, 1, 2, 3, 4] [5, 6, 7, 8] rfl rfl (by decide) (by decide) hk1 hFc hP1 hD1
            have hP := hP.sub (ws' := (boW cB cI cJ cZ h0 a0 (some h1) h1 a1 N9 N4)) [4, 5, 6, 7, 8, 0, 1, 2, 3] rfl
            have hD := hD.sub (ws' := (boW cB cI cJ cZ h0 a0 (some h1) h1 a1 N9 N4)) [4, 5, 6, 7, 8, 0, 1, 2, 3] (by decide) rfl
            generalize H1 = H at hP hS ⊢
            have h := hw
            try dsimp only at h
            refine lv_aload_n hx hb dX0_winners_71 rfl (lv_at hl 1 rfl) ?_
            refine lv_iload hx hb dX0_winners_72 (lv_at hl 0 rfl) ?_
            have hPc := hP.sub (ws' := (baW cB cI cJ cZ h0 (va_up a0 5 h1) N9)) [0, 1, 2, 3, 4] rfl
            have hDc := hD.sub (ws' := (baW cB cI cJ cZ h0 (va_up a0 5 h1) N9)) [0, 1, 2, 3, 4] (by decide) rfl
            have hFc := va_free (wc := (baW cB cI cJ cZ h0 (va_up a0 5 h1) N9)) hD hS hA [0, 1, 2, 3, 4] rfl
            refine va_calll (va_runV (As := [.int x7]) (rest := [.long r8, .long y6]) ⟨hx, hb, hml, hown, hts⟩ (kX0_purses l dC dI cB cI cJ cZ h0 (va_up a0 5 h1) H.size x7 N9 _ h) (cwV 1 hts gX0_winners_X0_purses rfl rfl rfl (by decide +kernel) ⟨Nat.le_of_ble_eq_true rfl, Nat.le_of_ble_eq_true rfl⟩) (bapV hK hPc hDc) rfl rfl hl.1 rfl (lv_room (Nat.le_of_ble_eq_true rfl)) dX0_winners_74 ⟨Nat.le_of_ble_eq_true rfl, Nat.le_of_ble_eq_true rfl⟩) hS (fun q _ z => hFc q z) hFc (fun r10 u t H1 locs ht hvm hw hB hz1 hk1 hS => ?_)
            obtain ⟨N11, rfl⟩ : ∃ z, z = u := ⟨_, rfl⟩
            obtain ⟨hP1, hK1, hD1⟩ := hB
            rw [ht] at hP1
            obtain ⟨hP, hD⟩ := va_join (wr := [(h1, .inr (1, [.int (mg N4 0), .ref (a1 1), .int (mg N4 2), .ref (a1 3), .int (mg N4 4), .ref (a1 5)])), (a1 1, .inl (cI, 4, .inl (ma N4 1))), (a1 3, .inl (cI, 4, .inl (ma N4 3))), (a1 5, .inl (cI, 2, .inl (ma N4 5)))]) (w1 := (baW cB cI cJ cZ h0 (va_up a0 5 h1) N11)) hP hD [0, 1, 2, 3, 4] [5, 6, 7, 8] rfl rfl (by decide) (by decide) hk1 hFc hP1 hD1
            have hP := hP.sub (ws' := (boW cB cI cJ cZ h0 a0 (some h1) h1 a1 N11 N4)) [4, 5, 6, 7, 8, 0, 1, 2, 3] rfl
            have hD := hD.sub (ws' := (boW cB cI cJ cZ h0 a0 (some h1) h1 a1 N11 N4)) [4, 5, 6, 7, 8, 0, 1, 2, 3] (by decide) rfl
            generalize H1 = H at hP hS ⊢
            have h := hw
            try dsimp only at h
            refine lv_land hx hb dX0_winners_77 ?_
            refine lv_aload_n hx hb dX0_winners_78 rfl (lv_at hl 1 rfl) ?_
            refine lv_iload hx hb dX0_winners_79 (lv_at hl 0 rfl) ?_
            refine lv_iconst (v := 1) hx hb dX0_winners_81 (by decide) ?_
            refine lv_isub hx hb dX0_winners_82 ?_
            have hPc := hP.sub (ws' := (baW cB cI cJ cZ h0 (va_up a0 5 h1) N11)) [0, 1, 2, 3, 4] rfl
            have hDc := hD.sub (ws' := (baW cB cI cJ cZ h0 (va_up a0 5 h1) N11)) [0, 1, 2, 3, 4] (by decide) rfl
            have hFc := va_free (wc := (baW cB cI cJ cZ h0 (va_up a0 5 h1) N11)) hD hS hA [0, 1, 2, 3, 4] rfl
            refine va_calll (va_runV (As := [.int (x7 - (1 : Int32))]) (rest := [.long (r8 &&& r10), .long y6]) ⟨hx, hb, hml, hown, hts⟩ (kX0_purses l dC dI cB cI cJ cZ h0 (va_up a0 5 h1) H.size (x7 - (1 : Int32)) N11 _ h) (cwV 1 hts gX0_winners_X0_purses rfl rfl rfl (by decide +kernel) ⟨Nat.le_of_ble_eq_true rfl, Nat.le_of_ble_eq_true rfl⟩) (bapV hK hPc hDc) rfl rfl hl.1 rfl (lv_room (Nat.le_of_ble_eq_true rfl)) dX0_winners_83 ⟨Nat.le_of_ble_eq_true rfl, Nat.le_of_ble_eq_true rfl⟩) hS (fun q _ z => hFc q z) hFc (fun r12 u t H1 locs ht hvm hw hB hz1 hk1 hS => ?_)
            obtain ⟨N13, rfl⟩ : ∃ z, z = u := ⟨_, rfl⟩
            obtain ⟨hP1, hK1, hD1⟩ := hB
            rw [ht] at hP1
            obtain ⟨hP, hD⟩ := va_join (wr := [(h1, .inr (1, [.int (mg N4 0), .ref (a1 1), .int (mg N4 2), .ref (a1 3), .int (mg N4 4), .ref (a1 5)])), (a1 1, .inl (cI, 4, .inl (ma N4 1))), (a1 3, .inl (cI, 4, .inl (ma N4 3))), (a1 5, .inl (cI, 2, .inl (ma N4 5)))]) (w1 := (baW cB cI cJ cZ h0 (va_up a0 5 h1) N13)) hP hD [0, 1, 2, 3, 4] [5, 6, 7, 8] rfl rfl (by decide) (by decide) hk1 hFc hP1 hD1
            have hP := hP.sub (ws' := (boW cB cI cJ cZ h0 a0 (some h1) h1 a1 N13 N4)) [4, 5, 6, 7, 8, 0, 1, 2, 3] rfl
            have hD := hD.sub (ws' := (boW cB cI cJ cZ h0 a0 (some h1) h1 a1 N13 N4)) [4, 5, 6, 7, 8, 0, 1, 2, 3] (by decide) rfl
            generalize H1 = H at hP hS ⊢
            have h := hw
            try dsimp only at h
            refine lv_ldc2 (v := (-1)) hx hb hown f2 dX0_winners_86 ?_
            refine lv_lxor hx hb dX0_winners_89 ?_
            refine lv_land hx hb dX0_winners_90 ?_
            refine lv_lor hx hb dX0_winners_91 ?_
            refine lv_topl (fun x14 ex14 => ?_)
            have h := h x14 ex14
            refine lv_lstore (lv' := [(6, .long x14), (9, .int x7), (0, .ref h0), (3, .int y3), (5, .int y5), (8, .int y8)]) hx hb dX0_winners_92 hl (by decide) rfl (fun ls hl => ?_)
            exact b94 _ hB14 y3 y5 x14 y8 N13 N4 H locs ls hP hD hS (lv_sub hl [2, 3, 4, 0, 5] rfl) h
  have bE : ∀ (M0 : gS) (M1 : gS) (H : Heap) (locs : List Loc) (ls : Array Slot), va_P (dC, dI) vwCl (boW cB cI cJ cZ h0 a0 o0 h1 a1 M0 M1) H → va_D A (boW cB cI cJ cZ h0 a0 o0 h1 a1 M0 M1) → va_S A s.heap H locs → lv_has ls 10 [(0, .ref h0), (1, .ref h1), (2, .int p2), (3, .int p3), (4, .int p4), (5, .int p5)] → wX0_winners p2 p3 p4 p5 M0 M1 Q → W p l e (headSpec wsX0_winners rmX0_winners).room s m ([.ref h0, .ref h1, .int p2, .int p3, .int p4, .int p5] : List Value).toArray below meth c H locs 0 0 (MQ below (va_Ql (fun (r : Int64) (u : gS × gS) => Q r u.1 u.2) (boB dC dI cB cI cJ cZ h0 a0 (some h1) h1 a1 A) A) ([.ref h0, .ref h1, .int p2, .int p3, .int p4, .int p5] : List Value).toArray s 0 0 A) (F0 m 0 ls []) := by
    intro M0 M1 H locs ls hP hD hS hl h
    unfold wX0_winners at h
    refine lv_aload_n hx hb dX0_winners_0 rfl (lv_at hl 0 rfl) ?_
    refine lv_aload_n hx hb dX0_winners_1 rfl (lv_at hl 1 rfl) ?_
    refine lv_iload_n hx hb dX0_winners_2 rfl (lv_at hl 2 rfl) ?_
    refine lv_iload hx hb dX0_winners_3 (lv_at hl 4 rfl) ?_
    have hFc := gs_free hD hS hA
    refine va_callv (va_runV (As := [.ref h1, .int p2, .int p4]) (rest := []) ⟨hx, hb, hml, hown, hts⟩ (kX0_prepare l dC dI cB cI cJ cZ h0 a0 o0 h1 a1 H.size p2 p4 M0 M1 _ h) (cwV 3 hts gX0_winners_X0_prepare rfl rfl rfl (by decide +kernel) ⟨Nat.le_of_ble_eq_true rfl, Nat.le_of_ble_eq_true rfl⟩) (bopV hK hP hD) rfl rfl hl.1 rfl (lv_room (Nat.le_of_ble_eq_true rfl)) dX0_winners_5 ⟨Nat.le_of_ble_eq_true rfl, Nat.le_of_ble_eq_true rfl⟩) hS (fun q _ z => hFc q z) hFc (fun u t H1 locs ht hvm hw hB hz1 hk1 hS => ?_)
    obtain ⟨N2, N3⟩ := u
    obtain ⟨hP, hD⟩ := gs_back ht hFc hB
    generalize H1 = H at hP hS ⊢
    have h := hw
    try dsimp only at h
    refine lv_lconst (v := 0) hx hb dX0_winners_8 (by decide) ?_
    refine lv_lstore (lv' := [(6, .long (0 : Int64)), (0, .ref h0), (1, .ref h1), (2, .int p2), (3, .int p3), (4, .int p4), (5, .int p5)]) hx hb dX0_winners_9 hl (by decide) rfl (fun ls hl => ?_)
    refine lv_iconst (v := 0) hx hb dX0_winners_11 (by decide) ?_
    refine lv_istore (lv' := [(8, .int (0 : Int32)), (6, .long (0 : Int64)), (0, .ref h0), (1, .ref h1), (2, .int p2), (3, .int p3), (4, .int p4), (5, .int p5)]) hx hb dX0_winners_12 hl (by decide) rfl (fun ls hl => ?_)
    obtain ⟨n9, h⟩ := h
    exact b14  n9 p3 p5 (0 : Int64) (0 : Int32) N2 N3 H locs ls hP hD hS (lv_sub hl [2, 5, 7, 1, 0] rfl) h
  have hl := lv_entry ([.ref h0, .ref h1, .int p2, .int p3, .int p4, .int p5]) (n := 10) (Nat.le_of_ble_eq_true rfl)
  rw [lg_entry_eq]
  generalize (lg_sl ([.ref h0, .ref h1, .int p2, .int p3, .int p4, .int p5]) ++ List.replicate (10 - (lg_sl ([.ref h0, .ref h1, .int p2, .int p3, .int p4, .int p5])).length) Slot.unset).toArray = ls at hl ⊢
  have hl : lv_has ls 10 [(0, .ref h0), (1, .ref h1), (2, .int p2), (3, .int p3), (4, .int p4), (5, .int p5)] := hl
  exact bE M0 M1 s.heap [] ls hP hD hS hl h
def wX0_firstMove_142 (B65 : Int32 → Int32 → Int32 → Int32 → gS → gS → gS → Prop) (Q : Int32 → gS → gS → gS → Prop) (y3 : Int32) (y4 : Int32) (y5 : Int32) (y6 : Int32) (M0 : gS) (M1 : gS) (M2 : gS) : Prop :=
 (∀ x1 : Int32, x1 = y6 + (1 : Int32) → (B65 y3 y4 y5 x1 M0 M1 M2))
def wX0_firstMove_65  (Q : Int32 → gS → gS → gS → Prop) : Nat → Int32 → Int32 → Int32 → Int32 → gS → gS → gS → Prop
 | 0, _, _, _, _, _, _, _ => False
 | n + 1, y3, y4, y5, y6, M0, M1, M2 => (((mg M1 2) ≤ y6 → (wX6_mayThrow  M2 (fun (b4 : Bool) (N3 : gS) => (((bI b4) = 0 → (Q (-1 : Int32) M0 M1 N3))
 ∧ (¬ (bI b4) = 0 → (wX0_winnersOf y5 M0 (fun (r6 : Int64) (N7 : gS) => (wX0_holds r6 (y3 - (1 : Int32)) y4  (fun (b9 : Bool)  => (((bI b9) = 0 → (Q (-1 : Int32) N7 M1 N3))
 ∧ (¬ (bI b9) = 0 → (Q (4 : Int32) N7 M1 N3))))))))))))
 ∧ (¬ (mg M1 2) ≤ y6 → (wX6_maySay y6 M2 M1 (fun (b14 : Bool) (N12 : gS) (N13 : gS) => (((bI b14) = 0 → (wX0_firstMove_142 (fun (y3 : Int32) (y4 : Int32) (y5 : Int32) (y6 : Int32) (M0 : gS) (M1 : gS) (M2 : gS) => wX0_firstMove_65  Q n y3 y4 y5 y6 M0 M1 M2) Q y3 y4 y5 y6 M0 N13 N12))
 ∧ (¬ (bI b14) = 0 → (wX1_cost y6 ((mg M0 7) - (1 : Int32)) N13 (fun (r16 : Int32) (N17 : gS) => (wX0_kindOf y6 M0 (fun (r18 : Int32) (N19 : gS) => (wX0_placeOf (y5 - r16) (mg M0 8) r18  (fun (r20 : Int32)  => (vp_in r20 800 ∧ (wX0_holds (ml N19 1 (Int32.toNatClampNeg r20)) y3 y4  (fun (b22 : Bool)  => (((bI b22) = 0 → (wX0_firstMove_142 (fun (y3 : Int32) (y4 : Int32) (y5 : Int32) (y6 : Int32) (M0 : gS) (M1 : gS) (M2 : gS) => wX0_firstMove_65  Q n y3 y4 y5 y6 M0 M1 M2) Q y3 y4 y5 y6 N19 N17 N12))
 ∧ (¬ (bI b22) = 0 → (Q y6 N19 N17 N12))))))))))))))))))
def wX0_firstMove_43  (Q : Int32 → gS → gS → gS → Prop) : Nat → Int32 → Int32 → Int32 → Int32 → gS → gS → gS → Prop
 | 0, _, _, _, _, _, _, _ => False
 | n + 1, y3, y4, y5, y6, M0, M1, M2 => ((y5 < y6 → (∃ k65 : Nat, wX0_firstMove_65  Q k65 y3 y4 y5 (0 : Int32) M0 M1 M2))
 ∧ (¬ y5 < y6 → (wX0_fillSum y6 M0 M1 (fun (N3 : gS) (N4 : gS) => (∀ x5 : Int32, x5 = y6 + (1 : Int32) → (wX0_firstMove_43  Q n y3 y4 y5 x5 N3 N4 M2))))))
def wX0_firstMove  (M0 : gS) (M1 : gS) (M2 : gS) (Q : Int32 → gS → gS → gS → Prop) : Prop :=
 (wX6_lasts  M2 (fun (r1 : Int32) (N2 : gS) => (wX0_prepare (mg M2 1) r1 M0 M1 (fun (N4 : gS) (N5 : gS) => (wX6_myPurse  N2 (fun (r6 : Int32) (N7 : gS) => (wX6_theirPurse  N7 (fun (r8 : Int32) (N9 : gS) => (∀ x10 : Int32, x10 = ((mg N9 2) + ((mg N4 6) * (r6 + r8))) → (∃ k43 : Nat, wX0_firstMove_43  Q k43 r6 r8 x10 (0 : Int32) N4 N5 N9))))))))))
def rmX0_firstMove : Room := { frames := 3, cells := 0, slots := 0, locals := 73 }
set_option maxHeartbeats 4000000 in
set_option maxRecDepth 100000 in
theorem kX0_firstMove (l : Launch) (dC : Nat → ClassId) (dI : Nat → Nat → Nat) (cB cI cJ cZ : ClassId) (h0 : Nat) (a0 : Nat → Nat) (o0 : Option Nat) (h1 : Nat) (a1 : Nat → Nat) (h2 : Nat) (a2 : Nat → Nat) (sz : Nat)  (M0 : gS) (M1 : gS) (M2 : gS) (Q : Int32 → gS → gS → gS → Prop) (h : wX0_firstMove  M0 M1 M2 Q) : Met l yX0_firstMove wsX0_firstMove rmX0_firstMove (va_Pc [.ref h0, .ref h1, .ref h2] (bqI dC dI cB cI cJ cZ h0 a0 o0 h1 a1 h2 a2 M0 M1 M2 sz)) (va_Qi (fun (r : Int32) (u : gS × gS × gS) => Q r u.1 u.2.1 u.2.2) (bqB dC dI cB cI cJ cZ h0 a0 (some h1) h1 a1 h2 a2 (va_A (bqW cB cI cJ cZ h0 a0 o0 h1 a1 h2 a2 M0 M1 M2) sz)) (va_A (bqW cB cI cJ cZ h0 a0 o0 h1 a1 h2 a2 M0 M1 M2) sz)) 0 0 (va_A (bqW cB cI cJ cZ h0 a0 o0 h1 a1 h2 a2 M0 M1 M2) sz) := by
  refine Met.ofW (cc := cX0_firstMove) (maxL := 8) (ret := (some .int)) (by decide) rfl ?_
  intro p e s m args below meth c s₁ B hml hv
  obtain ⟨rfl, hsz, hP, hK, hD0⟩ := hv
  have hx := B.exec
  have hb := B.bytes
  have hr := B.returns
  have hts := atoms_spec (ws := wsX0_firstMove) B.pre
  have hown : s.vm.findClass RX0 = some m.cls := findClass_of_methodNamed B.named
  have hlocks := B.notSynchronized
  subst hsz
  have hD := hD0.self (sz := s.heap.size)
  generalize hAe : va_A (bqW cB cI cJ cZ h0 a0 o0 h1 a1 h2 a2 M0 M1 M2) s.heap.size = A at hD ⊢
  have hA : ∀ q : Nat, s.heap.size ≤ q → A q := fun q h => by rw [← hAe]; exact Or.inr h
  have hS : va_S A s.heap s.heap [] := va_S.rf
  have hinX0 : ∀ w ∈ wsX00, w ∈ wsX0_firstMove := by decide +kernel
  have hinX1 : ∀ w ∈ wsX10, w ∈ wsX0_firstMove := by decide +kernel
  have hinX6 : ∀ w ∈ wsX60, w ∈ wsX0_firstMove := by decide +kernel
  have f1 := hts (.fieldLink RX0 62 "LastWords$BestPlay" "corner" "LLastWords$Corner;") (by decide +kernel)
  have f2 := hts (.fieldLink RX0 66 "LastWords$Corner" "words" "I") (by decide +kernel)
  have f3 := hts (.fieldLink RX0 75 "LastWords$BestPlay" "mineLast" "I") (by decide +kernel)
  have f4 := hts (.fieldLink RX0 82 "LastWords$BestPlay" "theirLast" "I") (by decide +kernel)
  have f5 := hts (.fieldLink RX0 15 "LastWords$BestPlay" "lost" "[J") (by decide +kernel)
  have f6 := hts (.fieldLink RX0 46 "LastWords$Quarrel" "verse" "I") (by decide +kernel)
  have f7 := hts (.fieldLink RX0 59 "LastWords$Quarrel" "left" "I") (by decide +kernel)
  have f8 := hts (.fieldLink RX0 29 "LastWords$BestPlay" "verse" "I") (by decide +kernel)
  have b142 : ∀ (B65 : Int32 → Int32 → Int32 → Int32 → gS → gS → gS → Prop) (hB65 : ∀ (y3 : Int32) (y4 : Int32) (y5 : Int32) (y6 : Int32) (M0 : gS) (M1 : gS) (M2 : gS) (H : Heap) (locs : List Loc) (ls : Array Slot), va_P (dC, dI) vwCl (bqW cB cI cJ cZ h0 a0 (some h1) h1 a1 h2 a2 M0 M1 M2) H → va_D A (bqW cB cI cJ cZ h0 a0 (some h1) h1 a1 h2 a2 M0 M1 M2) → va_S A s.heap H locs → lv_has ls 8 [(0, .ref h0), (2, .ref h2), (3, .int y3), (4, .int y4), (5, .int y5), (6, .int y6)] → B65 y3 y4 y5 y6 M0 M1 M2 → W p l e (headSpec wsX0_firstMove rmX0_firstMove).room s m ([.ref h0, .ref h1, .ref h2] : List Value).toArray below meth c H locs 0 0 (MQ below (va_Qi (fun (r : Int32) (u : gS × gS × gS) => Q r u.1 u.2.1 u.2.2) (bqB dC dI cB cI cJ cZ h0 a0 (some h1) h1 a1 h2 a2 A) A) ([.ref h0, .ref h1, .ref h2] : List Value).toArray s 0 0 A) (F0 m 65 ls [])) (y3 : Int32) (y4 : Int32) (y5 : Int32) (y6 : Int32) (M0 : gS) (M1 : gS) (M2 : gS) (H : Heap) (locs : List Loc) (ls : Array Slot), va_P (dC, dI) vwCl (bqW cB cI cJ cZ h0 a0 (some h1) h1 a1 h2 a2 M0 M1 M2) H → va_D A (bqW cB cI cJ cZ h0 a0 (some h1) h1 a1 h2 a2 M0 M1 M2) → va_S A s.heap H locs → lv_has ls 8 [(0, .ref h0), (2, .ref h2), (3, .int y3), (4, .int y4), (5, .int y5), (6, .int y6)] → wX0_firstMove_142 B65 Q y3 y4 y5 y6 M0 M1 M2 → W p l e (headSpec wsX0_firstMove rmX0_firstMove).room s m ([.ref h0, .ref h1, .ref h2] : List Value).toArray below meth c H locs 0 0 (MQ below (va_Qi (fun (r : Int32) (u : gS × gS × gS) => Q r u.1 u.2.1 u.2.2) (bqB dC dI cB cI cJ cZ h0 a0 (some h1) h1 a1 h2 a2 A) A) ([.ref h0, .ref h1, .ref h2] : List Value).toArray s 0 0 A) (F0 m 142 ls []) := by
    intro B65 hB65 y3 y4 y5 y6 M0 M1 M2 H locs ls hP hD hS hl h
    unfold wX0_firstMove_142 at h
    obtain ⟨x1, ex1⟩ : ∃ y : Int32, y = y6 + (1 : Int32) := ⟨_, rfl⟩
    have h := h x1 ex1
    refine lv_iinc (v := x1) (lv' := [(6, .int x1), (0, .ref h0), (2, .ref h2), (3, .int y3), (4, .int y4), (5, .int y5)]) hx hb dX0_firstMove_142 hl (k := 5) rfl (by rw [ex1]; rfl) (by decide) rfl (fun ls hl => ?_)
    refine lv_goto (tgt := 65) hx hb dX0_firstMove_145 (by decide) ?_
    exact hB65 y3 y4 y5 x1 M0 M1 M2 H locs ls hP hD hS (lv_sub hl [1, 2, 3, 4, 5, 0] rfl) h
  have b65 : ∀ (n : Nat) (y3 : Int32) (y4 : Int32) (y5 : Int32) (y6 : Int32) (M0 : gS) (M1 : gS) (M2 : gS) (H : Heap) (locs : List Loc) (ls : Array Slot), va_P (dC, dI) vwCl (bqW cB cI cJ cZ h0 a0 (some h1) h1 a1 h2 a2 M0 M1 M2) H → va_D A (bqW cB cI cJ cZ h0 a0 (some h1) h1 a1 h2 a2 M0 M1 M2) → va_S A s.heap H locs → lv_has ls 8 [(0, .ref h0), (2, .ref h2), (3, .int y3), (4, .int y4), (5, .int y5), (6, .int y6)] → wX0_firstMove_65  Q n y3 y4 y5 y6 M0 M1 M2 → W p l e (headSpec wsX0_firstMove rmX0_firstMove).room s m ([.ref h0, .ref h1, .ref h2] : List Value).toArray below meth c H locs 0 0 (MQ below (va_Qi (fun (r : Int32) (u : gS × gS × gS) => Q r u.1 u.2.1 u.2.2) (bqB dC dI cB cI cJ cZ h0 a0 (some h1) h1 a1 h2 a2 A) A) ([.ref h0, .ref h1, .ref h2] : List Value).toArray s 0 0 A) (F0 m 65 ls []) := by
    intro  n
    induction n with
    | zero => intro y3 y4 y5 y6 M0 M1 M2 H locs ls hP hD hS hl h; exact absurd h (by simp [wX0_firstMove_65])
    | succ n hB650 =>
      intro y3 y4 y5 y6 M0 M1 M2 H locs ls hP hD hS hl h
      have hB65 := hB650
      rw [wX0_firstMove_65] at h
      refine lv_iload hx hb dX0_firstMove_65 (lv_at hl 5 rfl) ?_
      refine lv_aload_n hx hb dX0_firstMove_67 rfl (lv_at hl 0 rfl) ?_
      refine va_get (D := (dC, dI)) (ci := 0) (v := .ref h1) (C := RX0) (T := TX0) (N := 11) hx hb hts hinX0 hown hK hP 0 rfl rfl 5 (by decide) f1 (fun _ h9 => h9) rfl dX0_firstMove_68 ?_
      refine va_get (D := (dC, dI)) (ci := 1) (v := .int (mg M1 2)) (C := RX1) (T := TX1) (N := 6) hx hb hts hinX1 hown hK hP 5 rfl rfl 2 (by decide) f2 (fun _ h9 => h9) rfl dX0_firstMove_71 ?_
      refine lv_icmp_ge (tgt := 148) hx hb dX0_firstMove_74 (by decide) (fun c1 => ?_) (fun c1 => ?_)
      · have h := h.1 c1
        refine lv_aload_n hx hb dX0_firstMove_148 rfl (lv_at hl 1 rfl) ?_
        have hPc := hP.sub (ws' := (qrW cB cI cJ cZ h2 a2 M2)) [9, 10, 11, 12] rfl
        have hDc := hD.sub (ws' := (qrW cB cI cJ cZ h2 a2 M2)) [9, 10, 11, 12] (by decide) rfl
        have hFc := va_free (wc := (qrW cB cI cJ cZ h2 a2 M2)) hD hS hA [9, 10, 11, 12] rfl
        refine va_calli (va_runV (As := []) (rest := []) ⟨hx, hb, hml, hown, hts⟩ (kX6_mayThrow l dC dI cB cI cJ cZ h2 a2 H.size  M2 _ h) (cwV 0 hts gX0_firstMove_X6_mayThrow rfl rfl rfl (by decide +kernel) ⟨Nat.le_of_ble_eq_true rfl, Nat.le_of_ble_eq_true rfl⟩) (qrpV hK hPc hDc) rfl rfl hl.1 rfl (lv_room (Nat.le_of_ble_eq_true rfl)) dX0_firstMove_149 ⟨Nat.le_of_ble_eq_true rfl, Nat.le_of_ble_eq_true rfl⟩) hS (fun q _ z => hFc q z) hFc (fun r2 u t H1 locs ht hvm hw hB hz1 hk1 hS => ?_)
        obtain ⟨N3, rfl⟩ : ∃ z, z = u := ⟨_, rfl⟩
        obtain ⟨hP1, hK1, hD1⟩ := hB
        rw [ht] at hP1
        obtain ⟨hP, hD⟩ := va_join (wr := [(h0, .inr (0, [.ref (a0 0), .ref (a0 1), .ref (a0 2), .ref (a0 3), .int (mg M0 4), va_rf (some h1), .int (mg M0 6), .int (mg M0 7), .int (mg M0 8), .int (mg M0 9), .int (mg M0 10)])), (a0 0, .inl (cJ, 15, .inr (.inl (ml M0 0)))), (a0 1, .inl (cJ, 800, .inr (.inl (ml M0 1)))), (a0 2, .inl (cI, 4, .inl (ma M0 2))), (a0 3, .inl (cJ, 4, .inr (.inl (ml M0 3)))), (h1, .inr (1, [.int (mg M1 0), .ref (a1 1), .int (mg M1 2), .ref (a1 3), .int (mg M1 4), .ref (a1 5)])), (a1 1, .inl (cI, 4, .inl (ma M1 1))), (a1 3, .inl (cI, 4, .inl (ma M1 3))), (a1 5, .inl (cI, 2, .inl (ma M1 5)))]) (w1 := (qrW cB cI cJ cZ h2 a2 N3)) hP hD [9, 10, 11, 12] [0, 1, 2, 3, 4, 5, 6, 7, 8] rfl rfl (by decide) (by decide) hk1 hFc hP1 hD1
        have hP := hP.sub (ws' := (bqW cB cI cJ cZ h0 a0 (some h1) h1 a1 h2 a2 M0 M1 N3)) [0, 1, 2, 3, 4, 5, 6, 7, 8, 9, 10, 11, 12] rfl
        have hD := hD.sub (ws' := (bqW cB cI cJ cZ h0 a0 (some h1) h1 a1 h2 a2 M0 M1 N3)) [0, 1, 2, 3, 4, 5, 6, 7, 8, 9, 10, 11, 12] (by decide) rfl
        generalize H1 = H at hP hS ⊢
        obtain ⟨b4, rfl, h⟩ := hw
        try dsimp only at h
        refine lv_if_eq (tgt := 176) hx hb dX0_firstMove_152 (by decide) (fun c5 => ?_) (fun c5 => ?_)
        · have h := h.1 c5
          refine lv_iconst (v := (-1)) hx hb dX0_firstMove_176 (by decide) ?_
          exact W.iret (v := (-1 : Int32)) hx hb hr (fun t ht hW => ⟨⟨_, (M0, M1, N3), rfl, h, by rw [ht]; exact hP, va_K.moved hW.alike hK, hD⟩, hS.F ht⟩) hS.2.2 dX0_firstMove_177
        · have h := h.2 c5
          refine lv_aload_n hx hb dX0_firstMove_155 rfl (lv_at hl 0 rfl) ?_
          refine lv_iload hx hb dX0_firstMove_156 (lv_at hl 4 rfl) ?_
          have hPc := hP.sub (ws' := (baW cB cI cJ cZ h0 (va_up a0 5 h1) M0)) [0, 1, 2, 3, 4] rfl
          have hDc := hD.sub (ws' := (baW cB cI cJ cZ h0 (va_up a0 5 h1) M0)) [0, 1, 2, 3, 4] (by decide) rfl
          have hFc := va_free (wc := (baW cB cI cJ cZ h0 (va_up a0 5 h1) M0)) hD hS hA [0, 1, 2, 3, 4] rfl
          refine va_calll (va_runV (As := [.int y5]) (rest := []) ⟨hx, hb, hml, hown, hts⟩ (kX0_winnersOf l dC dI cB cI cJ cZ h0 (va_up a0 5 h1) H.size y5 M0 _ h) (cwV 1 hts gX0_firstMove_X0_winnersOf rfl rfl rfl (by decide +kernel) ⟨Nat.le_of_ble_eq_true rfl, Nat.le_of_ble_eq_true rfl⟩) (bapV hK hPc hDc) rfl rfl hl.1 rfl (lv_room (Nat.le_of_ble_eq_true rfl)) dX0_firstMove_158 ⟨Nat.le_of_ble_eq_true rfl, Nat.le_of_ble_eq_true rfl⟩) hS (fun q _ z => hFc q z) hFc (fun r6 u t H1 locs ht hvm hw hB hz1 hk1 hS => ?_)
          obtain ⟨N7, rfl⟩ : ∃ z, z = u := ⟨_, rfl⟩
          obtain ⟨hP1, hK1, hD1⟩ := hB
          rw [ht] at hP1
          obtain ⟨hP, hD⟩ := va_join (wr := [(h1, .inr (1, [.int (mg M1 0), .ref (a1 1), .int (mg M1 2), .ref (a1 3), .int (mg M1 4), .ref (a1 5)])), (a1 1, .inl (cI, 4, .inl (ma M1 1))), (a1 3, .inl (cI, 4, .inl (ma M1 3))), (a1 5, .inl (cI, 2, .inl (ma M1 5))), (h2, .inr (6, [.int (mg N3 0), .int (mg N3 1), .int (mg N3 2), .int (mg N3 3), .int (mg N3 4), .int (mg N3 5), .int (mg N3 6), .ref (a2 7), .ref (a2 8), .ref (a2 9)])), (a2 7, .inl (cI, 2, .inl (ma N3 7))), (a2 8, .inl (cI, 2, .inl (ma N3 8))), (a2 9, .inl (cI, 2, .inl (ma N3 9)))]) (w1 := (baW cB cI cJ cZ h0 (va_up a0 5 h1) N7)) hP hD [0, 1, 2, 3, 4] [5, 6, 7, 8, 9, 10, 11, 12] rfl rfl (by decide) (by decide) hk1 hFc hP1 hD1
          have hP := hP.sub (ws' := (bqW cB cI cJ cZ h0 a0 (some h1) h1 a1 h2 a2 N7 M1 N3)) [8, 9, 10, 11, 12, 0, 1, 2, 3, 4, 5, 6, 7] rfl
          have hD := hD.sub (ws' := (bqW cB cI cJ cZ h0 a0 (some h1) h1 a1 h2 a2 N7 M1 N3)) [8, 9, 10, 11, 12, 0, 1, 2, 3, 4, 5, 6, 7] (by decide) rfl
          generalize H1 = H at hP hS ⊢
          have h := hw
          try dsimp only at h
          refine lv_iload_n hx hb dX0_firstMove_161 rfl (lv_at hl 2 rfl) ?_
          refine lv_iconst (v := 1) hx hb dX0_firstMove_162 (by decide) ?_
          refine lv_isub hx hb dX0_firstMove_163 ?_
          refine lv_iload hx hb dX0_firstMove_164 (lv_at hl 3 rfl) ?_
          have hPc := hP.sub (ws' := (e0W cB cI cJ cZ  )) [] rfl
          have hDc := hD.sub (ws' := (e0W cB cI cJ cZ  )) [] (by decide) rfl
          have hFc := va_free (wc := (e0W cB cI cJ cZ  )) hD hS hA [] rfl
          refine va_calli (va_runS (As := [.long r6, .int (y3 - (1 : Int32)), .int y4]) (rest := []) ⟨hx, hb, hml, hown, hts⟩ (kX0_holds l dC dI cB cI cJ cZ  H.size r6 (y3 - (1 : Int32)) y4  _ h) (cwS 3 hts gX0_firstMove_X0_holds rfl rfl rfl (by decide +kernel) ⟨Nat.le_of_ble_eq_true rfl, Nat.le_of_ble_eq_true rfl⟩) (e0pS hK hPc hDc) rfl rfl hl.1 rfl (lv_room (Nat.le_of_ble_eq_true rfl)) dX0_firstMove_166 ⟨Nat.le_of_ble_eq_true rfl, Nat.le_of_ble_eq_true rfl⟩) hS (fun q _ z => hFc q z) hFc (fun r8 u t H1 locs ht hvm hw hB hz1 hk1 hS => ?_)
          obtain ⟨hP1, hK1, hD1⟩ := hB
          rw [ht] at hP1
          obtain ⟨hP, hD⟩ := va_join (wr := [(h0, .inr (0, [.ref (a0 0), .ref (a0 1), .ref (a0 2), .ref (a0 3), .int (mg N7 4), va_rf (some h1), .int (mg N7 6), .int (mg N7 7), .int (mg N7 8), .int (mg N7 9), .int (mg N7 10)])), (a0 0, .inl (cJ, 15, .inr (.inl (ml N7 0)))), (a0 1, .inl (cJ, 800, .inr (.inl (ml N7 1)))), (a0 2, .inl (cI, 4, .inl (ma N7 2))), (a0 3, .inl (cJ, 4, .inr (.inl (ml N7 3)))), (h1, .inr (1, [.int (mg M1 0), .ref (a1 1), .int (mg M1 2), .ref (a1 3), .int (mg M1 4), .ref (a1 5)])), (a1 1, .inl (cI, 4, .inl (ma M1 1))), (a1 3, .inl (cI, 4, .inl (ma M1 3))), (a1 5, .inl (cI, 2, .inl (ma M1 5))), (h2, .inr (6, [.int (mg N3 0), .int (mg N3 1), .int (mg N3 2), .int (mg N3 3), .int (mg N3 4), .int (mg N3 5), .int (mg N3 6), .ref (a2 7), .ref (a2 8), .ref (a2 9)])), (a2 7, .inl (cI, 2, .inl (ma N3 7))), (a2 8, .inl (cI, 2, .inl (ma N3 8))), (a2 9, .inl (cI, 2, .inl (ma N3 9)))]) (w1 := (e0W cB cI cJ cZ  )) hP hD [] [0, 1, 2, 3, 4, 5, 6, 7, 8, 9, 10, 11, 12] rfl rfl (by decide) (by decide) hk1 hFc hP1 hD1
          have hP := hP.sub (ws' := (bqW cB cI cJ cZ h0 a0 (some h1) h1 a1 h2 a2 N7 M1 N3)) [0, 1, 2, 3, 4, 5, 6, 7, 8, 9, 10, 11, 12] rfl
          have hD := hD.sub (ws' := (bqW cB cI cJ cZ h0 a0 (some h1) h1 a1 h2 a2 N7 M1 N3)) [0, 1, 2, 3, 4, 5, 6, 7, 8, 9, 10, 11, 12] (by decide) rfl
          generalize H1 = H at hP hS ⊢
          obtain ⟨b9, rfl, h⟩ := hw
          try dsimp only at h
          refine lv_if_eq (tgt := 176) hx hb dX0_firstMove_169 (by decide) (fun c10 => ?_) (fun c10 => ?_)
          · have h := h.1 c10
            refine lv_iconst (v := (-1)) hx hb dX0_firstMove_176 (by decide) ?_
            exact W.iret (v := (-1 : Int32)) hx hb hr (fun t ht hW => ⟨⟨_, (N7, M1, N3), rfl, h, by rw [ht]; exact hP, va_K.moved hW.alike hK, hD⟩, hS.F ht⟩) hS.2.2 dX0_firstMove_177
          · have h := h.2 c10
            refine lv_iconst (v := 4) hx hb dX0_firstMove_172 (by decide) ?_
            refine lv_goto (tgt := 177) hx hb dX0_firstMove_173 (by decide) ?_
            exact W.iret (v := (4 : Int32)) hx hb hr (fun t ht hW => ⟨⟨_, (N7, M1, N3), rfl, h, by rw [ht]; exact hP, va_K.moved hW.alike hK, hD⟩, hS.F ht⟩) hS.2.2 dX0_firstMove_177
      · have h := h.2 c1
        refine lv_aload_n hx hb dX0_firstMove_77 rfl (lv_at hl 1 rfl) ?_
        refine lv_aload_n hx hb dX0_firstMove_78 rfl (lv_at hl 0 rfl) ?_
        refine va_get (D := (dC, dI)) (ci := 0) (v := .ref h1) (C := RX0) (T := TX0) (N := 11) hx hb hts hinX0 hown hK hP 0 rfl rfl 5 (by decide) f1 (fun _ h9 => h9) rfl dX0_firstMove_79 ?_
        refine lv_iload hx hb dX0_firstMove_82 (lv_at hl 5 rfl) ?_
        have hPc := hP.sub (ws' := (qcW cB cI cJ cZ h2 a2 h1 a1 M2 M1)) [9, 10, 11, 12, 5, 6, 7, 8] rfl
        have hDc := hD.sub (ws' := (qcW cB cI cJ cZ h2 a2 h1 a1 M2 M1)) [9, 10, 11, 12, 5, 6, 7, 8] (by decide) rfl
        have hFc := va_free (wc := (qcW cB cI cJ cZ h2 a2 h1 a1 M2 M1)) hD hS hA [9, 10, 11, 12, 5, 6, 7, 8] rfl
        refine va_calli (va_runV (As := [.ref h1, .int y6]) (rest := []) ⟨hx, hb, hml, hown, hts⟩ (kX6_maySay l dC dI cB cI cJ cZ h2 a2 h1 a1 H.size y6 M2 M1 _ h) (cwV 2 hts gX0_firstMove_X6_maySay rfl rfl rfl (by decide +kernel) ⟨Nat.le_of_ble_eq_true rfl, Nat.le_of_ble_eq_true rfl⟩) (qcpV hK hPc hDc) rfl rfl hl.1 rfl (lv_room (Nat.le_of_ble_eq_true rfl)) dX0_firstMove_84 ⟨Nat.le_of_ble_eq_true rfl, Nat.le_of_ble_eq_true rfl⟩) hS (fun q _ z => hFc q z) hFc (fun r11 u t H1 locs ht hvm hw hB hz1 hk1 hS => ?_)
        obtain ⟨N12, N13⟩ := u
        obtain ⟨hP1, hK1, hD1⟩ := hB
        rw [ht] at hP1
        obtain ⟨hP, hD⟩ := va_join (wr := [(h0, .inr (0, [.ref (a0 0), .ref (a0 1), .ref (a0 2), .ref (a0 3), .int (mg M0 4), va_rf (some h1), .int (mg M0 6), .int (mg M0 7), .int (mg M0 8), .int (mg M0 9), .int (mg M0 10)])), (a0 0, .inl (cJ, 15, .inr (.inl (ml M0 0)))), (a0 1, .inl (cJ, 800, .inr (.inl (ml M0 1)))), (a0 2, .inl (cI, 4, .inl (ma M0 2))), (a0 3, .inl (cJ, 4, .inr (.inl (ml M0 3))))]) (w1 := (qcW cB cI cJ cZ h2 a2 h1 a1 N12 N13)) hP hD [9, 10, 11, 12, 5, 6, 7, 8] [0, 1, 2, 3, 4] rfl rfl (by decide) (by decide) hk1 hFc hP1 hD1
        have hP := hP.sub (ws' := (bqW cB cI cJ cZ h0 a0 (some h1) h1 a1 h2 a2 M0 N13 N12)) [0, 1, 2, 3, 4, 9, 10, 11, 12, 5, 6, 7, 8] rfl
        have hD := hD.sub (ws' := (bqW cB cI cJ cZ h0 a0 (some h1) h1 a1 h2 a2 M0 N13 N12)) [0, 1, 2, 3, 4, 9, 10, 11, 12, 5, 6, 7, 8] (by decide) rfl
        generalize H1 = H at hP hS ⊢
        obtain ⟨b14, rfl, h⟩ := hw
        try dsimp only at h
        refine lv_if_eq (tgt := 142) hx hb dX0_firstMove_87 (by decide) (fun c15 => ?_) (fun c15 => ?_)
        · have h := h.1 c15
          exact b142 _ hB65 y3 y4 y5 y6 M0 N13 N12 H locs ls hP hD hS (lv_sub hl [0, 1, 2, 3, 4, 5] rfl) h
        · have h := h.2 c15
          refine lv_iload hx hb dX0_firstMove_90 (lv_at hl 4 rfl) ?_
          refine lv_aload_n hx hb dX0_firstMove_92 rfl (lv_at hl 0 rfl) ?_
          refine va_get (D := (dC, dI)) (ci := 0) (v := .ref h1) (C := RX0) (T := TX0) (N := 11) hx hb hts hinX0 hown hK hP 0 rfl rfl 5 (by decide) f1 (fun _ h9 => h9) rfl dX0_firstMove_93 ?_
          refine lv_iload hx hb dX0_firstMove_96 (lv_at hl 5 rfl) ?_
          refine lv_aload_n hx hb dX0_firstMove_98 rfl (lv_at hl 0 rfl) ?_
          refine va_get (D := (dC, dI)) (ci := 0) (v := .int (mg M0 7)) (C := RX0) (T := TX0) (N := 11) hx hb hts hinX0 hown hK hP 0 rfl rfl 7 (by decide) f3 (fun _ h9 => h9) rfl dX0_firstMove_99 ?_
          refine lv_iconst (v := 1) hx hb dX0_firstMove_102 (by decide) ?_
          refine lv_isub hx hb dX0_firstMove_103 ?_
          have hPc := hP.sub (ws' := (cnW cB cI cJ cZ h1 a1 N13)) [5, 6, 7, 8] rfl
          have hDc := hD.sub (ws' := (cnW cB cI cJ cZ h1 a1 N13)) [5, 6, 7, 8] (by decide) rfl
          have hFc := va_free (wc := (cnW cB cI cJ cZ h1 a1 N13)) hD hS hA [5, 6, 7, 8] rfl
          refine va_calli (va_runV (As := [.int y6, .int ((mg M0 7) - (1 : Int32))]) (rest := [.int y5]) ⟨hx, hb, hml, hown, hts⟩ (kX1_cost l dC dI cB cI cJ cZ h1 a1 H.size y6 ((mg M0 7) - (1 : Int32)) N13 _ h) (cwV 2 hts gX0_firstMove_X1_cost rfl rfl rfl (by decide +kernel) ⟨Nat.le_of_ble_eq_true rfl, Nat.le_of_ble_eq_true rfl⟩) (cnpV hK hPc hDc) rfl rfl hl.1 rfl (lv_room (Nat.le_of_ble_eq_true rfl)) dX0_firstMove_104 ⟨Nat.le_of_ble_eq_true rfl, Nat.le_of_ble_eq_true rfl⟩) hS (fun q _ z => hFc q z) hFc (fun r16 u t H1 locs ht hvm hw hB hz1 hk1 hS => ?_)
          obtain ⟨N17, rfl⟩ : ∃ z, z = u := ⟨_, rfl⟩
          obtain ⟨hP1, hK1, hD1⟩ := hB
          rw [ht] at hP1
          obtain ⟨hP, hD⟩ := va_join (wr := [(h0, .inr (0, [.ref (a0 0), .ref (a0 1), .ref (a0 2), .ref (a0 3), .int (mg M0 4), va_rf (some h1), .int (mg M0 6), .int (mg M0 7), .int (mg M0 8), .int (mg M0 9), .int (mg M0 10)])), (a0 0, .inl (cJ, 15, .inr (.inl (ml M0 0)))), (a0 1, .inl (cJ, 800, .inr (.inl (ml M0 1)))), (a0 2, .inl (cI, 4, .inl (ma M0 2))), (a0 3, .inl (cJ, 4, .inr (.inl (ml M0 3)))), (h2, .inr (6, [.int (mg N12 0), .int (mg N12 1), .int (mg N12 2), .int (mg N12 3), .int (mg N12 4), .int (mg N12 5), .int (mg N12 6), .ref (a2 7), .ref (a2 8), .ref (a2 9)])), (a2 7, .inl (cI, 2, .inl (ma N12 7))), (a2 8, .inl (cI, 2, .inl (ma N12 8))), (a2 9, .inl (cI, 2, .inl (ma N12 9)))]) (w1 := (cnW cB cI cJ cZ h1 a1 N17)) hP hD [5, 6, 7, 8] [0, 1, 2, 3, 4, 9, 10, 11, 12] rfl rfl (by decide) (by decide) hk1 hFc hP1 hD1
          have hP := hP.sub (ws' := (bqW cB cI cJ cZ h0 a0 (some h1) h1 a1 h2 a2 M0 N17 N12)) [0, 1, 2, 3, 4, 9, 10, 11, 12, 5, 6, 7, 8] rfl
          have hD := hD.sub (ws' := (bqW cB cI cJ cZ h0 a0 (some h1) h1 a1 h2 a2 M0 N17 N12)) [0, 1, 2, 3, 4, 9, 10, 11, 12, 5, 6, 7, 8] (by decide) rfl
          generalize H1 = H at hP hS ⊢
          have h := hw
          try dsimp only at h
          refine lv_isub hx hb dX0_firstMove_107 ?_
          refine lv_aload_n hx hb dX0_firstMove_108 rfl (lv_at hl 0 rfl) ?_
          refine va_get (D := (dC, dI)) (ci := 0) (v := .int (mg M0 8)) (C := RX0) (T := TX0) (N := 11) hx hb hts hinX0 hown hK hP 0 rfl rfl 8 (by decide) f4 (fun _ h9 => h9) rfl dX0_firstMove_109 ?_
          refine lv_aload_n hx hb dX0_firstMove_112 rfl (lv_at hl 0 rfl) ?_
          refine lv_iload hx hb dX0_firstMove_113 (lv_at hl 5 rfl) ?_
          have hPc := hP.sub (ws' := (baW cB cI cJ cZ h0 (va_up a0 5 h1) M0)) [0, 1, 2, 3, 4] rfl
          have hDc := hD.sub (ws' := (baW cB cI cJ cZ h0 (va_up a0 5 h1) M0)) [0, 1, 2, 3, 4] (by decide) rfl
          have hFc := va_free (wc := (baW cB cI cJ cZ h0 (va_up a0 5 h1) M0)) hD hS hA [0, 1, 2, 3, 4] rfl
          refine va_calli (va_runV (As := [.int y6]) (rest := [.int (mg M0 8), .int (y5 - r16)]) ⟨hx, hb, hml, hown, hts⟩ (kX0_kindOf l dC dI cB cI cJ cZ h0 (va_up a0 5 h1) H.size y6 M0 _ h) (cwV 1 hts gX0_firstMove_X0_kindOf rfl rfl rfl (by decide +kernel) ⟨Nat.le_of_ble_eq_true rfl, Nat.le_of_ble_eq_true rfl⟩) (bapV hK hPc hDc) rfl rfl hl.1 rfl (lv_room (Nat.le_of_ble_eq_true rfl)) dX0_firstMove_115 ⟨Nat.le_of_ble_eq_true rfl, Nat.le_of_ble_eq_true rfl⟩) hS (fun q _ z => hFc q z) hFc (fun r18 u t H1 locs ht hvm hw hB hz1 hk1 hS => ?_)
          obtain ⟨N19, rfl⟩ : ∃ z, z = u := ⟨_, rfl⟩
          obtain ⟨hP1, hK1, hD1⟩ := hB
          rw [ht] at hP1
          obtain ⟨hP, hD⟩ := va_join (wr := [(h1, .inr (1, [.int (mg N17 0), .ref (a1 1), .int (mg N17 2), .ref (a1 3), .int (mg N17 4), .ref (a1 5)])), (a1 1, .inl (cI, 4, .inl (ma N17 1))), (a1 3, .inl (cI, 4, .inl (ma N17 3))), (a1 5, .inl (cI, 2, .inl (ma N17 5))), (h2, .inr (6, [.int (mg N12 0), .int (mg N12 1), .int (mg N12 2), .int (mg N12 3), .int (mg N12 4), .int (mg N12 5), .int (mg N12 6), .ref (a2 7), .ref (a2 8), .ref (a2 9)])), (a2 7, .inl (cI, 2, .inl (ma N12 7))), (a2 8, .inl (cI, 2, .inl (ma N12 8))), (a2 9, .inl (cI, 2, .inl (ma N12 9)))]) (w1 := (baW cB cI cJ cZ h0 (va_up a0 5 h1) N19)) hP hD [0, 1, 2, 3, 4] [5, 6, 7, 8, 9, 10, 11, 12] rfl rfl (by decide) (by decide) hk1 hFc hP1 hD1
          have hP := hP.sub (ws' := (bqW cB cI cJ cZ h0 a0 (some h1) h1 a1 h2 a2 N19 N17 N12)) [8, 9, 10, 11, 12, 0, 1, 2, 3, 4, 5, 6, 7] rfl
          have hD := hD.sub (ws' := (bqW cB cI cJ cZ h0 a0 (some h1) h1 a1 h2 a2 N19 N17 N12)) [8, 9, 10, 11, 12, 0, 1, 2, 3, 4, 5, 6, 7] (by decide) rfl
          generalize H1 = H at hP hS ⊢
          have h := hw
          try dsimp only at h
          have hPc := hP.sub (ws' := (e0W cB cI cJ cZ  )) [] rfl
          have hDc := hD.sub (ws' := (e0W cB cI cJ cZ  )) [] (by decide) rfl
          have hFc := va_free (wc := (e0W cB cI cJ cZ  )) hD hS hA [] rfl
          refine va_calli (va_runS (As := [.int (y5 - r16), .int (mg M0 8), .int r18]) (rest := []) ⟨hx, hb, hml, hown, hts⟩ (kX0_placeOf l dC dI cB cI cJ cZ  H.size (y5 - r16) (mg M0 8) r18  _ h) (cwS 3 hts gX0_firstMove_X0_placeOf rfl rfl rfl (by decide +kernel) ⟨Nat.le_of_ble_eq_true rfl, Nat.le_of_ble_eq_true rfl⟩) (e0pS hK hPc hDc) rfl rfl hl.1 rfl (lv_room (Nat.le_of_ble_eq_true rfl)) dX0_firstMove_118 ⟨Nat.le_of_ble_eq_true rfl, Nat.le_of_ble_eq_true rfl⟩) hS (fun q _ z => hFc q z) hFc (fun r20 u t H1 locs ht hvm hw hB hz1 hk1 hS => ?_)
          obtain ⟨hP1, hK1, hD1⟩ := hB
          rw [ht] at hP1
          obtain ⟨hP, hD⟩ := va_join (wr := [(h0, .inr (0, [.ref (a0 0), .ref (a0 1), .ref (a0 2), .ref (a0 3), .int (mg N19 4), va_rf (some h1), .int (mg N19 6), .int (mg N19 7), .int (mg N19 8), .int (mg N19 9), .int (mg N19 10)])), (a0 0, .inl (cJ, 15, .inr (.inl (ml N19 0)))), (a0 1, .inl (cJ, 800, .inr (.inl (ml N19 1)))), (a0 2, .inl (cI, 4, .inl (ma N19 2))), (a0 3, .inl (cJ, 4, .inr (.inl (ml N19 3)))), (h1, .inr (1, [.int (mg N17 0), .ref (a1 1), .int (mg N17 2), .ref (a1 3), .int (mg N17 4), .ref (a1 5)])), (a1 1, .inl (cI, 4, .inl (ma N17 1))), (a1 3, .inl (cI, 4, .inl (ma N17 3))), (a1 5, .inl (cI, 2, .inl (ma N17 5))), (h2, .inr (6, [.int (mg N12 0), .int (mg N12 1), .int (mg N12 2), .int (mg N12 3), .int (mg N12 4), .int (mg N12 5), .int (mg N12 6), .ref (a2 7), .ref (a2 8), .ref (a2 9)])), (a2 7, .inl (cI, 2, .inl (ma N12 7))), (a2 8, .inl (cI, 2, .inl (ma N12 8))), (a2 9, .inl (cI, 2, .inl (ma N12 9)))]) (w1 := (e0W cB cI cJ cZ  )) hP hD [] [0, 1, 2, 3, 4, 5, 6, 7, 8, 9, 10, 11, 12] rfl rfl (by decide) (by decide) hk1 hFc hP1 hD1
          have hP := hP.sub (ws' := (bqW cB cI cJ cZ h0 a0 (some h1) h1 a1 h2 a2 N19 N17 N12)) [0, 1, 2, 3, 4, 5, 6, 7, 8, 9, 10, 11, 12] rfl
          have hD := hD.sub (ws' := (bqW cB cI cJ cZ h0 a0 (some h1) h1 a1 h2 a2 N19 N17 N12)) [0, 1, 2, 3, 4, 5, 6, 7, 8, 9, 10, 11, 12] (by decide) rfl
          generalize H1 = H at hP hS ⊢
          have h := hw
          try dsimp only at h
          refine lv_istore (lv' := [(7, .int r20), (0, .ref h0), (2, .ref h2), (3, .int y3), (4, .int y4), (5, .int y5), (6, .int y6)]) hx hb dX0_firstMove_121 hl (by decide) rfl (fun ls hl => ?_)
          refine lv_aload_n hx hb dX0_firstMove_123 rfl (lv_at hl 1 rfl) ?_
          refine va_get (D := (dC, dI)) (ci := 0) (v := .ref (a0 1)) (C := RX0) (T := TX0) (N := 11) hx hb hts hinX0 hown hK hP 0 rfl rfl 1 (by decide) f5 (fun _ h9 => h9) rfl dX0_firstMove_124 ?_
          refine lv_iload hx hb dX0_firstMove_127 (lv_at hl 0 rfl) ?_
          refine va_lald hx hb hK hP 2 2 (f := ml N19 1) rfl rfl h.1 dX0_firstMove_129 ?_
          have h := h.2
          refine lv_iload_n hx hb dX0_firstMove_130 rfl (lv_at hl 3 rfl) ?_
          refine lv_iload hx hb dX0_firstMove_131 (lv_at hl 4 rfl) ?_
          have hPc := hP.sub (ws' := (e0W cB cI cJ cZ  )) [] rfl
          have hDc := hD.sub (ws' := (e0W cB cI cJ cZ  )) [] (by decide) rfl
          have hFc := va_free (wc := (e0W cB cI cJ cZ  )) hD hS hA [] rfl
          refine va_calli (va_runS (As := [.long (ml N19 1 (Int32.toNatClampNeg r20)), .int y3, .int y4]) (rest := []) ⟨hx, hb, hml, hown, hts⟩ (kX0_holds l dC dI cB cI cJ cZ  H.size (ml N19 1 (Int32.toNatClampNeg r20)) y3 y4  _ h) (cwS 3 hts gX0_firstMove_X0_holds rfl rfl rfl (by decide +kernel) ⟨Nat.le_of_ble_eq_true rfl, Nat.le_of_ble_eq_true rfl⟩) (e0pS hK hPc hDc) rfl rfl hl.1 rfl (lv_room (Nat.le_of_ble_eq_true rfl)) dX0_firstMove_133 ⟨Nat.le_of_ble_eq_true rfl, Nat.le_of_ble_eq_true rfl⟩) hS (fun q _ z => hFc q z) hFc (fun r21 u t H1 locs ht hvm hw hB hz1 hk1 hS => ?_)
          obtain ⟨hP1, hK1, hD1⟩ := hB
          rw [ht] at hP1
          obtain ⟨hP, hD⟩ := va_join (wr := [(h0, .inr (0, [.ref (a0 0), .ref (a0 1), .ref (a0 2), .ref (a0 3), .int (mg N19 4), va_rf (some h1), .int (mg N19 6), .int (mg N19 7), .int (mg N19 8), .int (mg N19 9), .int (mg N19 10)])), (a0 0, .inl (cJ, 15, .inr (.inl (ml N19 0)))), (a0 1, .inl (cJ, 800, .inr (.inl (ml N19 1)))), (a0 2, .inl (cI, 4, .inl (ma N19 2))), (a0 3, .inl (cJ, 4, .inr (.inl (ml N19 3)))), (h1, .inr (1, [.int (mg N17 0), .ref (a1 1), .int (mg N17 2), .ref (a1 3), .int (mg N17 4), .ref (a1 5)])), (a1 1, .inl (cI, 4, .inl (ma N17 1))), (a1 3, .inl (cI, 4, .inl (ma N17 3))), (a1 5, .inl (cI, 2, .inl (ma N17 5))), (h2, .inr (6, [.int (mg N12 0), .int (mg N12 1), .int (mg N12 2), .int (mg N12 3), .int (mg N12 4), .int (mg N12 5), .int (mg N12 6), .ref (a2 7), .ref (a2 8), .ref (a2 9)])), (a2 7, .inl (cI, 2, .inl (ma N12 7))), (a2 8, .inl (cI, 2, .inl (ma N12 8))), (a2 9, .inl (cI, 2, .inl (ma N12 9)))]) (w1 := (e0W cB cI cJ cZ  )) hP hD [] [0, 1, 2, 3, 4, 5, 6, 7, 8, 9, 10, 11, 12] rfl rfl (by decide) (by decide) hk1 hFc hP1 hD1
          have hP := hP.sub (ws' := (bqW cB cI cJ cZ h0 a0 (some h1) h1 a1 h2 a2 N19 N17 N12)) [0, 1, 2, 3, 4, 5, 6, 7, 8, 9, 10, 11, 12] rfl
          have hD := hD.sub (ws' := (bqW cB cI cJ cZ h0 a0 (some h1) h1 a1 h2 a2 N19 N17 N12)) [0, 1, 2, 3, 4, 5, 6, 7, 8, 9, 10, 11, 12] (by decide) rfl
          generalize H1 = H at hP hS ⊢
          obtain ⟨b22, rfl, h⟩ := hw
          try dsimp only at h
          refine lv_if_eq (tgt := 142) hx hb dX0_firstMove_136 (by decide) (fun c23 => ?_) (fun c23 => ?_)
          · have h := h.1 c23
            exact b142 _ hB65 y3 y4 y5 y6 N19 N17 N12 H locs ls hP hD hS (lv_sub hl [1, 2, 3, 4, 5, 6] rfl) h
          · have h := h.2 c23
            refine lv_iload hx hb dX0_firstMove_139 (lv_at hl 6 rfl) ?_
            exact W.iret (v := y6) hx hb hr (fun t ht hW => ⟨⟨_, (N19, N17, N12), rfl, h, by rw [ht]; exact hP, va_K.moved hW.alike hK, hD⟩, hS.F ht⟩) hS.2.2 dX0_firstMove_141
  have b43 : ∀ (n : Nat) (y3 : Int32) (y4 : Int32) (y5 : Int32) (y6 : Int32) (M0 : gS) (M1 : gS) (M2 : gS) (H : Heap) (locs : List Loc) (ls : Array Slot), va_P (dC, dI) vwCl (bqW cB cI cJ cZ h0 a0 (some h1) h1 a1 h2 a2 M0 M1 M2) H → va_D A (bqW cB cI cJ cZ h0 a0 (some h1) h1 a1 h2 a2 M0 M1 M2) → va_S A s.heap H locs → lv_has ls 8 [(0, .ref h0), (2, .ref h2), (3, .int y3), (4, .int y4), (5, .int y5), (6, .int y6)] → wX0_firstMove_43  Q n y3 y4 y5 y6 M0 M1 M2 → W p l e (headSpec wsX0_firstMove rmX0_firstMove).room s m ([.ref h0, .ref h1, .ref h2] : List Value).toArray below meth c H locs 0 0 (MQ below (va_Qi (fun (r : Int32) (u : gS × gS × gS) => Q r u.1 u.2.1 u.2.2) (bqB dC dI cB cI cJ cZ h0 a0 (some h1) h1 a1 h2 a2 A) A) ([.ref h0, .ref h1, .ref h2] : List Value).toArray s 0 0 A) (F0 m 43 ls []) := by
    intro  n
    induction n with
    | zero => intro y3 y4 y5 y6 M0 M1 M2 H locs ls hP hD hS hl h; exact absurd h (by simp [wX0_firstMove_43])
    | succ n hB430 =>
      intro y3 y4 y5 y6 M0 M1 M2 H locs ls hP hD hS hl h
      have hB43 := hB430
      rw [wX0_firstMove_43] at h
      refine lv_iload hx hb dX0_firstMove_43 (lv_at hl 5 rfl) ?_
      refine lv_iload hx hb dX0_firstMove_45 (lv_at hl 4 rfl) ?_
      refine lv_icmp_gt (tgt := 62) hx hb dX0_firstMove_47 (by decide) (fun c1 => ?_) (fun c1 => ?_)
      · have h := h.1 c1
        refine lv_iconst (v := 0) hx hb dX0_firstMove_62 (by decide) ?_
        refine lv_istore (lv' := [(6, .int (0 : Int32)), (0, .ref h0), (2, .ref h2), (3, .int y3), (4, .int y4), (5, .int y5)]) hx hb dX0_firstMove_63 hl (by decide) rfl (fun ls hl => ?_)
        obtain ⟨n9, h⟩ := h
        exact b65  n9 y3 y4 y5 (0 : Int32) M0 M1 M2 H locs ls hP hD hS (lv_sub hl [1, 2, 3, 4, 5, 0] rfl) h
      · have h := h.2 c1
        refine lv_aload_n hx hb dX0_firstMove_50 rfl (lv_at hl 0 rfl) ?_
        refine lv_iload hx hb dX0_firstMove_51 (lv_at hl 5 rfl) ?_
        have hPc := hP.sub (ws' := (bcW cB cI cJ cZ h0 (va_up a0 5 h1) a1 M0 M1)) [0, 1, 2, 3, 4, 5, 6, 7, 8] rfl
        have hDc := hD.sub (ws' := (bcW cB cI cJ cZ h0 (va_up a0 5 h1) a1 M0 M1)) [0, 1, 2, 3, 4, 5, 6, 7, 8] (by decide) rfl
        have hFc := va_free (wc := (bcW cB cI cJ cZ h0 (va_up a0 5 h1) a1 M0 M1)) hD hS hA [0, 1, 2, 3, 4, 5, 6, 7, 8] rfl
        refine va_callv (va_runV (As := [.int y6]) (rest := []) ⟨hx, hb, hml, hown, hts⟩ (kX0_fillSum l dC dI cB cI cJ cZ h0 (va_up a0 5 h1) a1 H.size y6 M0 M1 _ h) (cwV 1 hts gX0_firstMove_X0_fillSum rfl rfl rfl (by decide +kernel) ⟨Nat.le_of_ble_eq_true rfl, Nat.le_of_ble_eq_true rfl⟩) (bcpV hK hPc hDc) rfl rfl hl.1 rfl (lv_room (Nat.le_of_ble_eq_true rfl)) dX0_firstMove_53 ⟨Nat.le_of_ble_eq_true rfl, Nat.le_of_ble_eq_true rfl⟩) hS (fun q _ z => hFc q z) hFc (fun u t H1 locs ht hvm hw hB hz1 hk1 hS => ?_)
        obtain ⟨N3, N4⟩ := u
        obtain ⟨hP1, hK1, hD1⟩ := hB
        rw [ht] at hP1
        obtain ⟨hP, hD⟩ := va_join (wr := [(h2, .inr (6, [.int (mg M2 0), .int (mg M2 1), .int (mg M2 2), .int (mg M2 3), .int (mg M2 4), .int (mg M2 5), .int (mg M2 6), .ref (a2 7), .ref (a2 8), .ref (a2 9)])), (a2 7, .inl (cI, 2, .inl (ma M2 7))), (a2 8, .inl (cI, 2, .inl (ma M2 8))), (a2 9, .inl (cI, 2, .inl (ma M2 9)))]) (w1 := (bcW cB cI cJ cZ h0 (va_up a0 5 h1) a1 N3 N4)) hP hD [0, 1, 2, 3, 4, 5, 6, 7, 8] [9, 10, 11, 12] rfl rfl (by decide) (by decide) hk1 hFc hP1 hD1
        have hP := hP.sub (ws' := (bqW cB cI cJ cZ h0 a0 (some h1) h1 a1 h2 a2 N3 N4 M2)) [4, 5, 6, 7, 8, 9, 10, 11, 12, 0, 1, 2, 3] rfl
        have hD := hD.sub (ws' := (bqW cB cI cJ cZ h0 a0 (some h1) h1 a1 h2 a2 N3 N4 M2)) [4, 5, 6, 7, 8, 9, 10, 11, 12, 0, 1, 2, 3] (by decide) rfl
        generalize H1 = H at hP hS ⊢
        have h := hw
        try dsimp only at h
        obtain ⟨x5, ex5⟩ : ∃ y : Int32, y = y6 + (1 : Int32) := ⟨_, rfl⟩
        have h := h x5 ex5
        refine lv_iinc (v := x5) (lv' := [(6, .int x5), (0, .ref h0), (2, .ref h2), (3, .int y3), (4, .int y4), (5, .int y5)]) hx hb dX0_firstMove_56 hl (k := 5) rfl (by rw [ex5]; rfl) (by decide) rfl (fun ls hl => ?_)
        refine lv_goto (tgt := 43) hx hb dX0_firstMove_59 (by decide) ?_
        exact hB43 y3 y4 y5 x5 N3 N4 M2 H locs ls hP hD hS (lv_sub hl [1, 2, 3, 4, 5, 0] rfl) h
  have bE : ∀ (M0 : gS) (M1 : gS) (M2 : gS) (H : Heap) (locs : List Loc) (ls : Array Slot), va_P (dC, dI) vwCl (bqW cB cI cJ cZ h0 a0 o0 h1 a1 h2 a2 M0 M1 M2) H → va_D A (bqW cB cI cJ cZ h0 a0 o0 h1 a1 h2 a2 M0 M1 M2) → va_S A s.heap H locs → lv_has ls 8 [(0, .ref h0), (1, .ref h1), (2, .ref h2)] → wX0_firstMove  M0 M1 M2 Q → W p l e (headSpec wsX0_firstMove rmX0_firstMove).room s m ([.ref h0, .ref h1, .ref h2] : List Value).toArray below meth c H locs 0 0 (MQ below (va_Qi (fun (r : Int32) (u : gS × gS × gS) => Q r u.1 u.2.1 u.2.2) (bqB dC dI cB cI cJ cZ h0 a0 (some h1) h1 a1 h2 a2 A) A) ([.ref h0, .ref h1, .ref h2] : List Value).toArray s 0 0 A) (F0 m 0 ls []) := by
    intro M0 M1 M2 H locs ls hP hD hS hl h
    unfold wX0_firstMove at h
    refine lv_aload_n hx hb dX0_firstMove_0 rfl (lv_at hl 0 rfl) ?_
    refine lv_aload_n hx hb dX0_firstMove_1 rfl (lv_at hl 1 rfl) ?_
    refine lv_aload_n hx hb dX0_firstMove_2 rfl (lv_at hl 2 rfl) ?_
    refine va_get (D := (dC, dI)) (ci := 6) (v := .int (mg M2 1)) (C := RX6) (T := TX6) (N := 10) hx hb hts hinX6 hown hK hP 9 rfl rfl 1 (by decide) f6 (fun _ h9 => h9) rfl dX0_firstMove_3 ?_
    refine lv_aload_n hx hb dX0_firstMove_6 rfl (lv_at hl 2 rfl) ?_
    have hPc := hP.sub (ws' := (qrW cB cI cJ cZ h2 a2 M2)) [9, 10, 11, 12] rfl
    have hDc := hD.sub (ws' := (qrW cB cI cJ cZ h2 a2 M2)) [9, 10, 11, 12] (by decide) rfl
    have hFc := va_free (wc := (qrW cB cI cJ cZ h2 a2 M2)) hD hS hA [9, 10, 11, 12] rfl
    refine va_calli (va_runV (As := []) (rest := [.int (mg M2 1), .ref h1, .ref h0]) ⟨hx, hb, hml, hown, hts⟩ (kX6_lasts l dC dI cB cI cJ cZ h2 a2 H.size  M2 _ h) (cwV 0 hts gX0_firstMove_X6_lasts rfl rfl rfl (by decide +kernel) ⟨Nat.le_of_ble_eq_true rfl, Nat.le_of_ble_eq_true rfl⟩) (qrpV hK hPc hDc) rfl rfl hl.1 rfl (lv_room (Nat.le_of_ble_eq_true rfl)) dX0_firstMove_7 ⟨Nat.le_of_ble_eq_true rfl, Nat.le_of_ble_eq_true rfl⟩) hS (fun q _ z => hFc q z) hFc (fun r1 u t H1 locs ht hvm hw hB hz1 hk1 hS => ?_)
    obtain ⟨N2, rfl⟩ : ∃ z, z = u := ⟨_, rfl⟩
    obtain ⟨hP1, hK1, hD1⟩ := hB
    rw [ht] at hP1
    obtain ⟨hP, hD⟩ := va_join (wr := [(h0, .inr (0, [.ref (a0 0), .ref (a0 1), .ref (a0 2), .ref (a0 3), .int (mg M0 4), va_rf o0, .int (mg M0 6), .int (mg M0 7), .int (mg M0 8), .int (mg M0 9), .int (mg M0 10)])), (a0 0, .inl (cJ, 15, .inr (.inl (ml M0 0)))), (a0 1, .inl (cJ, 800, .inr (.inl (ml M0 1)))), (a0 2, .inl (cI, 4, .inl (ma M0 2))), (a0 3, .inl (cJ, 4, .inr (.inl (ml M0 3)))), (h1, .inr (1, [.int (mg M1 0), .ref (a1 1), .int (mg M1 2), .ref (a1 3), .int (mg M1 4), .ref (a1 5)])), (a1 1, .inl (cI, 4, .inl (ma M1 1))), (a1 3, .inl (cI, 4, .inl (ma M1 3))), (a1 5, .inl (cI, 2, .inl (ma M1 5)))]) (w1 := (qrW cB cI cJ cZ h2 a2 N2)) hP hD [9, 10, 11, 12] [0, 1, 2, 3, 4, 5, 6, 7, 8] rfl rfl (by decide) (by decide) hk1 hFc hP1 hD1
    have hP := hP.sub (ws' := (bqW cB cI cJ cZ h0 a0 o0 h1 a1 h2 a2 M0 M1 N2)) [0, 1, 2, 3, 4, 5, 6, 7, 8, 9, 10, 11, 12] rfl
    have hD := hD.sub (ws' := (bqW cB cI cJ cZ h0 a0 o0 h1 a1 h2 a2 M0 M1 N2)) [0, 1, 2, 3, 4, 5, 6, 7, 8, 9, 10, 11, 12] (by decide) rfl
    generalize H1 = H at hP hS ⊢
    have h := hw
    try dsimp only at h
    have hPc := hP.sub (ws' := (boW cB cI cJ cZ h0 a0 o0 h1 a1 M0 M1)) [0, 1, 2, 3, 4, 5, 6, 7, 8] rfl
    have hDc := hD.sub (ws' := (boW cB cI cJ cZ h0 a0 o0 h1 a1 M0 M1)) [0, 1, 2, 3, 4, 5, 6, 7, 8] (by decide) rfl
    have hFc := va_free (wc := (boW cB cI cJ cZ h0 a0 o0 h1 a1 M0 M1)) hD hS hA [0, 1, 2, 3, 4, 5, 6, 7, 8] rfl
    refine va_callv (va_runV (As := [.ref h1, .int (mg M2 1), .int r1]) (rest := []) ⟨hx, hb, hml, hown, hts⟩ (kX0_prepare l dC dI cB cI cJ cZ h0 a0 o0 h1 a1 H.size (mg M2 1) r1 M0 M1 _ h) (cwV 3 hts gX0_firstMove_X0_prepare rfl rfl rfl (by decide +kernel) ⟨Nat.le_of_ble_eq_true rfl, Nat.le_of_ble_eq_true rfl⟩) (bopV hK hPc hDc) rfl rfl hl.1 rfl (lv_room (Nat.le_of_ble_eq_true rfl)) dX0_firstMove_10 ⟨Nat.le_of_ble_eq_true rfl, Nat.le_of_ble_eq_true rfl⟩) hS (fun q _ z => hFc q z) hFc (fun u t H1 locs ht hvm hw hB hz1 hk1 hS => ?_)
    obtain ⟨N4, N5⟩ := u
    obtain ⟨hP1, hK1, hD1⟩ := hB
    rw [ht] at hP1
    obtain ⟨hP, hD⟩ := va_join (wr := [(h2, .inr (6, [.int (mg N2 0), .int (mg N2 1), .int (mg N2 2), .int (mg N2 3), .int (mg N2 4), .int (mg N2 5), .int (mg N2 6), .ref (a2 7), .ref (a2 8), .ref (a2 9)])), (a2 7, .inl (cI, 2, .inl (ma N2 7))), (a2 8, .inl (cI, 2, .inl (ma N2 8))), (a2 9, .inl (cI, 2, .inl (ma N2 9)))]) (w1 := (boW cB cI cJ cZ h0 a0 (some h1) h1 a1 N4 N5)) hP hD [0, 1, 2, 3, 4, 5, 6, 7, 8] [9, 10, 11, 12] rfl rfl (by decide) (by decide) hk1 hFc hP1 hD1
    have hP := hP.sub (ws' := (bqW cB cI cJ cZ h0 a0 (some h1) h1 a1 h2 a2 N4 N5 N2)) [4, 5, 6, 7, 8, 9, 10, 11, 12, 0, 1, 2, 3] rfl
    have hD := hD.sub (ws' := (bqW cB cI cJ cZ h0 a0 (some h1) h1 a1 h2 a2 N4 N5 N2)) [4, 5, 6, 7, 8, 9, 10, 11, 12, 0, 1, 2, 3] (by decide) rfl
    generalize H1 = H at hP hS ⊢
    have h := hw
    try dsimp only at h
    refine lv_aload_n hx hb dX0_firstMove_13 rfl (lv_at hl 2 rfl) ?_
    have hPc := hP.sub (ws' := (qrW cB cI cJ cZ h2 a2 N2)) [9, 10, 11, 12] rfl
    have hDc := hD.sub (ws' := (qrW cB cI cJ cZ h2 a2 N2)) [9, 10, 11, 12] (by decide) rfl
    have hFc := va_free (wc := (qrW cB cI cJ cZ h2 a2 N2)) hD hS hA [9, 10, 11, 12] rfl
    refine va_calli (va_runV (As := []) (rest := []) ⟨hx, hb, hml, hown, hts⟩ (kX6_myPurse l dC dI cB cI cJ cZ h2 a2 H.size  N2 _ h) (cwV 0 hts gX0_firstMove_X6_myPurse rfl rfl rfl (by decide +kernel) ⟨Nat.le_of_ble_eq_true rfl, Nat.le_of_ble_eq_true rfl⟩) (qrpV hK hPc hDc) rfl rfl hl.1 rfl (lv_room (Nat.le_of_ble_eq_true rfl)) dX0_firstMove_14 ⟨Nat.le_of_ble_eq_true rfl, Nat.le_of_ble_eq_true rfl⟩) hS (fun q _ z => hFc q z) hFc (fun r6 u t H1 locs ht hvm hw hB hz1 hk1 hS => ?_)
    obtain ⟨N7, rfl⟩ : ∃ z, z = u := ⟨_, rfl⟩
    obtain ⟨hP1, hK1, hD1⟩ := hB
    rw [ht] at hP1
    obtain ⟨hP, hD⟩ := va_join (wr := [(h0, .inr (0, [.ref (a0 0), .ref (a0 1), .ref (a0 2), .ref (a0 3), .int (mg N4 4), va_rf (some h1), .int (mg N4 6), .int (mg N4 7), .int (mg N4 8), .int (mg N4 9), .int (mg N4 10)])), (a0 0, .inl (cJ, 15, .inr (.inl (ml N4 0)))), (a0 1, .inl (cJ, 800, .inr (.inl (ml N4 1)))), (a0 2, .inl (cI, 4, .inl (ma N4 2))), (a0 3, .inl (cJ, 4, .inr (.inl (ml N4 3)))), (h1, .inr (1, [.int (mg N5 0), .ref (a1 1), .int (mg N5 2), .ref (a1 3), .int (mg N5 4), .ref (a1 5)])), (a1 1, .inl (cI, 4, .inl (ma N5 1))), (a1 3, .inl (cI, 4, .inl (ma N5 3))), (a1 5, .inl (cI, 2, .inl (ma N5 5)))]) (w1 := (qrW cB cI cJ cZ h2 a2 N7)) hP hD [9, 10, 11, 12] [0, 1, 2, 3, 4, 5, 6, 7, 8] rfl rfl (by decide) (by decide) hk1 hFc hP1 hD1
    have hP := hP.sub (ws' := (bqW cB cI cJ cZ h0 a0 (some h1) h1 a1 h2 a2 N4 N5 N7)) [0, 1, 2, 3, 4, 5, 6, 7, 8, 9, 10, 11, 12] rfl
    have hD := hD.sub (ws' := (bqW cB cI cJ cZ h0 a0 (some h1) h1 a1 h2 a2 N4 N5 N7)) [0, 1, 2, 3, 4, 5, 6, 7, 8, 9, 10, 11, 12] (by decide) rfl
    generalize H1 = H at hP hS ⊢
    have h := hw
    try dsimp only at h
    refine lv_istore_n (lv' := [(3, .int r6), (0, .ref h0), (1, .ref h1), (2, .ref h2)]) hx hb dX0_firstMove_17 rfl hl (by decide) rfl (fun ls hl => ?_)
    refine lv_aload_n hx hb dX0_firstMove_18 rfl (lv_at hl 3 rfl) ?_
    have hPc := hP.sub (ws' := (qrW cB cI cJ cZ h2 a2 N7)) [9, 10, 11, 12] rfl
    have hDc := hD.sub (ws' := (qrW cB cI cJ cZ h2 a2 N7)) [9, 10, 11, 12] (by decide) rfl
    have hFc := va_free (wc := (qrW cB cI cJ cZ h2 a2 N7)) hD hS hA [9, 10, 11, 12] rfl
    refine va_calli (va_runV (As := []) (rest := []) ⟨hx, hb, hml, hown, hts⟩ (kX6_theirPurse l dC dI cB cI cJ cZ h2 a2 H.size  N7 _ h) (cwV 0 hts gX0_firstMove_X6_theirPurse rfl rfl rfl (by decide +kernel) ⟨Nat.le_of_ble_eq_true rfl, Nat.le_of_ble_eq_true rfl⟩) (qrpV hK hPc hDc) rfl rfl hl.1 rfl (lv_room (Nat.le_of_ble_eq_true rfl)) dX0_firstMove_19 ⟨Nat.le_of_ble_eq_true rfl, Nat.le_of_ble_eq_true rfl⟩) hS (fun q _ z => hFc q z) hFc (fun r8 u t H1 locs ht hvm hw hB hz1 hk1 hS => ?_)
    obtain ⟨N9, rfl⟩ : ∃ z, z = u := ⟨_, rfl⟩
    obtain ⟨hP1, hK1, hD1⟩ := hB
    rw [ht] at hP1
    obtain ⟨hP, hD⟩ := va_join (wr := [(h0, .inr (0, [.ref (a0 0), .ref (a0 1), .ref (a0 2), .ref (a0 3), .int (mg N4 4), va_rf (some h1), .int (mg N4 6), .int (mg N4 7), .int (mg N4 8), .int (mg N4 9), .int (mg N4 10)])), (a0 0, .inl (cJ, 15, .inr (.inl (ml N4 0)))), (a0 1, .inl (cJ, 800, .inr (.inl (ml N4 1)))), (a0 2, .inl (cI, 4, .inl (ma N4 2))), (a0 3, .inl (cJ, 4, .inr (.inl (ml N4 3)))), (h1, .inr (1, [.int (mg N5 0), .ref (a1 1), .int (mg N5 2), .ref (a1 3), .int (mg N5 4), .ref (a1 5)])), (a1 1, .inl (cI, 4, .inl (ma N5 1))), (a1 3, .inl (cI, 4, .inl (ma N5 3))), (a1 5, .inl (cI, 2, .inl (ma N5 5)))]) (w1 := (qrW cB cI cJ cZ h2 a2 N9)) hP hD [9, 10, 11, 12] [0, 1, 2, 3, 4, 5, 6, 7, 8] rfl rfl (by decide) (by decide) hk1 hFc hP1 hD1
    have hP := hP.sub (ws' := (bqW cB cI cJ cZ h0 a0 (some h1) h1 a1 h2 a2 N4 N5 N9)) [0, 1, 2, 3, 4, 5, 6, 7, 8, 9, 10, 11, 12] rfl
    have hD := hD.sub (ws' := (bqW cB cI cJ cZ h0 a0 (some h1) h1 a1 h2 a2 N4 N5 N9)) [0, 1, 2, 3, 4, 5, 6, 7, 8, 9, 10, 11, 12] (by decide) rfl
    generalize H1 = H at hP hS ⊢
    have h := hw
    try dsimp only at h
    refine lv_istore (lv' := [(4, .int r8), (3, .int r6), (0, .ref h0), (1, .ref h1), (2, .ref h2)]) hx hb dX0_firstMove_22 hl (by decide) rfl (fun ls hl => ?_)
    refine lv_aload_n hx hb dX0_firstMove_24 rfl (lv_at hl 4 rfl) ?_
    refine va_get (D := (dC, dI)) (ci := 6) (v := .int (mg N9 2)) (C := RX6) (T := TX6) (N := 10) hx hb hts hinX6 hown hK hP 9 rfl rfl 2 (by decide) f7 (fun _ h9 => h9) rfl dX0_firstMove_25 ?_
    refine lv_aload_n hx hb dX0_firstMove_28 rfl (lv_at hl 2 rfl) ?_
    refine va_get (D := (dC, dI)) (ci := 0) (v := .int (mg N4 6)) (C := RX0) (T := TX0) (N := 11) hx hb hts hinX0 hown hK hP 0 rfl rfl 6 (by decide) f8 (fun _ h9 => h9) rfl dX0_firstMove_29 ?_
    refine lv_iload_n hx hb dX0_firstMove_32 rfl (lv_at hl 1 rfl) ?_
    refine lv_iload hx hb dX0_firstMove_33 (lv_at hl 0 rfl) ?_
    refine lv_iadd hx hb dX0_firstMove_35 ?_
    refine lv_imul hx hb dX0_firstMove_36 ?_
    refine lv_iadd hx hb dX0_firstMove_37 ?_
    refine lv_topi (fun x10 ex10 => ?_)
    have h := h x10 ex10
    refine lv_istore (lv' := [(5, .int x10), (4, .int r8), (3, .int r6), (0, .ref h0), (1, .ref h1), (2, .ref h2)]) hx hb dX0_firstMove_38 hl (by decide) rfl (fun ls hl => ?_)
    refine lv_iconst (v := 0) hx hb dX0_firstMove_40 (by decide) ?_
    refine lv_istore (lv' := [(6, .int (0 : Int32)), (5, .int x10), (4, .int r8), (3, .int r6), (0, .ref h0), (1, .ref h1), (2, .ref h2)]) hx hb dX0_firstMove_41 hl (by decide) rfl (fun ls hl => ?_)
    obtain ⟨n9, h⟩ := h
    exact b43  n9 r6 r8 x10 (0 : Int32) N4 N5 N9 H locs ls hP hD hS (lv_sub hl [4, 6, 3, 2, 1, 0] rfl) h
  have hl := lv_entry ([.ref h0, .ref h1, .ref h2]) (n := 8) (Nat.le_of_ble_eq_true rfl)
  rw [lg_entry_eq]
  generalize (lg_sl ([.ref h0, .ref h1, .ref h2]) ++ List.replicate (8 - (lg_sl ([.ref h0, .ref h1, .ref h2])).length) Slot.unset).toArray = ls at hl ⊢
  have hl : lv_has ls 8 [(0, .ref h0), (1, .ref h1), (2, .ref h2)] := hl
  exact bE M0 M1 M2 s.heap [] ls hP hD hS hl h
