abbrev paW (cB cI cJ cZ : ClassId) (h0 : Nat) (a0 : Nat → Nat) (M0 : gS) : va_W := [(h0, .inr (5, [.ref (a0 0), .ref (a0 1), .ref (a0 2), .int (mg M0 3)])), (a0 0, .inl (cI, 2048, .inl (ma M0 0))), (a0 1, .inl (cI, 2048, .inl (ma M0 1)))]
abbrev paI (dC : Nat → ClassId) (dI : Nat → Nat → Nat) (cB cI cJ cZ : ClassId) (h0 : Nat) (a0 : Nat → Nat) (M0 : gS) (sz : Nat) : State → Prop := fun U => U.heap.size = sz ∧ va_P (dC, dI) vwCl (paW cB cI cJ cZ h0 a0 M0) U.heap ∧ va_K (dC, dI) vwCl (gT cB cI cJ cZ) U ∧ va_D (fun _ => True) (paW cB cI cJ cZ h0 a0 M0)
abbrev paB (dC : Nat → ClassId) (dI : Nat → Nat → Nat) (cB cI cJ cZ : ClassId) (h0 : Nat) (a0 : Nat → Nat) (A : Nat → Prop) (u : gS) (t : State) : Prop := match u with
  | (M0) => va_P (dC, dI) vwCl (paW cB cI cJ cZ h0 a0 M0) t.heap ∧ va_K (dC, dI) vwCl (gT cB cI cJ cZ) t ∧ va_D A (paW cB cI cJ cZ h0 a0 M0)
theorem paP_0_f3 {D : va_G} {H : Heap} {cB cI cJ cZ : ClassId} {h0 : Nat} {a0 : Nat → Nat} {M0 : gS} {v : Int32} (h : va_P D vwCl ((paW cB cI cJ cZ h0 a0 M0).set 0 (h0, .inr (5, ([.ref (a0 0), .ref (a0 1), .ref (a0 2), .int (mg M0 3)]).set 3 (.int v)))) H) : va_P D vwCl (paW cB cI cJ cZ h0 a0 (sg M0 3 v)) H := h
theorem paD_0_f3 {A : Nat → Prop} {cB cI cJ cZ : ClassId} {h0 : Nat} {a0 : Nat → Nat} {M0 : gS} {v : Int32} (h : va_D A ((paW cB cI cJ cZ h0 a0 M0).set 0 (h0, .inr (5, ([.ref (a0 0), .ref (a0 1), .ref (a0 2), .int (mg M0 3)]).set 3 (.int v))))) : va_D A (paW cB cI cJ cZ h0 a0 (sg M0 3 v)) := h
theorem paP_0_a0 {D : va_G} {H : Heap} {cB cI cJ cZ : ClassId} {h0 : Nat} {a0 : Nat → Nat} {M0 : gS} {j : Nat} {v : Int32} (h : va_P D vwCl ((paW cB cI cJ cZ h0 a0 M0).set 1 (a0 0, .inl (cI, 2048, .inl (upd (ma M0 0) j v)))) H) : va_P D vwCl (paW cB cI cJ cZ h0 a0 (sa M0 0 j v)) H := h
theorem paD_0_a0 {A : Nat → Prop} {cB cI cJ cZ : ClassId} {h0 : Nat} {a0 : Nat → Nat} {M0 : gS} {j : Nat} {v : Int32} (h : va_D A ((paW cB cI cJ cZ h0 a0 M0).set 1 (a0 0, .inl (cI, 2048, .inl (upd (ma M0 0) j v))))) : va_D A (paW cB cI cJ cZ h0 a0 (sa M0 0 j v)) := h
theorem paP_0_c0 {D : va_G} {H : Heap} {cB cI cJ cZ : ClassId} {h0 : Nat} {a0 : Nat → Nat} {M0 : gS} {f : Nat → Int32} (h : va_P D vwCl ((paW cB cI cJ cZ h0 a0 M0).set 1 (a0 0, .inl (cI, 2048, .inl f))) H) : va_P D vwCl (paW cB cI cJ cZ h0 a0 (sF M0 0 f)) H := h
theorem paD_0_c0 {A : Nat → Prop} {cB cI cJ cZ : ClassId} {h0 : Nat} {a0 : Nat → Nat} {M0 : gS} {f : Nat → Int32} (h : va_D A ((paW cB cI cJ cZ h0 a0 M0).set 1 (a0 0, .inl (cI, 2048, .inl f)))) : va_D A (paW cB cI cJ cZ h0 a0 (sF M0 0 f)) := h
theorem paP_0_a1 {D : va_G} {H : Heap} {cB cI cJ cZ : ClassId} {h0 : Nat} {a0 : Nat → Nat} {M0 : gS} {j : Nat} {v : Int32} (h : va_P D vwCl ((paW cB cI cJ cZ h0 a0 M0).set 2 (a0 1, .inl (cI, 2048, .inl (upd (ma M0 1) j v)))) H) : va_P D vwCl (paW cB cI cJ cZ h0 a0 (sa M0 1 j v)) H := h
theorem paD_0_a1 {A : Nat → Prop} {cB cI cJ cZ : ClassId} {h0 : Nat} {a0 : Nat → Nat} {M0 : gS} {j : Nat} {v : Int32} (h : va_D A ((paW cB cI cJ cZ h0 a0 M0).set 2 (a0 1, .inl (cI, 2048, .inl (upd (ma M0 1) j v))))) : va_D A (paW cB cI cJ cZ h0 a0 (sa M0 1 j v)) := h
theorem paP_0_c1 {D : va_G} {H : Heap} {cB cI cJ cZ : ClassId} {h0 : Nat} {a0 : Nat → Nat} {M0 : gS} {f : Nat → Int32} (h : va_P D vwCl ((paW cB cI cJ cZ h0 a0 M0).set 2 (a0 1, .inl (cI, 2048, .inl f))) H) : va_P D vwCl (paW cB cI cJ cZ h0 a0 (sF M0 1 f)) H := h
theorem paD_0_c1 {A : Nat → Prop} {cB cI cJ cZ : ClassId} {h0 : Nat} {a0 : Nat → Nat} {M0 : gS} {f : Nat → Int32} (h : va_D A ((paW cB cI cJ cZ h0 a0 M0).set 2 (a0 1, .inl (cI, 2048, .inl f)))) : va_D A (paW cB cI cJ cZ h0 a0 (sF M0 1 f)) := h
theorem papV {s : State} {dC : Nat → ClassId} {dI : Nat → Nat → Nat} {A : Nat → Prop} {cB cI cJ cZ : ClassId} {h0 : Nat} {a0 : Nat → Nat} {M0 : gS} {H : Heap} {As : List Value} (hK : va_K (dC, dI) vwCl (gT cB cI cJ cZ) s) (hP : va_P (dC, dI) vwCl (paW cB cI cJ cZ h0 a0 M0) H) (hD : va_D A (paW cB cI cJ cZ h0 a0 M0)) : PreV s H RX5 h0 (va_Pc (.ref h0 :: As) (paI dC dI cB cI cJ cZ h0 a0 M0 H.size)) As := ⟨fun a U g mk q => by obtain ⟨q0, q1, qP, qK, qD⟩ := q; exact ⟨q0, q1, qP, va_K.moved (u := U) (U := U.calling g mk a) (Vm.Alike.refl U.vm) qK, qD⟩, va_recv hK hP (ci := 5) (q0 := 0) rfl rfl, fun U hU hW => ⟨rfl, by rw [hU], by rw [hU]; exact hP, va_K.moved hW.alike hK, hD.weaken (fun _ _ _ _ => trivial)⟩⟩
theorem papS {s : State} {dC : Nat → ClassId} {dI : Nat → Nat → Nat} {A : Nat → Prop} {cB cI cJ cZ : ClassId} {h0 : Nat} {a0 : Nat → Nat} {M0 : gS} {H : Heap} {As : List Value} (hK : va_K (dC, dI) vwCl (gT cB cI cJ cZ) s) (hP : va_P (dC, dI) vwCl (paW cB cI cJ cZ h0 a0 M0) H) (hD : va_D A (paW cB cI cJ cZ h0 a0 M0)) : PreS s H (va_Pc As (paI dC dI cB cI cJ cZ h0 a0 M0 H.size)) As := ⟨fun a U g mk q => by obtain ⟨q0, q1, qP, qK, qD⟩ := q; exact ⟨q0, q1, qP, va_K.moved (u := U) (U := U.calling g mk a) (Vm.Alike.refl U.vm) qK, qD⟩, fun U hU hW => ⟨rfl, by rw [hU], by rw [hU]; exact hP, va_K.moved hW.alike hK, hD.weaken (fun _ _ _ _ => trivial)⟩⟩

abbrev pcW (cB cI cJ cZ : ClassId) (h0 : Nat) (a0 : Nat → Nat) (a1 : Nat → Nat) (M0 : gS) (M1 : gS) : va_W := [(h0, .inr (5, [.ref (a0 0), .ref (a0 1), .ref (a0 2), .int (mg M0 3)])), (a0 0, .inl (cI, 2048, .inl (ma M0 0))), (a0 1, .inl (cI, 2048, .inl (ma M0 1))), (a0 2, .inr (1, [.int (mg M1 0), .ref (a1 1), .int (mg M1 2), .ref (a1 3), .int (mg M1 4), .ref (a1 5)])), (a1 1, .inl (cI, 4, .inl (ma M1 1))), (a1 3, .inl (cI, 4, .inl (ma M1 3))), (a1 5, .inl (cI, 2, .inl (ma M1 5)))]
abbrev pcI (dC : Nat → ClassId) (dI : Nat → Nat → Nat) (cB cI cJ cZ : ClassId) (h0 : Nat) (a0 : Nat → Nat) (a1 : Nat → Nat) (M0 : gS) (M1 : gS) (sz : Nat) : State → Prop := fun U => U.heap.size = sz ∧ va_P (dC, dI) vwCl (pcW cB cI cJ cZ h0 a0 a1 M0 M1) U.heap ∧ va_K (dC, dI) vwCl (gT cB cI cJ cZ) U ∧ va_D (fun _ => True) (pcW cB cI cJ cZ h0 a0 a1 M0 M1)
abbrev pcB (dC : Nat → ClassId) (dI : Nat → Nat → Nat) (cB cI cJ cZ : ClassId) (h0 : Nat) (a0 : Nat → Nat) (a1 : Nat → Nat) (A : Nat → Prop) (u : gS × gS) (t : State) : Prop := match u with
  | (M0, M1) => va_P (dC, dI) vwCl (pcW cB cI cJ cZ h0 a0 a1 M0 M1) t.heap ∧ va_K (dC, dI) vwCl (gT cB cI cJ cZ) t ∧ va_D A (pcW cB cI cJ cZ h0 a0 a1 M0 M1)
theorem pcP_0_f3 {D : va_G} {H : Heap} {cB cI cJ cZ : ClassId} {h0 : Nat} {a0 : Nat → Nat} {a1 : Nat → Nat} {M0 : gS} {M1 : gS} {v : Int32} (h : va_P D vwCl ((pcW cB cI cJ cZ h0 a0 a1 M0 M1).set 0 (h0, .inr (5, ([.ref (a0 0), .ref (a0 1), .ref (a0 2), .int (mg M0 3)]).set 3 (.int v)))) H) : va_P D vwCl (pcW cB cI cJ cZ h0 a0 a1 (sg M0 3 v) M1) H := h
theorem pcD_0_f3 {A : Nat → Prop} {cB cI cJ cZ : ClassId} {h0 : Nat} {a0 : Nat → Nat} {a1 : Nat → Nat} {M0 : gS} {M1 : gS} {v : Int32} (h : va_D A ((pcW cB cI cJ cZ h0 a0 a1 M0 M1).set 0 (h0, .inr (5, ([.ref (a0 0), .ref (a0 1), .ref (a0 2), .int (mg M0 3)]).set 3 (.int v))))) : va_D A (pcW cB cI cJ cZ h0 a0 a1 (sg M0 3 v) M1) := h
theorem pcP_0_a0 {D : va_G} {H : Heap} {cB cI cJ cZ : ClassId} {h0 : Nat} {a0 : Nat → Nat} {a1 : Nat → Nat} {M0 : gS} {M1 : gS} {j : Nat} {v : Int32} (h : va_P D vwCl ((pcW cB cI cJ cZ h0 a0 a1 M0 M1).set 1 (a0 0, .inl (cI, 2048, .inl (upd (ma M0 0) j v)))) H) : va_P D vwCl (pcW cB cI cJ cZ h0 a0 a1 (sa M0 0 j v) M1) H := h
theorem pcD_0_a0 {A : Nat → Prop} {cB cI cJ cZ : ClassId} {h0 : Nat} {a0 : Nat → Nat} {a1 : Nat → Nat} {M0 : gS} {M1 : gS} {j : Nat} {v : Int32} (h : va_D A ((pcW cB cI cJ cZ h0 a0 a1 M0 M1).set 1 (a0 0, .inl (cI, 2048, .inl (upd (ma M0 0) j v))))) : va_D A (pcW cB cI cJ cZ h0 a0 a1 (sa M0 0 j v) M1) := h
theorem pcP_0_c0 {D : va_G} {H : Heap} {cB cI cJ cZ : ClassId} {h0 : Nat} {a0 : Nat → Nat} {a1 : Nat → Nat} {M0 : gS} {M1 : gS} {f : Nat → Int32} (h : va_P D vwCl ((pcW cB cI cJ cZ h0 a0 a1 M0 M1).set 1 (a0 0, .inl (cI, 2048, .inl f))) H) : va_P D vwCl (pcW cB cI cJ cZ h0 a0 a1 (sF M0 0 f) M1) H := h
theorem pcD_0_c0 {A : Nat → Prop} {cB cI cJ cZ : ClassId} {h0 : Nat} {a0 : Nat → Nat} {a1 : Nat → Nat} {M0 : gS} {M1 : gS} {f : Nat → Int32} (h : va_D A ((pcW cB cI cJ cZ h0 a0 a1 M0 M1).set 1 (a0 0, .inl (cI, 2048, .inl f)))) : va_D A (pcW cB cI cJ cZ h0 a0 a1 (sF M0 0 f) M1) := h
theorem pcP_0_a1 {D : va_G} {H : Heap} {cB cI cJ cZ : ClassId} {h0 : Nat} {a0 : Nat → Nat} {a1 : Nat → Nat} {M0 : gS} {M1 : gS} {j : Nat} {v : Int32} (h : va_P D vwCl ((pcW cB cI cJ cZ h0 a0 a1 M0 M1).set 2 (a0 1, .inl (cI, 2048, .inl (upd (ma M0 1) j v)))) H) : va_P D vwCl (pcW cB cI cJ cZ h0 a0 a1 (sa M0 1 j v) M1) H := h
theorem pcD_0_a1 {A : Nat → Prop} {cB cI cJ cZ : ClassId} {h0 : Nat} {a0 : Nat → Nat} {a1 : Nat → Nat} {M0 : gS} {M1 : gS} {j : Nat} {v : Int32} (h : va_D A ((pcW cB cI cJ cZ h0 a0 a1 M0 M1).set 2 (a0 1, .inl (cI, 2048, .inl (upd (ma M0 1) j v))))) : va_D A (pcW cB cI cJ cZ h0 a0 a1 (sa M0 1 j v) M1) := h
theorem pcP_0_c1 {D : va_G} {H : Heap} {cB cI cJ cZ : ClassId} {h0 : Nat} {a0 : Nat → Nat} {a1 : Nat → Nat} {M0 : gS} {M1 : gS} {f : Nat → Int32} (h : va_P D vwCl ((pcW cB cI cJ cZ h0 a0 a1 M0 M1).set 2 (a0 1, .inl (cI, 2048, .inl f))) H) : va_P D vwCl (pcW cB cI cJ cZ h0 a0 a1 (sF M0 1 f) M1) H := h
theorem pcD_0_c1 {A : Nat → Prop} {cB cI cJ cZ : ClassId} {h0 : Nat} {a0 : Nat → Nat} {a1 : Nat → Nat} {M0 : gS} {M1 : gS} {f : Nat → Int32} (h : va_D A ((pcW cB cI cJ cZ h0 a0 a1 M0 M1).set 2 (a0 1, .inl (cI, 2048, .inl f)))) : va_D A (pcW cB cI cJ cZ h0 a0 a1 (sF M0 1 f) M1) := h
theorem pcP_1_f0 {D : va_G} {H : Heap} {cB cI cJ cZ : ClassId} {h0 : Nat} {a0 : Nat → Nat} {a1 : Nat → Nat} {M0 : gS} {M1 : gS} {v : Int32} (h : va_P D vwCl ((pcW cB cI cJ cZ h0 a0 a1 M0 M1).set 3 (a0 2, .inr (1, ([.int (mg M1 0), .ref (a1 1), .int (mg M1 2), .ref (a1 3), .int (mg M1 4), .ref (a1 5)]).set 0 (.int v)))) H) : va_P D vwCl (pcW cB cI cJ cZ h0 a0 a1 M0 (sg M1 0 v)) H := h
theorem pcD_1_f0 {A : Nat → Prop} {cB cI cJ cZ : ClassId} {h0 : Nat} {a0 : Nat → Nat} {a1 : Nat → Nat} {M0 : gS} {M1 : gS} {v : Int32} (h : va_D A ((pcW cB cI cJ cZ h0 a0 a1 M0 M1).set 3 (a0 2, .inr (1, ([.int (mg M1 0), .ref (a1 1), .int (mg M1 2), .ref (a1 3), .int (mg M1 4), .ref (a1 5)]).set 0 (.int v))))) : va_D A (pcW cB cI cJ cZ h0 a0 a1 M0 (sg M1 0 v)) := h
theorem pcP_1_f2 {D : va_G} {H : Heap} {cB cI cJ cZ : ClassId} {h0 : Nat} {a0 : Nat → Nat} {a1 : Nat → Nat} {M0 : gS} {M1 : gS} {v : Int32} (h : va_P D vwCl ((pcW cB cI cJ cZ h0 a0 a1 M0 M1).set 3 (a0 2, .inr (1, ([.int (mg M1 0), .ref (a1 1), .int (mg M1 2), .ref (a1 3), .int (mg M1 4), .ref (a1 5)]).set 2 (.int v)))) H) : va_P D vwCl (pcW cB cI cJ cZ h0 a0 a1 M0 (sg M1 2 v)) H := h
theorem pcD_1_f2 {A : Nat → Prop} {cB cI cJ cZ : ClassId} {h0 : Nat} {a0 : Nat → Nat} {a1 : Nat → Nat} {M0 : gS} {M1 : gS} {v : Int32} (h : va_D A ((pcW cB cI cJ cZ h0 a0 a1 M0 M1).set 3 (a0 2, .inr (1, ([.int (mg M1 0), .ref (a1 1), .int (mg M1 2), .ref (a1 3), .int (mg M1 4), .ref (a1 5)]).set 2 (.int v))))) : va_D A (pcW cB cI cJ cZ h0 a0 a1 M0 (sg M1 2 v)) := h
theorem pcP_1_f4 {D : va_G} {H : Heap} {cB cI cJ cZ : ClassId} {h0 : Nat} {a0 : Nat → Nat} {a1 : Nat → Nat} {M0 : gS} {M1 : gS} {v : Int32} (h : va_P D vwCl ((pcW cB cI cJ cZ h0 a0 a1 M0 M1).set 3 (a0 2, .inr (1, ([.int (mg M1 0), .ref (a1 1), .int (mg M1 2), .ref (a1 3), .int (mg M1 4), .ref (a1 5)]).set 4 (.int v)))) H) : va_P D vwCl (pcW cB cI cJ cZ h0 a0 a1 M0 (sg M1 4 v)) H := h
theorem pcD_1_f4 {A : Nat → Prop} {cB cI cJ cZ : ClassId} {h0 : Nat} {a0 : Nat → Nat} {a1 : Nat → Nat} {M0 : gS} {M1 : gS} {v : Int32} (h : va_D A ((pcW cB cI cJ cZ h0 a0 a1 M0 M1).set 3 (a0 2, .inr (1, ([.int (mg M1 0), .ref (a1 1), .int (mg M1 2), .ref (a1 3), .int (mg M1 4), .ref (a1 5)]).set 4 (.int v))))) : va_D A (pcW cB cI cJ cZ h0 a0 a1 M0 (sg M1 4 v)) := h
theorem pcP_1_a1 {D : va_G} {H : Heap} {cB cI cJ cZ : ClassId} {h0 : Nat} {a0 : Nat → Nat} {a1 : Nat → Nat} {M0 : gS} {M1 : gS} {j : Nat} {v : Int32} (h : va_P D vwCl ((pcW cB cI cJ cZ h0 a0 a1 M0 M1).set 4 (a1 1, .inl (cI, 4, .inl (upd (ma M1 1) j v)))) H) : va_P D vwCl (pcW cB cI cJ cZ h0 a0 a1 M0 (sa M1 1 j v)) H := h
theorem pcD_1_a1 {A : Nat → Prop} {cB cI cJ cZ : ClassId} {h0 : Nat} {a0 : Nat → Nat} {a1 : Nat → Nat} {M0 : gS} {M1 : gS} {j : Nat} {v : Int32} (h : va_D A ((pcW cB cI cJ cZ h0 a0 a1 M0 M1).set 4 (a1 1, .inl (cI, 4, .inl (upd (ma M1 1) j v))))) : va_D A (pcW cB cI cJ cZ h0 a0 a1 M0 (sa M1 1 j v)) := h
theorem pcP_1_c1 {D : va_G} {H : Heap} {cB cI cJ cZ : ClassId} {h0 : Nat} {a0 : Nat → Nat} {a1 : Nat → Nat} {M0 : gS} {M1 : gS} {f : Nat → Int32} (h : va_P D vwCl ((pcW cB cI cJ cZ h0 a0 a1 M0 M1).set 4 (a1 1, .inl (cI, 4, .inl f))) H) : va_P D vwCl (pcW cB cI cJ cZ h0 a0 a1 M0 (sF M1 1 f)) H := h
theorem pcD_1_c1 {A : Nat → Prop} {cB cI cJ cZ : ClassId} {h0 : Nat} {a0 : Nat → Nat} {a1 : Nat → Nat} {M0 : gS} {M1 : gS} {f : Nat → Int32} (h : va_D A ((pcW cB cI cJ cZ h0 a0 a1 M0 M1).set 4 (a1 1, .inl (cI, 4, .inl f)))) : va_D A (pcW cB cI cJ cZ h0 a0 a1 M0 (sF M1 1 f)) := h
theorem pcP_1_a3 {D : va_G} {H : Heap} {cB cI cJ cZ : ClassId} {h0 : Nat} {a0 : Nat → Nat} {a1 : Nat → Nat} {M0 : gS} {M1 : gS} {j : Nat} {v : Int32} (h : va_P D vwCl ((pcW cB cI cJ cZ h0 a0 a1 M0 M1).set 5 (a1 3, .inl (cI, 4, .inl (upd (ma M1 3) j v)))) H) : va_P D vwCl (pcW cB cI cJ cZ h0 a0 a1 M0 (sa M1 3 j v)) H := h
theorem pcD_1_a3 {A : Nat → Prop} {cB cI cJ cZ : ClassId} {h0 : Nat} {a0 : Nat → Nat} {a1 : Nat → Nat} {M0 : gS} {M1 : gS} {j : Nat} {v : Int32} (h : va_D A ((pcW cB cI cJ cZ h0 a0 a1 M0 M1).set 5 (a1 3, .inl (cI, 4, .inl (upd (ma M1 3) j v))))) : va_D A (pcW cB cI cJ cZ h0 a0 a1 M0 (sa M1 3 j v)) := h
theorem pcP_1_c3 {D : va_G} {H : Heap} {cB cI cJ cZ : ClassId} {h0 : Nat} {a0 : Nat → Nat} {a1 : Nat → Nat} {M0 : gS} {M1 : gS} {f : Nat → Int32} (h : va_P D vwCl ((pcW cB cI cJ cZ h0 a0 a1 M0 M1).set 5 (a1 3, .inl (cI, 4, .inl f))) H) : va_P D vwCl (pcW cB cI cJ cZ h0 a0 a1 M0 (sF M1 3 f)) H := h
theorem pcD_1_c3 {A : Nat → Prop} {cB cI cJ cZ : ClassId} {h0 : Nat} {a0 : Nat → Nat} {a1 : Nat → Nat} {M0 : gS} {M1 : gS} {f : Nat → Int32} (h : va_D A ((pcW cB cI cJ cZ h0 a0 a1 M0 M1).set 5 (a1 3, .inl (cI, 4, .inl f)))) : va_D A (pcW cB cI cJ cZ h0 a0 a1 M0 (sF M1 3 f)) := h
theorem pcP_1_a5 {D : va_G} {H : Heap} {cB cI cJ cZ : ClassId} {h0 : Nat} {a0 : Nat → Nat} {a1 : Nat → Nat} {M0 : gS} {M1 : gS} {j : Nat} {v : Int32} (h : va_P D vwCl ((pcW cB cI cJ cZ h0 a0 a1 M0 M1).set 6 (a1 5, .inl (cI, 2, .inl (upd (ma M1 5) j v)))) H) : va_P D vwCl (pcW cB cI cJ cZ h0 a0 a1 M0 (sa M1 5 j v)) H := h
theorem pcD_1_a5 {A : Nat → Prop} {cB cI cJ cZ : ClassId} {h0 : Nat} {a0 : Nat → Nat} {a1 : Nat → Nat} {M0 : gS} {M1 : gS} {j : Nat} {v : Int32} (h : va_D A ((pcW cB cI cJ cZ h0 a0 a1 M0 M1).set 6 (a1 5, .inl (cI, 2, .inl (upd (ma M1 5) j v))))) : va_D A (pcW cB cI cJ cZ h0 a0 a1 M0 (sa M1 5 j v)) := h
theorem pcP_1_c5 {D : va_G} {H : Heap} {cB cI cJ cZ : ClassId} {h0 : Nat} {a0 : Nat → Nat} {a1 : Nat → Nat} {M0 : gS} {M1 : gS} {f : Nat → Int32} (h : va_P D vwCl ((pcW cB cI cJ cZ h0 a0 a1 M0 M1).set 6 (a1 5, .inl (cI, 2, .inl f))) H) : va_P D vwCl (pcW cB cI cJ cZ h0 a0 a1 M0 (sF M1 5 f)) H := h
theorem pcD_1_c5 {A : Nat → Prop} {cB cI cJ cZ : ClassId} {h0 : Nat} {a0 : Nat → Nat} {a1 : Nat → Nat} {M0 : gS} {M1 : gS} {f : Nat → Int32} (h : va_D A ((pcW cB cI cJ cZ h0 a0 a1 M0 M1).set 6 (a1 5, .inl (cI, 2, .inl f)))) : va_D A (pcW cB cI cJ cZ h0 a0 a1 M0 (sF M1 5 f)) := h
theorem pcpV {s : State} {dC : Nat → ClassId} {dI : Nat → Nat → Nat} {A : Nat → Prop} {cB cI cJ cZ : ClassId} {h0 : Nat} {a0 : Nat → Nat} {a1 : Nat → Nat} {M0 : gS} {M1 : gS} {H : Heap} {As : List Value} (hK : va_K (dC, dI) vwCl (gT cB cI cJ cZ) s) (hP : va_P (dC, dI) vwCl (pcW cB cI cJ cZ h0 a0 a1 M0 M1) H) (hD : va_D A (pcW cB cI cJ cZ h0 a0 a1 M0 M1)) : PreV s H RX5 h0 (va_Pc (.ref h0 :: As) (pcI dC dI cB cI cJ cZ h0 a0 a1 M0 M1 H.size)) As := ⟨fun a U g mk q => by obtain ⟨q0, q1, qP, qK, qD⟩ := q; exact ⟨q0, q1, qP, va_K.moved (u := U) (U := U.calling g mk a) (Vm.Alike.refl U.vm) qK, qD⟩, va_recv hK hP (ci := 5) (q0 := 0) rfl rfl, fun U hU hW => ⟨rfl, by rw [hU], by rw [hU]; exact hP, va_K.moved hW.alike hK, hD.weaken (fun _ _ _ _ => trivial)⟩⟩
theorem pcpS {s : State} {dC : Nat → ClassId} {dI : Nat → Nat → Nat} {A : Nat → Prop} {cB cI cJ cZ : ClassId} {h0 : Nat} {a0 : Nat → Nat} {a1 : Nat → Nat} {M0 : gS} {M1 : gS} {H : Heap} {As : List Value} (hK : va_K (dC, dI) vwCl (gT cB cI cJ cZ) s) (hP : va_P (dC, dI) vwCl (pcW cB cI cJ cZ h0 a0 a1 M0 M1) H) (hD : va_D A (pcW cB cI cJ cZ h0 a0 a1 M0 M1)) : PreS s H (va_Pc As (pcI dC dI cB cI cJ cZ h0 a0 a1 M0 M1 H.size)) As := ⟨fun a U g mk q => by obtain ⟨q0, q1, qP, qK, qD⟩ := q; exact ⟨q0, q1, qP, va_K.moved (u := U) (U := U.calling g mk a) (Vm.Alike.refl U.vm) qK, qD⟩, fun U hU hW => ⟨rfl, by rw [hU], by rw [hU]; exact hP, va_K.moved hW.alike hK, hD.weaken (fun _ _ _ _ => trivial)⟩⟩

abbrev poW (cB cI cJ cZ : ClassId) (h0 : Nat) (a0 : Nat → Nat) (o0 : Option Nat) (h1 : Nat) (a1 : Nat → Nat) (h2 : Nat) (a2 : Nat → Nat) (M0 : gS) (M1 : gS) (M2 : gS) : va_W := [(h0, .inr (5, [.ref (a0 0), .ref (a0 1), va_rf o0, .int (mg M0 3)])), (a0 0, .inl (cI, 2048, .inl (ma M0 0))), (a0 1, .inl (cI, 2048, .inl (ma M0 1))), (h1, .inr (1, [.int (mg M1 0), .ref (a1 1), .int (mg M1 2), .ref (a1 3), .int (mg M1 4), .ref (a1 5)])), (a1 1, .inl (cI, 4, .inl (ma M1 1))), (a1 3, .inl (cI, 4, .inl (ma M1 3))), (a1 5, .inl (cI, 2, .inl (ma M1 5))), (h2, .inr (6, [.int (mg M2 0), .int (mg M2 1), .int (mg M2 2), .int (mg M2 3), .int (mg M2 4), .int (mg M2 5), .int (mg M2 6), .ref (a2 7), .ref (a2 8), .ref (a2 9)])), (a2 7, .inl (cI, 2, .inl (ma M2 7))), (a2 8, .inl (cI, 2, .inl (ma M2 8))), (a2 9, .inl (cI, 2, .inl (ma M2 9)))]
abbrev poI (dC : Nat → ClassId) (dI : Nat → Nat → Nat) (cB cI cJ cZ : ClassId) (h0 : Nat) (a0 : Nat → Nat) (o0 : Option Nat) (h1 : Nat) (a1 : Nat → Nat) (h2 : Nat) (a2 : Nat → Nat) (M0 : gS) (M1 : gS) (M2 : gS) (sz : Nat) : State → Prop := fun U => U.heap.size = sz ∧ va_P (dC, dI) vwCl (poW cB cI cJ cZ h0 a0 o0 h1 a1 h2 a2 M0 M1 M2) U.heap ∧ va_K (dC, dI) vwCl (gT cB cI cJ cZ) U ∧ va_D (fun _ => True) (poW cB cI cJ cZ h0 a0 o0 h1 a1 h2 a2 M0 M1 M2)
abbrev poB (dC : Nat → ClassId) (dI : Nat → Nat → Nat) (cB cI cJ cZ : ClassId) (h0 : Nat) (a0 : Nat → Nat) (o0 : Option Nat) (h1 : Nat) (a1 : Nat → Nat) (h2 : Nat) (a2 : Nat → Nat) (A : Nat → Prop) (u : gS × gS × gS) (t : State) : Prop := match u with
  | (M0, M1, M2) => va_P (dC, dI) vwCl (poW cB cI cJ cZ h0 a0 o0 h1 a1 h2 a2 M0 M1 M2) t.heap ∧ va_K (dC, dI) vwCl (gT cB cI cJ cZ) t ∧ va_D A (poW cB cI cJ cZ h0 a0 o0 h1 a1 h2 a2 M0 M1 M2)
theorem poP_0_f2 {D : va_G} {H : Heap} {cB cI cJ cZ : ClassId} {h0 : Nat} {a0 : Nat → Nat} {o0 : Option Nat} {h1 : Nat} {a1 : Nat → Nat} {h2 : Nat} {a2 : Nat → Nat} {M0 : gS} {M1 : gS} {M2 : gS} {v : Nat} (h : va_P D vwCl ((poW cB cI cJ cZ h0 a0 o0 h1 a1 h2 a2 M0 M1 M2).set 0 (h0, .inr (5, ([.ref (a0 0), .ref (a0 1), va_rf o0, .int (mg M0 3)]).set 2 (.ref v)))) H) : va_P D vwCl (poW cB cI cJ cZ h0 a0 (some v) h1 a1 h2 a2 M0 M1 M2) H := h
theorem poD_0_f2 {A : Nat → Prop} {cB cI cJ cZ : ClassId} {h0 : Nat} {a0 : Nat → Nat} {o0 : Option Nat} {h1 : Nat} {a1 : Nat → Nat} {h2 : Nat} {a2 : Nat → Nat} {M0 : gS} {M1 : gS} {M2 : gS} {v : Nat} (h : va_D A ((poW cB cI cJ cZ h0 a0 o0 h1 a1 h2 a2 M0 M1 M2).set 0 (h0, .inr (5, ([.ref (a0 0), .ref (a0 1), va_rf o0, .int (mg M0 3)]).set 2 (.ref v))))) : va_D A (poW cB cI cJ cZ h0 a0 (some v) h1 a1 h2 a2 M0 M1 M2) := h
theorem poP_0_f3 {D : va_G} {H : Heap} {cB cI cJ cZ : ClassId} {h0 : Nat} {a0 : Nat → Nat} {o0 : Option Nat} {h1 : Nat} {a1 : Nat → Nat} {h2 : Nat} {a2 : Nat → Nat} {M0 : gS} {M1 : gS} {M2 : gS} {v : Int32} (h : va_P D vwCl ((poW cB cI cJ cZ h0 a0 o0 h1 a1 h2 a2 M0 M1 M2).set 0 (h0, .inr (5, ([.ref (a0 0), .ref (a0 1), va_rf o0, .int (mg M0 3)]).set 3 (.int v)))) H) : va_P D vwCl (poW cB cI cJ cZ h0 a0 o0 h1 a1 h2 a2 (sg M0 3 v) M1 M2) H := h
theorem poD_0_f3 {A : Nat → Prop} {cB cI cJ cZ : ClassId} {h0 : Nat} {a0 : Nat → Nat} {o0 : Option Nat} {h1 : Nat} {a1 : Nat → Nat} {h2 : Nat} {a2 : Nat → Nat} {M0 : gS} {M1 : gS} {M2 : gS} {v : Int32} (h : va_D A ((poW cB cI cJ cZ h0 a0 o0 h1 a1 h2 a2 M0 M1 M2).set 0 (h0, .inr (5, ([.ref (a0 0), .ref (a0 1), va_rf o0, .int (mg M0 3)]).set 3 (.int v))))) : va_D A (poW cB cI cJ cZ h0 a0 o0 h1 a1 h2 a2 (sg M0 3 v) M1 M2) := h
theorem poP_0_a0 {D : va_G} {H : Heap} {cB cI cJ cZ : ClassId} {h0 : Nat} {a0 : Nat → Nat} {o0 : Option Nat} {h1 : Nat} {a1 : Nat → Nat} {h2 : Nat} {a2 : Nat → Nat} {M0 : gS} {M1 : gS} {M2 : gS} {j : Nat} {v : Int32} (h : va_P D vwCl ((poW cB cI cJ cZ h0 a0 o0 h1 a1 h2 a2 M0 M1 M2).set 1 (a0 0, .inl (cI, 2048, .inl (upd (ma M0 0) j v)))) H) : va_P D vwCl (poW cB cI cJ cZ h0 a0 o0 h1 a1 h2 a2 (sa M0 0 j v) M1 M2) H := h
theorem poD_0_a0 {A : Nat → Prop} {cB cI cJ cZ : ClassId} {h0 : Nat} {a0 : Nat → Nat} {o0 : Option Nat} {h1 : Nat} {a1 : Nat → Nat} {h2 : Nat} {a2 : Nat → Nat} {M0 : gS} {M1 : gS} {M2 : gS} {j : Nat} {v : Int32} (h : va_D A ((poW cB cI cJ cZ h0 a0 o0 h1 a1 h2 a2 M0 M1 M2).set 1 (a0 0, .inl (cI, 2048, .inl (upd (ma M0 0) j v))))) : va_D A (poW cB cI cJ cZ h0 a0 o0 h1 a1 h2 a2 (sa M0 0 j v) M1 M2) := h
theorem poP_0_c0 {D : va_G} {H : Heap} {cB cI cJ cZ : ClassId} {h0 : Nat} {a0 : Nat → Nat} {o0 : Option Nat} {h1 : Nat} {a1 : Nat → Nat} {h2 : Nat} {a2 : Nat → Nat} {M0 : gS} {M1 : gS} {M2 : gS} {f : Nat → Int32} (h : va_P D vwCl ((poW cB cI cJ cZ h0 a0 o0 h1 a1 h2 a2 M0 M1 M2).set 1 (a0 0, .inl (cI, 2048, .inl f))) H) : va_P D vwCl (poW cB cI cJ cZ h0 a0 o0 h1 a1 h2 a2 (sF M0 0 f) M1 M2) H := h
theorem poD_0_c0 {A : Nat → Prop} {cB cI cJ cZ : ClassId} {h0 : Nat} {a0 : Nat → Nat} {o0 : Option Nat} {h1 : Nat} {a1 : Nat → Nat} {h2 : Nat} {a2 : Nat → Nat} {M0 : gS} {M1 : gS} {M2 : gS} {f : Nat → Int32} (h : va_D A ((poW cB cI cJ cZ h0 a0 o0 h1 a1 h2 a2 M0 M1 M2).set 1 (a0 0, .inl (cI, 2048, .inl f)))) : va_D A (poW cB cI cJ cZ h0 a0 o0 h1 a1 h2 a2 (sF M0 0 f) M1 M2) := h
theorem poP_0_a1 {D : va_G} {H : Heap} {cB cI cJ cZ : ClassId} {h0 : Nat} {a0 : Nat → Nat} {o0 : Option Nat} {h1 : Nat} {a1 : Nat → Nat} {h2 : Nat} {a2 : Nat → Nat} {M0 : gS} {M1 : gS} {M2 : gS} {j : Nat} {v : Int32} (h : va_P D vwCl ((poW cB cI cJ cZ h0 a0 o0 h1 a1 h2 a2 M0 M1 M2).set 2 (a0 1, .inl (cI, 2048, .inl (upd (ma M0 1) j v)))) H) : va_P D vwCl (poW cB cI cJ cZ h0 a0 o0 h1 a1 h2 a2 (sa M0 1 j v) M1 M2) H := h
theorem poD_0_a1 {A : Nat → Prop} {cB cI cJ cZ : ClassId} {h0 : Nat} {a0 : Nat → Nat} {o0 : Option Nat} {h1 : Nat} {a1 : Nat → Nat} {h2 : Nat} {a2 : Nat → Nat} {M0 : gS} {M1 : gS} {M2 : gS} {j : Nat} {v : Int32} (h : va_D A ((poW cB cI cJ cZ h0 a0 o0 h1 a1 h2 a2 M0 M1 M2).set 2 (a0 1, .inl (cI, 2048, .inl (upd (ma M0 1) j v))))) : va_D A (poW cB cI cJ cZ h0 a0 o0 h1 a1 h2 a2 (sa M0 1 j v) M1 M2) := h
theorem poP_0_c1 {D : va_G} {H : Heap} {cB cI cJ cZ : ClassId} {h0 : Nat} {a0 : Nat → Nat} {o0 : Option Nat} {h1 : Nat} {a1 : Nat → Nat} {h2 : Nat} {a2 : Nat → Nat} {M0 : gS} {M1 : gS} {M2 : gS} {f : Nat → Int32} (h : va_P D vwCl ((poW cB cI cJ cZ h0 a0 o0 h1 a1 h2 a2 M0 M1 M2).set 2 (a0 1, .inl (cI, 2048, .inl f))) H) : va_P D vwCl (poW cB cI cJ cZ h0 a0 o0 h1 a1 h2 a2 (sF M0 1 f) M1 M2) H := h
theorem poD_0_c1 {A : Nat → Prop} {cB cI cJ cZ : ClassId} {h0 : Nat} {a0 : Nat → Nat} {o0 : Option Nat} {h1 : Nat} {a1 : Nat → Nat} {h2 : Nat} {a2 : Nat → Nat} {M0 : gS} {M1 : gS} {M2 : gS} {f : Nat → Int32} (h : va_D A ((poW cB cI cJ cZ h0 a0 o0 h1 a1 h2 a2 M0 M1 M2).set 2 (a0 1, .inl (cI, 2048, .inl f)))) : va_D A (poW cB cI cJ cZ h0 a0 o0 h1 a1 h2 a2 (sF M0 1 f) M1 M2) := h
theorem poP_1_f0 {D : va_G} {H : Heap} {cB cI cJ cZ : ClassId} {h0 : Nat} {a0 : Nat → Nat} {o0 : Option Nat} {h1 : Nat} {a1 : Nat → Nat} {h2 : Nat} {a2 : Nat → Nat} {M0 : gS} {M1 : gS} {M2 : gS} {v : Int32} (h : va_P D vwCl ((poW cB cI cJ cZ h0 a0 o0 h1 a1 h2 a2 M0 M1 M2).set 3 (h1, .inr (1, ([.int (mg M1 0), .ref (a1 1), .int (mg M1 2), .ref (a1 3), .int (mg M1 4), .ref (a1 5)]).set 0 (.int v)))) H) : va_P D vwCl (poW cB cI cJ cZ h0 a0 o0 h1 a1 h2 a2 M0 (sg M1 0 v) M2) H := h
theorem poD_1_f0 {A : Nat → Prop} {cB cI cJ cZ : ClassId} {h0 : Nat} {a0 : Nat → Nat} {o0 : Option Nat} {h1 : Nat} {a1 : Nat → Nat} {h2 : Nat} {a2 : Nat → Nat} {M0 : gS} {M1 : gS} {M2 : gS} {v : Int32} (h : va_D A ((poW cB cI cJ cZ h0 a0 o0 h1 a1 h2 a2 M0 M1 M2).set 3 (h1, .inr (1, ([.int (mg M1 0), .ref (a1 1), .int (mg M1 2), .ref (a1 3), .int (mg M1 4), .ref (a1 5)]).set 0 (.int v))))) : va_D A (poW cB cI cJ cZ h0 a0 o0 h1 a1 h2 a2 M0 (sg M1 0 v) M2) := h
theorem poP_1_f2 {D : va_G} {H : Heap} {cB cI cJ cZ : ClassId} {h0 : Nat} {a0 : Nat → Nat} {o0 : Option Nat} {h1 : Nat} {a1 : Nat → Nat} {h2 : Nat} {a2 : Nat → Nat} {M0 : gS} {M1 : gS} {M2 : gS} {v : Int32} (h : va_P D vwCl ((poW cB cI cJ cZ h0 a0 o0 h1 a1 h2 a2 M0 M1 M2).set 3 (h1, .inr (1, ([.int (mg M1 0), .ref (a1 1), .int (mg M1 2), .ref (a1 3), .int (mg M1 4), .ref (a1 5)]).set 2 (.int v)))) H) : va_P D vwCl (poW cB cI cJ cZ h0 a0 o0 h1 a1 h2 a2 M0 (sg M1 2 v) M2) H := h
theorem poD_1_f2 {A : Nat → Prop} {cB cI cJ cZ : ClassId} {h0 : Nat} {a0 : Nat → Nat} {o0 : Option Nat} {h1 : Nat} {a1 : Nat → Nat} {h2 : Nat} {a2 : Nat → Nat} {M0 : gS} {M1 : gS} {M2 : gS} {v : Int32} (h : va_D A ((poW cB cI cJ cZ h0 a0 o0 h1 a1 h2 a2 M0 M1 M2).set 3 (h1, .inr (1, ([.int (mg M1 0), .ref (a1 1), .int (mg M1 2), .ref (a1 3), .int (mg M1 4), .ref (a1 5)]).set 2 (.int v))))) : va_D A (poW cB cI cJ cZ h0 a0 o0 h1 a1 h2 a2 M0 (sg M1 2 v) M2) := h
theorem poP_1_f4 {D : va_G} {H : Heap} {cB cI cJ cZ : ClassId} {h0 : Nat} {a0 : Nat → Nat} {o0 : Option Nat} {h1 : Nat} {a1 : Nat → Nat} {h2 : Nat} {a2 : Nat → Nat} {M0 : gS} {M1 : gS} {M2 : gS} {v : Int32} (h : va_P D vwCl ((poW cB cI cJ cZ h0 a0 o0 h1 a1 h2 a2 M0 M1 M2).set 3 (h1, .inr (1, ([.int (mg M1 0), .ref (a1 1), .int (mg M1 2), .ref (a1 3), .int (mg M1 4), .ref (a1 5)]).set 4 (.int v)))) H) : va_P D vwCl (poW cB cI cJ cZ h0 a0 o0 h1 a1 h2 a2 M0 (sg M1 4 v) M2) H := h
theorem poD_1_f4 {A : Nat → Prop} {cB cI cJ cZ : ClassId} {h0 : Nat} {a0 : Nat → Nat} {o0 : Option Nat} {h1 : Nat} {a1 : Nat → Nat} {h2 : Nat} {a2 : Nat → Nat} {M0 : gS} {M1 : gS} {M2 : gS} {v : Int32} (h : va_D A ((poW cB cI cJ cZ h0 a0 o0 h1 a1 h2 a2 M0 M1 M2).set 3 (h1, .inr (1, ([.int (mg M1 0), .ref (a1 1), .int (mg M1 2), .ref (a1 3), .int (mg M1 4), .ref (a1 5)]).set 4 (.int v))))) : va_D A (poW cB cI cJ cZ h0 a0 o0 h1 a1 h2 a2 M0 (sg M1 4 v) M2) := h
theorem poP_1_a1 {D : va_G} {H : Heap} {cB cI cJ cZ : ClassId} {h0 : Nat} {a0 : Nat → Nat} {o0 : Option Nat} {h1 : Nat} {a1 : Nat → Nat} {h2 : Nat} {a2 : Nat → Nat} {M0 : gS} {M1 : gS} {M2 : gS} {j : Nat} {v : Int32} (h : va_P D vwCl ((poW cB cI cJ cZ h0 a0 o0 h1 a1 h2 a2 M0 M1 M2).set 4 (a1 1, .inl (cI, 4, .inl (upd (ma M1 1) j v)))) H) : va_P D vwCl (poW cB cI cJ cZ h0 a0 o0 h1 a1 h2 a2 M0 (sa M1 1 j v) M2) H := h
theorem poD_1_a1 {A : Nat → Prop} {cB cI cJ cZ : ClassId} {h0 : Nat} {a0 : Nat → Nat} {o0 : Option Nat} {h1 : Nat} {a1 : Nat → Nat} {h2 : Nat} {a2 : Nat → Nat} {M0 : gS} {M1 : gS} {M2 : gS} {j : Nat} {v : Int32} (h : va_D A ((poW cB cI cJ cZ h0 a0 o0 h1 a1 h2 a2 M0 M1 M2).set 4 (a1 1, .inl (cI, 4, .inl (upd (ma M1 1) j v))))) : va_D A (poW cB cI cJ cZ h0 a0 o0 h1 a1 h2 a2 M0 (sa M1 1 j v) M2) := h
theorem poP_1_c1 {D : va_G} {H : Heap} {cB cI cJ cZ : ClassId} {h0 : Nat} {a0 : Nat → Nat} {o0 : Option Nat} {h1 : Nat} {a1 : Nat → Nat} {h2 : Nat} {a2 : Nat → Nat} {M0 : gS} {M1 : gS} {M2 : gS} {f : Nat → Int32} (h : va_P D vwCl ((poW cB cI cJ cZ h0 a0 o0 h1 a1 h2 a2 M0 M1 M2).set 4 (a1 1, .inl (cI, 4, .inl f))) H) : va_P D vwCl (poW cB cI cJ cZ h0 a0 o0 h1 a1 h2 a2 M0 (sF M1 1 f) M2) H := h
theorem poD_1_c1 {A : Nat → Prop} {cB cI cJ cZ : ClassId} {h0 : Nat} {a0 : Nat → Nat} {o0 : Option Nat} {h1 : Nat} {a1 : Nat → Nat} {h2 : Nat} {a2 : Nat → Nat} {M0 : gS} {M1 : gS} {M2 : gS} {f : Nat → Int32} (h : va_D A ((poW cB cI cJ cZ h0 a0 o0 h1 a1 h2 a2 M0 M1 M2).set 4 (a1 1, .inl (cI, 4, .inl f)))) : va_D A (poW cB cI cJ cZ h0 a0 o0 h1 a1 h2 a2 M0 (sF M1 1 f) M2) := h
theorem poP_1_a3 {D : va_G} {H : Heap} {cB cI cJ cZ : ClassId} {h0 : Nat} {a0 : Nat → Nat} {o0 : Option Nat} {h1 : Nat} {a1 : Nat → Nat} {h2 : Nat} {a2 : Nat → Nat} {M0 : gS} {M1 : gS} {M2 : gS} {j : Nat} {v : Int32} (h : va_P D vwCl ((poW cB cI cJ cZ h0 a0 o0 h1 a1 h2 a2 M0 M1 M2).set 5 (a1 3, .inl (cI, 4, .inl (upd (ma M1 3) j v)))) H) : va_P D vwCl (poW cB cI cJ cZ h0 a0 o0 h1 a1 h2 a2 M0 (sa M1 3 j v) M2) H := h
theorem poD_1_a3 {A : Nat → Prop} {cB cI cJ cZ : ClassId} {h0 : Nat} {a0 : Nat → Nat} {o0 : Option Nat} {h1 : Nat} {a1 : Nat → Nat} {h2 : Nat} {a2 : Nat → Nat} {M0 : gS} {M1 : gS} {M2 : gS} {j : Nat} {v : Int32} (h : va_D A ((poW cB cI cJ cZ h0 a0 o0 h1 a1 h2 a2 M0 M1 M2).set 5 (a1 3, .inl (cI, 4, .inl (upd (ma M1 3) j v))))) : va_D A (poW cB cI cJ cZ h0 a0 o0 h1 a1 h2 a2 M0 (sa M1 3 j v) M2) := h
theorem poP_1_c3 {D : va_G} {H : Heap} {cB cI cJ cZ : ClassId} {h0 : Nat} {a0 : Nat → Nat} {o0 : Option Nat} {h1 : Nat} {a1 : Nat → Nat} {h2 : Nat} {a2 : Nat → Nat} {M0 : gS} {M1 : gS} {M2 : gS} {f : Nat → Int32} (h : va_P D vwCl ((poW cB cI cJ cZ h0 a0 o0 h1 a1 h2 a2 M0 M1 M2).set 5 (a1 3, .inl (cI, 4, .inl f))) H) : va_P D vwCl (poW cB cI cJ cZ h0 a0 o0 h1 a1 h2 a2 M0 (sF M1 3 f) M2) H := h
theorem poD_1_c3 {A : Nat → Prop} {cB cI cJ cZ : ClassId} {h0 : Nat} {a0 : Nat → Nat} {o0 : Option Nat} {h1 : Nat} {a1 : Nat → Nat} {h2 : Nat} {a2 : Nat → Nat} {M0 : gS} {M1 : gS} {M2 : gS} {f : Nat → Int32} (h : va_D A ((poW cB cI cJ cZ h0 a0 o0 h1 a1 h2 a2 M0 M1 M2).set 5 (a1 3, .inl (cI, 4, .inl f)))) : va_D A (poW cB cI cJ cZ h0 a0 o0 h1 a1 h2 a2 M0 (sF M1 3 f) M2) := h
theorem poP_1_a5 {D : va_G} {H : Heap} {cB cI cJ cZ : ClassId} {h0 : Nat} {a0 : Nat → Nat} {o0 : Option Nat} {h1 : Nat} {a1 : Nat → Nat} {h2 : Nat} {a2 : Nat → Nat} {M0 : gS} {M1 : gS} {M2 : gS} {j : Nat} {v : Int32} (h : va_P D vwCl ((poW cB cI cJ cZ h0 a0 o0 h1 a1 h2 a2 M0 M1 M2).set 6 (a1 5, .inl (cI, 2, .inl (upd (ma M1 5) j v)))) H) : va_P D vwCl (poW cB cI cJ cZ h0 a0 o0 h1 a1 h2 a2 M0 (sa M1 5 j v) M2) H := h
theorem poD_1_a5 {A : Nat → Prop} {cB cI cJ cZ : ClassId} {h0 : Nat} {a0 : Nat → Nat} {o0 : Option Nat} {h1 : Nat} {a1 : Nat → Nat} {h2 : Nat} {a2 : Nat → Nat} {M0 : gS} {M1 : gS} {M2 : gS} {j : Nat} {v : Int32} (h : va_D A ((poW cB cI cJ cZ h0 a0 o0 h1 a1 h2 a2 M0 M1 M2).set 6 (a1 5, .inl (cI, 2, .inl (upd (ma M1 5) j v))))) : va_D A (poW cB cI cJ cZ h0 a0 o0 h1 a1 h2 a2 M0 (sa M1 5 j v) M2) := h
theorem poP_1_c5 {D : va_G} {H : Heap} {cB cI cJ cZ : ClassId} {h0 : Nat} {a0 : Nat → Nat} {o0 : Option Nat} {h1 : Nat} {a1 : Nat → Nat} {h2 : Nat} {a2 : Nat → Nat} {M0 : gS} {M1 : gS} {M2 : gS} {f : Nat → Int32} (h : va_P D vwCl ((poW cB cI cJ cZ h0 a0 o0 h1 a1 h2 a2 M0 M1 M2).set 6 (a1 5, .inl (cI, 2, .inl f))) H) : va_P D vwCl (poW cB cI cJ cZ h0 a0 o0 h1 a1 h2 a2 M0 (sF M1 5 f) M2) H := h
theorem poD_1_c5 {A : Nat → Prop} {cB cI cJ cZ : ClassId} {h0 : Nat} {a0 : Nat → Nat} {o0 : Option Nat} {h1 : Nat} {a1 : Nat → Nat} {h2 : Nat} {a2 : Nat → Nat} {M0 : gS} {M1 : gS} {M2 : gS} {f : Nat → Int32} (h : va_D A ((poW cB cI cJ cZ h0 a0 o0 h1 a1 h2 a2 M0 M1 M2).set 6 (a1 5, .inl (cI, 2, .inl f)))) : va_D A (poW cB cI cJ cZ h0 a0 o0 h1 a1 h2 a2 M0 (sF M1 5 f) M2) := h
theorem poP_2_f0 {D : va_G} {H : Heap} {cB cI cJ cZ : ClassId} {h0 : Nat} {a0 : Nat → Nat} {o0 : Option Nat} {h1 : Nat} {a1 : Nat → Nat} {h2 : Nat} {a2 : Nat → Nat} {M0 : gS} {M1 : gS} {M2 : gS} {v : Int32} (h : va_P D vwCl ((poW cB cI cJ cZ h0 a0 o0 h1 a1 h2 a2 M0 M1 M2).set 7 (h2, .inr (6, ([.int (mg M2 0), .int (mg M2 1), .int (mg M2 2), .int (mg M2 3), .int (mg M2 4), .int (mg M2 5), .int (mg M2 6), .ref (a2 7), .ref (a2 8), .ref (a2 9)]).set 0 (.int v)))) H) : va_P D vwCl (poW cB cI cJ cZ h0 a0 o0 h1 a1 h2 a2 M0 M1 (sg M2 0 v)) H := h
theorem poD_2_f0 {A : Nat → Prop} {cB cI cJ cZ : ClassId} {h0 : Nat} {a0 : Nat → Nat} {o0 : Option Nat} {h1 : Nat} {a1 : Nat → Nat} {h2 : Nat} {a2 : Nat → Nat} {M0 : gS} {M1 : gS} {M2 : gS} {v : Int32} (h : va_D A ((poW cB cI cJ cZ h0 a0 o0 h1 a1 h2 a2 M0 M1 M2).set 7 (h2, .inr (6, ([.int (mg M2 0), .int (mg M2 1), .int (mg M2 2), .int (mg M2 3), .int (mg M2 4), .int (mg M2 5), .int (mg M2 6), .ref (a2 7), .ref (a2 8), .ref (a2 9)]).set 0 (.int v))))) : va_D A (poW cB cI cJ cZ h0 a0 o0 h1 a1 h2 a2 M0 M1 (sg M2 0 v)) := h
theorem poP_2_f1 {D : va_G} {H : Heap} {cB cI cJ cZ : ClassId} {h0 : Nat} {a0 : Nat → Nat} {o0 : Option Nat} {h1 : Nat} {a1 : Nat → Nat} {h2 : Nat} {a2 : Nat → Nat} {M0 : gS} {M1 : gS} {M2 : gS} {v : Int32} (h : va_P D vwCl ((poW cB cI cJ cZ h0 a0 o0 h1 a1 h2 a2 M0 M1 M2).set 7 (h2, .inr (6, ([.int (mg M2 0), .int (mg M2 1), .int (mg M2 2), .int (mg M2 3), .int (mg M2 4), .int (mg M2 5), .int (mg M2 6), .ref (a2 7), .ref (a2 8), .ref (a2 9)]).set 1 (.int v)))) H) : va_P D vwCl (poW cB cI cJ cZ h0 a0 o0 h1 a1 h2 a2 M0 M1 (sg M2 1 v)) H := h
theorem poD_2_f1 {A : Nat → Prop} {cB cI cJ cZ : ClassId} {h0 : Nat} {a0 : Nat → Nat} {o0 : Option Nat} {h1 : Nat} {a1 : Nat → Nat} {h2 : Nat} {a2 : Nat → Nat} {M0 : gS} {M1 : gS} {M2 : gS} {v : Int32} (h : va_D A ((poW cB cI cJ cZ h0 a0 o0 h1 a1 h2 a2 M0 M1 M2).set 7 (h2, .inr (6, ([.int (mg M2 0), .int (mg M2 1), .int (mg M2 2), .int (mg M2 3), .int (mg M2 4), .int (mg M2 5), .int (mg M2 6), .ref (a2 7), .ref (a2 8), .ref (a2 9)]).set 1 (.int v))))) : va_D A (poW cB cI cJ cZ h0 a0 o0 h1 a1 h2 a2 M0 M1 (sg M2 1 v)) := h
theorem poP_2_f2 {D : va_G} {H : Heap} {cB cI cJ cZ : ClassId} {h0 : Nat} {a0 : Nat → Nat} {o0 : Option Nat} {h1 : Nat} {a1 : Nat → Nat} {h2 : Nat} {a2 : Nat → Nat} {M0 : gS} {M1 : gS} {M2 : gS} {v : Int32} (h : va_P D vwCl ((poW cB cI cJ cZ h0 a0 o0 h1 a1 h2 a2 M0 M1 M2).set 7 (h2, .inr (6, ([.int (mg M2 0), .int (mg M2 1), .int (mg M2 2), .int (mg M2 3), .int (mg M2 4), .int (mg M2 5), .int (mg M2 6), .ref (a2 7), .ref (a2 8), .ref (a2 9)]).set 2 (.int v)))) H) : va_P D vwCl (poW cB cI cJ cZ h0 a0 o0 h1 a1 h2 a2 M0 M1 (sg M2 2 v)) H := h
theorem poD_2_f2 {A : Nat → Prop} {cB cI cJ cZ : ClassId} {h0 : Nat} {a0 : Nat → Nat} {o0 : Option Nat} {h1 : Nat} {a1 : Nat → Nat} {h2 : Nat} {a2 : Nat → Nat} {M0 : gS} {M1 : gS} {M2 : gS} {v : Int32} (h : va_D A ((poW cB cI cJ cZ h0 a0 o0 h1 a1 h2 a2 M0 M1 M2).set 7 (h2, .inr (6, ([.int (mg M2 0), .int (mg M2 1), .int (mg M2 2), .int (mg M2 3), .int (mg M2 4), .int (mg M2 5), .int (mg M2 6), .ref (a2 7), .ref (a2 8), .ref (a2 9)]).set 2 (.int v))))) : va_D A (poW cB cI cJ cZ h0 a0 o0 h1 a1 h2 a2 M0 M1 (sg M2 2 v)) := h
theorem poP_2_f3 {D : va_G} {H : Heap} {cB cI cJ cZ : ClassId} {h0 : Nat} {a0 : Nat → Nat} {o0 : Option Nat} {h1 : Nat} {a1 : Nat → Nat} {h2 : Nat} {a2 : Nat → Nat} {M0 : gS} {M1 : gS} {M2 : gS} {v : Int32} (h : va_P D vwCl ((poW cB cI cJ cZ h0 a0 o0 h1 a1 h2 a2 M0 M1 M2).set 7 (h2, .inr (6, ([.int (mg M2 0), .int (mg M2 1), .int (mg M2 2), .int (mg M2 3), .int (mg M2 4), .int (mg M2 5), .int (mg M2 6), .ref (a2 7), .ref (a2 8), .ref (a2 9)]).set 3 (.int v)))) H) : va_P D vwCl (poW cB cI cJ cZ h0 a0 o0 h1 a1 h2 a2 M0 M1 (sg M2 3 v)) H := h
theorem poD_2_f3 {A : Nat → Prop} {cB cI cJ cZ : ClassId} {h0 : Nat} {a0 : Nat → Nat} {o0 : Option Nat} {h1 : Nat} {a1 : Nat → Nat} {h2 : Nat} {a2 : Nat → Nat} {M0 : gS} {M1 : gS} {M2 : gS} {v : Int32} (h : va_D A ((poW cB cI cJ cZ h0 a0 o0 h1 a1 h2 a2 M0 M1 M2).set 7 (h2, .inr (6, ([.int (mg M2 0), .int (mg M2 1), .int (mg M2 2), .int (mg M2 3), .int (mg M2 4), .int (mg M2 5), .int (mg M2 6), .ref (a2 7), .ref (a2 8), .ref (a2 9)]).set 3 (.int v))))) : va_D A (poW cB cI cJ cZ h0 a0 o0 h1 a1 h2 a2 M0 M1 (sg M2 3 v)) := h
theorem poP_2_f4 {D : va_G} {H : Heap} {cB cI cJ cZ : ClassId} {h0 : Nat} {a0 : Nat → Nat} {o0 : Option Nat} {h1 : Nat} {a1 : Nat → Nat} {h2 : Nat} {a2 : Nat → Nat} {M0 : gS} {M1 : gS} {M2 : gS} {v : Int32} (h : va_P D vwCl ((poW cB cI cJ cZ h0 a0 o0 h1 a1 h2 a2 M0 M1 M2).set 7 (h2, .inr (6, ([.int (mg M2 0), .int (mg M2 1), .int (mg M2 2), .int (mg M2 3), .int (mg M2 4), .int (mg M2 5), .int (mg M2 6), .ref (a2 7), .ref (a2 8), .ref (a2 9)]).set 4 (.int v)))) H) : va_P D vwCl (poW cB cI cJ cZ h0 a0 o0 h1 a1 h2 a2 M0 M1 (sg M2 4 v)) H := h
theorem poD_2_f4 {A : Nat → Prop} {cB cI cJ cZ : ClassId} {h0 : Nat} {a0 : Nat → Nat} {o0 : Option Nat} {h1 : Nat} {a1 : Nat → Nat} {h2 : Nat} {a2 : Nat → Nat} {M0 : gS} {M1 : gS} {M2 : gS} {v : Int32} (h : va_D A ((poW cB cI cJ cZ h0 a0 o0 h1 a1 h2 a2 M0 M1 M2).set 7 (h2, .inr (6, ([.int (mg M2 0), .int (mg M2 1), .int (mg M2 2), .int (mg M2 3), .int (mg M2 4), .int (mg M2 5), .int (mg M2 6), .ref (a2 7), .ref (a2 8), .ref (a2 9)]).set 4 (.int v))))) : va_D A (poW cB cI cJ cZ h0 a0 o0 h1 a1 h2 a2 M0 M1 (sg M2 4 v)) := h
theorem poP_2_f5 {D : va_G} {H : Heap} {cB cI cJ cZ : ClassId} {h0 : Nat} {a0 : Nat → Nat} {o0 : Option Nat} {h1 : Nat} {a1 : Nat → Nat} {h2 : Nat} {a2 : Nat → Nat} {M0 : gS} {M1 : gS} {M2 : gS} {v : Int32} (h : va_P D vwCl ((poW cB cI cJ cZ h0 a0 o0 h1 a1 h2 a2 M0 M1 M2).set 7 (h2, .inr (6, ([.int (mg M2 0), .int (mg M2 1), .int (mg M2 2), .int (mg M2 3), .int (mg M2 4), .int (mg M2 5), .int (mg M2 6), .ref (a2 7), .ref (a2 8), .ref (a2 9)]).set 5 (.int v)))) H) : va_P D vwCl (poW cB cI cJ cZ h0 a0 o0 h1 a1 h2 a2 M0 M1 (sg M2 5 v)) H := h
theorem poD_2_f5 {A : Nat → Prop} {cB cI cJ cZ : ClassId} {h0 : Nat} {a0 : Nat → Nat} {o0 : Option Nat} {h1 : Nat} {a1 : Nat → Nat} {h2 : Nat} {a2 : Nat → Nat} {M0 : gS} {M1 : gS} {M2 : gS} {v : Int32} (h : va_D A ((poW cB cI cJ cZ h0 a0 o0 h1 a1 h2 a2 M0 M1 M2).set 7 (h2, .inr (6, ([.int (mg M2 0), .int (mg M2 1), .int (mg M2 2), .int (mg M2 3), .int (mg M2 4), .int (mg M2 5), .int (mg M2 6), .ref (a2 7), .ref (a2 8), .ref (a2 9)]).set 5 (.int v))))) : va_D A (poW cB cI cJ cZ h0 a0 o0 h1 a1 h2 a2 M0 M1 (sg M2 5 v)) := h
theorem poP_2_f6 {D : va_G} {H : Heap} {cB cI cJ cZ : ClassId} {h0 : Nat} {a0 : Nat → Nat} {o0 : Option Nat} {h1 : Nat} {a1 : Nat → Nat} {h2 : Nat} {a2 : Nat → Nat} {M0 : gS} {M1 : gS} {M2 : gS} {v : Int32} (h : va_P D vwCl ((poW cB cI cJ cZ h0 a0 o0 h1 a1 h2 a2 M0 M1 M2).set 7 (h2, .inr (6, ([.int (mg M2 0), .int (mg M2 1), .int (mg M2 2), .int (mg M2 3), .int (mg M2 4), .int (mg M2 5), .int (mg M2 6), .ref (a2 7), .ref (a2 8), .ref (a2 9)]).set 6 (.int v)))) H) : va_P D vwCl (poW cB cI cJ cZ h0 a0 o0 h1 a1 h2 a2 M0 M1 (sg M2 6 v)) H := h
theorem poD_2_f6 {A : Nat → Prop} {cB cI cJ cZ : ClassId} {h0 : Nat} {a0 : Nat → Nat} {o0 : Option Nat} {h1 : Nat} {a1 : Nat → Nat} {h2 : Nat} {a2 : Nat → Nat} {M0 : gS} {M1 : gS} {M2 : gS} {v : Int32} (h : va_D A ((poW cB cI cJ cZ h0 a0 o0 h1 a1 h2 a2 M0 M1 M2).set 7 (h2, .inr (6, ([.int (mg M2 0), .int (mg M2 1), .int (mg M2 2), .int (mg M2 3), .int (mg M2 4), .int (mg M2 5), .int (mg M2 6), .ref (a2 7), .ref (a2 8), .ref (a2 9)]).set 6 (.int v))))) : va_D A (poW cB cI cJ cZ h0 a0 o0 h1 a1 h2 a2 M0 M1 (sg M2 6 v)) := h
theorem poP_2_a7 {D : va_G} {H : Heap} {cB cI cJ cZ : ClassId} {h0 : Nat} {a0 : Nat → Nat} {o0 : Option Nat} {h1 : Nat} {a1 : Nat → Nat} {h2 : Nat} {a2 : Nat → Nat} {M0 : gS} {M1 : gS} {M2 : gS} {j : Nat} {v : Int32} (h : va_P D vwCl ((poW cB cI cJ cZ h0 a0 o0 h1 a1 h2 a2 M0 M1 M2).set 8 (a2 7, .inl (cI, 2, .inl (upd (ma M2 7) j v)))) H) : va_P D vwCl (poW cB cI cJ cZ h0 a0 o0 h1 a1 h2 a2 M0 M1 (sa M2 7 j v)) H := h
theorem poD_2_a7 {A : Nat → Prop} {cB cI cJ cZ : ClassId} {h0 : Nat} {a0 : Nat → Nat} {o0 : Option Nat} {h1 : Nat} {a1 : Nat → Nat} {h2 : Nat} {a2 : Nat → Nat} {M0 : gS} {M1 : gS} {M2 : gS} {j : Nat} {v : Int32} (h : va_D A ((poW cB cI cJ cZ h0 a0 o0 h1 a1 h2 a2 M0 M1 M2).set 8 (a2 7, .inl (cI, 2, .inl (upd (ma M2 7) j v))))) : va_D A (poW cB cI cJ cZ h0 a0 o0 h1 a1 h2 a2 M0 M1 (sa M2 7 j v)) := h
theorem poP_2_c7 {D : va_G} {H : Heap} {cB cI cJ cZ : ClassId} {h0 : Nat} {a0 : Nat → Nat} {o0 : Option Nat} {h1 : Nat} {a1 : Nat → Nat} {h2 : Nat} {a2 : Nat → Nat} {M0 : gS} {M1 : gS} {M2 : gS} {f : Nat → Int32} (h : va_P D vwCl ((poW cB cI cJ cZ h0 a0 o0 h1 a1 h2 a2 M0 M1 M2).set 8 (a2 7, .inl (cI, 2, .inl f))) H) : va_P D vwCl (poW cB cI cJ cZ h0 a0 o0 h1 a1 h2 a2 M0 M1 (sF M2 7 f)) H := h
theorem poD_2_c7 {A : Nat → Prop} {cB cI cJ cZ : ClassId} {h0 : Nat} {a0 : Nat → Nat} {o0 : Option Nat} {h1 : Nat} {a1 : Nat → Nat} {h2 : Nat} {a2 : Nat → Nat} {M0 : gS} {M1 : gS} {M2 : gS} {f : Nat → Int32} (h : va_D A ((poW cB cI cJ cZ h0 a0 o0 h1 a1 h2 a2 M0 M1 M2).set 8 (a2 7, .inl (cI, 2, .inl f)))) : va_D A (poW cB cI cJ cZ h0 a0 o0 h1 a1 h2 a2 M0 M1 (sF M2 7 f)) := h
theorem poP_2_a8 {D : va_G} {H : Heap} {cB cI cJ cZ : ClassId} {h0 : Nat} {a0 : Nat → Nat} {o0 : Option Nat} {h1 : Nat} {a1 : Nat → Nat} {h2 : Nat} {a2 : Nat → Nat} {M0 : gS} {M1 : gS} {M2 : gS} {j : Nat} {v : Int32} (h : va_P D vwCl ((poW cB cI cJ cZ h0 a0 o0 h1 a1 h2 a2 M0 M1 M2).set 9 (a2 8, .inl (cI, 2, .inl (upd (ma M2 8) j v)))) H) : va_P D vwCl (poW cB cI cJ cZ h0 a0 o0 h1 a1 h2 a2 M0 M1 (sa M2 8 j v)) H := h
theorem poD_2_a8 {A : Nat → Prop} {cB cI cJ cZ : ClassId} {h0 : Nat} {a0 : Nat → Nat} {o0 : Option Nat} {h1 : Nat} {a1 : Nat → Nat} {h2 : Nat} {a2 : Nat → Nat} {M0 : gS} {M1 : gS} {M2 : gS} {j : Nat} {v : Int32} (h : va_D A ((poW cB cI cJ cZ h0 a0 o0 h1 a1 h2 a2 M0 M1 M2).set 9 (a2 8, .inl (cI, 2, .inl (upd (ma M2 8) j v))))) : va_D A (poW cB cI cJ cZ h0 a0 o0 h1 a1 h2 a2 M0 M1 (sa M2 8 j v)) := h
theorem poP_2_c8 {D : va_G} {H : Heap} {cB cI cJ cZ : ClassId} {h0 : Nat} {a0 : Nat → Nat} {o0 : Option Nat} {h1 : Nat} {a1 : Nat → Nat} {h2 : Nat} {a2 : Nat → Nat} {M0 : gS} {M1 : gS} {M2 : gS} {f : Nat → Int32} (h : va_P D vwCl ((poW cB cI cJ cZ h0 a0 o0 h1 a1 h2 a2 M0 M1 M2).set 9 (a2 8, .inl (cI, 2, .inl f))) H) : va_P D vwCl (poW cB cI cJ cZ h0 a0 o0 h1 a1 h2 a2 M0 M1 (sF M2 8 f)) H := h
theorem poD_2_c8 {A : Nat → Prop} {cB cI cJ cZ : ClassId} {h0 : Nat} {a0 : Nat → Nat} {o0 : Option Nat} {h1 : Nat} {a1 : Nat → Nat} {h2 : Nat} {a2 : Nat → Nat} {M0 : gS} {M1 : gS} {M2 : gS} {f : Nat → Int32} (h : va_D A ((poW cB cI cJ cZ h0 a0 o0 h1 a1 h2 a2 M0 M1 M2).set 9 (a2 8, .inl (cI, 2, .inl f)))) : va_D A (poW cB cI cJ cZ h0 a0 o0 h1 a1 h2 a2 M0 M1 (sF M2 8 f)) := h
theorem poP_2_a9 {D : va_G} {H : Heap} {cB cI cJ cZ : ClassId} {h0 : Nat} {a0 : Nat → Nat} {o0 : Option Nat} {h1 : Nat} {a1 : Nat → Nat} {h2 : Nat} {a2 : Nat → Nat} {M0 : gS} {M1 : gS} {M2 : gS} {j : Nat} {v : Int32} (h : va_P D vwCl ((poW cB cI cJ cZ h0 a0 o0 h1 a1 h2 a2 M0 M1 M2).set 10 (a2 9, .inl (cI, 2, .inl (upd (ma M2 9) j v)))) H) : va_P D vwCl (poW cB cI cJ cZ h0 a0 o0 h1 a1 h2 a2 M0 M1 (sa M2 9 j v)) H := h
theorem poD_2_a9 {A : Nat → Prop} {cB cI cJ cZ : ClassId} {h0 : Nat} {a0 : Nat → Nat} {o0 : Option Nat} {h1 : Nat} {a1 : Nat → Nat} {h2 : Nat} {a2 : Nat → Nat} {M0 : gS} {M1 : gS} {M2 : gS} {j : Nat} {v : Int32} (h : va_D A ((poW cB cI cJ cZ h0 a0 o0 h1 a1 h2 a2 M0 M1 M2).set 10 (a2 9, .inl (cI, 2, .inl (upd (ma M2 9) j v))))) : va_D A (poW cB cI cJ cZ h0 a0 o0 h1 a1 h2 a2 M0 M1 (sa M2 9 j v)) := h
theorem poP_2_c9 {D : va_G} {H : Heap} {cB cI cJ cZ : ClassId} {h0 : Nat} {a0 : Nat → Nat} {o0 : Option Nat} {h1 : Nat} {a1 : Nat → Nat} {h2 : Nat} {a2 : Nat → Nat} {M0 : gS} {M1 : gS} {M2 : gS} {f : Nat → Int32} (h : va_P D vwCl ((poW cB cI cJ cZ h0 a0 o0 h1 a1 h2 a2 M0 M1 M2).set 10 (a2 9, .inl (cI, 2, .inl f))) H) : va_P D vwCl (poW cB cI cJ cZ h0 a0 o0 h1 a1 h2 a2 M0 M1 (sF M2 9 f)) H := h
theorem poD_2_c9 {A : Nat → Prop} {cB cI cJ cZ : ClassId} {h0 : Nat} {a0 : Nat → Nat} {o0 : Option Nat} {h1 : Nat} {a1 : Nat → Nat} {h2 : Nat} {a2 : Nat → Nat} {M0 : gS} {M1 : gS} {M2 : gS} {f : Nat → Int32} (h : va_D A ((poW cB cI cJ cZ h0 a0 o0 h1 a1 h2 a2 M0 M1 M2).set 10 (a2 9, .inl (cI, 2, .inl f)))) : va_D A (poW cB cI cJ cZ h0 a0 o0 h1 a1 h2 a2 M0 M1 (sF M2 9 f)) := h
theorem popV {s : State} {dC : Nat → ClassId} {dI : Nat → Nat → Nat} {A : Nat → Prop} {cB cI cJ cZ : ClassId} {h0 : Nat} {a0 : Nat → Nat} {o0 : Option Nat} {h1 : Nat} {a1 : Nat → Nat} {h2 : Nat} {a2 : Nat → Nat} {M0 : gS} {M1 : gS} {M2 : gS} {H : Heap} {As : List Value} (hK : va_K (dC, dI) vwCl (gT cB cI cJ cZ) s) (hP : va_P (dC, dI) vwCl (poW cB cI cJ cZ h0 a0 o0 h1 a1 h2 a2 M0 M1 M2) H) (hD : va_D A (poW cB cI cJ cZ h0 a0 o0 h1 a1 h2 a2 M0 M1 M2)) : PreV s H RX5 h0 (va_Pc (.ref h0 :: As) (poI dC dI cB cI cJ cZ h0 a0 o0 h1 a1 h2 a2 M0 M1 M2 H.size)) As := ⟨fun a U g mk q => by obtain ⟨q0, q1, qP, qK, qD⟩ := q; exact ⟨q0, q1, qP, va_K.moved (u := U) (U := U.calling g mk a) (Vm.Alike.refl U.vm) qK, qD⟩, va_recv hK hP (ci := 5) (q0 := 0) rfl rfl, fun U hU hW => ⟨rfl, by rw [hU], by rw [hU]; exact hP, va_K.moved hW.alike hK, hD.weaken (fun _ _ _ _ => trivial)⟩⟩
theorem popS {s : State} {dC : Nat → ClassId} {dI : Nat → Nat → Nat} {A : Nat → Prop} {cB cI cJ cZ : ClassId} {h0 : Nat} {a0 : Nat → Nat} {o0 : Option Nat} {h1 : Nat} {a1 : Nat → Nat} {h2 : Nat} {a2 : Nat → Nat} {M0 : gS} {M1 : gS} {M2 : gS} {H : Heap} {As : List Value} (hK : va_K (dC, dI) vwCl (gT cB cI cJ cZ) s) (hP : va_P (dC, dI) vwCl (poW cB cI cJ cZ h0 a0 o0 h1 a1 h2 a2 M0 M1 M2) H) (hD : va_D A (poW cB cI cJ cZ h0 a0 o0 h1 a1 h2 a2 M0 M1 M2)) : PreS s H (va_Pc As (poI dC dI cB cI cJ cZ h0 a0 o0 h1 a1 h2 a2 M0 M1 M2 H.size)) As := ⟨fun a U g mk q => by obtain ⟨q0, q1, qP, qK, qD⟩ := q; exact ⟨q0, q1, qP, va_K.moved (u := U) (U := U.calling g mk a) (Vm.Alike.refl U.vm) qK, qD⟩, fun U hU hW => ⟨rfl, by rw [hU], by rw [hU]; exact hP, va_K.moved hW.alike hK, hD.weaken (fun _ _ _ _ => trivial)⟩⟩

abbrev rdW (cB cI cJ cZ : ClassId) (h0 : Nat) (a0 : Nat → Nat) (M0 : gS) (M1 : gS) : va_W := [(h0, .inr (7, [.ref (a0 0), .int (mg M0 1), .int (mg M0 2), .int (mg M0 3), .int (mg M0 4), .int (mg M0 5), .int (mg M0 6), .int (mg M0 7)])), (a0 0, .inl (cI, 400, .inl (ma M1 0)))]
abbrev rdI (dC : Nat → ClassId) (dI : Nat → Nat → Nat) (cB cI cJ cZ : ClassId) (h0 : Nat) (a0 : Nat → Nat) (M0 : gS) (M1 : gS) (sz : Nat) : State → Prop := fun U => U.heap.size = sz ∧ va_P (dC, dI) vwCl (rdW cB cI cJ cZ h0 a0 M0 M1) U.heap ∧ va_K (dC, dI) vwCl (gT cB cI cJ cZ) U ∧ va_D (fun _ => True) (rdW cB cI cJ cZ h0 a0 M0 M1)
abbrev rdB (dC : Nat → ClassId) (dI : Nat → Nat → Nat) (cB cI cJ cZ : ClassId) (h0 : Nat) (a0 : Nat → Nat) (A : Nat → Prop) (u : gS × gS) (t : State) : Prop := match u with
  | (M0, M1) => va_P (dC, dI) vwCl (rdW cB cI cJ cZ h0 a0 M0 M1) t.heap ∧ va_K (dC, dI) vwCl (gT cB cI cJ cZ) t ∧ va_D A (rdW cB cI cJ cZ h0 a0 M0 M1)
theorem rdP_0_f1 {D : va_G} {H : Heap} {cB cI cJ cZ : ClassId} {h0 : Nat} {a0 : Nat → Nat} {M0 : gS} {M1 : gS} {v : Int32} (h : va_P D vwCl ((rdW cB cI cJ cZ h0 a0 M0 M1).set 0 (h0, .inr (7, ([.ref (a0 0), .int (mg M0 1), .int (mg M0 2), .int (mg M0 3), .int (mg M0 4), .int (mg M0 5), .int (mg M0 6), .int (mg M0 7)]).set 1 (.int v)))) H) : va_P D vwCl (rdW cB cI cJ cZ h0 a0 (sg M0 1 v) M1) H := h
theorem rdD_0_f1 {A : Nat → Prop} {cB cI cJ cZ : ClassId} {h0 : Nat} {a0 : Nat → Nat} {M0 : gS} {M1 : gS} {v : Int32} (h : va_D A ((rdW cB cI cJ cZ h0 a0 M0 M1).set 0 (h0, .inr (7, ([.ref (a0 0), .int (mg M0 1), .int (mg M0 2), .int (mg M0 3), .int (mg M0 4), .int (mg M0 5), .int (mg M0 6), .int (mg M0 7)]).set 1 (.int v))))) : va_D A (rdW cB cI cJ cZ h0 a0 (sg M0 1 v) M1) := h
theorem rdP_0_f2 {D : va_G} {H : Heap} {cB cI cJ cZ : ClassId} {h0 : Nat} {a0 : Nat → Nat} {M0 : gS} {M1 : gS} {v : Int32} (h : va_P D vwCl ((rdW cB cI cJ cZ h0 a0 M0 M1).set 0 (h0, .inr (7, ([.ref (a0 0), .int (mg M0 1), .int (mg M0 2), .int (mg M0 3), .int (mg M0 4), .int (mg M0 5), .int (mg M0 6), .int (mg M0 7)]).set 2 (.int v)))) H) : va_P D vwCl (rdW cB cI cJ cZ h0 a0 (sg M0 2 v) M1) H := h
theorem rdD_0_f2 {A : Nat → Prop} {cB cI cJ cZ : ClassId} {h0 : Nat} {a0 : Nat → Nat} {M0 : gS} {M1 : gS} {v : Int32} (h : va_D A ((rdW cB cI cJ cZ h0 a0 M0 M1).set 0 (h0, .inr (7, ([.ref (a0 0), .int (mg M0 1), .int (mg M0 2), .int (mg M0 3), .int (mg M0 4), .int (mg M0 5), .int (mg M0 6), .int (mg M0 7)]).set 2 (.int v))))) : va_D A (rdW cB cI cJ cZ h0 a0 (sg M0 2 v) M1) := h
theorem rdP_0_f3 {D : va_G} {H : Heap} {cB cI cJ cZ : ClassId} {h0 : Nat} {a0 : Nat → Nat} {M0 : gS} {M1 : gS} {v : Int32} (h : va_P D vwCl ((rdW cB cI cJ cZ h0 a0 M0 M1).set 0 (h0, .inr (7, ([.ref (a0 0), .int (mg M0 1), .int (mg M0 2), .int (mg M0 3), .int (mg M0 4), .int (mg M0 5), .int (mg M0 6), .int (mg M0 7)]).set 3 (.int v)))) H) : va_P D vwCl (rdW cB cI cJ cZ h0 a0 (sg M0 3 v) M1) H := h
theorem rdD_0_f3 {A : Nat → Prop} {cB cI cJ cZ : ClassId} {h0 : Nat} {a0 : Nat → Nat} {M0 : gS} {M1 : gS} {v : Int32} (h : va_D A ((rdW cB cI cJ cZ h0 a0 M0 M1).set 0 (h0, .inr (7, ([.ref (a0 0), .int (mg M0 1), .int (mg M0 2), .int (mg M0 3), .int (mg M0 4), .int (mg M0 5), .int (mg M0 6), .int (mg M0 7)]).set 3 (.int v))))) : va_D A (rdW cB cI cJ cZ h0 a0 (sg M0 3 v) M1) := h
theorem rdP_0_f4 {D : va_G} {H : Heap} {cB cI cJ cZ : ClassId} {h0 : Nat} {a0 : Nat → Nat} {M0 : gS} {M1 : gS} {v : Int32} (h : va_P D vwCl ((rdW cB cI cJ cZ h0 a0 M0 M1).set 0 (h0, .inr (7, ([.ref (a0 0), .int (mg M0 1), .int (mg M0 2), .int (mg M0 3), .int (mg M0 4), .int (mg M0 5), .int (mg M0 6), .int (mg M0 7)]).set 4 (.int v)))) H) : va_P D vwCl (rdW cB cI cJ cZ h0 a0 (sg M0 4 v) M1) H := h
theorem rdD_0_f4 {A : Nat → Prop} {cB cI cJ cZ : ClassId} {h0 : Nat} {a0 : Nat → Nat} {M0 : gS} {M1 : gS} {v : Int32} (h : va_D A ((rdW cB cI cJ cZ h0 a0 M0 M1).set 0 (h0, .inr (7, ([.ref (a0 0), .int (mg M0 1), .int (mg M0 2), .int (mg M0 3), .int (mg M0 4), .int (mg M0 5), .int (mg M0 6), .int (mg M0 7)]).set 4 (.int v))))) : va_D A (rdW cB cI cJ cZ h0 a0 (sg M0 4 v) M1) := h
theorem rdP_0_f5 {D : va_G} {H : Heap} {cB cI cJ cZ : ClassId} {h0 : Nat} {a0 : Nat → Nat} {M0 : gS} {M1 : gS} {v : Int32} (h : va_P D vwCl ((rdW cB cI cJ cZ h0 a0 M0 M1).set 0 (h0, .inr (7, ([.ref (a0 0), .int (mg M0 1), .int (mg M0 2), .int (mg M0 3), .int (mg M0 4), .int (mg M0 5), .int (mg M0 6), .int (mg M0 7)]).set 5 (.int v)))) H) : va_P D vwCl (rdW cB cI cJ cZ h0 a0 (sg M0 5 v) M1) H := h
theorem rdD_0_f5 {A : Nat → Prop} {cB cI cJ cZ : ClassId} {h0 : Nat} {a0 : Nat → Nat} {M0 : gS} {M1 : gS} {v : Int32} (h : va_D A ((rdW cB cI cJ cZ h0 a0 M0 M1).set 0 (h0, .inr (7, ([.ref (a0 0), .int (mg M0 1), .int (mg M0 2), .int (mg M0 3), .int (mg M0 4), .int (mg M0 5), .int (mg M0 6), .int (mg M0 7)]).set 5 (.int v))))) : va_D A (rdW cB cI cJ cZ h0 a0 (sg M0 5 v) M1) := h
theorem rdP_0_f6 {D : va_G} {H : Heap} {cB cI cJ cZ : ClassId} {h0 : Nat} {a0 : Nat → Nat} {M0 : gS} {M1 : gS} {v : Int32} (h : va_P D vwCl ((rdW cB cI cJ cZ h0 a0 M0 M1).set 0 (h0, .inr (7, ([.ref (a0 0), .int (mg M0 1), .int (mg M0 2), .int (mg M0 3), .int (mg M0 4), .int (mg M0 5), .int (mg M0 6), .int (mg M0 7)]).set 6 (.int v)))) H) : va_P D vwCl (rdW cB cI cJ cZ h0 a0 (sg M0 6 v) M1) H := h
theorem rdD_0_f6 {A : Nat → Prop} {cB cI cJ cZ : ClassId} {h0 : Nat} {a0 : Nat → Nat} {M0 : gS} {M1 : gS} {v : Int32} (h : va_D A ((rdW cB cI cJ cZ h0 a0 M0 M1).set 0 (h0, .inr (7, ([.ref (a0 0), .int (mg M0 1), .int (mg M0 2), .int (mg M0 3), .int (mg M0 4), .int (mg M0 5), .int (mg M0 6), .int (mg M0 7)]).set 6 (.int v))))) : va_D A (rdW cB cI cJ cZ h0 a0 (sg M0 6 v) M1) := h
theorem rdP_0_f7 {D : va_G} {H : Heap} {cB cI cJ cZ : ClassId} {h0 : Nat} {a0 : Nat → Nat} {M0 : gS} {M1 : gS} {v : Int32} (h : va_P D vwCl ((rdW cB cI cJ cZ h0 a0 M0 M1).set 0 (h0, .inr (7, ([.ref (a0 0), .int (mg M0 1), .int (mg M0 2), .int (mg M0 3), .int (mg M0 4), .int (mg M0 5), .int (mg M0 6), .int (mg M0 7)]).set 7 (.int v)))) H) : va_P D vwCl (rdW cB cI cJ cZ h0 a0 (sg M0 7 v) M1) H := h
theorem rdD_0_f7 {A : Nat → Prop} {cB cI cJ cZ : ClassId} {h0 : Nat} {a0 : Nat → Nat} {M0 : gS} {M1 : gS} {v : Int32} (h : va_D A ((rdW cB cI cJ cZ h0 a0 M0 M1).set 0 (h0, .inr (7, ([.ref (a0 0), .int (mg M0 1), .int (mg M0 2), .int (mg M0 3), .int (mg M0 4), .int (mg M0 5), .int (mg M0 6), .int (mg M0 7)]).set 7 (.int v))))) : va_D A (rdW cB cI cJ cZ h0 a0 (sg M0 7 v) M1) := h
theorem rdP_1_a0 {D : va_G} {H : Heap} {cB cI cJ cZ : ClassId} {h0 : Nat} {a0 : Nat → Nat} {M0 : gS} {M1 : gS} {j : Nat} {v : Int32} (h : va_P D vwCl ((rdW cB cI cJ cZ h0 a0 M0 M1).set 1 (a0 0, .inl (cI, 400, .inl (upd (ma M1 0) j v)))) H) : va_P D vwCl (rdW cB cI cJ cZ h0 a0 M0 (sa M1 0 j v)) H := h
theorem rdD_1_a0 {A : Nat → Prop} {cB cI cJ cZ : ClassId} {h0 : Nat} {a0 : Nat → Nat} {M0 : gS} {M1 : gS} {j : Nat} {v : Int32} (h : va_D A ((rdW cB cI cJ cZ h0 a0 M0 M1).set 1 (a0 0, .inl (cI, 400, .inl (upd (ma M1 0) j v))))) : va_D A (rdW cB cI cJ cZ h0 a0 M0 (sa M1 0 j v)) := h
theorem rdP_1_c0 {D : va_G} {H : Heap} {cB cI cJ cZ : ClassId} {h0 : Nat} {a0 : Nat → Nat} {M0 : gS} {M1 : gS} {f : Nat → Int32} (h : va_P D vwCl ((rdW cB cI cJ cZ h0 a0 M0 M1).set 1 (a0 0, .inl (cI, 400, .inl f))) H) : va_P D vwCl (rdW cB cI cJ cZ h0 a0 M0 (sF M1 0 f)) H := h
theorem rdD_1_c0 {A : Nat → Prop} {cB cI cJ cZ : ClassId} {h0 : Nat} {a0 : Nat → Nat} {M0 : gS} {M1 : gS} {f : Nat → Int32} (h : va_D A ((rdW cB cI cJ cZ h0 a0 M0 M1).set 1 (a0 0, .inl (cI, 400, .inl f)))) : va_D A (rdW cB cI cJ cZ h0 a0 M0 (sF M1 0 f)) := h
theorem rdpV {s : State} {dC : Nat → ClassId} {dI : Nat → Nat → Nat} {A : Nat → Prop} {cB cI cJ cZ : ClassId} {h0 : Nat} {a0 : Nat → Nat} {M0 : gS} {M1 : gS} {H : Heap} {As : List Value} (hK : va_K (dC, dI) vwCl (gT cB cI cJ cZ) s) (hP : va_P (dC, dI) vwCl (rdW cB cI cJ cZ h0 a0 M0 M1) H) (hD : va_D A (rdW cB cI cJ cZ h0 a0 M0 M1)) : PreV s H RX7 h0 (va_Pc (.ref h0 :: As) (rdI dC dI cB cI cJ cZ h0 a0 M0 M1 H.size)) As := ⟨fun a U g mk q => by obtain ⟨q0, q1, qP, qK, qD⟩ := q; exact ⟨q0, q1, qP, va_K.moved (u := U) (U := U.calling g mk a) (Vm.Alike.refl U.vm) qK, qD⟩, va_recv hK hP (ci := 7) (q0 := 0) rfl rfl, fun U hU hW => ⟨rfl, by rw [hU], by rw [hU]; exact hP, va_K.moved hW.alike hK, hD.weaken (fun _ _ _ _ => trivial)⟩⟩
theorem rdpS {s : State} {dC : Nat → ClassId} {dI : Nat → Nat → Nat} {A : Nat → Prop} {cB cI cJ cZ : ClassId} {h0 : Nat} {a0 : Nat → Nat} {M0 : gS} {M1 : gS} {H : Heap} {As : List Value} (hK : va_K (dC, dI) vwCl (gT cB cI cJ cZ) s) (hP : va_P (dC, dI) vwCl (rdW cB cI cJ cZ h0 a0 M0 M1) H) (hD : va_D A (rdW cB cI cJ cZ h0 a0 M0 M1)) : PreS s H (va_Pc As (rdI dC dI cB cI cJ cZ h0 a0 M0 M1 H.size)) As := ⟨fun a U g mk q => by obtain ⟨q0, q1, qP, qK, qD⟩ := q; exact ⟨q0, q1, qP, va_K.moved (u := U) (U := U.calling g mk a) (Vm.Alike.refl U.vm) qK, qD⟩, fun U hU hW => ⟨rfl, by rw [hU], by rw [hU]; exact hP, va_K.moved hW.alike hK, hD.weaken (fun _ _ _ _ => trivial)⟩⟩
def wX5_keyOf (p1 : Int32) (p2 : Int32) (p3 : Int32) (p4 : Int32) (p5 : Int32) (p6 : Int32)  (Q : Int32 → Prop) : Prop :=
 (∀ x1 : Int32, x1 = ((p1 <<< ((8 : Int32) &&& 31)) ||| p2) → (∀ x2 : Int32, x2 = ((x1 <<< ((6 : Int32) &&& 31)) ||| p3) → (∀ x3 : Int32, x3 = ((x2 <<< ((6 : Int32) &&& 31)) ||| p4) → ((p6 = 0 → (Q (((x3 <<< ((5 : Int32) &&& 31)) ||| (p5 <<< ((1 : Int32) &&& 31))) ||| (0 : Int32)) ))
 ∧ (¬ p6 = 0 → (Q (((x3 <<< ((5 : Int32) &&& 31)) ||| (p5 <<< ((1 : Int32) &&& 31))) ||| (1 : Int32)) ))))))
def rmX5_keyOf : Room := { frames := 0, cells := 0, slots := 0, locals := 0 }
set_option maxHeartbeats 4000000 in
set_option maxRecDepth 100000 in
theorem kX5_keyOf (l : Launch) (dC : Nat → ClassId) (dI : Nat → Nat → Nat) (cB cI cJ cZ : ClassId)  (sz : Nat) (p1 : Int32) (p2 : Int32) (p3 : Int32) (p4 : Int32) (p5 : Int32) (p6 : Int32)  (Q : Int32 → Prop) (h : wX5_keyOf p1 p2 p3 p4 p5 p6  Q) : Met l yX5_keyOf wsX5_keyOf rmX5_keyOf (va_Pc [.int p1, .int p2, .int p3, .int p4, .int p5, .int p6] (e0I dC dI cB cI cJ cZ   sz)) (va_Qi (fun (r : Int32) (u : Unit) => Q r ) (e0B dC dI cB cI cJ cZ  (va_A (e0W cB cI cJ cZ  ) sz)) (va_A (e0W cB cI cJ cZ  ) sz)) 0 0 (va_A (e0W cB cI cJ cZ  ) sz) := by
  refine Met.ofW (cc := cX5_keyOf) (maxL := 7) (ret := (some .int)) (by decide) rfl ?_
  intro p e s m args below meth c s₁ B hml hv
  obtain ⟨rfl, hsz, hP, hK, hD0⟩ := hv
  have hx := B.exec
  have hb := B.bytes
  have hr := B.returns
  have hts := atoms_spec (ws := wsX5_keyOf) B.pre
  have hown : s.vm.findClass RX5 = some m.cls := findClass_of_methodNamed B.named
  have hlocks := B.notSynchronized
  subst hsz
  have hD := hD0.self (sz := s.heap.size)
  generalize hAe : va_A (e0W cB cI cJ cZ  ) s.heap.size = A at hD ⊢
  have hA : ∀ q : Nat, s.heap.size ≤ q → A q := fun q h => by rw [← hAe]; exact Or.inr h
  have hS : va_S A s.heap s.heap [] := va_S.rf
  have bE : ∀  (H : Heap) (locs : List Loc) (ls : Array Slot), va_P (dC, dI) vwCl (e0W cB cI cJ cZ  ) H → va_D A (e0W cB cI cJ cZ  ) → va_S A s.heap H locs → lv_has ls 7 [(0, .int p1), (1, .int p2), (2, .int p3), (3, .int p4), (4, .int p5), (5, .int p6)] → wX5_keyOf p1 p2 p3 p4 p5 p6  Q → W p l e (headSpec wsX5_keyOf rmX5_keyOf).room s m ([.int p1, .int p2, .int p3, .int p4, .int p5, .int p6] : List Value).toArray below meth c H locs 0 0 (MQ below (va_Qi (fun (r : Int32) (u : Unit) => Q r ) (e0B dC dI cB cI cJ cZ  A) A) ([.int p1, .int p2, .int p3, .int p4, .int p5, .int p6] : List Value).toArray s 0 0 A) (F0 m 0 ls []) := by
    intro  H locs ls hP hD hS hl h
    unfold wX5_keyOf at h
    refine lv_iload_n hx hb dX5_keyOf_0 rfl (lv_at hl 0 rfl) ?_
    refine lv_bipush (v := (8)) hx hb dX5_keyOf_1 (by decide) ?_
    refine lv_ishl hx hb dX5_keyOf_3 ?_
    refine lv_iload_n hx hb dX5_keyOf_4 rfl (lv_at hl 1 rfl) ?_
    refine lv_ior hx hb dX5_keyOf_5 ?_
    refine lv_topi (fun x1 ex1 => ?_)
    have h := h x1 ex1
    refine lv_istore (lv' := [(6, .int x1), (0, .int p1), (1, .int p2), (2, .int p3), (3, .int p4), (4, .int p5), (5, .int p6)]) hx hb dX5_keyOf_6 hl (by decide) rfl (fun ls hl => ?_)
    refine lv_iload hx hb dX5_keyOf_8 (lv_at hl 0 rfl) ?_
    refine lv_bipush (v := (6)) hx hb dX5_keyOf_10 (by decide) ?_
    refine lv_ishl hx hb dX5_keyOf_12 ?_
    refine lv_iload_n hx hb dX5_keyOf_13 rfl (lv_at hl 3 rfl) ?_
    refine lv_ior hx hb dX5_keyOf_14 ?_
    refine lv_topi (fun x2 ex2 => ?_)
    have h := h x2 ex2
    refine lv_istore (lv' := [(6, .int x2), (0, .int p1), (1, .int p2), (2, .int p3), (3, .int p4), (4, .int p5), (5, .int p6)]) hx hb dX5_keyOf_15 hl (by decide) rfl (fun ls hl => ?_)
    refine lv_iload hx hb dX5_keyOf_17 (lv_at hl 0 rfl) ?_
    refine lv_bipush (v := (6)) hx hb dX5_keyOf_19 (by decide) ?_
    refine lv_ishl hx hb dX5_keyOf_21 ?_
    refine lv_iload_n hx hb dX5_keyOf_22 rfl (lv_at hl 4 rfl) ?_
    refine lv_ior hx hb dX5_keyOf_23 ?_
    refine lv_topi (fun x3 ex3 => ?_)
    have h := h x3 ex3
    refine lv_istore (lv' := [(6, .int x3), (0, .int p1), (1, .int p2), (2, .int p3), (3, .int p4), (4, .int p5), (5, .int p6)]) hx hb dX5_keyOf_24 hl (by decide) rfl (fun ls hl => ?_)
    refine lv_iload hx hb dX5_keyOf_26 (lv_at hl 0 rfl) ?_
    refine lv_iconst (v := 5) hx hb dX5_keyOf_28 (by decide) ?_
    refine lv_ishl hx hb dX5_keyOf_29 ?_
    refine lv_iload hx hb dX5_keyOf_30 (lv_at hl 5 rfl) ?_
    refine lv_iconst (v := 1) hx hb dX5_keyOf_32 (by decide) ?_
    refine lv_ishl hx hb dX5_keyOf_33 ?_
    refine lv_ior hx hb dX5_keyOf_34 ?_
    refine lv_iload hx hb dX5_keyOf_35 (lv_at hl 6 rfl) ?_
    refine lv_if_eq (tgt := 44) hx hb dX5_keyOf_37 (by decide) (fun c4 => ?_) (fun c4 => ?_)
    · have h := h.1 c4
      refine lv_iconst (v := 0) hx hb dX5_keyOf_44 (by decide) ?_
      refine lv_ior hx hb dX5_keyOf_45 ?_
      exact W.iret (v := (((x3 <<< ((5 : Int32) &&& 31)) ||| (p5 <<< ((1 : Int32) &&& 31))) ||| (0 : Int32))) hx hb hr (fun t ht hW => ⟨⟨_, (), rfl, h, by rw [ht]; exact hP, va_K.moved hW.alike hK, hD⟩, hS.F ht⟩) hS.2.2 dX5_keyOf_46
    · have h := h.2 c4
      refine lv_iconst (v := 1) hx hb dX5_keyOf_40 (by decide) ?_
      refine lv_goto (tgt := 45) hx hb dX5_keyOf_41 (by decide) ?_
      refine lv_ior hx hb dX5_keyOf_45 ?_
      exact W.iret (v := (((x3 <<< ((5 : Int32) &&& 31)) ||| (p5 <<< ((1 : Int32) &&& 31))) ||| (1 : Int32))) hx hb hr (fun t ht hW => ⟨⟨_, (), rfl, h, by rw [ht]; exact hP, va_K.moved hW.alike hK, hD⟩, hS.F ht⟩) hS.2.2 dX5_keyOf_46
  have hl := lv_entry ([.int p1, .int p2, .int p3, .int p4, .int p5, .int p6]) (n := 7) (Nat.le_of_ble_eq_true rfl)
  rw [lg_entry_eq]
  generalize (lg_sl ([.int p1, .int p2, .int p3, .int p4, .int p5, .int p6]) ++ List.replicate (7 - (lg_sl ([.int p1, .int p2, .int p3, .int p4, .int p5, .int p6])).length) Slot.unset).toArray = ls at hl ⊢
  have hl : lv_has ls 7 [(0, .int p1), (1, .int p2), (2, .int p3), (3, .int p4), (4, .int p5), (5, .int p6)] := hl
  exact bE  s.heap [] ls hP hD hS hl h
def wX5_mayThrow (p1 : Int32) (p2 : Int32) (M0 : gS) (Q : Bool → gS → Prop) : Prop :=
 ((p2 < (8 : Int32) → (Q false M0))
 ∧ (¬ p2 < (8 : Int32) → (((200 : Int32) < (p1 + (mg M0 3)) → (Q false M0))
 ∧ (¬ (200 : Int32) < (p1 + (mg M0 3)) → (Q true M0)))))
def rmX5_mayThrow : Room := { frames := 0, cells := 0, slots := 0, locals := 0 }
set_option maxHeartbeats 4000000 in
set_option maxRecDepth 100000 in
theorem kX5_mayThrow (l : Launch) (dC : Nat → ClassId) (dI : Nat → Nat → Nat) (cB cI cJ cZ : ClassId) (h0 : Nat) (a0 : Nat → Nat) (sz : Nat) (p1 : Int32) (p2 : Int32) (M0 : gS) (Q : Bool → gS → Prop) (h : wX5_mayThrow p1 p2 M0 Q) : Met l yX5_mayThrow wsX5_mayThrow rmX5_mayThrow (va_Pc [.ref h0, .int p1, .int p2] (paI dC dI cB cI cJ cZ h0 a0 M0 sz)) (va_Qi (fun (r : Int32) (u : gS) => ∃ b : Bool, r = bI b ∧ Q b u) (paB dC dI cB cI cJ cZ h0 a0 (va_A (paW cB cI cJ cZ h0 a0 M0) sz)) (va_A (paW cB cI cJ cZ h0 a0 M0) sz)) 0 0 (va_A (paW cB cI cJ cZ h0 a0 M0) sz) := by
  refine Met.ofW (cc := cX5_mayThrow) (maxL := 3) (ret := (some .boolean)) (by decide) rfl ?_
  intro p e s m args below meth c s₁ B hml hv
  obtain ⟨rfl, hsz, hP, hK, hD0⟩ := hv
  have hx := B.exec
  have hb := B.bytes
  have hr := B.returns
  have hts := atoms_spec (ws := wsX5_mayThrow) B.pre
  have hown : s.vm.findClass RX5 = some m.cls := findClass_of_methodNamed B.named
  have hlocks := B.notSynchronized
  subst hsz
  have hD := hD0.self (sz := s.heap.size)
  generalize hAe : va_A (paW cB cI cJ cZ h0 a0 M0) s.heap.size = A at hD ⊢
  have hA : ∀ q : Nat, s.heap.size ≤ q → A q := fun q h => by rw [← hAe]; exact Or.inr h
  have hS : va_S A s.heap s.heap [] := va_S.rf
  have hinX5 : ∀ w ∈ wsX50, w ∈ wsX5_mayThrow := by decide +kernel
  have f1 := hts (.fieldLink RX5 28 "LastWords$PlayCounter" "verse" "I") (by decide +kernel)
  have bE : ∀ (M0 : gS) (H : Heap) (locs : List Loc) (ls : Array Slot), va_P (dC, dI) vwCl (paW cB cI cJ cZ h0 a0 M0) H → va_D A (paW cB cI cJ cZ h0 a0 M0) → va_S A s.heap H locs → lv_has ls 3 [(0, .ref h0), (1, .int p1), (2, .int p2)] → wX5_mayThrow p1 p2 M0 Q → W p l e (headSpec wsX5_mayThrow rmX5_mayThrow).room s m ([.ref h0, .int p1, .int p2] : List Value).toArray below meth c H locs 0 0 (MQ below (va_Qi (fun (r : Int32) (u : gS) => ∃ b : Bool, r = bI b ∧ Q b u) (paB dC dI cB cI cJ cZ h0 a0 A) A) ([.ref h0, .int p1, .int p2] : List Value).toArray s 0 0 A) (F0 m 0 ls []) := by
    intro M0 H locs ls hP hD hS hl h
    unfold wX5_mayThrow at h
    refine lv_iload_n hx hb dX5_mayThrow_0 rfl (lv_at hl 2 rfl) ?_
    refine lv_bipush (v := (8)) hx hb dX5_mayThrow_1 (by decide) ?_
    refine lv_icmp_lt (tgt := 22) hx hb dX5_mayThrow_3 (by decide) (fun c1 => ?_) (fun c1 => ?_)
    · have h := h.1 c1
      refine lv_iconst (v := 0) hx hb dX5_mayThrow_22 (by decide) ?_
      exact W.zret (v := (bI false)) hx hb hr (nar_bI false) (fun t ht hW => ⟨⟨_, (M0), rfl, ⟨false, rfl, h⟩, by rw [ht]; exact hP, va_K.moved hW.alike hK, hD⟩, hS.F ht⟩) hS.2.2 dX5_mayThrow_23
    · have h := h.2 c1
      refine lv_iload_n hx hb dX5_mayThrow_6 rfl (lv_at hl 1 rfl) ?_
      refine lv_aload_n hx hb dX5_mayThrow_7 rfl (lv_at hl 0 rfl) ?_
      refine va_get (D := (dC, dI)) (ci := 5) (v := .int (mg M0 3)) (C := RX5) (T := TX5) (N := 4) hx hb hts hinX5 hown hK hP 0 rfl rfl 3 (by decide) f1 (fun _ h9 => h9) rfl dX5_mayThrow_8 ?_
      refine lv_iadd hx hb dX5_mayThrow_11 ?_
      refine lv_sipush (v := (200)) hx hb dX5_mayThrow_12 (by decide) ?_
      refine lv_icmp_gt (tgt := 22) hx hb dX5_mayThrow_15 (by decide) (fun c2 => ?_) (fun c2 => ?_)
      · have h := h.1 c2
        refine lv_iconst (v := 0) hx hb dX5_mayThrow_22 (by decide) ?_
        exact W.zret (v := (bI false)) hx hb hr (nar_bI false) (fun t ht hW => ⟨⟨_, (M0), rfl, ⟨false, rfl, h⟩, by rw [ht]; exact hP, va_K.moved hW.alike hK, hD⟩, hS.F ht⟩) hS.2.2 dX5_mayThrow_23
      · have h := h.2 c2
        refine lv_iconst (v := 1) hx hb dX5_mayThrow_18 (by decide) ?_
        refine lv_goto (tgt := 23) hx hb dX5_mayThrow_19 (by decide) ?_
        exact W.zret (v := (bI true)) hx hb hr (nar_bI true) (fun t ht hW => ⟨⟨_, (M0), rfl, ⟨true, rfl, h⟩, by rw [ht]; exact hP, va_K.moved hW.alike hK, hD⟩, hS.F ht⟩) hS.2.2 dX5_mayThrow_23
  have hl := lv_entry ([.ref h0, .int p1, .int p2]) (n := 3) (Nat.le_of_ble_eq_true rfl)
  rw [lg_entry_eq]
  generalize (lg_sl ([.ref h0, .int p1, .int p2]) ++ List.replicate (3 - (lg_sl ([.ref h0, .int p1, .int p2])).length) Slot.unset).toArray = ls at hl ⊢
  have hl : lv_has ls 3 [(0, .ref h0), (1, .int p1), (2, .int p2)] := hl
  exact bE M0 s.heap [] ls hP hD hS hl h
def wX7_isLetter (p1 : Int32)  (Q : Bool → Prop) : Prop :=
 ((p1 < (97 : Int32) → (Q false ))
 ∧ (¬ p1 < (97 : Int32) → (((122 : Int32) < p1 → (Q false ))
 ∧ (¬ (122 : Int32) < p1 → (Q true )))))
def rmX7_isLetter : Room := { frames := 0, cells := 0, slots := 0, locals := 0 }
set_option maxHeartbeats 4000000 in
set_option maxRecDepth 100000 in
theorem kX7_isLetter (l : Launch) (dC : Nat → ClassId) (dI : Nat → Nat → Nat) (cB cI cJ cZ : ClassId)  (sz : Nat) (p1 : Int32)  (Q : Bool → Prop) (h : wX7_isLetter p1  Q) : Met l yX7_isLetter wsX7_isLetter rmX7_isLetter (va_Pc [.int p1] (e0I dC dI cB cI cJ cZ   sz)) (va_Qi (fun (r : Int32) (u : Unit) => ∃ b : Bool, r = bI b ∧ Q b ) (e0B dC dI cB cI cJ cZ  (va_A (e0W cB cI cJ cZ  ) sz)) (va_A (e0W cB cI cJ cZ  ) sz)) 0 0 (va_A (e0W cB cI cJ cZ  ) sz) := by
  refine Met.ofW (cc := cX7_isLetter) (maxL := 1) (ret := (some .boolean)) (by decide) rfl ?_
  intro p e s m args below meth c s₁ B hml hv
  obtain ⟨rfl, hsz, hP, hK, hD0⟩ := hv
  have hx := B.exec
  have hb := B.bytes
  have hr := B.returns
  have hts := atoms_spec (ws := wsX7_isLetter) B.pre
  have hown : s.vm.findClass RX7 = some m.cls := findClass_of_methodNamed B.named
  have hlocks := B.notSynchronized
  subst hsz
  have hD := hD0.self (sz := s.heap.size)
  generalize hAe : va_A (e0W cB cI cJ cZ  ) s.heap.size = A at hD ⊢
  have hA : ∀ q : Nat, s.heap.size ≤ q → A q := fun q h => by rw [← hAe]; exact Or.inr h
  have hS : va_S A s.heap s.heap [] := va_S.rf
  have bE : ∀  (H : Heap) (locs : List Loc) (ls : Array Slot), va_P (dC, dI) vwCl (e0W cB cI cJ cZ  ) H → va_D A (e0W cB cI cJ cZ  ) → va_S A s.heap H locs → lv_has ls 1 [(0, .int p1)] → wX7_isLetter p1  Q → W p l e (headSpec wsX7_isLetter rmX7_isLetter).room s m ([.int p1] : List Value).toArray below meth c H locs 0 0 (MQ below (va_Qi (fun (r : Int32) (u : Unit) => ∃ b : Bool, r = bI b ∧ Q b ) (e0B dC dI cB cI cJ cZ  A) A) ([.int p1] : List Value).toArray s 0 0 A) (F0 m 0 ls []) := by
    intro  H locs ls hP hD hS hl h
    unfold wX7_isLetter at h
    refine lv_iload_n hx hb dX7_isLetter_0 rfl (lv_at hl 0 rfl) ?_
    refine lv_bipush (v := (97)) hx hb dX7_isLetter_1 (by decide) ?_
    refine lv_icmp_lt (tgt := 16) hx hb dX7_isLetter_3 (by decide) (fun c1 => ?_) (fun c1 => ?_)
    · have h := h.1 c1
      refine lv_iconst (v := 0) hx hb dX7_isLetter_16 (by decide) ?_
      exact W.zret (v := (bI false)) hx hb hr (nar_bI false) (fun t ht hW => ⟨⟨_, (), rfl, ⟨false, rfl, h⟩, by rw [ht]; exact hP, va_K.moved hW.alike hK, hD⟩, hS.F ht⟩) hS.2.2 dX7_isLetter_17
    · have h := h.2 c1
      refine lv_iload_n hx hb dX7_isLetter_6 rfl (lv_at hl 0 rfl) ?_
      refine lv_bipush (v := (122)) hx hb dX7_isLetter_7 (by decide) ?_
      refine lv_icmp_gt (tgt := 16) hx hb dX7_isLetter_9 (by decide) (fun c2 => ?_) (fun c2 => ?_)
      · have h := h.1 c2
        refine lv_iconst (v := 0) hx hb dX7_isLetter_16 (by decide) ?_
        exact W.zret (v := (bI false)) hx hb hr (nar_bI false) (fun t ht hW => ⟨⟨_, (), rfl, ⟨false, rfl, h⟩, by rw [ht]; exact hP, va_K.moved hW.alike hK, hD⟩, hS.F ht⟩) hS.2.2 dX7_isLetter_17
      · have h := h.2 c2
        refine lv_iconst (v := 1) hx hb dX7_isLetter_12 (by decide) ?_
        refine lv_goto (tgt := 17) hx hb dX7_isLetter_13 (by decide) ?_
        exact W.zret (v := (bI true)) hx hb hr (nar_bI true) (fun t ht hW => ⟨⟨_, (), rfl, ⟨true, rfl, h⟩, by rw [ht]; exact hP, va_K.moved hW.alike hK, hD⟩, hS.F ht⟩) hS.2.2 dX7_isLetter_17
  have hl := lv_entry ([.int p1]) (n := 1) (Nat.le_of_ble_eq_true rfl)
  rw [lg_entry_eq]
  generalize (lg_sl ([.int p1]) ++ List.replicate (1 - (lg_sl ([.int p1])).length) Slot.unset).toArray = ls at hl ⊢
  have hl : lv_has ls 1 [(0, .int p1)] := hl
  exact bE  s.heap [] ls hP hD hS hl h
def wX7_isDigit (p1 : Int32)  (Q : Bool → Prop) : Prop :=
 ((p1 < (48 : Int32) → (Q false ))
 ∧ (¬ p1 < (48 : Int32) → (((57 : Int32) < p1 → (Q false ))
 ∧ (¬ (57 : Int32) < p1 → (Q true )))))
def rmX7_isDigit : Room := { frames := 0, cells := 0, slots := 0, locals := 0 }
set_option maxHeartbeats 4000000 in
set_option maxRecDepth 100000 in
theorem kX7_isDigit (l : Launch) (dC : Nat → ClassId) (dI : Nat → Nat → Nat) (cB cI cJ cZ : ClassId)  (sz : Nat) (p1 : Int32)  (Q : Bool → Prop) (h : wX7_isDigit p1  Q) : Met l yX7_isDigit wsX7_isDigit rmX7_isDigit (va_Pc [.int p1] (e0I dC dI cB cI cJ cZ   sz)) (va_Qi (fun (r : Int32) (u : Unit) => ∃ b : Bool, r = bI b ∧ Q b ) (e0B dC dI cB cI cJ cZ  (va_A (e0W cB cI cJ cZ  ) sz)) (va_A (e0W cB cI cJ cZ  ) sz)) 0 0 (va_A (e0W cB cI cJ cZ  ) sz) := by
  refine Met.ofW (cc := cX7_isDigit) (maxL := 1) (ret := (some .boolean)) (by decide) rfl ?_
  intro p e s m args below meth c s₁ B hml hv
  obtain ⟨rfl, hsz, hP, hK, hD0⟩ := hv
  have hx := B.exec
  have hb := B.bytes
  have hr := B.returns
  have hts := atoms_spec (ws := wsX7_isDigit) B.pre
  have hown : s.vm.findClass RX7 = some m.cls := findClass_of_methodNamed B.named
  have hlocks := B.notSynchronized
  subst hsz
  have hD := hD0.self (sz := s.heap.size)
  generalize hAe : va_A (e0W cB cI cJ cZ  ) s.heap.size = A at hD ⊢
  have hA : ∀ q : Nat, s.heap.size ≤ q → A q := fun q h => by rw [← hAe]; exact Or.inr h
  have hS : va_S A s.heap s.heap [] := va_S.rf
  have bE : ∀  (H : Heap) (locs : List Loc) (ls : Array Slot), va_P (dC, dI) vwCl (e0W cB cI cJ cZ  ) H → va_D A (e0W cB cI cJ cZ  ) → va_S A s.heap H locs → lv_has ls 1 [(0, .int p1)] → wX7_isDigit p1  Q → W p l e (headSpec wsX7_isDigit rmX7_isDigit).room s m ([.int p1] : List Value).toArray below meth c H locs 0 0 (MQ below (va_Qi (fun (r : Int32) (u : Unit) => ∃ b : Bool, r = bI b ∧ Q b ) (e0B dC dI cB cI cJ cZ  A) A) ([.int p1] : List Value).toArray s 0 0 A) (F0 m 0 ls []) := by
    intro  H locs ls hP hD hS hl h
    unfold wX7_isDigit at h
    refine lv_iload_n hx hb dX7_isDigit_0 rfl (lv_at hl 0 rfl) ?_
    refine lv_bipush (v := (48)) hx hb dX7_isDigit_1 (by decide) ?_
    refine lv_icmp_lt (tgt := 16) hx hb dX7_isDigit_3 (by decide) (fun c1 => ?_) (fun c1 => ?_)
    · have h := h.1 c1
      refine lv_iconst (v := 0) hx hb dX7_isDigit_16 (by decide) ?_
      exact W.zret (v := (bI false)) hx hb hr (nar_bI false) (fun t ht hW => ⟨⟨_, (), rfl, ⟨false, rfl, h⟩, by rw [ht]; exact hP, va_K.moved hW.alike hK, hD⟩, hS.F ht⟩) hS.2.2 dX7_isDigit_17
    · have h := h.2 c1
      refine lv_iload_n hx hb dX7_isDigit_6 rfl (lv_at hl 0 rfl) ?_
      refine lv_bipush (v := (57)) hx hb dX7_isDigit_7 (by decide) ?_
      refine lv_icmp_gt (tgt := 16) hx hb dX7_isDigit_9 (by decide) (fun c2 => ?_) (fun c2 => ?_)
      · have h := h.1 c2
        refine lv_iconst (v := 0) hx hb dX7_isDigit_16 (by decide) ?_
        exact W.zret (v := (bI false)) hx hb hr (nar_bI false) (fun t ht hW => ⟨⟨_, (), rfl, ⟨false, rfl, h⟩, by rw [ht]; exact hP, va_K.moved hW.alike hK, hD⟩, hS.F ht⟩) hS.2.2 dX7_isDigit_17
      · have h := h.2 c2
        refine lv_iconst (v := 1) hx hb dX7_isDigit_12 (by decide) ?_
        refine lv_goto (tgt := 17) hx hb dX7_isDigit_13 (by decide) ?_
        exact W.zret (v := (bI true)) hx hb hr (nar_bI true) (fun t ht hW => ⟨⟨_, (), rfl, ⟨true, rfl, h⟩, by rw [ht]; exact hP, va_K.moved hW.alike hK, hD⟩, hS.F ht⟩) hS.2.2 dX7_isDigit_17
  have hl := lv_entry ([.int p1]) (n := 1) (Nat.le_of_ble_eq_true rfl)
  rw [lg_entry_eq]
  generalize (lg_sl ([.int p1]) ++ List.replicate (1 - (lg_sl ([.int p1])).length) Slot.unset).toArray = ls at hl ⊢
  have hl : lv_has ls 1 [(0, .int p1)] := hl
  exact bE  s.heap [] ls hP hD hS hl h
def wX7_fail (p1 : Int32) (M0 : gS) (M1 : gS) (Q : gS → gS → Prop) : Prop :=
 (((mg M0 7) = 0 → (∀ x2 : Int32, x2 = (((1 : Int32) + ((8 : Int32) * (mg M0 2))) + p1) → (∀ N3 : gS, N3 = sg M0 7 x2 → (Q N3 M1))))
 ∧ (¬ (mg M0 7) = 0 → (Q M0 M1)))
def rmX7_fail : Room := { frames := 0, cells := 0, slots := 0, locals := 0 }
set_option maxHeartbeats 4000000 in
set_option maxRecDepth 100000 in
theorem kX7_fail (l : Launch) (dC : Nat → ClassId) (dI : Nat → Nat → Nat) (cB cI cJ cZ : ClassId) (h0 : Nat) (a0 : Nat → Nat) (sz : Nat) (p1 : Int32) (M0 : gS) (M1 : gS) (Q : gS → gS → Prop) (h : wX7_fail p1 M0 M1 Q) : Met l yX7_fail wsX7_fail rmX7_fail (va_Pc [.ref h0, .int p1] (rdI dC dI cB cI cJ cZ h0 a0 M0 M1 sz)) (va_Qv (fun (u : gS × gS) => Q u.1 u.2) (rdB dC dI cB cI cJ cZ h0 a0 (va_A (rdW cB cI cJ cZ h0 a0 M0 M1) sz)) (va_A (rdW cB cI cJ cZ h0 a0 M0 M1) sz)) 0 0 (va_A (rdW cB cI cJ cZ h0 a0 M0 M1) sz) := by
  refine Met.ofW (cc := cX7_fail) (maxL := 2) (ret := none) (by decide) rfl ?_
  intro p e s m args below meth c s₁ B hml hv
  obtain ⟨rfl, hsz, hP, hK, hD0⟩ := hv
  have hx := B.exec
  have hb := B.bytes
  have hr := B.returns
  have hts := atoms_spec (ws := wsX7_fail) B.pre
  have hown : s.vm.findClass RX7 = some m.cls := findClass_of_methodNamed B.named
  have hlocks := B.notSynchronized
  subst hsz
  have hD := hD0.self (sz := s.heap.size)
  generalize hAe : va_A (rdW cB cI cJ cZ h0 a0 M0 M1) s.heap.size = A at hD ⊢
  have hA : ∀ q : Nat, s.heap.size ≤ q → A q := fun q h => by rw [← hAe]; exact Or.inr h
  have hS : va_S A s.heap s.heap [] := va_S.rf
  have hinX7 : ∀ w ∈ wsX70, w ∈ wsX7_fail := by decide +kernel
  have f1 := hts (.fieldLink RX7 57 "LastWords$Reader" "fault" "I") (by decide +kernel)
  have f2 := hts (.fieldLink RX7 28 "LastWords$Reader" "start" "I") (by decide +kernel)
  have bE : ∀ (M0 : gS) (M1 : gS) (H : Heap) (locs : List Loc) (ls : Array Slot), va_P (dC, dI) vwCl (rdW cB cI cJ cZ h0 a0 M0 M1) H → va_D A (rdW cB cI cJ cZ h0 a0 M0 M1) → va_S A s.heap H locs → lv_has ls 2 [(0, .ref h0), (1, .int p1)] → wX7_fail p1 M0 M1 Q → W p l e (headSpec wsX7_fail rmX7_fail).room s m ([.ref h0, .int p1] : List Value).toArray below meth c H locs 0 0 (MQ below (va_Qv (fun (u : gS × gS) => Q u.1 u.2) (rdB dC dI cB cI cJ cZ h0 a0 A) A) ([.ref h0, .int p1] : List Value).toArray s 0 0 A) (F0 m 0 ls []) := by
    intro M0 M1 H locs ls hP hD hS hl h
    unfold wX7_fail at h
    refine lv_aload_n hx hb dX7_fail_0 rfl (lv_at hl 0 rfl) ?_
    refine va_get (D := (dC, dI)) (ci := 7) (v := .int (mg M0 7)) (C := RX7) (T := TX7) (N := 8) hx hb hts hinX7 hown hK hP 0 rfl rfl 7 (by decide) f1 (fun _ h9 => h9) rfl dX7_fail_1 ?_
    refine lv_if_ne (tgt := 22) hx hb dX7_fail_4 (by decide) (fun c1 => ?_) (fun c1 => ?_)
    · have h := h.2 c1
      exact W.vret hx hb hr (fun t ht hW => ⟨⟨(M0, M1), rfl, h, by rw [ht]; exact hP, va_K.moved hW.alike hK, hD⟩, hS.F ht⟩) hS.2.2 dX7_fail_22
    · have h := h.1 c1
      refine lv_aload_n hx hb dX7_fail_7 rfl (lv_at hl 0 rfl) ?_
      refine lv_iconst (v := 1) hx hb dX7_fail_8 (by decide) ?_
      refine lv_bipush (v := (8)) hx hb dX7_fail_9 (by decide) ?_
      refine lv_aload_n hx hb dX7_fail_11 rfl (lv_at hl 0 rfl) ?_
      refine va_get (D := (dC, dI)) (ci := 7) (v := .int (mg M0 2)) (C := RX7) (T := TX7) (N := 8) hx hb hts hinX7 hown hK hP 0 rfl rfl 2 (by decide) f2 (fun _ h9 => h9) rfl dX7_fail_12 ?_
      refine lv_imul hx hb dX7_fail_15 ?_
      refine lv_iadd hx hb dX7_fail_16 ?_
      refine lv_iload_n hx hb dX7_fail_17 rfl (lv_at hl 1 rfl) ?_
      refine lv_iadd hx hb dX7_fail_18 ?_
      refine lv_topi (fun x2 ex2 => ?_)
      have h := h x2 ex2
      refine va_put (D := (dC, dI)) (ci := 7) (v := .int x2) (ty := .int) (C := RX7) (T := TX7) (N := 8) hx hb hts hinX7 tyX7 tyX7_ok nmX7 hown hK hP hD hS 0 rfl rfl 7 (by decide) f1 (fun _ h9 => h9) rfl (by decide +kernel) rfl rfl (Nat.le_of_ble_eq_true rfl) dX7_fail_19 (fun H locs hP hD hS => ?_)
      have hP := rdP_0_f7 hP
      have hD := rdD_0_f7 hD
      have h := h _ rfl
      generalize sg M0 7 x2 = N3 at hP hD h
      exact W.vret hx hb hr (fun t ht hW => ⟨⟨(N3, M1), rfl, h, by rw [ht]; exact hP, va_K.moved hW.alike hK, hD⟩, hS.F ht⟩) hS.2.2 dX7_fail_22
  have hl := lv_entry ([.ref h0, .int p1]) (n := 2) (Nat.le_of_ble_eq_true rfl)
  rw [lg_entry_eq]
  generalize (lg_sl ([.ref h0, .int p1]) ++ List.replicate (2 - (lg_sl ([.ref h0, .int p1])).length) Slot.unset).toArray = ls at hl ⊢
  have hl : lv_has ls 2 [(0, .ref h0), (1, .int p1)] := hl
  exact bE M0 M1 s.heap [] ls hP hD hS hl h
def wX7_isSign (p1 : Int32) (M0 : gS) (M1 : gS) (Q : Bool → gS → gS → Prop) : Prop :=
 (((mg M0 4) = (3 : Int32) → (((mg M0 5) = p1 → (Q true M0 M1))
 ∧ (¬ (mg M0 5) = p1 → (Q false M0 M1))))
 ∧ (¬ (mg M0 4) = (3 : Int32) → (Q false M0 M1)))
def rmX7_isSign : Room := { frames := 0, cells := 0, slots := 0, locals := 0 }
set_option maxHeartbeats 4000000 in
set_option maxRecDepth 100000 in
theorem kX7_isSign (l : Launch) (dC : Nat → ClassId) (dI : Nat → Nat → Nat) (cB cI cJ cZ : ClassId) (h0 : Nat) (a0 : Nat → Nat) (sz : Nat) (p1 : Int32) (M0 : gS) (M1 : gS) (Q : Bool → gS → gS → Prop) (h : wX7_isSign p1 M0 M1 Q) : Met l yX7_isSign wsX7_isSign rmX7_isSign (va_Pc [.ref h0, .int p1] (rdI dC dI cB cI cJ cZ h0 a0 M0 M1 sz)) (va_Qi (fun (r : Int32) (u : gS × gS) => ∃ b : Bool, r = bI b ∧ Q b u.1 u.2) (rdB dC dI cB cI cJ cZ h0 a0 (va_A (rdW cB cI cJ cZ h0 a0 M0 M1) sz)) (va_A (rdW cB cI cJ cZ h0 a0 M0 M1) sz)) 0 0 (va_A (rdW cB cI cJ cZ h0 a0 M0 M1) sz) := by
  refine Met.ofW (cc := cX7_isSign) (maxL := 2) (ret := (some .boolean)) (by decide) rfl ?_
  intro p e s m args below meth c s₁ B hml hv
  obtain ⟨rfl, hsz, hP, hK, hD0⟩ := hv
  have hx := B.exec
  have hb := B.bytes
  have hr := B.returns
  have hts := atoms_spec (ws := wsX7_isSign) B.pre
  have hown : s.vm.findClass RX7 = some m.cls := findClass_of_methodNamed B.named
  have hlocks := B.notSynchronized
  subst hsz
  have hD := hD0.self (sz := s.heap.size)
  generalize hAe : va_A (rdW cB cI cJ cZ h0 a0 M0 M1) s.heap.size = A at hD ⊢
  have hA : ∀ q : Nat, s.heap.size ≤ q → A q := fun q h => by rw [← hAe]; exact Or.inr h
  have hS : va_S A s.heap s.heap [] := va_S.rf
  have hinX7 : ∀ w ∈ wsX70, w ∈ wsX7_isSign := by decide +kernel
  have f1 := hts (.fieldLink RX7 31 "LastWords$Reader" "kind" "I") (by decide +kernel)
  have f2 := hts (.fieldLink RX7 54 "LastWords$Reader" "sign" "I") (by decide +kernel)
  have bE : ∀ (M0 : gS) (M1 : gS) (H : Heap) (locs : List Loc) (ls : Array Slot), va_P (dC, dI) vwCl (rdW cB cI cJ cZ h0 a0 M0 M1) H → va_D A (rdW cB cI cJ cZ h0 a0 M0 M1) → va_S A s.heap H locs → lv_has ls 2 [(0, .ref h0), (1, .int p1)] → wX7_isSign p1 M0 M1 Q → W p l e (headSpec wsX7_isSign rmX7_isSign).room s m ([.ref h0, .int p1] : List Value).toArray below meth c H locs 0 0 (MQ below (va_Qi (fun (r : Int32) (u : gS × gS) => ∃ b : Bool, r = bI b ∧ Q b u.1 u.2) (rdB dC dI cB cI cJ cZ h0 a0 A) A) ([.ref h0, .int p1] : List Value).toArray s 0 0 A) (F0 m 0 ls []) := by
    intro M0 M1 H locs ls hP hD hS hl h
    unfold wX7_isSign at h
    refine lv_aload_n hx hb dX7_isSign_0 rfl (lv_at hl 0 rfl) ?_
    refine va_get (D := (dC, dI)) (ci := 7) (v := .int (mg M0 4)) (C := RX7) (T := TX7) (N := 8) hx hb hts hinX7 hown hK hP 0 rfl rfl 4 (by decide) f1 (fun _ h9 => h9) rfl dX7_isSign_1 ?_
    refine lv_iconst (v := 3) hx hb dX7_isSign_4 (by decide) ?_
    refine lv_icmp_ne (tgt := 20) hx hb dX7_isSign_5 (by decide) (fun c1 => ?_) (fun c1 => ?_)
    · have h := h.2 c1
      refine lv_iconst (v := 0) hx hb dX7_isSign_20 (by decide) ?_
      exact W.zret (v := (bI false)) hx hb hr (nar_bI false) (fun t ht hW => ⟨⟨_, (M0, M1), rfl, ⟨false, rfl, h⟩, by rw [ht]; exact hP, va_K.moved hW.alike hK, hD⟩, hS.F ht⟩) hS.2.2 dX7_isSign_21
    · have h := h.1 c1
      refine lv_aload_n hx hb dX7_isSign_8 rfl (lv_at hl 0 rfl) ?_
      refine va_get (D := (dC, dI)) (ci := 7) (v := .int (mg M0 5)) (C := RX7) (T := TX7) (N := 8) hx hb hts hinX7 hown hK hP 0 rfl rfl 5 (by decide) f2 (fun _ h9 => h9) rfl dX7_isSign_9 ?_
      refine lv_iload_n hx hb dX7_isSign_12 rfl (lv_at hl 1 rfl) ?_
      refine lv_icmp_ne (tgt := 20) hx hb dX7_isSign_13 (by decide) (fun c2 => ?_) (fun c2 => ?_)
      · have h := h.2 c2
        refine lv_iconst (v := 0) hx hb dX7_isSign_20 (by decide) ?_
        exact W.zret (v := (bI false)) hx hb hr (nar_bI false) (fun t ht hW => ⟨⟨_, (M0, M1), rfl, ⟨false, rfl, h⟩, by rw [ht]; exact hP, va_K.moved hW.alike hK, hD⟩, hS.F ht⟩) hS.2.2 dX7_isSign_21
      · have h := h.1 c2
        refine lv_iconst (v := 1) hx hb dX7_isSign_16 (by decide) ?_
        refine lv_goto (tgt := 21) hx hb dX7_isSign_17 (by decide) ?_
        exact W.zret (v := (bI true)) hx hb hr (nar_bI true) (fun t ht hW => ⟨⟨_, (M0, M1), rfl, ⟨true, rfl, h⟩, by rw [ht]; exact hP, va_K.moved hW.alike hK, hD⟩, hS.F ht⟩) hS.2.2 dX7_isSign_21
  have hl := lv_entry ([.ref h0, .int p1]) (n := 2) (Nat.le_of_ble_eq_true rfl)
  rw [lg_entry_eq]
  generalize (lg_sl ([.ref h0, .int p1]) ++ List.replicate (2 - (lg_sl ([.ref h0, .int p1])).length) Slot.unset).toArray = ls at hl ⊢
  have hl : lv_has ls 2 [(0, .ref h0), (1, .int p1)] := hl
  exact bE M0 M1 s.heap [] ls hP hD hS hl h
def wX7_passName_5  (Q : gS → gS → Prop) : Nat → gS → gS → Prop
 | 0, _, _ => False
 | n + 1, M0, M1 => (((mg M0 1) ≤ (mg M0 3) → (Q M0 M1))
 ∧ (¬ (mg M0 1) ≤ (mg M0 3) → (vp_in (mg M0 3) 400 ∧ (wX7_isLetter (ma M1 0 (Int32.toNatClampNeg (mg M0 3)))  (fun (b3 : Bool)  => (((bI b3) = 0 → (Q M0 M1))
 ∧ (¬ (bI b3) = 0 → (∀ x5 : Int32, x5 = ((mg M0 3) + (1 : Int32)) → (∀ N6 : gS, N6 = sg M0 3 x5 → (wX7_passName_5  Q n N6 M1))))))))))
def wX7_passName  (M0 : gS) (M1 : gS) (Q : gS → gS → Prop) : Prop :=
 (∀ N1 : gS, N1 = sg M0 4 (1 : Int32) → (∃ k5 : Nat, wX7_passName_5  Q k5 N1 M1))
def rmX7_passName : Room := { frames := 1, cells := 0, slots := 0, locals := 20 }
set_option maxHeartbeats 4000000 in
set_option maxRecDepth 100000 in
theorem kX7_passName (l : Launch) (dC : Nat → ClassId) (dI : Nat → Nat → Nat) (cB cI cJ cZ : ClassId) (h0 : Nat) (a0 : Nat → Nat) (sz : Nat)  (M0 : gS) (M1 : gS) (Q : gS → gS → Prop) (h : wX7_passName  M0 M1 Q) : Met l yX7_passName wsX7_passName rmX7_passName (va_Pc [.ref h0] (rdI dC dI cB cI cJ cZ h0 a0 M0 M1 sz)) (va_Qv (fun (u : gS × gS) => Q u.1 u.2) (rdB dC dI cB cI cJ cZ h0 a0 (va_A (rdW cB cI cJ cZ h0 a0 M0 M1) sz)) (va_A (rdW cB cI cJ cZ h0 a0 M0 M1) sz)) 0 0 (va_A (rdW cB cI cJ cZ h0 a0 M0 M1) sz) := by
  refine Met.ofW (cc := cX7_passName) (maxL := 1) (ret := none) (by decide) rfl ?_
  intro p e s m args below meth c s₁ B hml hv
  obtain ⟨rfl, hsz, hP, hK, hD0⟩ := hv
  have hx := B.exec
  have hb := B.bytes
  have hr := B.returns
  have hts := atoms_spec (ws := wsX7_passName) B.pre
  have hown : s.vm.findClass RX7 = some m.cls := findClass_of_methodNamed B.named
  have hlocks := B.notSynchronized
  subst hsz
  have hD := hD0.self (sz := s.heap.size)
  generalize hAe : va_A (rdW cB cI cJ cZ h0 a0 M0 M1) s.heap.size = A at hD ⊢
  have hA : ∀ q : Nat, s.heap.size ≤ q → A q := fun q h => by rw [← hAe]; exact Or.inr h
  have hS : va_S A s.heap s.heap [] := va_S.rf
  have hinX7 : ∀ w ∈ wsX70, w ∈ wsX7_passName := by decide +kernel
  have f1 := hts (.fieldLink RX7 25 "LastWords$Reader" "stop" "I") (by decide +kernel)
  have f2 := hts (.fieldLink RX7 21 "LastWords$Reader" "length" "I") (by decide +kernel)
  have f3 := hts (.fieldLink RX7 9 "LastWords$Reader" "text" "[I") (by decide +kernel)
  have f4 := hts (.fieldLink RX7 31 "LastWords$Reader" "kind" "I") (by decide +kernel)
  have b5 : ∀ (n : Nat)  (M0 : gS) (M1 : gS) (H : Heap) (locs : List Loc) (ls : Array Slot), va_P (dC, dI) vwCl (rdW cB cI cJ cZ h0 a0 M0 M1) H → va_D A (rdW cB cI cJ cZ h0 a0 M0 M1) → va_S A s.heap H locs → lv_has ls 1 [(0, .ref h0)] → wX7_passName_5  Q n M0 M1 → W p l e (headSpec wsX7_passName rmX7_passName).room s m ([.ref h0] : List Value).toArray below meth c H locs 0 0 (MQ below (va_Qv (fun (u : gS × gS) => Q u.1 u.2) (rdB dC dI cB cI cJ cZ h0 a0 A) A) ([.ref h0] : List Value).toArray s 0 0 A) (F0 m 5 ls []) := by
    intro  n
    induction n with
    | zero => intro M0 M1 H locs ls hP hD hS hl h; exact absurd h (by simp [wX7_passName_5])
    | succ n hB50 =>
      intro M0 M1 H locs ls hP hD hS hl h
      have hB5 := hB50
      rw [wX7_passName_5] at h
      refine lv_aload_n hx hb dX7_passName_5 rfl (lv_at hl 0 rfl) ?_
      refine va_get (D := (dC, dI)) (ci := 7) (v := .int (mg M0 3)) (C := RX7) (T := TX7) (N := 8) hx hb hts hinX7 hown hK hP 0 rfl rfl 3 (by decide) f1 (fun _ h9 => h9) rfl dX7_passName_6 ?_
      refine lv_aload_n hx hb dX7_passName_9 rfl (lv_at hl 0 rfl) ?_
      refine va_get (D := (dC, dI)) (ci := 7) (v := .int (mg M0 1)) (C := RX7) (T := TX7) (N := 8) hx hb hts hinX7 hown hK hP 0 rfl rfl 1 (by decide) f2 (fun _ h9 => h9) rfl dX7_passName_10 ?_
      refine lv_icmp_ge (tgt := 44) hx hb dX7_passName_13 (by decide) (fun c1 => ?_) (fun c1 => ?_)
      · have h := h.1 c1
        exact W.vret hx hb hr (fun t ht hW => ⟨⟨(M0, M1), rfl, h, by rw [ht]; exact hP, va_K.moved hW.alike hK, hD⟩, hS.F ht⟩) hS.2.2 dX7_passName_44
      · have h := h.2 c1
        refine lv_aload_n hx hb dX7_passName_16 rfl (lv_at hl 0 rfl) ?_
        refine va_get (D := (dC, dI)) (ci := 7) (v := .ref (a0 0)) (C := RX7) (T := TX7) (N := 8) hx hb hts hinX7 hown hK hP 0 rfl rfl 0 (by decide) f3 (fun _ h9 => h9) rfl dX7_passName_17 ?_
        refine lv_aload_n hx hb dX7_passName_20 rfl (lv_at hl 0 rfl) ?_
        refine va_get (D := (dC, dI)) (ci := 7) (v := .int (mg M0 3)) (C := RX7) (T := TX7) (N := 8) hx hb hts hinX7 hown hK hP 0 rfl rfl 3 (by decide) f1 (fun _ h9 => h9) rfl dX7_passName_21 ?_
        refine va_iald hx hb hK hP 1 1 (f := ma M1 0) rfl rfl h.1 dX7_passName_24 ?_
        have h := h.2
        have hPc := hP.sub (ws' := (e0W cB cI cJ cZ  )) [] rfl
        have hDc := hD.sub (ws' := (e0W cB cI cJ cZ  )) [] (by decide) rfl
        have hFc := va_free (wc := (e0W cB cI cJ cZ  )) hD hS hA [] rfl
        refine va_calli (va_runS (As := [.int (ma M1 0 (Int32.toNatClampNeg (mg M0 3)))]) (rest := []) ⟨hx, hb, hml, hown, hts⟩ (kX7_isLetter l dC dI cB cI cJ cZ  H.size (ma M1 0 (Int32.toNatClampNeg (mg M0 3)))  _ h) (cwS 1 hts gX7_passName_X7_isLetter rfl rfl rfl (by decide +kernel) ⟨Nat.le_of_ble_eq_true rfl, Nat.le_of_ble_eq_true rfl⟩) (e0pS hK hPc hDc) rfl rfl hl.1 rfl (lv_room (Nat.le_of_ble_eq_true rfl)) dX7_passName_25 ⟨Nat.le_of_ble_eq_true rfl, Nat.le_of_ble_eq_true rfl⟩) hS (fun q _ z => hFc q z) hFc (fun r2 u t H1 locs ht hvm hw hB hz1 hk1 hS => ?_)
        obtain ⟨hP1, hK1, hD1⟩ := hB
        rw [ht] at hP1
        obtain ⟨hP, hD⟩ := va_join (wr := [(h0, .inr (7, [.ref (a0 0), .int (mg M0 1), .int (mg M0 2), .int (mg M0 3), .int (mg M0 4), .int (mg M0 5), .int (mg M0 6), .int (mg M0 7)])), (a0 0, .inl (cI, 400, .inl (ma M1 0)))]) (w1 := (e0W cB cI cJ cZ  )) hP hD [] [0, 1] rfl rfl (by decide) (by decide) hk1 hFc hP1 hD1
        have hP := hP.sub (ws' := (rdW cB cI cJ cZ h0 a0 M0 M1)) [0, 1] rfl
        have hD := hD.sub (ws' := (rdW cB cI cJ cZ h0 a0 M0 M1)) [0, 1] (by decide) rfl
        generalize H1 = H at hP hS ⊢
        obtain ⟨b3, rfl, h⟩ := hw
        try dsimp only at h
        refine lv_if_eq (tgt := 44) hx hb dX7_passName_28 (by decide) (fun c4 => ?_) (fun c4 => ?_)
        · have h := h.1 c4
          exact W.vret hx hb hr (fun t ht hW => ⟨⟨(M0, M1), rfl, h, by rw [ht]; exact hP, va_K.moved hW.alike hK, hD⟩, hS.F ht⟩) hS.2.2 dX7_passName_44
        · have h := h.2 c4
          refine lv_aload_n hx hb dX7_passName_31 rfl (lv_at hl 0 rfl) ?_
          refine lv_dup hx hb dX7_passName_32 rfl ?_
          refine va_get (D := (dC, dI)) (ci := 7) (v := .int (mg M0 3)) (C := RX7) (T := TX7) (N := 8) hx hb hts hinX7 hown hK hP 0 rfl rfl 3 (by decide) f1 (fun _ h9 => h9) rfl dX7_passName_33 ?_
          refine lv_iconst (v := 1) hx hb dX7_passName_36 (by decide) ?_
          refine lv_iadd hx hb dX7_passName_37 ?_
          refine lv_topi (fun x5 ex5 => ?_)
          have h := h x5 ex5
          refine va_put (D := (dC, dI)) (ci := 7) (v := .int x5) (ty := .int) (C := RX7) (T := TX7) (N := 8) hx hb hts hinX7 tyX7 tyX7_ok nmX7 hown hK hP hD hS 0 rfl rfl 3 (by decide) f1 (fun _ h9 => h9) rfl (by decide +kernel) rfl rfl (Nat.le_of_ble_eq_true rfl) dX7_passName_38 (fun H locs hP hD hS => ?_)
          have hP := rdP_0_f3 hP
          have hD := rdD_0_f3 hD
          have h := h _ rfl
          generalize sg M0 3 x5 = N6 at hP hD h
          refine lv_goto (tgt := 5) hx hb dX7_passName_41 (by decide) ?_
          exact hB5 N6 M1 H locs ls hP hD hS (lv_sub hl [0] rfl) h
  have bE : ∀ (M0 : gS) (M1 : gS) (H : Heap) (locs : List Loc) (ls : Array Slot), va_P (dC, dI) vwCl (rdW cB cI cJ cZ h0 a0 M0 M1) H → va_D A (rdW cB cI cJ cZ h0 a0 M0 M1) → va_S A s.heap H locs → lv_has ls 1 [(0, .ref h0)] → wX7_passName  M0 M1 Q → W p l e (headSpec wsX7_passName rmX7_passName).room s m ([.ref h0] : List Value).toArray below meth c H locs 0 0 (MQ below (va_Qv (fun (u : gS × gS) => Q u.1 u.2) (rdB dC dI cB cI cJ cZ h0 a0 A) A) ([.ref h0] : List Value).toArray s 0 0 A) (F0 m 0 ls []) := by
    intro M0 M1 H locs ls hP hD hS hl h
    unfold wX7_passName at h
    refine lv_aload_n hx hb dX7_passName_0 rfl (lv_at hl 0 rfl) ?_
    refine lv_iconst (v := 1) hx hb dX7_passName_1 (by decide) ?_
    refine va_put (D := (dC, dI)) (ci := 7) (v := .int (1 : Int32)) (ty := .int) (C := RX7) (T := TX7) (N := 8) hx hb hts hinX7 tyX7 tyX7_ok nmX7 hown hK hP hD hS 0 rfl rfl 4 (by decide) f4 (fun _ h9 => h9) rfl (by decide +kernel) rfl rfl (Nat.le_of_ble_eq_true rfl) dX7_passName_2 (fun H locs hP hD hS => ?_)
    have hP := rdP_0_f4 hP
    have hD := rdD_0_f4 hD
    have h := h _ rfl
    generalize sg M0 4 (1 : Int32) = N1 at hP hD h
    obtain ⟨n9, h⟩ := h
    exact b5  n9 N1 M1 H locs ls hP hD hS (lv_sub hl [0] rfl) h
  have hl := lv_entry ([.ref h0]) (n := 1) (Nat.le_of_ble_eq_true rfl)
  rw [lg_entry_eq]
  generalize (lg_sl ([.ref h0]) ++ List.replicate (1 - (lg_sl ([.ref h0])).length) Slot.unset).toArray = ls at hl ⊢
  have hl : lv_has ls 1 [(0, .ref h0)] := hl
  exact bE M0 M1 s.heap [] ls hP hD hS hl h
def wX7_passNumber_81 (B10 : gS → gS → Prop) (Q : gS → gS → Prop)  (M0 : gS) (M1 : gS) : Prop :=
 (∀ x1 : Int32, x1 = ((mg M0 3) + (1 : Int32)) → (∀ N2 : gS, N2 = sg M0 3 x1 → (B10 N2 M1)))
def wX7_passNumber_10  (Q : gS → gS → Prop) : Nat → gS → gS → Prop
 | 0, _, _ => False
 | n + 1, M0, M1 => (((mg M0 1) ≤ (mg M0 3) → (Q M0 M1))
 ∧ (¬ (mg M0 1) ≤ (mg M0 3) → (vp_in (mg M0 3) 400 ∧ (wX7_isDigit (ma M1 0 (Int32.toNatClampNeg (mg M0 3)))  (fun (b3 : Bool)  => (((bI b3) = 0 → (Q M0 M1))
 ∧ (¬ (bI b3) = 0 → (((5 : Int32) ≤ ((mg M0 3) - (mg M0 2)) → (∀ N6 : gS, N6 = sg M0 6 (-1 : Int32) → (wX7_passNumber_81 (fun  (M0 : gS) (M1 : gS) => wX7_passNumber_10  Q n M0 M1) Q N6 M1)))
 ∧ (¬ (5 : Int32) ≤ ((mg M0 3) - (mg M0 2)) → (vp_in (mg M0 3) 400 ∧ (∀ x7 : Int32, x7 = ((((mg M0 6) * (10 : Int32)) + (ma M1 0 (Int32.toNatClampNeg (mg M0 3)))) - (48 : Int32)) → (∀ N8 : gS, N8 = sg M0 6 x7 → (wX7_passNumber_81 (fun  (M0 : gS) (M1 : gS) => wX7_passNumber_10  Q n M0 M1) Q N8 M1)))))))))))))
def wX7_passNumber  (M0 : gS) (M1 : gS) (Q : gS → gS → Prop) : Prop :=
 (∀ N1 : gS, N1 = sg M0 4 (2 : Int32) → (∀ N2 : gS, N2 = sg N1 6 (0 : Int32) → (∃ k10 : Nat, wX7_passNumber_10  Q k10 N2 M1)))
def rmX7_passNumber : Room := { frames := 1, cells := 0, slots := 0, locals := 20 }
set_option maxHeartbeats 4000000 in
set_option maxRecDepth 100000 in
theorem kX7_passNumber (l : Launch) (dC : Nat → ClassId) (dI : Nat → Nat → Nat) (cB cI cJ cZ : ClassId) (h0 : Nat) (a0 : Nat → Nat) (sz : Nat)  (M0 : gS) (M1 : gS) (Q : gS → gS → Prop) (h : wX7_passNumber  M0 M1 Q) : Met l yX7_passNumber wsX7_passNumber rmX7_passNumber (va_Pc [.ref h0] (rdI dC dI cB cI cJ cZ h0 a0 M0 M1 sz)) (va_Qv (fun (u : gS × gS) => Q u.1 u.2) (rdB dC dI cB cI cJ cZ h0 a0 (va_A (rdW cB cI cJ cZ h0 a0 M0 M1) sz)) (va_A (rdW cB cI cJ cZ h0 a0 M0 M1) sz)) 0 0 (va_A (rdW cB cI cJ cZ h0 a0 M0 M1) sz) := by
  refine Met.ofW (cc := cX7_passNumber) (maxL := 1) (ret := none) (by decide) rfl ?_
  intro p e s m args below meth c s₁ B hml hv
  obtain ⟨rfl, hsz, hP, hK, hD0⟩ := hv
  have hx := B.exec
  have hb := B.bytes
  have hr := B.returns
  have hts := atoms_spec (ws := wsX7_passNumber) B.pre
  have hown : s.vm.findClass RX7 = some m.cls := findClass_of_methodNamed B.named
  have hlocks := B.notSynchronized
  subst hsz
  have hD := hD0.self (sz := s.heap.size)
  generalize hAe : va_A (rdW cB cI cJ cZ h0 a0 M0 M1) s.heap.size = A at hD ⊢
  have hA : ∀ q : Nat, s.heap.size ≤ q → A q := fun q h => by rw [← hAe]; exact Or.inr h
  have hS : va_S A s.heap s.heap [] := va_S.rf
  have hinX7 : ∀ w ∈ wsX70, w ∈ wsX7_passNumber := by decide +kernel
  have f1 := hts (.fieldLink RX7 25 "LastWords$Reader" "stop" "I") (by decide +kernel)
  have f2 := hts (.fieldLink RX7 21 "LastWords$Reader" "length" "I") (by decide +kernel)
  have f3 := hts (.fieldLink RX7 9 "LastWords$Reader" "text" "[I") (by decide +kernel)
  have f4 := hts (.fieldLink RX7 28 "LastWords$Reader" "start" "I") (by decide +kernel)
  have f5 := hts (.fieldLink RX7 51 "LastWords$Reader" "number" "I") (by decide +kernel)
  have f6 := hts (.fieldLink RX7 31 "LastWords$Reader" "kind" "I") (by decide +kernel)
  have b81 : ∀ (B10 : gS → gS → Prop) (hB10 : ∀  (M0 : gS) (M1 : gS) (H : Heap) (locs : List Loc) (ls : Array Slot), va_P (dC, dI) vwCl (rdW cB cI cJ cZ h0 a0 M0 M1) H → va_D A (rdW cB cI cJ cZ h0 a0 M0 M1) → va_S A s.heap H locs → lv_has ls 1 [(0, .ref h0)] → B10 M0 M1 → W p l e (headSpec wsX7_passNumber rmX7_passNumber).room s m ([.ref h0] : List Value).toArray below meth c H locs 0 0 (MQ below (va_Qv (fun (u : gS × gS) => Q u.1 u.2) (rdB dC dI cB cI cJ cZ h0 a0 A) A) ([.ref h0] : List Value).toArray s 0 0 A) (F0 m 10 ls []))  (M0 : gS) (M1 : gS) (H : Heap) (locs : List Loc) (ls : Array Slot), va_P (dC, dI) vwCl (rdW cB cI cJ cZ h0 a0 M0 M1) H → va_D A (rdW cB cI cJ cZ h0 a0 M0 M1) → va_S A s.heap H locs → lv_has ls 1 [(0, .ref h0)] → wX7_passNumber_81 B10 Q M0 M1 → W p l e (headSpec wsX7_passNumber rmX7_passNumber).room s m ([.ref h0] : List Value).toArray below meth c H locs 0 0 (MQ below (va_Qv (fun (u : gS × gS) => Q u.1 u.2) (rdB dC dI cB cI cJ cZ h0 a0 A) A) ([.ref h0] : List Value).toArray s 0 0 A) (F0 m 81 ls []) := by
    intro B10 hB10 M0 M1 H locs ls hP hD hS hl h
    unfold wX7_passNumber_81 at h
    refine lv_aload_n hx hb dX7_passNumber_81 rfl (lv_at hl 0 rfl) ?_
    refine lv_dup hx hb dX7_passNumber_82 rfl ?_
    refine va_get (D := (dC, dI)) (ci := 7) (v := .int (mg M0 3)) (C := RX7) (T := TX7) (N := 8) hx hb hts hinX7 hown hK hP 0 rfl rfl 3 (by decide) f1 (fun _ h9 => h9) rfl dX7_passNumber_83 ?_
    refine lv_iconst (v := 1) hx hb dX7_passNumber_86 (by decide) ?_
    refine lv_iadd hx hb dX7_passNumber_87 ?_
    refine lv_topi (fun x1 ex1 => ?_)
    have h := h x1 ex1
    refine va_put (D := (dC, dI)) (ci := 7) (v := .int x1) (ty := .int) (C := RX7) (T := TX7) (N := 8) hx hb hts hinX7 tyX7 tyX7_ok nmX7 hown hK hP hD hS 0 rfl rfl 3 (by decide) f1 (fun _ h9 => h9) rfl (by decide +kernel) rfl rfl (Nat.le_of_ble_eq_true rfl) dX7_passNumber_88 (fun H locs hP hD hS => ?_)
    have hP := rdP_0_f3 hP
    have hD := rdD_0_f3 hD
    have h := h _ rfl
    generalize sg M0 3 x1 = N2 at hP hD h
    refine lv_goto (tgt := 10) hx hb dX7_passNumber_91 (by decide) ?_
    exact hB10 N2 M1 H locs ls hP hD hS (lv_sub hl [0] rfl) h
  have b10 : ∀ (n : Nat)  (M0 : gS) (M1 : gS) (H : Heap) (locs : List Loc) (ls : Array Slot), va_P (dC, dI) vwCl (rdW cB cI cJ cZ h0 a0 M0 M1) H → va_D A (rdW cB cI cJ cZ h0 a0 M0 M1) → va_S A s.heap H locs → lv_has ls 1 [(0, .ref h0)] → wX7_passNumber_10  Q n M0 M1 → W p l e (headSpec wsX7_passNumber rmX7_passNumber).room s m ([.ref h0] : List Value).toArray below meth c H locs 0 0 (MQ below (va_Qv (fun (u : gS × gS) => Q u.1 u.2) (rdB dC dI cB cI cJ cZ h0 a0 A) A) ([.ref h0] : List Value).toArray s 0 0 A) (F0 m 10 ls []) := by
    intro  n
    induction n with
    | zero => intro M0 M1 H locs ls hP hD hS hl h; exact absurd h (by simp [wX7_passNumber_10])
    | succ n hB100 =>
      intro M0 M1 H locs ls hP hD hS hl h
      have hB10 := hB100
      rw [wX7_passNumber_10] at h
      refine lv_aload_n hx hb dX7_passNumber_10 rfl (lv_at hl 0 rfl) ?_
      refine va_get (D := (dC, dI)) (ci := 7) (v := .int (mg M0 3)) (C := RX7) (T := TX7) (N := 8) hx hb hts hinX7 hown hK hP 0 rfl rfl 3 (by decide) f1 (fun _ h9 => h9) rfl dX7_passNumber_11 ?_
      refine lv_aload_n hx hb dX7_passNumber_14 rfl (lv_at hl 0 rfl) ?_
      refine va_get (D := (dC, dI)) (ci := 7) (v := .int (mg M0 1)) (C := RX7) (T := TX7) (N := 8) hx hb hts hinX7 hown hK hP 0 rfl rfl 1 (by decide) f2 (fun _ h9 => h9) rfl dX7_passNumber_15 ?_
      refine lv_icmp_ge (tgt := 94) hx hb dX7_passNumber_18 (by decide) (fun c1 => ?_) (fun c1 => ?_)
      · have h := h.1 c1
        exact W.vret hx hb hr (fun t ht hW => ⟨⟨(M0, M1), rfl, h, by rw [ht]; exact hP, va_K.moved hW.alike hK, hD⟩, hS.F ht⟩) hS.2.2 dX7_passNumber_94
      · have h := h.2 c1
        refine lv_aload_n hx hb dX7_passNumber_21 rfl (lv_at hl 0 rfl) ?_
        refine va_get (D := (dC, dI)) (ci := 7) (v := .ref (a0 0)) (C := RX7) (T := TX7) (N := 8) hx hb hts hinX7 hown hK hP 0 rfl rfl 0 (by decide) f3 (fun _ h9 => h9) rfl dX7_passNumber_22 ?_
        refine lv_aload_n hx hb dX7_passNumber_25 rfl (lv_at hl 0 rfl) ?_
        refine va_get (D := (dC, dI)) (ci := 7) (v := .int (mg M0 3)) (C := RX7) (T := TX7) (N := 8) hx hb hts hinX7 hown hK hP 0 rfl rfl 3 (by decide) f1 (fun _ h9 => h9) rfl dX7_passNumber_26 ?_
        refine va_iald hx hb hK hP 1 1 (f := ma M1 0) rfl rfl h.1 dX7_passNumber_29 ?_
        have h := h.2
        have hPc := hP.sub (ws' := (e0W cB cI cJ cZ  )) [] rfl
        have hDc := hD.sub (ws' := (e0W cB cI cJ cZ  )) [] (by decide) rfl
        have hFc := va_free (wc := (e0W cB cI cJ cZ  )) hD hS hA [] rfl
        refine va_calli (va_runS (As := [.int (ma M1 0 (Int32.toNatClampNeg (mg M0 3)))]) (rest := []) ⟨hx, hb, hml, hown, hts⟩ (kX7_isDigit l dC dI cB cI cJ cZ  H.size (ma M1 0 (Int32.toNatClampNeg (mg M0 3)))  _ h) (cwS 1 hts gX7_passNumber_X7_isDigit rfl rfl rfl (by decide +kernel) ⟨Nat.le_of_ble_eq_true rfl, Nat.le_of_ble_eq_true rfl⟩) (e0pS hK hPc hDc) rfl rfl hl.1 rfl (lv_room (Nat.le_of_ble_eq_true rfl)) dX7_passNumber_30 ⟨Nat.le_of_ble_eq_true rfl, Nat.le_of_ble_eq_true rfl⟩) hS (fun q _ z => hFc q z) hFc (fun r2 u t H1 locs ht hvm hw hB hz1 hk1 hS => ?_)
        obtain ⟨hP1, hK1, hD1⟩ := hB
        rw [ht] at hP1
        obtain ⟨hP, hD⟩ := va_join (wr := [(h0, .inr (7, [.ref (a0 0), .int (mg M0 1), .int (mg M0 2), .int (mg M0 3), .int (mg M0 4), .int (mg M0 5), .int (mg M0 6), .int (mg M0 7)])), (a0 0, .inl (cI, 400, .inl (ma M1 0)))]) (w1 := (e0W cB cI cJ cZ  )) hP hD [] [0, 1] rfl rfl (by decide) (by decide) hk1 hFc hP1 hD1
        have hP := hP.sub (ws' := (rdW cB cI cJ cZ h0 a0 M0 M1)) [0, 1] rfl
        have hD := hD.sub (ws' := (rdW cB cI cJ cZ h0 a0 M0 M1)) [0, 1] (by decide) rfl
        generalize H1 = H at hP hS ⊢
        obtain ⟨b3, rfl, h⟩ := hw
        try dsimp only at h
        refine lv_if_eq (tgt := 94) hx hb dX7_passNumber_33 (by decide) (fun c4 => ?_) (fun c4 => ?_)
        · have h := h.1 c4
          exact W.vret hx hb hr (fun t ht hW => ⟨⟨(M0, M1), rfl, h, by rw [ht]; exact hP, va_K.moved hW.alike hK, hD⟩, hS.F ht⟩) hS.2.2 dX7_passNumber_94
        · have h := h.2 c4
          refine lv_aload_n hx hb dX7_passNumber_36 rfl (lv_at hl 0 rfl) ?_
          refine va_get (D := (dC, dI)) (ci := 7) (v := .int (mg M0 3)) (C := RX7) (T := TX7) (N := 8) hx hb hts hinX7 hown hK hP 0 rfl rfl 3 (by decide) f1 (fun _ h9 => h9) rfl dX7_passNumber_37 ?_
          refine lv_aload_n hx hb dX7_passNumber_40 rfl (lv_at hl 0 rfl) ?_
          refine va_get (D := (dC, dI)) (ci := 7) (v := .int (mg M0 2)) (C := RX7) (T := TX7) (N := 8) hx hb hts hinX7 hown hK hP 0 rfl rfl 2 (by decide) f4 (fun _ h9 => h9) rfl dX7_passNumber_41 ?_
          refine lv_isub hx hb dX7_passNumber_44 ?_
          refine lv_iconst (v := 5) hx hb dX7_passNumber_45 (by decide) ?_
          refine lv_icmp_ge (tgt := 76) hx hb dX7_passNumber_46 (by decide) (fun c5 => ?_) (fun c5 => ?_)
          · have h := h.1 c5
            refine lv_aload_n hx hb dX7_passNumber_76 rfl (lv_at hl 0 rfl) ?_
            refine lv_iconst (v := (-1)) hx hb dX7_passNumber_77 (by decide) ?_
            refine va_put (D := (dC, dI)) (ci := 7) (v := .int (-1 : Int32)) (ty := .int) (C := RX7) (T := TX7) (N := 8) hx hb hts hinX7 tyX7 tyX7_ok nmX7 hown hK hP hD hS 0 rfl rfl 6 (by decide) f5 (fun _ h9 => h9) rfl (by decide +kernel) rfl rfl (Nat.le_of_ble_eq_true rfl) dX7_passNumber_78 (fun H locs hP hD hS => ?_)
            have hP := rdP_0_f6 hP
            have hD := rdD_0_f6 hD
            have h := h _ rfl
            generalize sg M0 6 (-1 : Int32) = N6 at hP hD h
            exact b81 _ hB10 N6 M1 H locs ls hP hD hS (lv_sub hl [0] rfl) h
          · have h := h.2 c5
            refine lv_aload_n hx hb dX7_passNumber_49 rfl (lv_at hl 0 rfl) ?_
            refine lv_aload_n hx hb dX7_passNumber_50 rfl (lv_at hl 0 rfl) ?_
            refine va_get (D := (dC, dI)) (ci := 7) (v := .int (mg M0 6)) (C := RX7) (T := TX7) (N := 8) hx hb hts hinX7 hown hK hP 0 rfl rfl 6 (by decide) f5 (fun _ h9 => h9) rfl dX7_passNumber_51 ?_
            refine lv_bipush (v := (10)) hx hb dX7_passNumber_54 (by decide) ?_
            refine lv_imul hx hb dX7_passNumber_56 ?_
            refine lv_aload_n hx hb dX7_passNumber_57 rfl (lv_at hl 0 rfl) ?_
            refine va_get (D := (dC, dI)) (ci := 7) (v := .ref (a0 0)) (C := RX7) (T := TX7) (N := 8) hx hb hts hinX7 hown hK hP 0 rfl rfl 0 (by decide) f3 (fun _ h9 => h9) rfl dX7_passNumber_58 ?_
            refine lv_aload_n hx hb dX7_passNumber_61 rfl (lv_at hl 0 rfl) ?_
            refine va_get (D := (dC, dI)) (ci := 7) (v := .int (mg M0 3)) (C := RX7) (T := TX7) (N := 8) hx hb hts hinX7 hown hK hP 0 rfl rfl 3 (by decide) f1 (fun _ h9 => h9) rfl dX7_passNumber_62 ?_
            refine va_iald hx hb hK hP 1 1 (f := ma M1 0) rfl rfl h.1 dX7_passNumber_65 ?_
            have h := h.2
            refine lv_iadd hx hb dX7_passNumber_66 ?_
            refine lv_bipush (v := (48)) hx hb dX7_passNumber_67 (by decide) ?_
            refine lv_isub hx hb dX7_passNumber_69 ?_
            refine lv_topi (fun x7 ex7 => ?_)
            have h := h x7 ex7
            refine va_put (D := (dC, dI)) (ci := 7) (v := .int x7) (ty := .int) (C := RX7) (T := TX7) (N := 8) hx hb hts hinX7 tyX7 tyX7_ok nmX7 hown hK hP hD hS 0 rfl rfl 6 (by decide) f5 (fun _ h9 => h9) rfl (by decide +kernel) rfl rfl (Nat.le_of_ble_eq_true rfl) dX7_passNumber_70 (fun H locs hP hD hS => ?_)
            have hP := rdP_0_f6 hP
            have hD := rdD_0_f6 hD
            have h := h _ rfl
            generalize sg M0 6 x7 = N8 at hP hD h
            refine lv_goto (tgt := 81) hx hb dX7_passNumber_73 (by decide) ?_
            exact b81 _ hB10 N8 M1 H locs ls hP hD hS (lv_sub hl [0] rfl) h
  have bE : ∀ (M0 : gS) (M1 : gS) (H : Heap) (locs : List Loc) (ls : Array Slot), va_P (dC, dI) vwCl (rdW cB cI cJ cZ h0 a0 M0 M1) H → va_D A (rdW cB cI cJ cZ h0 a0 M0 M1) → va_S A s.heap H locs → lv_has ls 1 [(0, .ref h0)] → wX7_passNumber  M0 M1 Q → W p l e (headSpec wsX7_passNumber rmX7_passNumber).room s m ([.ref h0] : List Value).toArray below meth c H locs 0 0 (MQ below (va_Qv (fun (u : gS × gS) => Q u.1 u.2) (rdB dC dI cB cI cJ cZ h0 a0 A) A) ([.ref h0] : List Value).toArray s 0 0 A) (F0 m 0 ls []) := by
    intro M0 M1 H locs ls hP hD hS hl h
    unfold wX7_passNumber at h
    refine lv_aload_n hx hb dX7_passNumber_0 rfl (lv_at hl 0 rfl) ?_
    refine lv_iconst (v := 2) hx hb dX7_passNumber_1 (by decide) ?_
    refine va_put (D := (dC, dI)) (ci := 7) (v := .int (2 : Int32)) (ty := .int) (C := RX7) (T := TX7) (N := 8) hx hb hts hinX7 tyX7 tyX7_ok nmX7 hown hK hP hD hS 0 rfl rfl 4 (by decide) f6 (fun _ h9 => h9) rfl (by decide +kernel) rfl rfl (Nat.le_of_ble_eq_true rfl) dX7_passNumber_2 (fun H locs hP hD hS => ?_)
    have hP := rdP_0_f4 hP
    have hD := rdD_0_f4 hD
    have h := h _ rfl
    generalize sg M0 4 (2 : Int32) = N1 at hP hD h
    refine lv_aload_n hx hb dX7_passNumber_5 rfl (lv_at hl 0 rfl) ?_
    refine lv_iconst (v := 0) hx hb dX7_passNumber_6 (by decide) ?_
    refine va_put (D := (dC, dI)) (ci := 7) (v := .int (0 : Int32)) (ty := .int) (C := RX7) (T := TX7) (N := 8) hx hb hts hinX7 tyX7 tyX7_ok nmX7 hown hK hP hD hS 0 rfl rfl 6 (by decide) f5 (fun _ h9 => h9) rfl (by decide +kernel) rfl rfl (Nat.le_of_ble_eq_true rfl) dX7_passNumber_7 (fun H locs hP hD hS => ?_)
    have hP := rdP_0_f6 hP
    have hD := rdD_0_f6 hD
    have h := h _ rfl
    generalize sg N1 6 (0 : Int32) = N2 at hP hD h
    obtain ⟨n9, h⟩ := h
    exact b10  n9 N2 M1 H locs ls hP hD hS (lv_sub hl [0] rfl) h
  have hl := lv_entry ([.ref h0]) (n := 1) (Nat.le_of_ble_eq_true rfl)
  rw [lg_entry_eq]
  generalize (lg_sl ([.ref h0]) ++ List.replicate (1 - (lg_sl ([.ref h0])).length) Slot.unset).toArray = ls at hl ⊢
  have hl : lv_has ls 1 [(0, .ref h0)] := hl
  exact bE M0 M1 s.heap [] ls hP hD hS hl h
def wX7_passSign_32  (Q : gS → gS → Prop) (y1 : Int32) (M0 : gS) (M1 : gS) : Prop :=
 (((mg M0 1) ≤ (mg M0 3) → (Q M0 M1))
 ∧ (¬ (mg M0 1) ≤ (mg M0 3) → (vp_in (mg M0 3) 400 ∧ (((ma M1 0 (Int32.toNatClampNeg (mg M0 3))) = (61 : Int32) → (∀ x3 : Int32, x3 = (y1 + (256 : Int32)) → (∀ N4 : gS, N4 = sg M0 5 x3 → (∀ x5 : Int32, x5 = ((mg N4 3) + (1 : Int32)) → (∀ N6 : gS, N6 = sg N4 3 x5 → (Q N6 M1))))))
 ∧ (¬ (ma M1 0 (Int32.toNatClampNeg (mg M0 3))) = (61 : Int32) → (Q M0 M1))))))
def wX7_passSign (p1 : Int32) (M0 : gS) (M1 : gS) (Q : gS → gS → Prop) : Prop :=
 (∀ N1 : gS, N1 = sg M0 4 (3 : Int32) → (∀ N2 : gS, N2 = sg N1 5 p1 → (∀ x3 : Int32, x3 = ((mg N2 2) + (1 : Int32)) → (∀ N4 : gS, N4 = sg N2 3 x3 → ((p1 = (60 : Int32) → (wX7_passSign_32  Q p1 N4 M1))
 ∧ (¬ p1 = (60 : Int32) → ((p1 = (62 : Int32) → (wX7_passSign_32  Q p1 N4 M1))
 ∧ (¬ p1 = (62 : Int32) → (Q N4 M1)))))))))
def rmX7_passSign : Room := { frames := 0, cells := 0, slots := 0, locals := 0 }
set_option maxHeartbeats 4000000 in
set_option maxRecDepth 100000 in
theorem kX7_passSign (l : Launch) (dC : Nat → ClassId) (dI : Nat → Nat → Nat) (cB cI cJ cZ : ClassId) (h0 : Nat) (a0 : Nat → Nat) (sz : Nat) (p1 : Int32) (M0 : gS) (M1 : gS) (Q : gS → gS → Prop) (h : wX7_passSign p1 M0 M1 Q) : Met l yX7_passSign wsX7_passSign rmX7_passSign (va_Pc [.ref h0, .int p1] (rdI dC dI cB cI cJ cZ h0 a0 M0 M1 sz)) (va_Qv (fun (u : gS × gS) => Q u.1 u.2) (rdB dC dI cB cI cJ cZ h0 a0 (va_A (rdW cB cI cJ cZ h0 a0 M0 M1) sz)) (va_A (rdW cB cI cJ cZ h0 a0 M0 M1) sz)) 0 0 (va_A (rdW cB cI cJ cZ h0 a0 M0 M1) sz) := by
  refine Met.ofW (cc := cX7_passSign) (maxL := 2) (ret := none) (by decide) rfl ?_
  intro p e s m args below meth c s₁ B hml hv
  obtain ⟨rfl, hsz, hP, hK, hD0⟩ := hv
  have hx := B.exec
  have hb := B.bytes
  have hr := B.returns
  have hts := atoms_spec (ws := wsX7_passSign) B.pre
  have hown : s.vm.findClass RX7 = some m.cls := findClass_of_methodNamed B.named
  have hlocks := B.notSynchronized
  subst hsz
  have hD := hD0.self (sz := s.heap.size)
  generalize hAe : va_A (rdW cB cI cJ cZ h0 a0 M0 M1) s.heap.size = A at hD ⊢
  have hA : ∀ q : Nat, s.heap.size ≤ q → A q := fun q h => by rw [← hAe]; exact Or.inr h
  have hS : va_S A s.heap s.heap [] := va_S.rf
  have hinX7 : ∀ w ∈ wsX70, w ∈ wsX7_passSign := by decide +kernel
  have f1 := hts (.fieldLink RX7 25 "LastWords$Reader" "stop" "I") (by decide +kernel)
  have f2 := hts (.fieldLink RX7 21 "LastWords$Reader" "length" "I") (by decide +kernel)
  have f3 := hts (.fieldLink RX7 9 "LastWords$Reader" "text" "[I") (by decide +kernel)
  have f4 := hts (.fieldLink RX7 54 "LastWords$Reader" "sign" "I") (by decide +kernel)
  have f5 := hts (.fieldLink RX7 31 "LastWords$Reader" "kind" "I") (by decide +kernel)
  have f6 := hts (.fieldLink RX7 28 "LastWords$Reader" "start" "I") (by decide +kernel)
  have b32 : ∀ (y1 : Int32) (M0 : gS) (M1 : gS) (H : Heap) (locs : List Loc) (ls : Array Slot), va_P (dC, dI) vwCl (rdW cB cI cJ cZ h0 a0 M0 M1) H → va_D A (rdW cB cI cJ cZ h0 a0 M0 M1) → va_S A s.heap H locs → lv_has ls 2 [(0, .ref h0), (1, .int y1)] → wX7_passSign_32  Q y1 M0 M1 → W p l e (headSpec wsX7_passSign rmX7_passSign).room s m ([.ref h0, .int p1] : List Value).toArray below meth c H locs 0 0 (MQ below (va_Qv (fun (u : gS × gS) => Q u.1 u.2) (rdB dC dI cB cI cJ cZ h0 a0 A) A) ([.ref h0, .int p1] : List Value).toArray s 0 0 A) (F0 m 32 ls []) := by
    intro  y1 M0 M1 H locs ls hP hD hS hl h
    unfold wX7_passSign_32 at h
    refine lv_aload_n hx hb dX7_passSign_32 rfl (lv_at hl 0 rfl) ?_
    refine va_get (D := (dC, dI)) (ci := 7) (v := .int (mg M0 3)) (C := RX7) (T := TX7) (N := 8) hx hb hts hinX7 hown hK hP 0 rfl rfl 3 (by decide) f1 (fun _ h9 => h9) rfl dX7_passSign_33 ?_
    refine lv_aload_n hx hb dX7_passSign_36 rfl (lv_at hl 0 rfl) ?_
    refine va_get (D := (dC, dI)) (ci := 7) (v := .int (mg M0 1)) (C := RX7) (T := TX7) (N := 8) hx hb hts hinX7 hown hK hP 0 rfl rfl 1 (by decide) f2 (fun _ h9 => h9) rfl dX7_passSign_37 ?_
    refine lv_icmp_ge (tgt := 76) hx hb dX7_passSign_40 (by decide) (fun c1 => ?_) (fun c1 => ?_)
    · have h := h.1 c1
      exact W.vret hx hb hr (fun t ht hW => ⟨⟨(M0, M1), rfl, h, by rw [ht]; exact hP, va_K.moved hW.alike hK, hD⟩, hS.F ht⟩) hS.2.2 dX7_passSign_76
    · have h := h.2 c1
      refine lv_aload_n hx hb dX7_passSign_43 rfl (lv_at hl 0 rfl) ?_
      refine va_get (D := (dC, dI)) (ci := 7) (v := .ref (a0 0)) (C := RX7) (T := TX7) (N := 8) hx hb hts hinX7 hown hK hP 0 rfl rfl 0 (by decide) f3 (fun _ h9 => h9) rfl dX7_passSign_44 ?_
      refine lv_aload_n hx hb dX7_passSign_47 rfl (lv_at hl 0 rfl) ?_
      refine va_get (D := (dC, dI)) (ci := 7) (v := .int (mg M0 3)) (C := RX7) (T := TX7) (N := 8) hx hb hts hinX7 hown hK hP 0 rfl rfl 3 (by decide) f1 (fun _ h9 => h9) rfl dX7_passSign_48 ?_
      refine va_iald hx hb hK hP 1 1 (f := ma M1 0) rfl rfl h.1 dX7_passSign_51 ?_
      have h := h.2
      refine lv_bipush (v := (61)) hx hb dX7_passSign_52 (by decide) ?_
      refine lv_icmp_ne (tgt := 76) hx hb dX7_passSign_54 (by decide) (fun c2 => ?_) (fun c2 => ?_)
      · have h := h.2 c2
        exact W.vret hx hb hr (fun t ht hW => ⟨⟨(M0, M1), rfl, h, by rw [ht]; exact hP, va_K.moved hW.alike hK, hD⟩, hS.F ht⟩) hS.2.2 dX7_passSign_76
      · have h := h.1 c2
        refine lv_aload_n hx hb dX7_passSign_57 rfl (lv_at hl 0 rfl) ?_
        refine lv_iload_n hx hb dX7_passSign_58 rfl (lv_at hl 1 rfl) ?_
        refine lv_sipush (v := (256)) hx hb dX7_passSign_59 (by decide) ?_
        refine lv_iadd hx hb dX7_passSign_62 ?_
        refine lv_topi (fun x3 ex3 => ?_)
        have h := h x3 ex3
        refine va_put (D := (dC, dI)) (ci := 7) (v := .int x3) (ty := .int) (C := RX7) (T := TX7) (N := 8) hx hb hts hinX7 tyX7 tyX7_ok nmX7 hown hK hP hD hS 0 rfl rfl 5 (by decide) f4 (fun _ h9 => h9) rfl (by decide +kernel) rfl rfl (Nat.le_of_ble_eq_true rfl) dX7_passSign_63 (fun H locs hP hD hS => ?_)
        have hP := rdP_0_f5 hP
        have hD := rdD_0_f5 hD
        have h := h _ rfl
        generalize sg M0 5 x3 = N4 at hP hD h
        refine lv_aload_n hx hb dX7_passSign_66 rfl (lv_at hl 0 rfl) ?_
        refine lv_dup hx hb dX7_passSign_67 rfl ?_
        refine va_get (D := (dC, dI)) (ci := 7) (v := .int (mg N4 3)) (C := RX7) (T := TX7) (N := 8) hx hb hts hinX7 hown hK hP 0 rfl rfl 3 (by decide) f1 (fun _ h9 => h9) rfl dX7_passSign_68 ?_
        refine lv_iconst (v := 1) hx hb dX7_passSign_71 (by decide) ?_
        refine lv_iadd hx hb dX7_passSign_72 ?_
        refine lv_topi (fun x5 ex5 => ?_)
        have h := h x5 ex5
        refine va_put (D := (dC, dI)) (ci := 7) (v := .int x5) (ty := .int) (C := RX7) (T := TX7) (N := 8) hx hb hts hinX7 tyX7 tyX7_ok nmX7 hown hK hP hD hS 0 rfl rfl 3 (by decide) f1 (fun _ h9 => h9) rfl (by decide +kernel) rfl rfl (Nat.le_of_ble_eq_true rfl) dX7_passSign_73 (fun H locs hP hD hS => ?_)
        have hP := rdP_0_f3 hP
        have hD := rdD_0_f3 hD
        have h := h _ rfl
        generalize sg N4 3 x5 = N6 at hP hD h
        exact W.vret hx hb hr (fun t ht hW => ⟨⟨(N6, M1), rfl, h, by rw [ht]; exact hP, va_K.moved hW.alike hK, hD⟩, hS.F ht⟩) hS.2.2 dX7_passSign_76
  have bE : ∀ (M0 : gS) (M1 : gS) (H : Heap) (locs : List Loc) (ls : Array Slot), va_P (dC, dI) vwCl (rdW cB cI cJ cZ h0 a0 M0 M1) H → va_D A (rdW cB cI cJ cZ h0 a0 M0 M1) → va_S A s.heap H locs → lv_has ls 2 [(0, .ref h0), (1, .int p1)] → wX7_passSign p1 M0 M1 Q → W p l e (headSpec wsX7_passSign rmX7_passSign).room s m ([.ref h0, .int p1] : List Value).toArray below meth c H locs 0 0 (MQ below (va_Qv (fun (u : gS × gS) => Q u.1 u.2) (rdB dC dI cB cI cJ cZ h0 a0 A) A) ([.ref h0, .int p1] : List Value).toArray s 0 0 A) (F0 m 0 ls []) := by
    intro M0 M1 H locs ls hP hD hS hl h
    unfold wX7_passSign at h
    refine lv_aload_n hx hb dX7_passSign_0 rfl (lv_at hl 0 rfl) ?_
    refine lv_iconst (v := 3) hx hb dX7_passSign_1 (by decide) ?_
    refine va_put (D := (dC, dI)) (ci := 7) (v := .int (3 : Int32)) (ty := .int) (C := RX7) (T := TX7) (N := 8) hx hb hts hinX7 tyX7 tyX7_ok nmX7 hown hK hP hD hS 0 rfl rfl 4 (by decide) f5 (fun _ h9 => h9) rfl (by decide +kernel) rfl rfl (Nat.le_of_ble_eq_true rfl) dX7_passSign_2 (fun H locs hP hD hS => ?_)
    have hP := rdP_0_f4 hP
    have hD := rdD_0_f4 hD
    have h := h _ rfl
    generalize sg M0 4 (3 : Int32) = N1 at hP hD h
    refine lv_aload_n hx hb dX7_passSign_5 rfl (lv_at hl 0 rfl) ?_
    refine lv_iload_n hx hb dX7_passSign_6 rfl (lv_at hl 1 rfl) ?_
    refine va_put (D := (dC, dI)) (ci := 7) (v := .int p1) (ty := .int) (C := RX7) (T := TX7) (N := 8) hx hb hts hinX7 tyX7 tyX7_ok nmX7 hown hK hP hD hS 0 rfl rfl 5 (by decide) f4 (fun _ h9 => h9) rfl (by decide +kernel) rfl rfl (Nat.le_of_ble_eq_true rfl) dX7_passSign_7 (fun H locs hP hD hS => ?_)
    have hP := rdP_0_f5 hP
    have hD := rdD_0_f5 hD
    have h := h _ rfl
    generalize sg N1 5 p1 = N2 at hP hD h
    refine lv_aload_n hx hb dX7_passSign_10 rfl (lv_at hl 0 rfl) ?_
    refine lv_aload_n hx hb dX7_passSign_11 rfl (lv_at hl 0 rfl) ?_
    refine va_get (D := (dC, dI)) (ci := 7) (v := .int (mg N2 2)) (C := RX7) (T := TX7) (N := 8) hx hb hts hinX7 hown hK hP 0 rfl rfl 2 (by decide) f6 (fun _ h9 => h9) rfl dX7_passSign_12 ?_
    refine lv_iconst (v := 1) hx hb dX7_passSign_15 (by decide) ?_
    refine lv_iadd hx hb dX7_passSign_16 ?_
    refine lv_topi (fun x3 ex3 => ?_)
    have h := h x3 ex3
    refine va_put (D := (dC, dI)) (ci := 7) (v := .int x3) (ty := .int) (C := RX7) (T := TX7) (N := 8) hx hb hts hinX7 tyX7 tyX7_ok nmX7 hown hK hP hD hS 0 rfl rfl 3 (by decide) f1 (fun _ h9 => h9) rfl (by decide +kernel) rfl rfl (Nat.le_of_ble_eq_true rfl) dX7_passSign_17 (fun H locs hP hD hS => ?_)
    have hP := rdP_0_f3 hP
    have hD := rdD_0_f3 hD
    have h := h _ rfl
    generalize sg N2 3 x3 = N4 at hP hD h
    refine lv_iload_n hx hb dX7_passSign_20 rfl (lv_at hl 1 rfl) ?_
    refine lv_bipush (v := (60)) hx hb dX7_passSign_21 (by decide) ?_
    refine lv_icmp_eq (tgt := 32) hx hb dX7_passSign_23 (by decide) (fun c5 => ?_) (fun c5 => ?_)
    · have h := h.1 c5
      exact b32  p1 N4 M1 H locs ls hP hD hS (lv_sub hl [0, 1] rfl) h
    · have h := h.2 c5
      refine lv_iload_n hx hb dX7_passSign_26 rfl (lv_at hl 1 rfl) ?_
      refine lv_bipush (v := (62)) hx hb dX7_passSign_27 (by decide) ?_
      refine lv_icmp_ne (tgt := 76) hx hb dX7_passSign_29 (by decide) (fun c6 => ?_) (fun c6 => ?_)
      · have h := h.2 c6
        exact W.vret hx hb hr (fun t ht hW => ⟨⟨(N4, M1), rfl, h, by rw [ht]; exact hP, va_K.moved hW.alike hK, hD⟩, hS.F ht⟩) hS.2.2 dX7_passSign_76
      · have h := h.1 c6
        exact b32  p1 N4 M1 H locs ls hP hD hS (lv_sub hl [0, 1] rfl) h
  have hl := lv_entry ([.ref h0, .int p1]) (n := 2) (Nat.le_of_ble_eq_true rfl)
  rw [lg_entry_eq]
  generalize (lg_sl ([.ref h0, .int p1]) ++ List.replicate (2 - (lg_sl ([.ref h0, .int p1])).length) Slot.unset).toArray = ls at hl ⊢
  have hl : lv_has ls 2 [(0, .ref h0), (1, .int p1)] := hl
  exact bE M0 M1 s.heap [] ls hP hD hS hl h
def wX7_advance_46  (Q : gS → gS → Prop)  (M0 : gS) (M1 : gS) : Prop :=
 (∀ x1 : Int32, x1 = (mg M0 2) → (∀ N2 : gS, N2 = sg M0 3 x1 → (((mg N2 2) < (mg N2 1) → (vp_in (mg N2 2) 400 ∧ (wX7_isLetter (ma M1 0 (Int32.toNatClampNeg (mg N2 2)))  (fun (b5 : Bool)  => (((bI b5) = 0 → (vp_in (mg N2 2) 400 ∧ (wX7_isDigit (ma M1 0 (Int32.toNatClampNeg (mg N2 2)))  (fun (b8 : Bool)  => (((bI b8) = 0 → (vp_in (mg N2 2) 400 ∧ (wX7_passSign (ma M1 0 (Int32.toNatClampNeg (mg N2 2))) N2 M1 (fun (N11 : gS) (N12 : gS) => (Q N11 N12)))))
 ∧ (¬ (bI b8) = 0 → (wX7_passNumber  N2 M1 (fun (N14 : gS) (N15 : gS) => (Q N14 N15)))))))))
 ∧ (¬ (bI b5) = 0 → (wX7_passName  N2 M1 (fun (N17 : gS) (N18 : gS) => (Q N17 N18)))))))))
 ∧ (¬ (mg N2 2) < (mg N2 1) → (∀ N19 : gS, N19 = sg N2 4 (0 : Int32) → (Q N19 M1))))))
def wX7_advance_8  (Q : gS → gS → Prop) : Nat → gS → gS → Prop
 | 0, _, _ => False
 | n + 1, M0, M1 => (((mg M0 1) ≤ (mg M0 2) → (wX7_advance_46  Q M0 M1))
 ∧ (¬ (mg M0 1) ≤ (mg M0 2) → (vp_in (mg M0 2) 400 ∧ (((ma M1 0 (Int32.toNatClampNeg (mg M0 2))) = (32 : Int32) → (∀ x3 : Int32, x3 = ((mg M0 2) + (1 : Int32)) → (∀ N4 : gS, N4 = sg M0 2 x3 → (wX7_advance_8  Q n N4 M1))))
 ∧ (¬ (ma M1 0 (Int32.toNatClampNeg (mg M0 2))) = (32 : Int32) → (wX7_advance_46  Q M0 M1))))))
def wX7_advance  (M0 : gS) (M1 : gS) (Q : gS → gS → Prop) : Prop :=
 (∀ x1 : Int32, x1 = (mg M0 3) → (∀ N2 : gS, N2 = sg M0 2 x1 → (∃ k8 : Nat, wX7_advance_8  Q k8 N2 M1)))
def rmX7_advance : Room := { frames := 2, cells := 0, slots := 0, locals := 40 }
set_option maxHeartbeats 4000000 in
set_option maxRecDepth 100000 in
theorem kX7_advance (l : Launch) (dC : Nat → ClassId) (dI : Nat → Nat → Nat) (cB cI cJ cZ : ClassId) (h0 : Nat) (a0 : Nat → Nat) (sz : Nat)  (M0 : gS) (M1 : gS) (Q : gS → gS → Prop) (h : wX7_advance  M0 M1 Q) : Met l yX7_advance wsX7_advance rmX7_advance (va_Pc [.ref h0] (rdI dC dI cB cI cJ cZ h0 a0 M0 M1 sz)) (va_Qv (fun (u : gS × gS) => Q u.1 u.2) (rdB dC dI cB cI cJ cZ h0 a0 (va_A (rdW cB cI cJ cZ h0 a0 M0 M1) sz)) (va_A (rdW cB cI cJ cZ h0 a0 M0 M1) sz)) 0 0 (va_A (rdW cB cI cJ cZ h0 a0 M0 M1) sz) := by
  refine Met.ofW (cc := cX7_advance) (maxL := 1) (ret := none) (by decide) rfl ?_
  intro p e s m args below meth c s₁ B hml hv
  obtain ⟨rfl, hsz, hP, hK, hD0⟩ := hv
  have hx := B.exec
  have hb := B.bytes
  have hr := B.returns
  have hts := atoms_spec (ws := wsX7_advance) B.pre
  have hown : s.vm.findClass RX7 = some m.cls := findClass_of_methodNamed B.named
  have hlocks := B.notSynchronized
  subst hsz
  have hD := hD0.self (sz := s.heap.size)
  generalize hAe : va_A (rdW cB cI cJ cZ h0 a0 M0 M1) s.heap.size = A at hD ⊢
  have hA : ∀ q : Nat, s.heap.size ≤ q → A q := fun q h => by rw [← hAe]; exact Or.inr h
  have hS : va_S A s.heap s.heap [] := va_S.rf
  have hinX7 : ∀ w ∈ wsX70, w ∈ wsX7_advance := by decide +kernel
  have f1 := hts (.fieldLink RX7 28 "LastWords$Reader" "start" "I") (by decide +kernel)
  have f2 := hts (.fieldLink RX7 25 "LastWords$Reader" "stop" "I") (by decide +kernel)
  have f3 := hts (.fieldLink RX7 21 "LastWords$Reader" "length" "I") (by decide +kernel)
  have f4 := hts (.fieldLink RX7 9 "LastWords$Reader" "text" "[I") (by decide +kernel)
  have f5 := hts (.fieldLink RX7 31 "LastWords$Reader" "kind" "I") (by decide +kernel)
  have b46 : ∀  (M0 : gS) (M1 : gS) (H : Heap) (locs : List Loc) (ls : Array Slot), va_P (dC, dI) vwCl (rdW cB cI cJ cZ h0 a0 M0 M1) H → va_D A (rdW cB cI cJ cZ h0 a0 M0 M1) → va_S A s.heap H locs → lv_has ls 1 [(0, .ref h0)] → wX7_advance_46  Q M0 M1 → W p l e (headSpec wsX7_advance rmX7_advance).room s m ([.ref h0] : List Value).toArray below meth c H locs 0 0 (MQ below (va_Qv (fun (u : gS × gS) => Q u.1 u.2) (rdB dC dI cB cI cJ cZ h0 a0 A) A) ([.ref h0] : List Value).toArray s 0 0 A) (F0 m 46 ls []) := by
    intro  M0 M1 H locs ls hP hD hS hl h
    unfold wX7_advance_46 at h
    refine lv_aload_n hx hb dX7_advance_46 rfl (lv_at hl 0 rfl) ?_
    refine lv_aload_n hx hb dX7_advance_47 rfl (lv_at hl 0 rfl) ?_
    refine va_get (D := (dC, dI)) (ci := 7) (v := .int (mg M0 2)) (C := RX7) (T := TX7) (N := 8) hx hb hts hinX7 hown hK hP 0 rfl rfl 2 (by decide) f1 (fun _ h9 => h9) rfl dX7_advance_48 ?_
    refine lv_topi (fun x1 ex1 => ?_)
    have h := h x1 ex1
    refine va_put (D := (dC, dI)) (ci := 7) (v := .int x1) (ty := .int) (C := RX7) (T := TX7) (N := 8) hx hb hts hinX7 tyX7 tyX7_ok nmX7 hown hK hP hD hS 0 rfl rfl 3 (by decide) f2 (fun _ h9 => h9) rfl (by decide +kernel) rfl rfl (Nat.le_of_ble_eq_true rfl) dX7_advance_51 (fun H locs hP hD hS => ?_)
    have hP := rdP_0_f3 hP
    have hD := rdD_0_f3 hD
    have h := h _ rfl
    generalize sg M0 3 x1 = N2 at hP hD h
    refine lv_aload_n hx hb dX7_advance_54 rfl (lv_at hl 0 rfl) ?_
    refine va_get (D := (dC, dI)) (ci := 7) (v := .int (mg N2 2)) (C := RX7) (T := TX7) (N := 8) hx hb hts hinX7 hown hK hP 0 rfl rfl 2 (by decide) f1 (fun _ h9 => h9) rfl dX7_advance_55 ?_
    refine lv_aload_n hx hb dX7_advance_58 rfl (lv_at hl 0 rfl) ?_
    refine va_get (D := (dC, dI)) (ci := 7) (v := .int (mg N2 1)) (C := RX7) (T := TX7) (N := 8) hx hb hts hinX7 hown hK hP 0 rfl rfl 1 (by decide) f3 (fun _ h9 => h9) rfl dX7_advance_59 ?_
    refine lv_icmp_lt (tgt := 73) hx hb dX7_advance_62 (by decide) (fun c3 => ?_) (fun c3 => ?_)
    · have h := h.1 c3
      refine lv_aload_n hx hb dX7_advance_73 rfl (lv_at hl 0 rfl) ?_
      refine va_get (D := (dC, dI)) (ci := 7) (v := .ref (a0 0)) (C := RX7) (T := TX7) (N := 8) hx hb hts hinX7 hown hK hP 0 rfl rfl 0 (by decide) f4 (fun _ h9 => h9) rfl dX7_advance_74 ?_
      refine lv_aload_n hx hb dX7_advance_77 rfl (lv_at hl 0 rfl) ?_
      refine va_get (D := (dC, dI)) (ci := 7) (v := .int (mg N2 2)) (C := RX7) (T := TX7) (N := 8) hx hb hts hinX7 hown hK hP 0 rfl rfl 2 (by decide) f1 (fun _ h9 => h9) rfl dX7_advance_78 ?_
      refine va_iald hx hb hK hP 1 1 (f := ma M1 0) rfl rfl h.1 dX7_advance_81 ?_
      have h := h.2
      have hPc := hP.sub (ws' := (e0W cB cI cJ cZ  )) [] rfl
      have hDc := hD.sub (ws' := (e0W cB cI cJ cZ  )) [] (by decide) rfl
      have hFc := va_free (wc := (e0W cB cI cJ cZ  )) hD hS hA [] rfl
      refine va_calli (va_runS (As := [.int (ma M1 0 (Int32.toNatClampNeg (mg N2 2)))]) (rest := []) ⟨hx, hb, hml, hown, hts⟩ (kX7_isLetter l dC dI cB cI cJ cZ  H.size (ma M1 0 (Int32.toNatClampNeg (mg N2 2)))  _ h) (cwS 1 hts gX7_advance_X7_isLetter rfl rfl rfl (by decide +kernel) ⟨Nat.le_of_ble_eq_true rfl, Nat.le_of_ble_eq_true rfl⟩) (e0pS hK hPc hDc) rfl rfl hl.1 rfl (lv_room (Nat.le_of_ble_eq_true rfl)) dX7_advance_82 ⟨Nat.le_of_ble_eq_true rfl, Nat.le_of_ble_eq_true rfl⟩) hS (fun q _ z => hFc q z) hFc (fun r4 u t H1 locs ht hvm hw hB hz1 hk1 hS => ?_)
      obtain ⟨hP1, hK1, hD1⟩ := hB
      rw [ht] at hP1
      obtain ⟨hP, hD⟩ := va_join (wr := [(h0, .inr (7, [.ref (a0 0), .int (mg N2 1), .int (mg N2 2), .int (mg N2 3), .int (mg N2 4), .int (mg N2 5), .int (mg N2 6), .int (mg N2 7)])), (a0 0, .inl (cI, 400, .inl (ma M1 0)))]) (w1 := (e0W cB cI cJ cZ  )) hP hD [] [0, 1] rfl rfl (by decide) (by decide) hk1 hFc hP1 hD1
      have hP := hP.sub (ws' := (rdW cB cI cJ cZ h0 a0 N2 M1)) [0, 1] rfl
      have hD := hD.sub (ws' := (rdW cB cI cJ cZ h0 a0 N2 M1)) [0, 1] (by decide) rfl
      generalize H1 = H at hP hS ⊢
      obtain ⟨b5, rfl, h⟩ := hw
      try dsimp only at h
      refine lv_if_eq (tgt := 95) hx hb dX7_advance_85 (by decide) (fun c6 => ?_) (fun c6 => ?_)
      · have h := h.1 c6
        refine lv_aload_n hx hb dX7_advance_95 rfl (lv_at hl 0 rfl) ?_
        refine va_get (D := (dC, dI)) (ci := 7) (v := .ref (a0 0)) (C := RX7) (T := TX7) (N := 8) hx hb hts hinX7 hown hK hP 0 rfl rfl 0 (by decide) f4 (fun _ h9 => h9) rfl dX7_advance_96 ?_
        refine lv_aload_n hx hb dX7_advance_99 rfl (lv_at hl 0 rfl) ?_
        refine va_get (D := (dC, dI)) (ci := 7) (v := .int (mg N2 2)) (C := RX7) (T := TX7) (N := 8) hx hb hts hinX7 hown hK hP 0 rfl rfl 2 (by decide) f1 (fun _ h9 => h9) rfl dX7_advance_100 ?_
        refine va_iald hx hb hK hP 1 1 (f := ma M1 0) rfl rfl h.1 dX7_advance_103 ?_
        have h := h.2
        have hPc := hP.sub (ws' := (e0W cB cI cJ cZ  )) [] rfl
        have hDc := hD.sub (ws' := (e0W cB cI cJ cZ  )) [] (by decide) rfl
        have hFc := va_free (wc := (e0W cB cI cJ cZ  )) hD hS hA [] rfl
        refine va_calli (va_runS (As := [.int (ma M1 0 (Int32.toNatClampNeg (mg N2 2)))]) (rest := []) ⟨hx, hb, hml, hown, hts⟩ (kX7_isDigit l dC dI cB cI cJ cZ  H.size (ma M1 0 (Int32.toNatClampNeg (mg N2 2)))  _ h) (cwS 1 hts gX7_advance_X7_isDigit rfl rfl rfl (by decide +kernel) ⟨Nat.le_of_ble_eq_true rfl, Nat.le_of_ble_eq_true rfl⟩) (e0pS hK hPc hDc) rfl rfl hl.1 rfl (lv_room (Nat.le_of_ble_eq_true rfl)) dX7_advance_104 ⟨Nat.le_of_ble_eq_true rfl, Nat.le_of_ble_eq_true rfl⟩) hS (fun q _ z => hFc q z) hFc (fun r7 u t H1 locs ht hvm hw hB hz1 hk1 hS => ?_)
        obtain ⟨hP1, hK1, hD1⟩ := hB
        rw [ht] at hP1
        obtain ⟨hP, hD⟩ := va_join (wr := [(h0, .inr (7, [.ref (a0 0), .int (mg N2 1), .int (mg N2 2), .int (mg N2 3), .int (mg N2 4), .int (mg N2 5), .int (mg N2 6), .int (mg N2 7)])), (a0 0, .inl (cI, 400, .inl (ma M1 0)))]) (w1 := (e0W cB cI cJ cZ  )) hP hD [] [0, 1] rfl rfl (by decide) (by decide) hk1 hFc hP1 hD1
        have hP := hP.sub (ws' := (rdW cB cI cJ cZ h0 a0 N2 M1)) [0, 1] rfl
        have hD := hD.sub (ws' := (rdW cB cI cJ cZ h0 a0 N2 M1)) [0, 1] (by decide) rfl
        generalize H1 = H at hP hS ⊢
        obtain ⟨b8, rfl, h⟩ := hw
        try dsimp only at h
        refine lv_if_eq (tgt := 117) hx hb dX7_advance_107 (by decide) (fun c9 => ?_) (fun c9 => ?_)
        · have h := h.1 c9
          refine lv_aload_n hx hb dX7_advance_117 rfl (lv_at hl 0 rfl) ?_
          refine lv_aload_n hx hb dX7_advance_118 rfl (lv_at hl 0 rfl) ?_
          refine va_get (D := (dC, dI)) (ci := 7) (v := .ref (a0 0)) (C := RX7) (T := TX7) (N := 8) hx hb hts hinX7 hown hK hP 0 rfl rfl 0 (by decide) f4 (fun _ h9 => h9) rfl dX7_advance_119 ?_
          refine lv_aload_n hx hb dX7_advance_122 rfl (lv_at hl 0 rfl) ?_
          refine va_get (D := (dC, dI)) (ci := 7) (v := .int (mg N2 2)) (C := RX7) (T := TX7) (N := 8) hx hb hts hinX7 hown hK hP 0 rfl rfl 2 (by decide) f1 (fun _ h9 => h9) rfl dX7_advance_123 ?_
          refine va_iald hx hb hK hP 1 1 (f := ma M1 0) rfl rfl h.1 dX7_advance_126 ?_
          have h := h.2
          have hFc := gs_free hD hS hA
          refine va_callv (va_runV (As := [.int (ma M1 0 (Int32.toNatClampNeg (mg N2 2)))]) (rest := []) ⟨hx, hb, hml, hown, hts⟩ (kX7_passSign l dC dI cB cI cJ cZ h0 a0 H.size (ma M1 0 (Int32.toNatClampNeg (mg N2 2))) N2 M1 _ h) (cwV 1 hts gX7_advance_X7_passSign rfl rfl rfl (by decide +kernel) ⟨Nat.le_of_ble_eq_true rfl, Nat.le_of_ble_eq_true rfl⟩) (rdpV hK hP hD) rfl rfl hl.1 rfl (lv_room (Nat.le_of_ble_eq_true rfl)) dX7_advance_127 ⟨Nat.le_of_ble_eq_true rfl, Nat.le_of_ble_eq_true rfl⟩) hS (fun q _ z => hFc q z) hFc (fun u t H1 locs ht hvm hw hB hz1 hk1 hS => ?_)
          obtain ⟨N11, N12⟩ := u
          obtain ⟨hP, hD⟩ := gs_back ht hFc hB
          generalize H1 = H at hP hS ⊢
          have h := hw
          try dsimp only at h
          exact W.vret hx hb hr (fun t ht hW => ⟨⟨(N11, N12), rfl, h, by rw [ht]; exact hP, va_K.moved hW.alike hK, hD⟩, hS.F ht⟩) hS.2.2 dX7_advance_130
        · have h := h.2 c9
          refine lv_aload_n hx hb dX7_advance_110 rfl (lv_at hl 0 rfl) ?_
          have hFc := gs_free hD hS hA
          refine va_callv (va_runV (As := []) (rest := []) ⟨hx, hb, hml, hown, hts⟩ (kX7_passNumber l dC dI cB cI cJ cZ h0 a0 H.size  N2 M1 _ h) (cwV 0 hts gX7_advance_X7_passNumber rfl rfl rfl (by decide +kernel) ⟨Nat.le_of_ble_eq_true rfl, Nat.le_of_ble_eq_true rfl⟩) (rdpV hK hP hD) rfl rfl hl.1 rfl (lv_room (Nat.le_of_ble_eq_true rfl)) dX7_advance_111 ⟨Nat.le_of_ble_eq_true rfl, Nat.le_of_ble_eq_true rfl⟩) hS (fun q _ z => hFc q z) hFc (fun u t H1 locs ht hvm hw hB hz1 hk1 hS => ?_)
          obtain ⟨N14, N15⟩ := u
          obtain ⟨hP, hD⟩ := gs_back ht hFc hB
          generalize H1 = H at hP hS ⊢
          have h := hw
          try dsimp only at h
          refine lv_goto (tgt := 130) hx hb dX7_advance_114 (by decide) ?_
          exact W.vret hx hb hr (fun t ht hW => ⟨⟨(N14, N15), rfl, h, by rw [ht]; exact hP, va_K.moved hW.alike hK, hD⟩, hS.F ht⟩) hS.2.2 dX7_advance_130
      · have h := h.2 c6
        refine lv_aload_n hx hb dX7_advance_88 rfl (lv_at hl 0 rfl) ?_
        have hFc := gs_free hD hS hA
        refine va_callv (va_runV (As := []) (rest := []) ⟨hx, hb, hml, hown, hts⟩ (kX7_passName l dC dI cB cI cJ cZ h0 a0 H.size  N2 M1 _ h) (cwV 0 hts gX7_advance_X7_passName rfl rfl rfl (by decide +kernel) ⟨Nat.le_of_ble_eq_true rfl, Nat.le_of_ble_eq_true rfl⟩) (rdpV hK hP hD) rfl rfl hl.1 rfl (lv_room (Nat.le_of_ble_eq_true rfl)) dX7_advance_89 ⟨Nat.le_of_ble_eq_true rfl, Nat.le_of_ble_eq_true rfl⟩) hS (fun q _ z => hFc q z) hFc (fun u t H1 locs ht hvm hw hB hz1 hk1 hS => ?_)
        obtain ⟨N17, N18⟩ := u
        obtain ⟨hP, hD⟩ := gs_back ht hFc hB
        generalize H1 = H at hP hS ⊢
        have h := hw
        try dsimp only at h
        refine lv_goto (tgt := 130) hx hb dX7_advance_92 (by decide) ?_
        exact W.vret hx hb hr (fun t ht hW => ⟨⟨(N17, N18), rfl, h, by rw [ht]; exact hP, va_K.moved hW.alike hK, hD⟩, hS.F ht⟩) hS.2.2 dX7_advance_130
    · have h := h.2 c3
      refine lv_aload_n hx hb dX7_advance_65 rfl (lv_at hl 0 rfl) ?_
      refine lv_iconst (v := 0) hx hb dX7_advance_66 (by decide) ?_
      refine va_put (D := (dC, dI)) (ci := 7) (v := .int (0 : Int32)) (ty := .int) (C := RX7) (T := TX7) (N := 8) hx hb hts hinX7 tyX7 tyX7_ok nmX7 hown hK hP hD hS 0 rfl rfl 4 (by decide) f5 (fun _ h9 => h9) rfl (by decide +kernel) rfl rfl (Nat.le_of_ble_eq_true rfl) dX7_advance_67 (fun H locs hP hD hS => ?_)
      have hP := rdP_0_f4 hP
      have hD := rdD_0_f4 hD
      have h := h _ rfl
      generalize sg N2 4 (0 : Int32) = N19 at hP hD h
      refine lv_goto (tgt := 130) hx hb dX7_advance_70 (by decide) ?_
      exact W.vret hx hb hr (fun t ht hW => ⟨⟨(N19, M1), rfl, h, by rw [ht]; exact hP, va_K.moved hW.alike hK, hD⟩, hS.F ht⟩) hS.2.2 dX7_advance_130
  have b8 : ∀ (n : Nat)  (M0 : gS) (M1 : gS) (H : Heap) (locs : List Loc) (ls : Array Slot), va_P (dC, dI) vwCl (rdW cB cI cJ cZ h0 a0 M0 M1) H → va_D A (rdW cB cI cJ cZ h0 a0 M0 M1) → va_S A s.heap H locs → lv_has ls 1 [(0, .ref h0)] → wX7_advance_8  Q n M0 M1 → W p l e (headSpec wsX7_advance rmX7_advance).room s m ([.ref h0] : List Value).toArray below meth c H locs 0 0 (MQ below (va_Qv (fun (u : gS × gS) => Q u.1 u.2) (rdB dC dI cB cI cJ cZ h0 a0 A) A) ([.ref h0] : List Value).toArray s 0 0 A) (F0 m 8 ls []) := by
    intro  n
    induction n with
    | zero => intro M0 M1 H locs ls hP hD hS hl h; exact absurd h (by simp [wX7_advance_8])
    | succ n hB80 =>
      intro M0 M1 H locs ls hP hD hS hl h
      have hB8 := hB80
      rw [wX7_advance_8] at h
      refine lv_aload_n hx hb dX7_advance_8 rfl (lv_at hl 0 rfl) ?_
      refine va_get (D := (dC, dI)) (ci := 7) (v := .int (mg M0 2)) (C := RX7) (T := TX7) (N := 8) hx hb hts hinX7 hown hK hP 0 rfl rfl 2 (by decide) f1 (fun _ h9 => h9) rfl dX7_advance_9 ?_
      refine lv_aload_n hx hb dX7_advance_12 rfl (lv_at hl 0 rfl) ?_
      refine va_get (D := (dC, dI)) (ci := 7) (v := .int (mg M0 1)) (C := RX7) (T := TX7) (N := 8) hx hb hts hinX7 hown hK hP 0 rfl rfl 1 (by decide) f3 (fun _ h9 => h9) rfl dX7_advance_13 ?_
      refine lv_icmp_ge (tgt := 46) hx hb dX7_advance_16 (by decide) (fun c1 => ?_) (fun c1 => ?_)
      · have h := h.1 c1
        exact b46  M0 M1 H locs ls hP hD hS (lv_sub hl [0] rfl) h
      · have h := h.2 c1
        refine lv_aload_n hx hb dX7_advance_19 rfl (lv_at hl 0 rfl) ?_
        refine va_get (D := (dC, dI)) (ci := 7) (v := .ref (a0 0)) (C := RX7) (T := TX7) (N := 8) hx hb hts hinX7 hown hK hP 0 rfl rfl 0 (by decide) f4 (fun _ h9 => h9) rfl dX7_advance_20 ?_
        refine lv_aload_n hx hb dX7_advance_23 rfl (lv_at hl 0 rfl) ?_
        refine va_get (D := (dC, dI)) (ci := 7) (v := .int (mg M0 2)) (C := RX7) (T := TX7) (N := 8) hx hb hts hinX7 hown hK hP 0 rfl rfl 2 (by decide) f1 (fun _ h9 => h9) rfl dX7_advance_24 ?_
        refine va_iald hx hb hK hP 1 1 (f := ma M1 0) rfl rfl h.1 dX7_advance_27 ?_
        have h := h.2
        refine lv_bipush (v := (32)) hx hb dX7_advance_28 (by decide) ?_
        refine lv_icmp_ne (tgt := 46) hx hb dX7_advance_30 (by decide) (fun c2 => ?_) (fun c2 => ?_)
        · have h := h.2 c2
          exact b46  M0 M1 H locs ls hP hD hS (lv_sub hl [0] rfl) h
        · have h := h.1 c2
          refine lv_aload_n hx hb dX7_advance_33 rfl (lv_at hl 0 rfl) ?_
          refine lv_dup hx hb dX7_advance_34 rfl ?_
          refine va_get (D := (dC, dI)) (ci := 7) (v := .int (mg M0 2)) (C := RX7) (T := TX7) (N := 8) hx hb hts hinX7 hown hK hP 0 rfl rfl 2 (by decide) f1 (fun _ h9 => h9) rfl dX7_advance_35 ?_
          refine lv_iconst (v := 1) hx hb dX7_advance_38 (by decide) ?_
          refine lv_iadd hx hb dX7_advance_39 ?_
          refine lv_topi (fun x3 ex3 => ?_)
          have h := h x3 ex3
          refine va_put (D := (dC, dI)) (ci := 7) (v := .int x3) (ty := .int) (C := RX7) (T := TX7) (N := 8) hx hb hts hinX7 tyX7 tyX7_ok nmX7 hown hK hP hD hS 0 rfl rfl 2 (by decide) f1 (fun _ h9 => h9) rfl (by decide +kernel) rfl rfl (Nat.le_of_ble_eq_true rfl) dX7_advance_40 (fun H locs hP hD hS => ?_)
          have hP := rdP_0_f2 hP
          have hD := rdD_0_f2 hD
          have h := h _ rfl
          generalize sg M0 2 x3 = N4 at hP hD h
          refine lv_goto (tgt := 8) hx hb dX7_advance_43 (by decide) ?_
          exact hB8 N4 M1 H locs ls hP hD hS (lv_sub hl [0] rfl) h
  have bE : ∀ (M0 : gS) (M1 : gS) (H : Heap) (locs : List Loc) (ls : Array Slot), va_P (dC, dI) vwCl (rdW cB cI cJ cZ h0 a0 M0 M1) H → va_D A (rdW cB cI cJ cZ h0 a0 M0 M1) → va_S A s.heap H locs → lv_has ls 1 [(0, .ref h0)] → wX7_advance  M0 M1 Q → W p l e (headSpec wsX7_advance rmX7_advance).room s m ([.ref h0] : List Value).toArray below meth c H locs 0 0 (MQ below (va_Qv (fun (u : gS × gS) => Q u.1 u.2) (rdB dC dI cB cI cJ cZ h0 a0 A) A) ([.ref h0] : List Value).toArray s 0 0 A) (F0 m 0 ls []) := by
    intro M0 M1 H locs ls hP hD hS hl h
    unfold wX7_advance at h
    refine lv_aload_n hx hb dX7_advance_0 rfl (lv_at hl 0 rfl) ?_
    refine lv_aload_n hx hb dX7_advance_1 rfl (lv_at hl 0 rfl) ?_
    refine va_get (D := (dC, dI)) (ci := 7) (v := .int (mg M0 3)) (C := RX7) (T := TX7) (N := 8) hx hb hts hinX7 hown hK hP 0 rfl rfl 3 (by decide) f2 (fun _ h9 => h9) rfl dX7_advance_2 ?_
    refine lv_topi (fun x1 ex1 => ?_)
    have h := h x1 ex1
    refine va_put (D := (dC, dI)) (ci := 7) (v := .int x1) (ty := .int) (C := RX7) (T := TX7) (N := 8) hx hb hts hinX7 tyX7 tyX7_ok nmX7 hown hK hP hD hS 0 rfl rfl 2 (by decide) f1 (fun _ h9 => h9) rfl (by decide +kernel) rfl rfl (Nat.le_of_ble_eq_true rfl) dX7_advance_5 (fun H locs hP hD hS => ?_)
    have hP := rdP_0_f2 hP
    have hD := rdD_0_f2 hD
    have h := h _ rfl
    generalize sg M0 2 x1 = N2 at hP hD h
    obtain ⟨n9, h⟩ := h
    exact b8  n9 N2 M1 H locs ls hP hD hS (lv_sub hl [0] rfl) h
  have hl := lv_entry ([.ref h0]) (n := 1) (Nat.le_of_ble_eq_true rfl)
  rw [lg_entry_eq]
  generalize (lg_sl ([.ref h0]) ++ List.replicate (1 - (lg_sl ([.ref h0])).length) Slot.unset).toArray = ls at hl ⊢
  have hl : lv_has ls 1 [(0, .ref h0)] := hl
  exact bE M0 M1 s.heap [] ls hP hD hS hl h
def wX7_takeNumber_31  (Q : Int32 → gS → gS → Prop)  (M0 : gS) (M1 : gS) : Prop :=
 (wX7_fail (1 : Int32) M0 M1 (fun (N2 : gS) (N3 : gS) => (Q (-1 : Int32) N2 N3)))
def wX7_takeNumber (p1 : Int32) (p2 : Int32) (M0 : gS) (M1 : gS) (Q : Int32 → gS → gS → Prop) : Prop :=
 (((mg M0 4) = (2 : Int32) → (((mg M0 6) < p1 → (wX7_takeNumber_31  Q M0 M1))
 ∧ (¬ (mg M0 6) < p1 → (((mg M0 6) ≤ p2 → (∀ x4 : Int32, x4 = (mg M0 6) → (wX7_advance  M0 M1 (fun (N6 : gS) (N7 : gS) => (Q x4 N6 N7)))))
 ∧ (¬ (mg M0 6) ≤ p2 → (wX7_takeNumber_31  Q M0 M1))))))
 ∧ (¬ (mg M0 4) = (2 : Int32) → (wX7_fail (0 : Int32) M0 M1 (fun (N9 : gS) (N10 : gS) => (Q (-1 : Int32) N9 N10)))))
def rmX7_takeNumber : Room := { frames := 3, cells := 0, slots := 0, locals := 60 }
set_option maxHeartbeats 4000000 in
set_option maxRecDepth 100000 in
theorem kX7_takeNumber (l : Launch) (dC : Nat → ClassId) (dI : Nat → Nat → Nat) (cB cI cJ cZ : ClassId) (h0 : Nat) (a0 : Nat → Nat) (sz : Nat) (p1 : Int32) (p2 : Int32) (M0 : gS) (M1 : gS) (Q : Int32 → gS → gS → Prop) (h : wX7_takeNumber p1 p2 M0 M1 Q) : Met l yX7_takeNumber wsX7_takeNumber rmX7_takeNumber (va_Pc [.ref h0, .int p1, .int p2] (rdI dC dI cB cI cJ cZ h0 a0 M0 M1 sz)) (va_Qi (fun (r : Int32) (u : gS × gS) => Q r u.1 u.2) (rdB dC dI cB cI cJ cZ h0 a0 (va_A (rdW cB cI cJ cZ h0 a0 M0 M1) sz)) (va_A (rdW cB cI cJ cZ h0 a0 M0 M1) sz)) 0 0 (va_A (rdW cB cI cJ cZ h0 a0 M0 M1) sz) := by
  refine Met.ofW (cc := cX7_takeNumber) (maxL := 4) (ret := (some .int)) (by decide) rfl ?_
  intro p e s m args below meth c s₁ B hml hv
  obtain ⟨rfl, hsz, hP, hK, hD0⟩ := hv
  have hx := B.exec
  have hb := B.bytes
  have hr := B.returns
  have hts := atoms_spec (ws := wsX7_takeNumber) B.pre
  have hown : s.vm.findClass RX7 = some m.cls := findClass_of_methodNamed B.named
  have hlocks := B.notSynchronized
  subst hsz
  have hD := hD0.self (sz := s.heap.size)
  generalize hAe : va_A (rdW cB cI cJ cZ h0 a0 M0 M1) s.heap.size = A at hD ⊢
  have hA : ∀ q : Nat, s.heap.size ≤ q → A q := fun q h => by rw [← hAe]; exact Or.inr h
  have hS : va_S A s.heap s.heap [] := va_S.rf
  have hinX7 : ∀ w ∈ wsX70, w ∈ wsX7_takeNumber := by decide +kernel
  have f1 := hts (.fieldLink RX7 31 "LastWords$Reader" "kind" "I") (by decide +kernel)
  have f2 := hts (.fieldLink RX7 51 "LastWords$Reader" "number" "I") (by decide +kernel)
  have b31 : ∀  (M0 : gS) (M1 : gS) (H : Heap) (locs : List Loc) (ls : Array Slot), va_P (dC, dI) vwCl (rdW cB cI cJ cZ h0 a0 M0 M1) H → va_D A (rdW cB cI cJ cZ h0 a0 M0 M1) → va_S A s.heap H locs → lv_has ls 4 [(0, .ref h0)] → wX7_takeNumber_31  Q M0 M1 → W p l e (headSpec wsX7_takeNumber rmX7_takeNumber).room s m ([.ref h0, .int p1, .int p2] : List Value).toArray below meth c H locs 0 0 (MQ below (va_Qi (fun (r : Int32) (u : gS × gS) => Q r u.1 u.2) (rdB dC dI cB cI cJ cZ h0 a0 A) A) ([.ref h0, .int p1, .int p2] : List Value).toArray s 0 0 A) (F0 m 31 ls []) := by
    intro  M0 M1 H locs ls hP hD hS hl h
    unfold wX7_takeNumber_31 at h
    refine lv_aload_n hx hb dX7_takeNumber_31 rfl (lv_at hl 0 rfl) ?_
    refine lv_iconst (v := 1) hx hb dX7_takeNumber_32 (by decide) ?_
    have hFc := gs_free hD hS hA
    refine va_callv (va_runV (As := [.int (1 : Int32)]) (rest := []) ⟨hx, hb, hml, hown, hts⟩ (kX7_fail l dC dI cB cI cJ cZ h0 a0 H.size (1 : Int32) M0 M1 _ h) (cwV 1 hts gX7_takeNumber_X7_fail rfl rfl rfl (by decide +kernel) ⟨Nat.le_of_ble_eq_true rfl, Nat.le_of_ble_eq_true rfl⟩) (rdpV hK hP hD) rfl rfl hl.1 rfl (lv_room (Nat.le_of_ble_eq_true rfl)) dX7_takeNumber_33 ⟨Nat.le_of_ble_eq_true rfl, Nat.le_of_ble_eq_true rfl⟩) hS (fun q _ z => hFc q z) hFc (fun u t H1 locs ht hvm hw hB hz1 hk1 hS => ?_)
    obtain ⟨N2, N3⟩ := u
    obtain ⟨hP, hD⟩ := gs_back ht hFc hB
    generalize H1 = H at hP hS ⊢
    have h := hw
    try dsimp only at h
    refine lv_iconst (v := (-1)) hx hb dX7_takeNumber_36 (by decide) ?_
    exact W.iret (v := (-1 : Int32)) hx hb hr (fun t ht hW => ⟨⟨_, (N2, N3), rfl, h, by rw [ht]; exact hP, va_K.moved hW.alike hK, hD⟩, hS.F ht⟩) hS.2.2 dX7_takeNumber_37
  have bE : ∀ (M0 : gS) (M1 : gS) (H : Heap) (locs : List Loc) (ls : Array Slot), va_P (dC, dI) vwCl (rdW cB cI cJ cZ h0 a0 M0 M1) H → va_D A (rdW cB cI cJ cZ h0 a0 M0 M1) → va_S A s.heap H locs → lv_has ls 4 [(0, .ref h0), (1, .int p1), (2, .int p2)] → wX7_takeNumber p1 p2 M0 M1 Q → W p l e (headSpec wsX7_takeNumber rmX7_takeNumber).room s m ([.ref h0, .int p1, .int p2] : List Value).toArray below meth c H locs 0 0 (MQ below (va_Qi (fun (r : Int32) (u : gS × gS) => Q r u.1 u.2) (rdB dC dI cB cI cJ cZ h0 a0 A) A) ([.ref h0, .int p1, .int p2] : List Value).toArray s 0 0 A) (F0 m 0 ls []) := by
    intro M0 M1 H locs ls hP hD hS hl h
    unfold wX7_takeNumber at h
    refine lv_aload_n hx hb dX7_takeNumber_0 rfl (lv_at hl 0 rfl) ?_
    refine va_get (D := (dC, dI)) (ci := 7) (v := .int (mg M0 4)) (C := RX7) (T := TX7) (N := 8) hx hb hts hinX7 hown hK hP 0 rfl rfl 4 (by decide) f1 (fun _ h9 => h9) rfl dX7_takeNumber_1 ?_
    refine lv_iconst (v := 2) hx hb dX7_takeNumber_4 (by decide) ?_
    refine lv_icmp_eq (tgt := 15) hx hb dX7_takeNumber_5 (by decide) (fun c1 => ?_) (fun c1 => ?_)
    · have h := h.1 c1
      refine lv_aload_n hx hb dX7_takeNumber_15 rfl (lv_at hl 0 rfl) ?_
      refine va_get (D := (dC, dI)) (ci := 7) (v := .int (mg M0 6)) (C := RX7) (T := TX7) (N := 8) hx hb hts hinX7 hown hK hP 0 rfl rfl 6 (by decide) f2 (fun _ h9 => h9) rfl dX7_takeNumber_16 ?_
      refine lv_iload_n hx hb dX7_takeNumber_19 rfl (lv_at hl 1 rfl) ?_
      refine lv_icmp_lt (tgt := 31) hx hb dX7_takeNumber_20 (by decide) (fun c2 => ?_) (fun c2 => ?_)
      · have h := h.1 c2
        exact b31  M0 M1 H locs ls hP hD hS (lv_sub hl [0] rfl) h
      · have h := h.2 c2
        refine lv_aload_n hx hb dX7_takeNumber_23 rfl (lv_at hl 0 rfl) ?_
        refine va_get (D := (dC, dI)) (ci := 7) (v := .int (mg M0 6)) (C := RX7) (T := TX7) (N := 8) hx hb hts hinX7 hown hK hP 0 rfl rfl 6 (by decide) f2 (fun _ h9 => h9) rfl dX7_takeNumber_24 ?_
        refine lv_iload_n hx hb dX7_takeNumber_27 rfl (lv_at hl 2 rfl) ?_
        refine lv_icmp_le (tgt := 38) hx hb dX7_takeNumber_28 (by decide) (fun c3 => ?_) (fun c3 => ?_)
        · have h := h.1 c3
          refine lv_aload_n hx hb dX7_takeNumber_38 rfl (lv_at hl 0 rfl) ?_
          refine va_get (D := (dC, dI)) (ci := 7) (v := .int (mg M0 6)) (C := RX7) (T := TX7) (N := 8) hx hb hts hinX7 hown hK hP 0 rfl rfl 6 (by decide) f2 (fun _ h9 => h9) rfl dX7_takeNumber_39 ?_
          refine lv_topi (fun x4 ex4 => ?_)
          have h := h x4 ex4
          refine lv_istore_n (lv' := [(3, .int x4), (0, .ref h0), (1, .int p1), (2, .int p2)]) hx hb dX7_takeNumber_42 rfl hl (by decide) rfl (fun ls hl => ?_)
          refine lv_aload_n hx hb dX7_takeNumber_43 rfl (lv_at hl 1 rfl) ?_
          have hFc := gs_free hD hS hA
          refine va_callv (va_runV (As := []) (rest := []) ⟨hx, hb, hml, hown, hts⟩ (kX7_advance l dC dI cB cI cJ cZ h0 a0 H.size  M0 M1 _ h) (cwV 0 hts gX7_takeNumber_X7_advance rfl rfl rfl (by decide +kernel) ⟨Nat.le_of_ble_eq_true rfl, Nat.le_of_ble_eq_true rfl⟩) (rdpV hK hP hD) rfl rfl hl.1 rfl (lv_room (Nat.le_of_ble_eq_true rfl)) dX7_takeNumber_44 ⟨Nat.le_of_ble_eq_true rfl, Nat.le_of_ble_eq_true rfl⟩) hS (fun q _ z => hFc q z) hFc (fun u t H1 locs ht hvm hw hB hz1 hk1 hS => ?_)
          obtain ⟨N6, N7⟩ := u
          obtain ⟨hP, hD⟩ := gs_back ht hFc hB
          generalize H1 = H at hP hS ⊢
          have h := hw
          try dsimp only at h
          refine lv_iload_n hx hb dX7_takeNumber_47 rfl (lv_at hl 0 rfl) ?_
          exact W.iret (v := x4) hx hb hr (fun t ht hW => ⟨⟨_, (N6, N7), rfl, h, by rw [ht]; exact hP, va_K.moved hW.alike hK, hD⟩, hS.F ht⟩) hS.2.2 dX7_takeNumber_48
        · have h := h.2 c3
          exact b31  M0 M1 H locs ls hP hD hS (lv_sub hl [0] rfl) h
    · have h := h.2 c1
      refine lv_aload_n hx hb dX7_takeNumber_8 rfl (lv_at hl 0 rfl) ?_
      refine lv_iconst (v := 0) hx hb dX7_takeNumber_9 (by decide) ?_
      have hFc := gs_free hD hS hA
      refine va_callv (va_runV (As := [.int (0 : Int32)]) (rest := []) ⟨hx, hb, hml, hown, hts⟩ (kX7_fail l dC dI cB cI cJ cZ h0 a0 H.size (0 : Int32) M0 M1 _ h) (cwV 1 hts gX7_takeNumber_X7_fail rfl rfl rfl (by decide +kernel) ⟨Nat.le_of_ble_eq_true rfl, Nat.le_of_ble_eq_true rfl⟩) (rdpV hK hP hD) rfl rfl hl.1 rfl (lv_room (Nat.le_of_ble_eq_true rfl)) dX7_takeNumber_10 ⟨Nat.le_of_ble_eq_true rfl, Nat.le_of_ble_eq_true rfl⟩) hS (fun q _ z => hFc q z) hFc (fun u t H1 locs ht hvm hw hB hz1 hk1 hS => ?_)
      obtain ⟨N9, N10⟩ := u
      obtain ⟨hP, hD⟩ := gs_back ht hFc hB
      generalize H1 = H at hP hS ⊢
      have h := hw
      try dsimp only at h
      refine lv_iconst (v := (-1)) hx hb dX7_takeNumber_13 (by decide) ?_
      exact W.iret (v := (-1 : Int32)) hx hb hr (fun t ht hW => ⟨⟨_, (N9, N10), rfl, h, by rw [ht]; exact hP, va_K.moved hW.alike hK, hD⟩, hS.F ht⟩) hS.2.2 dX7_takeNumber_14
  have hl := lv_entry ([.ref h0, .int p1, .int p2]) (n := 4) (Nat.le_of_ble_eq_true rfl)
  rw [lg_entry_eq]
  generalize (lg_sl ([.ref h0, .int p1, .int p2]) ++ List.replicate (4 - (lg_sl ([.ref h0, .int p1, .int p2])).length) Slot.unset).toArray = ls at hl ⊢
  have hl : lv_has ls 4 [(0, .ref h0), (1, .int p1), (2, .int p2)] := hl
  exact bE M0 M1 s.heap [] ls hP hD hS hl h
def wX7_goesOnToClause  (M0 : gS) (M1 : gS) (Q : Bool → gS → gS → Prop) : Prop :=
 (((mg M0 7) = 0 → (((mg M0 4) = 0 → (Q false M0 M1))
 ∧ (¬ (mg M0 4) = 0 → (wX7_isSign (59 : Int32) M0 M1 (fun (b6 : Bool) (N4 : gS) (N5 : gS) => (((bI b6) = 0 → (wX7_fail (0 : Int32) N4 N5 (fun (N12 : gS) (N13 : gS) => (Q false N12 N13))))
 ∧ (¬ (bI b6) = 0 → (wX7_advance  N4 N5 (fun (N9 : gS) (N10 : gS) => (Q true N9 N10))))))))))
 ∧ (¬ (mg M0 7) = 0 → (Q false M0 M1)))
def rmX7_goesOnToClause : Room := { frames := 3, cells := 0, slots := 0, locals := 60 }
set_option maxHeartbeats 4000000 in
set_option maxRecDepth 100000 in
theorem kX7_goesOnToClause (l : Launch) (dC : Nat → ClassId) (dI : Nat → Nat → Nat) (cB cI cJ cZ : ClassId) (h0 : Nat) (a0 : Nat → Nat) (sz : Nat)  (M0 : gS) (M1 : gS) (Q : Bool → gS → gS → Prop) (h : wX7_goesOnToClause  M0 M1 Q) : Met l yX7_goesOnToClause wsX7_goesOnToClause rmX7_goesOnToClause (va_Pc [.ref h0] (rdI dC dI cB cI cJ cZ h0 a0 M0 M1 sz)) (va_Qi (fun (r : Int32) (u : gS × gS) => ∃ b : Bool, r = bI b ∧ Q b u.1 u.2) (rdB dC dI cB cI cJ cZ h0 a0 (va_A (rdW cB cI cJ cZ h0 a0 M0 M1) sz)) (va_A (rdW cB cI cJ cZ h0 a0 M0 M1) sz)) 0 0 (va_A (rdW cB cI cJ cZ h0 a0 M0 M1) sz) := by
  refine Met.ofW (cc := cX7_goesOnToClause) (maxL := 1) (ret := (some .boolean)) (by decide) rfl ?_
  intro p e s m args below meth c s₁ B hml hv
  obtain ⟨rfl, hsz, hP, hK, hD0⟩ := hv
  have hx := B.exec
  have hb := B.bytes
  have hr := B.returns
  have hts := atoms_spec (ws := wsX7_goesOnToClause) B.pre
  have hown : s.vm.findClass RX7 = some m.cls := findClass_of_methodNamed B.named
  have hlocks := B.notSynchronized
  subst hsz
  have hD := hD0.self (sz := s.heap.size)
  generalize hAe : va_A (rdW cB cI cJ cZ h0 a0 M0 M1) s.heap.size = A at hD ⊢
  have hA : ∀ q : Nat, s.heap.size ≤ q → A q := fun q h => by rw [← hAe]; exact Or.inr h
  have hS : va_S A s.heap s.heap [] := va_S.rf
  have hinX7 : ∀ w ∈ wsX70, w ∈ wsX7_goesOnToClause := by decide +kernel
  have f1 := hts (.fieldLink RX7 57 "LastWords$Reader" "fault" "I") (by decide +kernel)
  have f2 := hts (.fieldLink RX7 31 "LastWords$Reader" "kind" "I") (by decide +kernel)
  have bE : ∀ (M0 : gS) (M1 : gS) (H : Heap) (locs : List Loc) (ls : Array Slot), va_P (dC, dI) vwCl (rdW cB cI cJ cZ h0 a0 M0 M1) H → va_D A (rdW cB cI cJ cZ h0 a0 M0 M1) → va_S A s.heap H locs → lv_has ls 1 [(0, .ref h0)] → wX7_goesOnToClause  M0 M1 Q → W p l e (headSpec wsX7_goesOnToClause rmX7_goesOnToClause).room s m ([.ref h0] : List Value).toArray below meth c H locs 0 0 (MQ below (va_Qi (fun (r : Int32) (u : gS × gS) => ∃ b : Bool, r = bI b ∧ Q b u.1 u.2) (rdB dC dI cB cI cJ cZ h0 a0 A) A) ([.ref h0] : List Value).toArray s 0 0 A) (F0 m 0 ls []) := by
    intro M0 M1 H locs ls hP hD hS hl h
    unfold wX7_goesOnToClause at h
    refine lv_aload_n hx hb dX7_goesOnToClause_0 rfl (lv_at hl 0 rfl) ?_
    refine va_get (D := (dC, dI)) (ci := 7) (v := .int (mg M0 7)) (C := RX7) (T := TX7) (N := 8) hx hb hts hinX7 hown hK hP 0 rfl rfl 7 (by decide) f1 (fun _ h9 => h9) rfl dX7_goesOnToClause_1 ?_
    refine lv_if_ne (tgt := 14) hx hb dX7_goesOnToClause_4 (by decide) (fun c1 => ?_) (fun c1 => ?_)
    · have h := h.2 c1
      refine lv_iconst (v := 0) hx hb dX7_goesOnToClause_14 (by decide) ?_
      exact W.zret (v := (bI false)) hx hb hr (nar_bI false) (fun t ht hW => ⟨⟨_, (M0, M1), rfl, ⟨false, rfl, h⟩, by rw [ht]; exact hP, va_K.moved hW.alike hK, hD⟩, hS.F ht⟩) hS.2.2 dX7_goesOnToClause_15
    · have h := h.1 c1
      refine lv_aload_n hx hb dX7_goesOnToClause_7 rfl (lv_at hl 0 rfl) ?_
      refine va_get (D := (dC, dI)) (ci := 7) (v := .int (mg M0 4)) (C := RX7) (T := TX7) (N := 8) hx hb hts hinX7 hown hK hP 0 rfl rfl 4 (by decide) f2 (fun _ h9 => h9) rfl dX7_goesOnToClause_8 ?_
      refine lv_if_ne (tgt := 16) hx hb dX7_goesOnToClause_11 (by decide) (fun c2 => ?_) (fun c2 => ?_)
      · have h := h.2 c2
        refine lv_aload_n hx hb dX7_goesOnToClause_16 rfl (lv_at hl 0 rfl) ?_
        refine lv_bipush (v := (59)) hx hb dX7_goesOnToClause_17 (by decide) ?_
        have hFc := gs_free hD hS hA
        refine va_calli (va_runV (As := [.int (59 : Int32)]) (rest := []) ⟨hx, hb, hml, hown, hts⟩ (kX7_isSign l dC dI cB cI cJ cZ h0 a0 H.size (59 : Int32) M0 M1 _ h) (cwV 1 hts gX7_goesOnToClause_X7_isSign rfl rfl rfl (by decide +kernel) ⟨Nat.le_of_ble_eq_true rfl, Nat.le_of_ble_eq_true rfl⟩) (rdpV hK hP hD) rfl rfl hl.1 rfl (lv_room (Nat.le_of_ble_eq_true rfl)) dX7_goesOnToClause_19 ⟨Nat.le_of_ble_eq_true rfl, Nat.le_of_ble_eq_true rfl⟩) hS (fun q _ z => hFc q z) hFc (fun r3 u t H1 locs ht hvm hw hB hz1 hk1 hS => ?_)
        obtain ⟨N4, N5⟩ := u
        obtain ⟨hP, hD⟩ := gs_back ht hFc hB
        generalize H1 = H at hP hS ⊢
        obtain ⟨b6, rfl, h⟩ := hw
        try dsimp only at h
        refine lv_if_ne (tgt := 32) hx hb dX7_goesOnToClause_22 (by decide) (fun c7 => ?_) (fun c7 => ?_)
        · have h := h.2 c7
          refine lv_aload_n hx hb dX7_goesOnToClause_32 rfl (lv_at hl 0 rfl) ?_
          have hFc := gs_free hD hS hA
          refine va_callv (va_runV (As := []) (rest := []) ⟨hx, hb, hml, hown, hts⟩ (kX7_advance l dC dI cB cI cJ cZ h0 a0 H.size  N4 N5 _ h) (cwV 0 hts gX7_goesOnToClause_X7_advance rfl rfl rfl (by decide +kernel) ⟨Nat.le_of_ble_eq_true rfl, Nat.le_of_ble_eq_true rfl⟩) (rdpV hK hP hD) rfl rfl hl.1 rfl (lv_room (Nat.le_of_ble_eq_true rfl)) dX7_goesOnToClause_33 ⟨Nat.le_of_ble_eq_true rfl, Nat.le_of_ble_eq_true rfl⟩) hS (fun q _ z => hFc q z) hFc (fun u t H1 locs ht hvm hw hB hz1 hk1 hS => ?_)
          obtain ⟨N9, N10⟩ := u
          obtain ⟨hP, hD⟩ := gs_back ht hFc hB
          generalize H1 = H at hP hS ⊢
          have h := hw
          try dsimp only at h
          refine lv_iconst (v := 1) hx hb dX7_goesOnToClause_36 (by decide) ?_
          exact W.zret (v := (bI true)) hx hb hr (nar_bI true) (fun t ht hW => ⟨⟨_, (N9, N10), rfl, ⟨true, rfl, h⟩, by rw [ht]; exact hP, va_K.moved hW.alike hK, hD⟩, hS.F ht⟩) hS.2.2 dX7_goesOnToClause_37
        · have h := h.1 c7
          refine lv_aload_n hx hb dX7_goesOnToClause_25 rfl (lv_at hl 0 rfl) ?_
          refine lv_iconst (v := 0) hx hb dX7_goesOnToClause_26 (by decide) ?_
          have hFc := gs_free hD hS hA
          refine va_callv (va_runV (As := [.int (0 : Int32)]) (rest := []) ⟨hx, hb, hml, hown, hts⟩ (kX7_fail l dC dI cB cI cJ cZ h0 a0 H.size (0 : Int32) N4 N5 _ h) (cwV 1 hts gX7_goesOnToClause_X7_fail rfl rfl rfl (by decide +kernel) ⟨Nat.le_of_ble_eq_true rfl, Nat.le_of_ble_eq_true rfl⟩) (rdpV hK hP hD) rfl rfl hl.1 rfl (lv_room (Nat.le_of_ble_eq_true rfl)) dX7_goesOnToClause_27 ⟨Nat.le_of_ble_eq_true rfl, Nat.le_of_ble_eq_true rfl⟩) hS (fun q _ z => hFc q z) hFc (fun u t H1 locs ht hvm hw hB hz1 hk1 hS => ?_)
          obtain ⟨N12, N13⟩ := u
          obtain ⟨hP, hD⟩ := gs_back ht hFc hB
          generalize H1 = H at hP hS ⊢
          have h := hw
          try dsimp only at h
          refine lv_iconst (v := 0) hx hb dX7_goesOnToClause_30 (by decide) ?_
          exact W.zret (v := (bI false)) hx hb hr (nar_bI false) (fun t ht hW => ⟨⟨_, (N12, N13), rfl, ⟨false, rfl, h⟩, by rw [ht]; exact hP, va_K.moved hW.alike hK, hD⟩, hS.F ht⟩) hS.2.2 dX7_goesOnToClause_31
      · have h := h.1 c2
        refine lv_iconst (v := 0) hx hb dX7_goesOnToClause_14 (by decide) ?_
        exact W.zret (v := (bI false)) hx hb hr (nar_bI false) (fun t ht hW => ⟨⟨_, (M0, M1), rfl, ⟨false, rfl, h⟩, by rw [ht]; exact hP, va_K.moved hW.alike hK, hD⟩, hS.F ht⟩) hS.2.2 dX7_goesOnToClause_15
  have hl := lv_entry ([.ref h0]) (n := 1) (Nat.le_of_ble_eq_true rfl)
  rw [lg_entry_eq]
  generalize (lg_sl ([.ref h0]) ++ List.replicate (1 - (lg_sl ([.ref h0])).length) Slot.unset).toArray = ls at hl ⊢
  have hl : lv_has ls 1 [(0, .ref h0)] := hl
  exact bE M0 M1 s.heap [] ls hP hD hS hl h
