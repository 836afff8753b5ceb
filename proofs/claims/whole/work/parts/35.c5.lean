abbrev ruW (cB cI cJ cZ : ClassId) (h0 : Nat) (a0 : Nat → Nat) (M0 : gS) : va_W := [(h0, .inr (8, [.int (mg M0 0), .ref (a0 1), .ref (a0 2), .ref (a0 3), .int (mg M0 4), .ref (a0 5)])), (a0 1, .inl (cI, 12, .inl (ma M0 1))), (a0 2, .inl (cI, 12, .inl (ma M0 2))), (a0 3, .inl (cI, 400, .inl (ma M0 3))), (a0 5, .inl (cJ, 60, .inr (.inl (ml M0 5))))]
abbrev ruI (dC : Nat → ClassId) (dI : Nat → Nat → Nat) (cB cI cJ cZ : ClassId) (h0 : Nat) (a0 : Nat → Nat) (M0 : gS) (sz : Nat) : State → Prop := fun U => U.heap.size = sz ∧ va_P (dC, dI) vwCl (ruW cB cI cJ cZ h0 a0 M0) U.heap ∧ va_K (dC, dI) vwCl (gT cB cI cJ cZ) U ∧ va_D (fun _ => True) (ruW cB cI cJ cZ h0 a0 M0)
abbrev ruB (dC : Nat → ClassId) (dI : Nat → Nat → Nat) (cB cI cJ cZ : ClassId) (h0 : Nat) (a0 : Nat → Nat) (A : Nat → Prop) (u : gS) (t : State) : Prop := match u with
  | (M0) => va_P (dC, dI) vwCl (ruW cB cI cJ cZ h0 a0 M0) t.heap ∧ va_K (dC, dI) vwCl (gT cB cI cJ cZ) t ∧ va_D A (ruW cB cI cJ cZ h0 a0 M0)
theorem ruP_0_f0 {D : va_G} {H : Heap} {cB cI cJ cZ : ClassId} {h0 : Nat} {a0 : Nat → Nat} {M0 : gS} {v : Int32} (h : va_P D vwCl ((ruW cB cI cJ cZ h0 a0 M0).set 0 (h0, .inr (8, ([.int (mg M0 0), .ref (a0 1), .ref (a0 2), .ref (a0 3), .int (mg M0 4), .ref (a0 5)]).set 0 (.int v)))) H) : va_P D vwCl (ruW cB cI cJ cZ h0 a0 (sg M0 0 v)) H := h
theorem ruD_0_f0 {A : Nat → Prop} {cB cI cJ cZ : ClassId} {h0 : Nat} {a0 : Nat → Nat} {M0 : gS} {v : Int32} (h : va_D A ((ruW cB cI cJ cZ h0 a0 M0).set 0 (h0, .inr (8, ([.int (mg M0 0), .ref (a0 1), .ref (a0 2), .ref (a0 3), .int (mg M0 4), .ref (a0 5)]).set 0 (.int v))))) : va_D A (ruW cB cI cJ cZ h0 a0 (sg M0 0 v)) := h
theorem ruP_0_f4 {D : va_G} {H : Heap} {cB cI cJ cZ : ClassId} {h0 : Nat} {a0 : Nat → Nat} {M0 : gS} {v : Int32} (h : va_P D vwCl ((ruW cB cI cJ cZ h0 a0 M0).set 0 (h0, .inr (8, ([.int (mg M0 0), .ref (a0 1), .ref (a0 2), .ref (a0 3), .int (mg M0 4), .ref (a0 5)]).set 4 (.int v)))) H) : va_P D vwCl (ruW cB cI cJ cZ h0 a0 (sg M0 4 v)) H := h
theorem ruD_0_f4 {A : Nat → Prop} {cB cI cJ cZ : ClassId} {h0 : Nat} {a0 : Nat → Nat} {M0 : gS} {v : Int32} (h : va_D A ((ruW cB cI cJ cZ h0 a0 M0).set 0 (h0, .inr (8, ([.int (mg M0 0), .ref (a0 1), .ref (a0 2), .ref (a0 3), .int (mg M0 4), .ref (a0 5)]).set 4 (.int v))))) : va_D A (ruW cB cI cJ cZ h0 a0 (sg M0 4 v)) := h
theorem ruP_0_a1 {D : va_G} {H : Heap} {cB cI cJ cZ : ClassId} {h0 : Nat} {a0 : Nat → Nat} {M0 : gS} {j : Nat} {v : Int32} (h : va_P D vwCl ((ruW cB cI cJ cZ h0 a0 M0).set 1 (a0 1, .inl (cI, 12, .inl (upd (ma M0 1) j v)))) H) : va_P D vwCl (ruW cB cI cJ cZ h0 a0 (sa M0 1 j v)) H := h
theorem ruD_0_a1 {A : Nat → Prop} {cB cI cJ cZ : ClassId} {h0 : Nat} {a0 : Nat → Nat} {M0 : gS} {j : Nat} {v : Int32} (h : va_D A ((ruW cB cI cJ cZ h0 a0 M0).set 1 (a0 1, .inl (cI, 12, .inl (upd (ma M0 1) j v))))) : va_D A (ruW cB cI cJ cZ h0 a0 (sa M0 1 j v)) := h
theorem ruP_0_c1 {D : va_G} {H : Heap} {cB cI cJ cZ : ClassId} {h0 : Nat} {a0 : Nat → Nat} {M0 : gS} {f : Nat → Int32} (h : va_P D vwCl ((ruW cB cI cJ cZ h0 a0 M0).set 1 (a0 1, .inl (cI, 12, .inl f))) H) : va_P D vwCl (ruW cB cI cJ cZ h0 a0 (sF M0 1 f)) H := h
theorem ruD_0_c1 {A : Nat → Prop} {cB cI cJ cZ : ClassId} {h0 : Nat} {a0 : Nat → Nat} {M0 : gS} {f : Nat → Int32} (h : va_D A ((ruW cB cI cJ cZ h0 a0 M0).set 1 (a0 1, .inl (cI, 12, .inl f)))) : va_D A (ruW cB cI cJ cZ h0 a0 (sF M0 1 f)) := h
theorem ruP_0_a2 {D : va_G} {H : Heap} {cB cI cJ cZ : ClassId} {h0 : Nat} {a0 : Nat → Nat} {M0 : gS} {j : Nat} {v : Int32} (h : va_P D vwCl ((ruW cB cI cJ cZ h0 a0 M0).set 2 (a0 2, .inl (cI, 12, .inl (upd (ma M0 2) j v)))) H) : va_P D vwCl (ruW cB cI cJ cZ h0 a0 (sa M0 2 j v)) H := h
theorem ruD_0_a2 {A : Nat → Prop} {cB cI cJ cZ : ClassId} {h0 : Nat} {a0 : Nat → Nat} {M0 : gS} {j : Nat} {v : Int32} (h : va_D A ((ruW cB cI cJ cZ h0 a0 M0).set 2 (a0 2, .inl (cI, 12, .inl (upd (ma M0 2) j v))))) : va_D A (ruW cB cI cJ cZ h0 a0 (sa M0 2 j v)) := h
theorem ruP_0_c2 {D : va_G} {H : Heap} {cB cI cJ cZ : ClassId} {h0 : Nat} {a0 : Nat → Nat} {M0 : gS} {f : Nat → Int32} (h : va_P D vwCl ((ruW cB cI cJ cZ h0 a0 M0).set 2 (a0 2, .inl (cI, 12, .inl f))) H) : va_P D vwCl (ruW cB cI cJ cZ h0 a0 (sF M0 2 f)) H := h
theorem ruD_0_c2 {A : Nat → Prop} {cB cI cJ cZ : ClassId} {h0 : Nat} {a0 : Nat → Nat} {M0 : gS} {f : Nat → Int32} (h : va_D A ((ruW cB cI cJ cZ h0 a0 M0).set 2 (a0 2, .inl (cI, 12, .inl f)))) : va_D A (ruW cB cI cJ cZ h0 a0 (sF M0 2 f)) := h
theorem ruP_0_a3 {D : va_G} {H : Heap} {cB cI cJ cZ : ClassId} {h0 : Nat} {a0 : Nat → Nat} {M0 : gS} {j : Nat} {v : Int32} (h : va_P D vwCl ((ruW cB cI cJ cZ h0 a0 M0).set 3 (a0 3, .inl (cI, 400, .inl (upd (ma M0 3) j v)))) H) : va_P D vwCl (ruW cB cI cJ cZ h0 a0 (sa M0 3 j v)) H := h
theorem ruD_0_a3 {A : Nat → Prop} {cB cI cJ cZ : ClassId} {h0 : Nat} {a0 : Nat → Nat} {M0 : gS} {j : Nat} {v : Int32} (h : va_D A ((ruW cB cI cJ cZ h0 a0 M0).set 3 (a0 3, .inl (cI, 400, .inl (upd (ma M0 3) j v))))) : va_D A (ruW cB cI cJ cZ h0 a0 (sa M0 3 j v)) := h
theorem ruP_0_c3 {D : va_G} {H : Heap} {cB cI cJ cZ : ClassId} {h0 : Nat} {a0 : Nat → Nat} {M0 : gS} {f : Nat → Int32} (h : va_P D vwCl ((ruW cB cI cJ cZ h0 a0 M0).set 3 (a0 3, .inl (cI, 400, .inl f))) H) : va_P D vwCl (ruW cB cI cJ cZ h0 a0 (sF M0 3 f)) H := h
theorem ruD_0_c3 {A : Nat → Prop} {cB cI cJ cZ : ClassId} {h0 : Nat} {a0 : Nat → Nat} {M0 : gS} {f : Nat → Int32} (h : va_D A ((ruW cB cI cJ cZ h0 a0 M0).set 3 (a0 3, .inl (cI, 400, .inl f)))) : va_D A (ruW cB cI cJ cZ h0 a0 (sF M0 3 f)) := h
theorem ruP_0_a5 {D : va_G} {H : Heap} {cB cI cJ cZ : ClassId} {h0 : Nat} {a0 : Nat → Nat} {M0 : gS} {j : Nat} {v : Int64} (h : va_P D vwCl ((ruW cB cI cJ cZ h0 a0 M0).set 4 (a0 5, .inl (cJ, 60, .inr (.inl (vp_updL (ml M0 5) j v))))) H) : va_P D vwCl (ruW cB cI cJ cZ h0 a0 (sl M0 5 j v)) H := h
theorem ruD_0_a5 {A : Nat → Prop} {cB cI cJ cZ : ClassId} {h0 : Nat} {a0 : Nat → Nat} {M0 : gS} {j : Nat} {v : Int64} (h : va_D A ((ruW cB cI cJ cZ h0 a0 M0).set 4 (a0 5, .inl (cJ, 60, .inr (.inl (vp_updL (ml M0 5) j v)))))) : va_D A (ruW cB cI cJ cZ h0 a0 (sl M0 5 j v)) := h
theorem rupV {s : State} {dC : Nat → ClassId} {dI : Nat → Nat → Nat} {A : Nat → Prop} {cB cI cJ cZ : ClassId} {h0 : Nat} {a0 : Nat → Nat} {M0 : gS} {H : Heap} {As : List Value} (hK : va_K (dC, dI) vwCl (gT cB cI cJ cZ) s) (hP : va_P (dC, dI) vwCl (ruW cB cI cJ cZ h0 a0 M0) H) (hD : va_D A (ruW cB cI cJ cZ h0 a0 M0)) : PreV s H RX8 h0 (va_Pc (.ref h0 :: As) (ruI dC dI cB cI cJ cZ h0 a0 M0 H.size)) As := ⟨fun a U g mk q => by obtain ⟨q0, q1, qP, qK, qD⟩ := q; exact ⟨q0, q1, qP, va_K.moved (u := U) (U := U.calling g mk a) (Vm.Alike.refl U.vm) qK, qD⟩, va_recv hK hP (ci := 8) (q0 := 0) rfl rfl, fun U hU hW => ⟨rfl, by rw [hU], by rw [hU]; exact hP, va_K.moved hW.alike hK, hD.weaken (fun _ _ _ _ => trivial)⟩⟩
theorem rupS {s : State} {dC : Nat → ClassId} {dI : Nat → Nat → Nat} {A : Nat → Prop} {cB cI cJ cZ : ClassId} {h0 : Nat} {a0 : Nat → Nat} {M0 : gS} {H : Heap} {As : List Value} (hK : va_K (dC, dI) vwCl (gT cB cI cJ cZ) s) (hP : va_P (dC, dI) vwCl (ruW cB cI cJ cZ h0 a0 M0) H) (hD : va_D A (ruW cB cI cJ cZ h0 a0 M0)) : PreS s H (va_Pc As (ruI dC dI cB cI cJ cZ h0 a0 M0 H.size)) As := ⟨fun a U g mk q => by obtain ⟨q0, q1, qP, qK, qD⟩ := q; exact ⟨q0, q1, qP, va_K.moved (u := U) (U := U.calling g mk a) (Vm.Alike.refl U.vm) qK, qD⟩, fun U hU hW => ⟨rfl, by rw [hU], by rw [hU]; exact hP, va_K.moved hW.alike hK, hD.weaken (fun _ _ _ _ => trivial)⟩⟩

abbrev rqW (cB cI cJ cZ : ClassId) (h0 : Nat) (a0 : Nat → Nat) (h1 : Nat) (a1 : Nat → Nat) (M0 : gS) (M1 : gS) : va_W := [(h0, .inr (8, [.int (mg M0 0), .ref (a0 1), .ref (a0 2), .ref (a0 3), .int (mg M0 4), .ref (a0 5)])), (a0 1, .inl (cI, 12, .inl (ma M0 1))), (a0 2, .inl (cI, 12, .inl (ma M0 2))), (a0 3, .inl (cI, 400, .inl (ma M0 3))), (a0 5, .inl (cJ, 60, .inr (.inl (ml M0 5)))), (h1, .inr (6, [.int (mg M1 0), .int (mg M1 1), .int (mg M1 2), .int (mg M1 3), .int (mg M1 4), .int (mg M1 5), .int (mg M1 6), .ref (a1 7), .ref (a1 8), .ref (a1 9)])), (a1 7, .inl (cI, 2, .inl (ma M1 7))), (a1 8, .inl (cI, 2, .inl (ma M1 8))), (a1 9, .inl (cI, 2, .inl (ma M1 9)))]
abbrev rqI (dC : Nat → ClassId) (dI : Nat → Nat → Nat) (cB cI cJ cZ : ClassId) (h0 : Nat) (a0 : Nat → Nat) (h1 : Nat) (a1 : Nat → Nat) (M0 : gS) (M1 : gS) (sz : Nat) : State → Prop := fun U => U.heap.size = sz ∧ va_P (dC, dI) vwCl (rqW cB cI cJ cZ h0 a0 h1 a1 M0 M1) U.heap ∧ va_K (dC, dI) vwCl (gT cB cI cJ cZ) U ∧ va_D (fun _ => True) (rqW cB cI cJ cZ h0 a0 h1 a1 M0 M1)
abbrev rqB (dC : Nat → ClassId) (dI : Nat → Nat → Nat) (cB cI cJ cZ : ClassId) (h0 : Nat) (a0 : Nat → Nat) (h1 : Nat) (a1 : Nat → Nat) (A : Nat → Prop) (u : gS × gS) (t : State) : Prop := match u with
  | (M0, M1) => va_P (dC, dI) vwCl (rqW cB cI cJ cZ h0 a0 h1 a1 M0 M1) t.heap ∧ va_K (dC, dI) vwCl (gT cB cI cJ cZ) t ∧ va_D A (rqW cB cI cJ cZ h0 a0 h1 a1 M0 M1)
theorem rqP_0_f0 {D : va_G} {H : Heap} {cB cI cJ cZ : ClassId} {h0 : Nat} {a0 : Nat → Nat} {h1 : Nat} {a1 : Nat → Nat} {M0 : gS} {M1 : gS} {v : Int32} (h : va_P D vwCl ((rqW cB cI cJ cZ h0 a0 h1 a1 M0 M1).set 0 (h0, .inr (8, ([.int (mg M0 0), .ref (a0 1), .ref (a0 2), .ref (a0 3), .int (mg M0 4), .ref (a0 5)]).set 0 (.int v)))) H) : va_P D vwCl (rqW cB cI cJ cZ h0 a0 h1 a1 (sg M0 0 v) M1) H := h
theorem rqD_0_f0 {A : Nat → Prop} {cB cI cJ cZ : ClassId} {h0 : Nat} {a0 : Nat → Nat} {h1 : Nat} {a1 : Nat → Nat} {M0 : gS} {M1 : gS} {v : Int32} (h : va_D A ((rqW cB cI cJ cZ h0 a0 h1 a1 M0 M1).set 0 (h0, .inr (8, ([.int (mg M0 0), .ref (a0 1), .ref (a0 2), .ref (a0 3), .int (mg M0 4), .ref (a0 5)]).set 0 (.int v))))) : va_D A (rqW cB cI cJ cZ h0 a0 h1 a1 (sg M0 0 v) M1) := h
theorem rqP_0_f4 {D : va_G} {H : Heap} {cB cI cJ cZ : ClassId} {h0 : Nat} {a0 : Nat → Nat} {h1 : Nat} {a1 : Nat → Nat} {M0 : gS} {M1 : gS} {v : Int32} (h : va_P D vwCl ((rqW cB cI cJ cZ h0 a0 h1 a1 M0 M1).set 0 (h0, .inr (8, ([.int (mg M0 0), .ref (a0 1), .ref (a0 2), .ref (a0 3), .int (mg M0 4), .ref (a0 5)]).set 4 (.int v)))) H) : va_P D vwCl (rqW cB cI cJ cZ h0 a0 h1 a1 (sg M0 4 v) M1) H := h
theorem rqD_0_f4 {A : Nat → Prop} {cB cI cJ cZ : ClassId} {h0 : Nat} {a0 : Nat → Nat} {h1 : Nat} {a1 : Nat → Nat} {M0 : gS} {M1 : gS} {v : Int32} (h : va_D A ((rqW cB cI cJ cZ h0 a0 h1 a1 M0 M1).set 0 (h0, .inr (8, ([.int (mg M0 0), .ref (a0 1), .ref (a0 2), .ref (a0 3), .int (mg M0 4), .ref (a0 5)]).set 4 (.int v))))) : va_D A (rqW cB cI cJ cZ h0 a0 h1 a1 (sg M0 4 v) M1) := h
theorem rqP_0_a1 {D : va_G} {H : Heap} {cB cI cJ cZ : ClassId} {h0 : Nat} {a0 : Nat → Nat} {h1 : Nat} {a1 : Nat → Nat} {M0 : gS} {M1 : gS} {j : Nat} {v : Int32} (h : va_P D vwCl ((rqW cB cI cJ cZ h0 a0 h1 a1 M0 M1).set 1 (a0 1, .inl (cI, 12, .inl (upd (ma M0 1) j v)))) H) : va_P D vwCl (rqW cB cI cJ cZ h0 a0 h1 a1 (sa M0 1 j v) M1) H := h
theorem rqD_0_a1 {A : Nat → Prop} {cB cI cJ cZ : ClassId} {h0 : Nat} {a0 : Nat → Nat} {h1 : Nat} {a1 : Nat → Nat} {M0 : gS} {M1 : gS} {j : Nat} {v : Int32} (h : va_D A ((rqW cB cI cJ cZ h0 a0 h1 a1 M0 M1).set 1 (a0 1, .inl (cI, 12, .inl (upd (ma M0 1) j v))))) : va_D A (rqW cB cI cJ cZ h0 a0 h1 a1 (sa M0 1 j v) M1) := h
theorem rqP_0_c1 {D : va_G} {H : Heap} {cB cI cJ cZ : ClassId} {h0 : Nat} {a0 : Nat → Nat} {h1 : Nat} {a1 : Nat → Nat} {M0 : gS} {M1 : gS} {f : Nat → Int32} (h : va_P D vwCl ((rqW cB cI cJ cZ h0 a0 h1 a1 M0 M1).set 1 (a0 1, .inl (cI, 12, .inl f))) H) : va_P D vwCl (rqW cB cI cJ cZ h0 a0 h1 a1 (sF M0 1 f) M1) H := h
theorem rqD_0_c1 {A : Nat → Prop} {cB cI cJ cZ : ClassId} {h0 : Nat} {a0 : Nat → Nat} {h1 : Nat} {a1 : Nat → Nat} {M0 : gS} {M1 : gS} {f : Nat → Int32} (h : va_D A ((rqW cB cI cJ cZ h0 a0 h1 a1 M0 M1).set 1 (a0 1, .inl (cI, 12, .inl f)))) : va_D A (rqW cB cI cJ cZ h0 a0 h1 a1 (sF M0 1 f) M1) := h
theorem rqP_0_a2 {D : va_G} {H : Heap} {cB cI cJ cZ : ClassId} {h0 : Nat} {a0 : Nat → Nat} {h1 : Nat} {a1 : Nat → Nat} {M0 : gS} {M1 : gS} {j : Nat} {v : Int32} (h : va_P D vwCl ((rqW cB cI cJ cZ h0 a0 h1 a1 M0 M1).set 2 (a0 2, .inl (cI, 12, .inl (upd (ma M0 2) j v)))) H) : va_P D vwCl (rqW cB cI cJ cZ h0 a0 h1 a1 (sa M0 2 j v) M1) H := h
theorem rqD_0_a2 {A : Nat → Prop} {cB cI cJ cZ : ClassId} {h0 : Nat} {a0 : Nat → Nat} {h1 : Nat} {a1 : Nat → Nat} {M0 : gS} {M1 : gS} {j : Nat} {v : Int32} (h : va_D A ((rqW cB cI cJ cZ h0 a0 h1 a1 M0 M1).set 2 (a0 2, .inl (cI, 12, .inl (upd (ma M0 2) j v))))) : va_D A (rqW cB cI cJ cZ h0 a0 h1 a1 (sa M0 2 j v) M1) := h
theorem rqP_0_c2 {D : va_G} {H : Heap} {cB cI cJ cZ : ClassId} {h0 : Nat} {a0 : Nat → Nat} {h1 : Nat} {a1 : Nat → Nat} {M0 : gS} {M1 : gS} {f : Nat → Int32} (h : va_P D vwCl ((rqW cB cI cJ cZ h0 a0 h1 a1 M0 M1).set 2 (a0 2, .inl (cI, 12, .inl f))) H) : va_P D vwCl (rqW cB cI cJ cZ h0 a0 h1 a1 (sF M0 2 f) M1) H := h
theorem rqD_0_c2 {A : Nat → Prop} {cB cI cJ cZ : ClassId} {h0 : Nat} {a0 : Nat → Nat} {h1 : Nat} {a1 : Nat → Nat} {M0 : gS} {M1 : gS} {f : Nat → Int32} (h : va_D A ((rqW cB cI cJ cZ h0 a0 h1 a1 M0 M1).set 2 (a0 2, .inl (cI, 12, .inl f)))) : va_D A (rqW cB cI cJ cZ h0 a0 h1 a1 (sF M0 2 f) M1) := h
theorem rqP_0_a3 {D : va_G} {H : Heap} {cB cI cJ cZ : ClassId} {h0 : Nat} {a0 : Nat → Nat} {h1 : Nat} {a1 : Nat → Nat} {M0 : gS} {M1 : gS} {j : Nat} {v : Int32} (h : va_P D vwCl ((rqW cB cI cJ cZ h0 a0 h1 a1 M0 M1).set 3 (a0 3, .inl (cI, 400, .inl (upd (ma M0 3) j v)))) H) : va_P D vwCl (rqW cB cI cJ cZ h0 a0 h1 a1 (sa M0 3 j v) M1) H := h
theorem rqD_0_a3 {A : Nat → Prop} {cB cI cJ cZ : ClassId} {h0 : Nat} {a0 : Nat → Nat} {h1 : Nat} {a1 : Nat → Nat} {M0 : gS} {M1 : gS} {j : Nat} {v : Int32} (h : va_D A ((rqW cB cI cJ cZ h0 a0 h1 a1 M0 M1).set 3 (a0 3, .inl (cI, 400, .inl (upd (ma M0 3) j v))))) : va_D A (rqW cB cI cJ cZ h0 a0 h1 a1 (sa M0 3 j v) M1) := h
theorem rqP_0_c3 {D : va_G} {H : Heap} {cB cI cJ cZ : ClassId} {h0 : Nat} {a0 : Nat → Nat} {h1 : Nat} {a1 : Nat → Nat} {M0 : gS} {M1 : gS} {f : Nat → Int32} (h : va_P D vwCl ((rqW cB cI cJ cZ h0 a0 h1 a1 M0 M1).set 3 (a0 3, .inl (cI, 400, .inl f))) H) : va_P D vwCl (rqW cB cI cJ cZ h0 a0 h1 a1 (sF M0 3 f) M1) H := h
theorem rqD_0_c3 {A : Nat → Prop} {cB cI cJ cZ : ClassId} {h0 : Nat} {a0 : Nat → Nat} {h1 : Nat} {a1 : Nat → Nat} {M0 : gS} {M1 : gS} {f : Nat → Int32} (h : va_D A ((rqW cB cI cJ cZ h0 a0 h1 a1 M0 M1).set 3 (a0 3, .inl (cI, 400, .inl f)))) : va_D A (rqW cB cI cJ cZ h0 a0 h1 a1 (sF M0 3 f) M1) := h
theorem rqP_0_a5 {D : va_G} {H : Heap} {cB cI cJ cZ : ClassId} {h0 : Nat} {a0 : Nat → Nat} {h1 : Nat} {a1 : Nat → Nat} {M0 : gS} {M1 : gS} {j : Nat} {v : Int64} (h : va_P D vwCl ((rqW cB cI cJ cZ h0 a0 h1 a1 M0 M1).set 4 (a0 5, .inl (cJ, 60, .inr (.inl (vp_updL (ml M0 5) j v))))) H) : va_P D vwCl (rqW cB cI cJ cZ h0 a0 h1 a1 (sl M0 5 j v) M1) H := h
theorem rqD_0_a5 {A : Nat → Prop} {cB cI cJ cZ : ClassId} {h0 : Nat} {a0 : Nat → Nat} {h1 : Nat} {a1 : Nat → Nat} {M0 : gS} {M1 : gS} {j : Nat} {v : Int64} (h : va_D A ((rqW cB cI cJ cZ h0 a0 h1 a1 M0 M1).set 4 (a0 5, .inl (cJ, 60, .inr (.inl (vp_updL (ml M0 5) j v)))))) : va_D A (rqW cB cI cJ cZ h0 a0 h1 a1 (sl M0 5 j v) M1) := h
theorem rqP_1_f0 {D : va_G} {H : Heap} {cB cI cJ cZ : ClassId} {h0 : Nat} {a0 : Nat → Nat} {h1 : Nat} {a1 : Nat → Nat} {M0 : gS} {M1 : gS} {v : Int32} (h : va_P D vwCl ((rqW cB cI cJ cZ h0 a0 h1 a1 M0 M1).set 5 (h1, .inr (6, ([.int (mg M1 0), .int (mg M1 1), .int (mg M1 2), .int (mg M1 3), .int (mg M1 4), .int (mg M1 5), .int (mg M1 6), .ref (a1 7), .ref (a1 8), .ref (a1 9)]).set 0 (.int v)))) H) : va_P D vwCl (rqW cB cI cJ cZ h0 a0 h1 a1 M0 (sg M1 0 v)) H := h
theorem rqD_1_f0 {A : Nat → Prop} {cB cI cJ cZ : ClassId} {h0 : Nat} {a0 : Nat → Nat} {h1 : Nat} {a1 : Nat → Nat} {M0 : gS} {M1 : gS} {v : Int32} (h : va_D A ((rqW cB cI cJ cZ h0 a0 h1 a1 M0 M1).set 5 (h1, .inr (6, ([.int (mg M1 0), .int (mg M1 1), .int (mg M1 2), .int (mg M1 3), .int (mg M1 4), .int (mg M1 5), .int (mg M1 6), .ref (a1 7), .ref (a1 8), .ref (a1 9)]).set 0 (.int v))))) : va_D A (rqW cB cI cJ cZ h0 a0 h1 a1 M0 (sg M1 0 v)) := h
theorem rqP_1_f1 {D : va_G} {H : Heap} {cB cI cJ cZ : ClassId} {h0 : Nat} {a0 : Nat → Nat} {h1 : Nat} {a1 : Nat → Nat} {M0 : gS} {M1 : gS} {v : Int32} (h : va_P D vwCl ((rqW cB cI cJ cZ h0 a0 h1 a1 M0 M1).set 5 (h1, .inr (6, ([.int (mg M1 0), .int (mg M1 1), .int (mg M1 2), .int (mg M1 3), .int (mg M1 4), .int (mg M1 5), .int (mg M1 6), .ref (a1 7), .ref (a1 8), .ref (a1 9)]).set 1 (.int v)))) H) : va_P D vwCl (rqW cB cI cJ cZ h0 a0 h1 a1 M0 (sg M1 1 v)) H := h
theorem rqD_1_f1 {A : Nat → Prop} {cB cI cJ cZ : ClassId} {h0 : Nat} {a0 : Nat → Nat} {h1 : Nat} {a1 : Nat → Nat} {M0 : gS} {M1 : gS} {v : Int32} (h : va_D A ((rqW cB cI cJ cZ h0 a0 h1 a1 M0 M1).set 5 (h1, .inr (6, ([.int (mg M1 0), .int (mg M1 1), .int (mg M1 2), .int (mg M1 3), .int (mg M1 4), .int (mg M1 5), .int (mg M1 6), .ref (a1 7), .ref (a1 8), .ref (a1 9)]).set 1 (.int v))))) : va_D A (rqW cB cI cJ cZ h0 a0 h1 a1 M0 (sg M1 1 v)) := h
theorem rqP_1_f2 {D : va_G} {H : Heap} {cB cI cJ cZ : ClassId} {h0 : Nat} {a0 : Nat → Nat} {h1 : Nat} {a1 : Nat → Nat} {M0 : gS} {M1 : gS} {v : Int32} (h : va_P D vwCl ((rqW cB cI cJ cZ h0 a0 h1 a1 M0 M1).set 5 (h1, .inr (6, ([.int (mg M1 0), .int (mg M1 1), .int (mg M1 2), .int (mg M1 3), .int (mg M1 4), .int (mg M1 5), .int (mg M1 6), .ref (a1 7), .ref (a1 8), .ref (a1 9)]).set 2 (.int v)))) H) : va_P D vwCl (rqW cB cI cJ cZ h0 a0 h1 a1 M0 (sg M1 2 v)) H := h
theorem rqD_1_f2 {A : Nat → Prop} {cB cI cJ cZ : ClassId} {h0 : Nat} {a0 : Nat → Nat} {h1 : Nat} {a1 : Nat → Nat} {M0 : gS} {M1 : gS} {v : Int32} (h : va_D A ((rqW cB cI cJ cZ h0 a0 h1 a1 M0 M1).set 5 (h1, .inr (6, ([.int (mg M1 0), .int (mg M1 1), .int (mg M1 2), .int (mg M1 3), .int (mg M1 4), .int (mg M1 5), .int (mg M1 6), .ref (a1 7), .ref (a1 8), .ref (a1 9)]).set 2 (.int v))))) : va_D A (rqW cB cI cJ cZ h0 a0 h1 a1 M0 (sg M1 2 v)) := h
theorem rqP_1_f3 {D : va_G} {H : Heap} {cB cI cJ cZ : ClassId} {h0 : Nat} {a0 : Nat → Nat} {h1 : Nat} {a1 : Nat → Nat} {M0 : gS} {M1 : gS} {v : Int32} (h : va_P D vwCl ((rqW cB cI cJ cZ h0 a0 h1 a1 M0 M1).set 5 (h1, .inr (6, ([.int (mg M1 0), .int (mg M1 1), .int (mg M1 2), .int (mg M1 3), .int (mg M1 4), .int (mg M1 5), .int (mg M1 6), .ref (a1 7), .ref (a1 8), .ref (a1 9)]).set 3 (.int v)))) H) : va_P D vwCl (rqW cB cI cJ cZ h0 a0 h1 a1 M0 (sg M1 3 v)) H := h
theorem rqD_1_f3 {A : Nat → Prop} {cB cI cJ cZ : ClassId} {h0 : Nat} {a0 : Nat → Nat} {h1 : Nat} {a1 : Nat → Nat} {M0 : gS} {M1 : gS} {v : Int32} (h : va_D A ((rqW cB cI cJ cZ h0 a0 h1 a1 M0 M1).set 5 (h1, .inr (6, ([.int (mg M1 0), .int (mg M1 1), .int (mg M1 2), .int (mg M1 3), .int (mg M1 4), .int (mg M1 5), .int (mg M1 6), .ref (a1 7), .ref (a1 8), .ref (a1 9)]).set 3 (.int v))))) : va_D A (rqW cB cI cJ cZ h0 a0 h1 a1 M0 (sg M1 3 v)) := h
theorem rqP_1_f4 {D : va_G} {H : Heap} {cB cI cJ cZ : ClassId} {h0 : Nat} {a0 : Nat → Nat} {h1 : Nat} {a1 : Nat → Nat} {M0 : gS} {M1 : gS} {v : Int32} (h : va_P D vwCl ((rqW cB cI cJ cZ h0 a0 h1 a1 M0 M1).set 5 (h1, .inr (6, ([.int (mg M1 0), .int (mg M1 1), .int (mg M1 2), .int (mg M1 3), .int (mg M1 4), .int (mg M1 5), .int (mg M1 6), .ref (a1 7), .ref (a1 8), .ref (a1 9)]).set 4 (.int v)))) H) : va_P D vwCl (rqW cB cI cJ cZ h0 a0 h1 a1 M0 (sg M1 4 v)) H := h
theorem rqD_1_f4 {A : Nat → Prop} {cB cI cJ cZ : ClassId} {h0 : Nat} {a0 : Nat → Nat} {h1 : Nat} {a1 : Nat → Nat} {M0 : gS} {M1 : gS} {v : Int32} (h : va_D A ((rqW cB cI cJ cZ h0 a0 h1 a1 M0 M1).set 5 (h1, .inr (6, ([.int (mg M1 0), .int (mg M1 1), .int (mg M1 2), .int (mg M1 3), .int (mg M1 4), .int (mg M1 5), .int (mg M1 6), .ref (a1 7), .ref (a1 8), .ref (a1 9)]).set 4 (.int v))))) : va_D A (rqW cB cI cJ cZ h0 a0 h1 a1 M0 (sg M1 4 v)) := h
theorem rqP_1_f5 {D : va_G} {H : Heap} {cB cI cJ cZ : ClassId} {h0 : Nat} {a0 : Nat → Nat} {h1 : Nat} {a1 : Nat → Nat} {M0 : gS} {M1 : gS} {v : Int32} (h : va_P D vwCl ((rqW cB cI cJ cZ h0 a0 h1 a1 M0 M1).set 5 (h1, .inr (6, ([.int (mg M1 0), .int (mg M1 1), .int (mg M1 2), .int (mg M1 3), .int (mg M1 4), .int (mg M1 5), .int (mg M1 6), .ref (a1 7), .ref (a1 8), .ref (a1 9)]).set 5 (.int v)))) H) : va_P D vwCl (rqW cB cI cJ cZ h0 a0 h1 a1 M0 (sg M1 5 v)) H := h
theorem rqD_1_f5 {A : Nat → Prop} {cB cI cJ cZ : ClassId} {h0 : Nat} {a0 : Nat → Nat} {h1 : Nat} {a1 : Nat → Nat} {M0 : gS} {M1 : gS} {v : Int32} (h : va_D A ((rqW cB cI cJ cZ h0 a0 h1 a1 M0 M1).set 5 (h1, .inr (6, ([.int (mg M1 0), .int (mg M1 1), .int (mg M1 2), .int (mg M1 3), .int (mg M1 4), .int (mg M1 5), .int (mg M1 6), .ref (a1 7), .ref (a1 8), .ref (a1 9)]).set 5 (.int v))))) : va_D A (rqW cB cI cJ cZ h0 a0 h1 a1 M0 (sg M1 5 v)) := h
theorem rqP_1_f6 {D : va_G} {H : Heap} {cB cI cJ cZ : ClassId} {h0 : Nat} {a0 : Nat → Nat} {h1 : Nat} {a1 : Nat → Nat} {M0 : gS} {M1 : gS} {v : Int32} (h : va_P D vwCl ((rqW cB cI cJ cZ h0 a0 h1 a1 M0 M1).set 5 (h1, .inr (6, ([.int (mg M1 0), .int (mg M1 1), .int (mg M1 2), .int (mg M1 3), .int (mg M1 4), .int (mg M1 5), .int (mg M1 6), .ref (a1 7), .ref (a1 8), .ref (a1 9)]).set 6 (.int v)))) H) : va_P D vwCl (rqW cB cI cJ cZ h0 a0 h1 a1 M0 (sg M1 6 v)) H := h
theorem rqD_1_f6 {A : Nat → Prop} {cB cI cJ cZ : ClassId} {h0 : Nat} {a0 : Nat → Nat} {h1 : Nat} {a1 : Nat → Nat} {M0 : gS} {M1 : gS} {v : Int32} (h : va_D A ((rqW cB cI cJ cZ h0 a0 h1 a1 M0 M1).set 5 (h1, .inr (6, ([.int (mg M1 0), .int (mg M1 1), .int (mg M1 2), .int (mg M1 3), .int (mg M1 4), .int (mg M1 5), .int (mg M1 6), .ref (a1 7), .ref (a1 8), .ref (a1 9)]).set 6 (.int v))))) : va_D A (rqW cB cI cJ cZ h0 a0 h1 a1 M0 (sg M1 6 v)) := h
theorem rqP_1_a7 {D : va_G} {H : Heap} {cB cI cJ cZ : ClassId} {h0 : Nat} {a0 : Nat → Nat} {h1 : Nat} {a1 : Nat → Nat} {M0 : gS} {M1 : gS} {j : Nat} {v : Int32} (h : va_P D vwCl ((rqW cB cI cJ cZ h0 a0 h1 a1 M0 M1).set 6 (a1 7, .inl (cI, 2, .inl (upd (ma M1 7) j v)))) H) : va_P D vwCl (rqW cB cI cJ cZ h0 a0 h1 a1 M0 (sa M1 7 j v)) H := h
theorem rqD_1_a7 {A : Nat → Prop} {cB cI cJ cZ : ClassId} {h0 : Nat} {a0 : Nat → Nat} {h1 : Nat} {a1 : Nat → Nat} {M0 : gS} {M1 : gS} {j : Nat} {v : Int32} (h : va_D A ((rqW cB cI cJ cZ h0 a0 h1 a1 M0 M1).set 6 (a1 7, .inl (cI, 2, .inl (upd (ma M1 7) j v))))) : va_D A (rqW cB cI cJ cZ h0 a0 h1 a1 M0 (sa M1 7 j v)) := h
theorem rqP_1_c7 {D : va_G} {H : Heap} {cB cI cJ cZ : ClassId} {h0 : Nat} {a0 : Nat → Nat} {h1 : Nat} {a1 : Nat → Nat} {M0 : gS} {M1 : gS} {f : Nat → Int32} (h : va_P D vwCl ((rqW cB cI cJ cZ h0 a0 h1 a1 M0 M1).set 6 (a1 7, .inl (cI, 2, .inl f))) H) : va_P D vwCl (rqW cB cI cJ cZ h0 a0 h1 a1 M0 (sF M1 7 f)) H := h
theorem rqD_1_c7 {A : Nat → Prop} {cB cI cJ cZ : ClassId} {h0 : Nat} {a0 : Nat → Nat} {h1 : Nat} {a1 : Nat → Nat} {M0 : gS} {M1 : gS} {f : Nat → Int32} (h : va_D A ((rqW cB cI cJ cZ h0 a0 h1 a1 M0 M1).set 6 (a1 7, .inl (cI, 2, .inl f)))) : va_D A (rqW cB cI cJ cZ h0 a0 h1 a1 M0 (sF M1 7 f)) := h
theorem rqP_1_a8 {D : va_G} {H : Heap} {cB cI cJ cZ : ClassId} {h0 : Nat} {a0 : Nat → Nat} {h1 : Nat} {a1 : Nat → Nat} {M0 : gS} {M1 : gS} {j : Nat} {v : Int32} (h : va_P D vwCl ((rqW cB cI cJ cZ h0 a0 h1 a1 M0 M1).set 7 (a1 8, .inl (cI, 2, .inl (upd (ma M1 8) j v)))) H) : va_P D vwCl (rqW cB cI cJ cZ h0 a0 h1 a1 M0 (sa M1 8 j v)) H := h
theorem rqD_1_a8 {A : Nat → Prop} {cB cI cJ cZ : ClassId} {h0 : Nat} {a0 : Nat → Nat} {h1 : Nat} {a1 : Nat → Nat} {M0 : gS} {M1 : gS} {j : Nat} {v : Int32} (h : va_D A ((rqW cB cI cJ cZ h0 a0 h1 a1 M0 M1).set 7 (a1 8, .inl (cI, 2, .inl (upd (ma M1 8) j v))))) : va_D A (rqW cB cI cJ cZ h0 a0 h1 a1 M0 (sa M1 8 j v)) := h
theorem rqP_1_c8 {D : va_G} {H : Heap} {cB cI cJ cZ : ClassId} {h0 : Nat} {a0 : Nat → Nat} {h1 : Nat} {a1 : Nat → Nat} {M0 : gS} {M1 : gS} {f : Nat → Int32} (h : va_P D vwCl ((rqW cB cI cJ cZ h0 a0 h1 a1 M0 M1).set 7 (a1 8, .inl (cI, 2, .inl f))) H) : va_P D vwCl (rqW cB cI cJ cZ h0 a0 h1 a1 M0 (sF M1 8 f)) H := h
theorem rqD_1_c8 {A : Nat → Prop} {cB cI cJ cZ : ClassId} {h0 : Nat} {a0 : Nat → Nat} {h1 : Nat} {a1 : Nat → Nat} {M0 : gS} {M1 : gS} {f : Nat → Int32} (h : va_D A ((rqW cB cI cJ cZ h0 a0 h1 a1 M0 M1).set 7 (a1 8, .inl (cI, 2, .inl f)))) : va_D A (rqW cB cI cJ cZ h0 a0 h1 a1 M0 (sF M1 8 f)) := h
theorem rqP_1_a9 {D : va_G} {H : Heap} {cB cI cJ cZ : ClassId} {h0 : Nat} {a0 : Nat → Nat} {h1 : Nat} {a1 : Nat → Nat} {M0 : gS} {M1 : gS} {j : Nat} {v : Int32} (h : va_P D vwCl ((rqW cB cI cJ cZ h0 a0 h1 a1 M0 M1).set 8 (a1 9, .inl (cI, 2, .inl (upd (ma M1 9) j v)))) H) : va_P D vwCl (rqW cB cI cJ cZ h0 a0 h1 a1 M0 (sa M1 9 j v)) H := h
theorem rqD_1_a9 {A : Nat → Prop} {cB cI cJ cZ : ClassId} {h0 : Nat} {a0 : Nat → Nat} {h1 : Nat} {a1 : Nat → Nat} {M0 : gS} {M1 : gS} {j : Nat} {v : Int32} (h : va_D A ((rqW cB cI cJ cZ h0 a0 h1 a1 M0 M1).set 8 (a1 9, .inl (cI, 2, .inl (upd (ma M1 9) j v))))) : va_D A (rqW cB cI cJ cZ h0 a0 h1 a1 M0 (sa M1 9 j v)) := h
theorem rqP_1_c9 {D : va_G} {H : Heap} {cB cI cJ cZ : ClassId} {h0 : Nat} {a0 : Nat → Nat} {h1 : Nat} {a1 : Nat → Nat} {M0 : gS} {M1 : gS} {f : Nat → Int32} (h : va_P D vwCl ((rqW cB cI cJ cZ h0 a0 h1 a1 M0 M1).set 8 (a1 9, .inl (cI, 2, .inl f))) H) : va_P D vwCl (rqW cB cI cJ cZ h0 a0 h1 a1 M0 (sF M1 9 f)) H := h
theorem rqD_1_c9 {A : Nat → Prop} {cB cI cJ cZ : ClassId} {h0 : Nat} {a0 : Nat → Nat} {h1 : Nat} {a1 : Nat → Nat} {M0 : gS} {M1 : gS} {f : Nat → Int32} (h : va_D A ((rqW cB cI cJ cZ h0 a0 h1 a1 M0 M1).set 8 (a1 9, .inl (cI, 2, .inl f)))) : va_D A (rqW cB cI cJ cZ h0 a0 h1 a1 M0 (sF M1 9 f)) := h
theorem rqpV {s : State} {dC : Nat → ClassId} {dI : Nat → Nat → Nat} {A : Nat → Prop} {cB cI cJ cZ : ClassId} {h0 : Nat} {a0 : Nat → Nat} {h1 : Nat} {a1 : Nat → Nat} {M0 : gS} {M1 : gS} {H : Heap} {As : List Value} (hK : va_K (dC, dI) vwCl (gT cB cI cJ cZ) s) (hP : va_P (dC, dI) vwCl (rqW cB cI cJ cZ h0 a0 h1 a1 M0 M1) H) (hD : va_D A (rqW cB cI cJ cZ h0 a0 h1 a1 M0 M1)) : PreV s H RX8 h0 (va_Pc (.ref h0 :: As) (rqI dC dI cB cI cJ cZ h0 a0 h1 a1 M0 M1 H.size)) As := ⟨fun a U g mk q => by obtain ⟨q0, q1, qP, qK, qD⟩ := q; exact ⟨q0, q1, qP, va_K.moved (u := U) (U := U.calling g mk a) (Vm.Alike.refl U.vm) qK, qD⟩, va_recv hK hP (ci := 8) (q0 := 0) rfl rfl, fun U hU hW => ⟨rfl, by rw [hU], by rw [hU]; exact hP, va_K.moved hW.alike hK, hD.weaken (fun _ _ _ _ => trivial)⟩⟩
theorem rqpS {s : State} {dC : Nat → ClassId} {dI : Nat → Nat → Nat} {A : Nat → Prop} {cB cI cJ cZ : ClassId} {h0 : Nat} {a0 : Nat → Nat} {h1 : Nat} {a1 : Nat → Nat} {M0 : gS} {M1 : gS} {H : Heap} {As : List Value} (hK : va_K (dC, dI) vwCl (gT cB cI cJ cZ) s) (hP : va_P (dC, dI) vwCl (rqW cB cI cJ cZ h0 a0 h1 a1 M0 M1) H) (hD : va_D A (rqW cB cI cJ cZ h0 a0 h1 a1 M0 M1)) : PreS s H (va_Pc As (rqI dC dI cB cI cJ cZ h0 a0 h1 a1 M0 M1 H.size)) As := ⟨fun a U g mk q => by obtain ⟨q0, q1, qP, qK, qD⟩ := q; exact ⟨q0, q1, qP, va_K.moved (u := U) (U := U.calling g mk a) (Vm.Alike.refl U.vm) qK, qD⟩, fun U hU hW => ⟨rfl, by rw [hU], by rw [hU]; exact hP, va_K.moved hW.alike hK, hD.weaken (fun _ _ _ _ => trivial)⟩⟩

abbrev rcW (cB cI cJ cZ : ClassId) (h0 : Nat) (a0 : Nat → Nat) (h1 : Nat) (a1 : Nat → Nat) (h2 : Nat) (a2 : Nat → Nat) (M0 : gS) (M1 : gS) (M2 : gS) : va_W := [(h0, .inr (8, [.int (mg M0 0), .ref (a0 1), .ref (a0 2), .ref (a0 3), .int (mg M0 4), .ref (a0 5)])), (a0 1, .inl (cI, 12, .inl (ma M0 1))), (a0 2, .inl (cI, 12, .inl (ma M0 2))), (a0 3, .inl (cI, 400, .inl (ma M0 3))), (a0 5, .inl (cJ, 60, .inr (.inl (ml M0 5)))), (h1, .inr (1, [.int (mg M1 0), .ref (a1 1), .int (mg M1 2), .ref (a1 3), .int (mg M1 4), .ref (a1 5)])), (a1 1, .inl (cI, 4, .inl (ma M1 1))), (a1 3, .inl (cI, 4, .inl (ma M1 3))), (a1 5, .inl (cI, 2, .inl (ma M1 5))), (h2, .inr (6, [.int (mg M2 0), .int (mg M2 1), .int (mg M2 2), .int (mg M2 3), .int (mg M2 4), .int (mg M2 5), .int (mg M2 6), .ref (a2 7), .ref (a2 8), .ref (a2 9)])), (a2 7, .inl (cI, 2, .inl (ma M2 7))), (a2 8, .inl (cI, 2, .inl (ma M2 8))), (a2 9, .inl (cI, 2, .inl (ma M2 9)))]
abbrev rcI (dC : Nat → ClassId) (dI : Nat → Nat → Nat) (cB cI cJ cZ : ClassId) (h0 : Nat) (a0 : Nat → Nat) (h1 : Nat) (a1 : Nat → Nat) (h2 : Nat) (a2 : Nat → Nat) (M0 : gS) (M1 : gS) (M2 : gS) (sz : Nat) : State → Prop := fun U => U.heap.size = sz ∧ va_P (dC, dI) vwCl (rcW cB cI cJ cZ h0 a0 h1 a1 h2 a2 M0 M1 M2) U.heap ∧ va_K (dC, dI) vwCl (gT cB cI cJ cZ) U ∧ va_D (fun _ => True) (rcW cB cI cJ cZ h0 a0 h1 a1 h2 a2 M0 M1 M2)
abbrev rcB (dC : Nat → ClassId) (dI : Nat → Nat → Nat) (cB cI cJ cZ : ClassId) (h0 : Nat) (a0 : Nat → Nat) (h1 : Nat) (a1 : Nat → Nat) (h2 : Nat) (a2 : Nat → Nat) (A : Nat → Prop) (u : gS × gS × gS) (t : State) : Prop := match u with
  | (M0, M1, M2) => va_P (dC, dI) vwCl (rcW cB cI cJ cZ h0 a0 h1 a1 h2 a2 M0 M1 M2) t.heap ∧ va_K (dC, dI) vwCl (gT cB cI cJ cZ) t ∧ va_D A (rcW cB cI cJ cZ h0 a0 h1 a1 h2 a2 M0 M1 M2)
theorem rcP_0_f0 {D : va_G} {H : Heap} {cB cI cJ cZ : ClassId} {h0 : Nat} {a0 : Nat → Nat} {h1 : Nat} {a1 : Nat → Nat} {h2 : Nat} {a2 : Nat → Nat} {M0 : gS} {M1 : gS} {M2 : gS} {v : Int32} (h : va_P D vwCl ((rcW cB cI cJ cZ h0 a0 h1 a1 h2 a2 M0 M1 M2).set 0 (h0, .inr (8, ([.int (mg M0 0), .ref (a0 1), .ref (a0 2), .ref (a0 3), .int (mg M0 4), .ref (a0 5)]).set 0 (.int v)))) H) : va_P D vwCl (rcW cB cI cJ cZ h0 a0 h1 a1 h2 a2 (sg M0 0 v) M1 M2) H := h
theorem rcD_0_f0 {A : Nat → Prop} {cB cI cJ cZ : ClassId} {h0 : Nat} {a0 : Nat → Nat} {h1 : Nat} {a1 : Nat → Nat} {h2 : Nat} {a2 : Nat → Nat} {M0 : gS} {M1 : gS} {M2 : gS} {v : Int32} (h : va_D A ((rcW cB cI cJ cZ h0 a0 h1 a1 h2 a2 M0 M1 M2).set 0 (h0, .inr (8, ([.int (mg M0 0), .ref (a0 1), .ref (a0 2), .ref (a0 3), .int (mg M0 4), .ref (a0 5)]).set 0 (.int v))))) : va_D A (rcW cB cI cJ cZ h0 a0 h1 a1 h2 a2 (sg M0 0 v) M1 M2) := h
theorem rcP_0_f4 {D : va_G} {H : Heap} {cB cI cJ cZ : ClassId} {h0 : Nat} {a0 : Nat → Nat} {h1 : Nat} {a1 : Nat → Nat} {h2 : Nat} {a2 : Nat → Nat} {M0 : gS} {M1 : gS} {M2 : gS} {v : Int32} (h : va_P D vwCl ((rcW cB cI cJ cZ h0 a0 h1 a1 h2 a2 M0 M1 M2).set 0 (h0, .inr (8, ([.int (mg M0 0), .ref (a0 1), .ref (a0 2), .ref (a0 3), .int (mg M0 4), .ref (a0 5)]).set 4 (.int v)))) H) : va_P D vwCl (rcW cB cI cJ cZ h0 a0 h1 a1 h2 a2 (sg M0 4 v) M1 M2) H := h
theorem rcD_0_f4 {A : Nat → Prop} {cB cI cJ cZ : ClassId} {h0 : Nat} {a0 : Nat → Nat} {h1 : Nat} {a1 : Nat → Nat} {h2 : Nat} {a2 : Nat → Nat} {M0 : gS} {M1 : gS} {M2 : gS} {v : Int32} (h : va_D A ((rcW cB cI cJ cZ h0 a0 h1 a1 h2 a2 M0 M1 M2).set 0 (h0, .inr (8, ([.int (mg M0 0), .ref (a0 1), .ref (a0 2), .ref (a0 3), .int (mg M0 4), .ref (a0 5)]).set 4 (.int v))))) : va_D A (rcW cB cI cJ cZ h0 a0 h1 a1 h2 a2 (sg M0 4 v) M1 M2) := h
theorem rcP_0_a1 {D : va_G} {H : Heap} {cB cI cJ cZ : ClassId} {h0 : Nat} {a0 : Nat → Nat} {h1 : Nat} {a1 : Nat → Nat} {h2 : Nat} {a2 : Nat → Nat} {M0 : gS} {M1 : gS} {M2 : gS} {j : Nat} {v : Int32} (h : va_P D vwCl ((rcW cB cI cJ cZ h0 a0 h1 a1 h2 a2 M0 M1 M2).set 1 (a0 1, .inl (cI, 12, .inl (upd (ma M0 1) j v)))) H) : va_P D vwCl (rcW cB cI cJ cZ h0 a0 h1 a1 h2 a2 (sa M0 1 j v) M1 M2) H := h
theorem rcD_0_a1 {A : Nat → Prop} {cB cI cJ cZ : ClassId} {h0 : Nat} {a0 : Nat → Nat} {h1 : Nat} {a1 : Nat → Nat} {h2 : Nat} {a2 : Nat → Nat} {M0 : gS} {M1 : gS} {M2 : gS} {j : Nat} {v : Int32} (h : va_D A ((rcW cB cI cJ cZ h0 a0 h1 a1 h2 a2 M0 M1 M2).set 1 (a0 1, .inl (cI, 12, .inl (upd (ma M0 1) j v))))) : va_D A (rcW cB cI cJ cZ h0 a0 h1 a1 h2 a2 (sa M0 1 j v) M1 M2) := h
theorem rcP_0_c1 {D : va_G} {H : Heap} {cB cI cJ cZ : ClassId} {h0 : Nat} {a0 : Nat → Nat} {h1 : Nat} {a1 : Nat → Nat} {h2 : Nat} {a2 : Nat → Nat} {M0 : gS} {M1 : gS} {M2 : gS} {f : Nat → Int32} (h : va_P D vwCl ((rcW cB cI cJ cZ h0 a0 h1 a1 h2 a2 M0 M1 M2).set 1 (a0 1, .inl (cI, 12, .inl f))) H) : va_P D vwCl (rcW cB cI cJ cZ h0 a0 h1 a1 h2 a2 (sF M0 1 f) M1 M2) H := h
theorem rcD_0_c1 {A : Nat → Prop} {cB cI cJ cZ : ClassId} {h0 : Nat} {a0 : Nat → Nat} {h1 : Nat} {a1 : Nat → Nat} {h2 : Nat} {a2 : Nat → Nat} {M0 : gS} {M1 : gS} {M2 : gS} {f : Nat → Int32} (h : va_D A ((rcW cB cI cJ cZ h0 a0 h1 a1 h2 a2 M0 M1 M2).set 1 (a0 1, .inl (cI, 12, .inl f)))) : va_D A (rcW cB cI cJ cZ h0 a0 h1 a1 h2 a2 (sF M0 1 f) M1 M2) := h
theorem rcP_0_a2 {D : va_G} {H : Heap} {cB cI cJ cZ : ClassId} {h0 : Nat} {a0 : Nat → Nat} {h1 : Nat} {a1 : Nat → Nat} {h2 : Nat} {a2 : Nat → Nat} {M0 : gS} {M1 : gS} {M2 : gS} {j : Nat} {v : Int32} (h : va_P D vwCl ((rcW cB cI cJ cZ h0 a0 h1 a1 h2 a2 M0 M1 M2).set 2 (a0 2, .inl (cI, 12, .inl (upd (ma M0 2) j v)))) H) : va_P D vwCl (rcW cB cI cJ cZ h0 a0 h1 a1 h2 a2 (sa M0 2 j v) M1 M2) H := h
theorem rcD_0_a2 {A : Nat → Prop} {cB cI cJ cZ : ClassId} {h0 : Nat} {a0 : Nat → Nat} {h1 : Nat} {a1 : Nat → Nat} {h2 : Nat} {a2 : Nat → Nat} {M0 : gS} {M1 : gS} {M2 : gS} {j : Nat} {v : Int32} (h : va_D A ((rcW cB cI cJ cZ h0 a0 h1 a1 h2 a2 M0 M1 M2).set 2 (a0 2, .inl (cI, 12, .inl (upd (ma M0 2) j v))))) : va_D A (rcW cB cI cJ cZ h0 a0 h1 a1 h2 a2 (sa M0 2 j v) M1 M2) := h
theorem rcP_0_c2 {D : va_G} {H : Heap} {cB cI cJ cZ : ClassId} {h0 : Nat} {a0 : Nat → Nat} {h1 : Nat} {a1 : Nat → Nat} {h2 : Nat} {a2 : Nat → Nat} {M0 : gS} {M1 : gS} {M2 : gS} {f : Nat → Int32} (h : va_P D vwCl ((rcW cB cI cJ cZ h0 a0 h1 a1 h2 a2 M0 M1 M2).set 2 (a0 2, .inl (cI, 12, .inl f))) H) : va_P D vwCl (rcW cB cI cJ cZ h0 a0 h1 a1 h2 a2 (sF M0 2 f) M1 M2) H := h
theorem rcD_0_c2 {A : Nat → Prop} {cB cI cJ cZ : ClassId} {h0 : Nat} {a0 : Nat → Nat} {h1 : Nat} {a1 : Nat → Nat} {h2 : Nat} {a2 : Nat → Nat} {M0 : gS} {M1 : gS} {M2 : gS} {f : Nat → Int32} (h : va_D A ((rcW cB cI cJ cZ h0 a0 h1 a1 h2 a2 M0 M1 M2).set 2 (a0 2, .inl (cI, 12, .inl f)))) : va_D A (rcW cB cI cJ cZ h0 a0 h1 a1 h2 a2 (sF M0 2 f) M1 M2) := h
theorem rcP_0_a3 {D : va_G} {H : Heap} {cB cI cJ cZ : ClassId} {h0 : Nat} {a0 : Nat → Nat} {h1 : Nat} {a1 : Nat → Nat} {h2 : Nat} {a2 : Nat → Nat} {M0 : gS} {M1 : gS} {M2 : gS} {j : Nat} {v : Int32} (h : va_P D vwCl ((rcW cB cI cJ cZ h0 a0 h1 a1 h2 a2 M0 M1 M2).set 3 (a0 3, .inl (cI, 400, .inl (upd (ma M0 3) j v)))) H) : va_P D vwCl (rcW cB cI cJ cZ h0 a0 h1 a1 h2 a2 (sa M0 3 j v) M1 M2) H := h
theorem rcD_0_a3 {A : Nat → Prop} {cB cI cJ cZ : ClassId} {h0 : Nat} {a0 : Nat → Nat} {h1 : Nat} {a1 : Nat → Nat} {h2 : Nat} {a2 : Nat → Nat} {M0 : gS} {M1 : gS} {M2 : gS} {j : Nat} {v : Int32} (h : va_D A ((rcW cB cI cJ cZ h0 a0 h1 a1 h2 a2 M0 M1 M2).set 3 (a0 3, .inl (cI, 400, .inl (upd (ma M0 3) j v))))) : va_D A (rcW cB cI cJ cZ h0 a0 h1 a1 h2 a2 (sa M0 3 j v) M1 M2) := h
theorem rcP_0_c3 {D : va_G} {H : Heap} {cB cI cJ cZ : ClassId} {h0 : Nat} {a0 : Nat → Nat} {h1 : Nat} {a1 : Nat → Nat} {h2 : Nat} {a2 : Nat → Nat} {M0 : gS} {M1 : gS} {M2 : gS} {f : Nat → Int32} (h : va_P D vwCl ((rcW cB cI cJ cZ h0 a0 h1 a1 h2 a2 M0 M1 M2).set 3 (a0 3, .inl (cI, 400, .inl f))) H) : va_P D vwCl (rcW cB cI cJ cZ h0 a0 h1 a1 h2 a2 (sF M0 3 f) M1 M2) H := h
theorem rcD_0_c3 {A : Nat → Prop} {cB cI cJ cZ : ClassId} {h0 : Nat} {a0 : Nat → Nat} {h1 : Nat} {a1 : Nat → Nat} {h2 : Nat} {a2 : Nat → Nat} {M0 : gS} {M1 : gS} {M2 : gS} {f : Nat → Int32} (h : va_D A ((rcW cB cI cJ cZ h0 a0 h1 a1 h2 a2 M0 M1 M2).set 3 (a0 3, .inl (cI, 400, .inl f)))) : va_D A (rcW cB cI cJ cZ h0 a0 h1 a1 h2 a2 (sF M0 3 f) M1 M2) := h
theorem rcP_0_a5 {D : va_G} {H : Heap} {cB cI cJ cZ : ClassId} {h0 : Nat} {a0 : Nat → Nat} {h1 : Nat} {a1 : Nat → Nat} {h2 : Nat} {a2 : Nat → Nat} {M0 : gS} {M1 : gS} {M2 : gS} {j : Nat} {v : Int64} (h : va_P D vwCl ((rcW cB cI cJ cZ h0 a0 h1 a1 h2 a2 M0 M1 M2).set 4 (a0 5, .inl (cJ, 60, .inr (.inl (vp_updL (ml M0 5) j v))))) H) : va_P D vwCl (rcW cB cI cJ cZ h0 a0 h1 a1 h2 a2 (sl M0 5 j v) M1 M2) H := h
theorem rcD_0_a5 {A : Nat → Prop} {cB cI cJ cZ : ClassId} {h0 : Nat} {a0 : Nat → Nat} {h1 : Nat} {a1 : Nat → Nat} {h2 : Nat} {a2 : Nat → Nat} {M0 : gS} {M1 : gS} {M2 : gS} {j : Nat} {v : Int64} (h : va_D A ((rcW cB cI cJ cZ h0 a0 h1 a1 h2 a2 M0 M1 M2).set 4 (a0 5, .inl (cJ, 60, .inr (.inl (vp_updL (ml M0 5) j v)))))) : va_D A (rcW cB cI cJ cZ h0 a0 h1 a1 h2 a2 (sl M0 5 j v) M1 M2) := h
theorem rcP_1_f0 {D : va_G} {H : Heap} {cB cI cJ cZ : ClassId} {h0 : Nat} {a0 : Nat → Nat} {h1 : Nat} {a1 : Nat → Nat} {h2 : Nat} {a2 : Nat → Nat} {M0 : gS} {M1 : gS} {M2 : gS} {v : Int32} (h : va_P D vwCl ((rcW cB cI cJ cZ h0 a0 h1 a1 h2 a2 M0 M1 M2).set 5 (h1, .inr (1, ([.int (mg M1 0), .ref (a1 1), .int (mg M1 2), .ref (a1 3), .int (mg M1 4), .ref (a1 5)]).set 0 (.int v)))) H) : va_P D vwCl (rcW cB cI cJ cZ h0 a0 h1 a1 h2 a2 M0 (sg M1 0 v) M2) H := h
theorem rcD_1_f0 {A : Nat → Prop} {cB cI cJ cZ : ClassId} {h0 : Nat} {a0 : Nat → Nat} {h1 : Nat} {a1 : Nat → Nat} {h2 : Nat} {a2 : Nat → Nat} {M0 : gS} {M1 : gS} {M2 : gS} {v : Int32} (h : va_D A ((rcW cB cI cJ cZ h0 a0 h1 a1 h2 a2 M0 M1 M2).set 5 (h1, .inr (1, ([.int (mg M1 0), .ref (a1 1), .int (mg M1 2), .ref (a1 3), .int (mg M1 4), .ref (a1 5)]).set 0 (.int v))))) : va_D A (rcW cB cI cJ cZ h0 a0 h1 a1 h2 a2 M0 (sg M1 0 v) M2) := h
theorem rcP_1_f2 {D : va_G} {H : Heap} {cB cI cJ cZ : ClassId} {h0 : Nat} {a0 : Nat → Nat} {h1 : Nat} {a1 : Nat → Nat} {h2 : Nat} {a2 : Nat → Nat} {M0 : gS} {M1 : gS} {M2 : gS} {v : Int32} (h : va_P D vwCl ((rcW cB cI cJ cZ h0 a0 h1 a1 h2 a2 M0 M1 M2).set 5 (h1, .inr (1, ([.int (mg M1 0), .ref (a1 1), .int (mg M1 2), .ref (a1 3), .int (mg M1 4), .ref (a1 5)]).set 2 (.int v)))) H) : va_P D vwCl (rcW cB cI cJ cZ h0 a0 h1 a1 h2 a2 M0 (sg M1 2 v) M2) H := h
theorem rcD_1_f2 {A : Nat → Prop} {cB cI cJ cZ : ClassId} {h0 : Nat} {a0 : Nat → Nat} {h1 : Nat} {a1 : Nat → Nat} {h2 : Nat} {a2 : Nat → Nat} {M0 : gS} {M1 : gS} {M2 : gS} {v : Int32} (h : va_D A ((rcW cB cI cJ cZ h0 a0 h1 a1 h2 a2 M0 M1 M2).set 5 (h1, .inr (1, ([.int (mg M1 0), .ref (a1 1), .int (mg M1 2), .ref (a1 3), .int (mg M1 4), .ref (a1 5)]).set 2 (.int v))))) : va_D A (rcW cB cI cJ cZ h0 a0 h1 a1 h2 a2 M0 (sg M1 2 v) M2) := h
theorem rcP_1_f4 {D : va_G} {H : Heap} {cB cI cJ cZ : ClassId} {h0 : Nat} {a0 : Nat → Nat} {h1 : Nat} {a1 : Nat → Nat} {h2 : Nat} {a2 : Nat → Nat} {M0 : gS} {M1 : gS} {M2 : gS} {v : Int32} (h : va_P D vwCl ((rcW cB cI cJ cZ h0 a0 h1 a1 h2 a2 M0 M1 M2).set 5 (h1, .inr (1, ([.int (mg M1 0), .ref (a1 1), .int (mg M1 2), .ref (a1 3), .int (mg M1 4), .ref (a1 5)]).set 4 (.int v)))) H) : va_P D vwCl (rcW cB cI cJ cZ h0 a0 h1 a1 h2 a2 M0 (sg M1 4 v) M2) H := h
theorem rcD_1_f4 {A : Nat → Prop} {cB cI cJ cZ : ClassId} {h0 : Nat} {a0 : Nat → Nat} {h1 : Nat} {a1 : Nat → Nat} {h2 : Nat} {a2 : Nat → Nat} {M0 : gS} {M1 : gS} {M2 : gS} {v : Int32} (h : va_D A ((rcW cB cI cJ cZ h0 a0 h1 a1 h2 a2 M0 M1 M2).set 5 (h1, .inr (1, ([.int (mg M1 0), .ref (a1 1), .int (mg M1 2), .ref (a1 3), .int (mg M1 4), .ref (a1 5)]).set 4 (.int v))))) : va_D A (rcW cB cI cJ cZ h0 a0 h1 a1 h2 a2 M0 (sg M1 4 v) M2) := h
theorem rcP_1_a1 {D : va_G} {H : Heap} {cB cI cJ cZ : ClassId} {h0 : Nat} {a0 : Nat → Nat} {h1 : Nat} {a1 : Nat → Nat} {h2 : Nat} {a2 : Nat → Nat} {M0 : gS} {M1 : gS} {M2 : gS} {j : Nat} {v : Int32} (h : va_P D vwCl ((rcW cB cI cJ cZ h0 a0 h1 a1 h2 a2 M0 M1 M2).set 6 (a1 1, .inl (cI, 4, .inl (upd (ma M1 1) j v)))) H) : va_P D vwCl (rcW cB cI cJ cZ h0 a0 h1 a1 h2 a2 M0 (sa M1 1 j v) M2) H := h
theorem rcD_1_a1 {A : Nat → Prop} {cB cI cJ cZ : ClassId} {h0 : Nat} {a0 : Nat → Nat} {h1 : Nat} {a1 : Nat → Nat} {h2 : Nat} {a2 : Nat → Nat} {M0 : gS} {M1 : gS} {M2 : gS} {j : Nat} {v : Int32} (h : va_D A ((rcW cB cI cJ cZ h0 a0 h1 a1 h2 a2 M0 M1 M2).set 6 (a1 1, .inl (cI, 4, .inl (upd (ma M1 1) j v))))) : va_D A (rcW cB cI cJ cZ h0 a0 h1 a1 h2 a2 M0 (sa M1 1 j v) M2) := h
theorem rcP_1_c1 {D : va_G} {H : Heap} {cB cI cJ cZ : ClassId} {h0 : Nat} {a0 : Nat → Nat} {h1 : Nat} {a1 : Nat → Nat} {h2 : Nat} {a2 : Nat → Nat} {M0 : gS} {M1 : gS} {M2 : gS} {f : Nat → Int32} (h : va_P D vwCl ((rcW cB cI cJ cZ h0 a0 h1 a1 h2 a2 M0 M1 M2).set 6 (a1 1, .inl (cI, 4, .inl f))) H) : va_P D vwCl (rcW cB cI cJ cZ h0 a0 h1 a1 h2 a2 M0 (sF M1 1 f) M2) H := h
theorem rcD_1_c1 {A : Nat → Prop} {cB cI cJ cZ : ClassId} {h0 : Nat} {a0 : Nat → Nat} {h1 : Nat} {a1 : Nat → Nat} {h2 : Nat} {a2 : Nat → Nat} {M0 : gS} {M1 : gS} {M2 : gS} {f : Nat → Int32} (h : va_D A ((rcW cB cI cJ cZ h0 a0 h1 a1 h2 a2 M0 M1 M2).set 6 (a1 1, .inl (cI, 4, .inl f)))) : va_D A (rcW cB cI cJ cZ h0 a0 h1 a1 h2 a2 M0 (sF M1 1 f) M2) := h
theorem rcP_1_a3 {D : va_G} {H : Heap} {cB cI cJ cZ : ClassId} {h0 : Nat} {a0 : Nat → Nat} {h1 : Nat} {a1 : Nat → Nat} {h2 : Nat} {a2 : Nat → Nat} {M0 : gS} {M1 : gS} {M2 : gS} {j : Nat} {v : Int32} (h : va_P D vwCl ((rcW cB cI cJ cZ h0 a0 h1 a1 h2 a2 M0 M1 M2).set 7 (a1 3, .inl (cI, 4, .inl (upd (ma M1 3) j v)))) H) : va_P D vwCl (rcW cB cI cJ cZ h0 a0 h1 a1 h2 a2 M0 (sa M1 3 j v) M2) H := h
theorem rcD_1_a3 {A : Nat → Prop} {cB cI cJ cZ : ClassId} {h0 : Nat} {a0 : Nat → Nat} {h1 : Nat} {a1 : Nat → Nat} {h2 : Nat} {a2 : Nat → Nat} {M0 : gS} {M1 : gS} {M2 : gS} {j : Nat} {v : Int32} (h : va_D A ((rcW cB cI cJ cZ h0 a0 h1 a1 h2 a2 M0 M1 M2).set 7 (a1 3, .inl (cI, 4, .inl (upd (ma M1 3) j v))))) : va_D A (rcW cB cI cJ cZ h0 a0 h1 a1 h2 a2 M0 (sa M1 3 j v) M2) := h
theorem rcP_1_c3 {D : va_G} {H : Heap} {cB cI cJ cZ : ClassId} {h0 : Nat} {a0 : Nat → Nat} {h1 : Nat} {a1 : Nat → Nat} {h2 : Nat} {a2 : Nat → Nat} {M0 : gS} {M1 : gS} {M2 : gS} {f : Nat → Int32} (h : va_P D vwCl ((rcW cB cI cJ cZ h0 a0 h1 a1 h2 a2 M0 M1 M2).set 7 (a1 3, .inl (cI, 4, .inl f))) H) : va_P D vwCl (rcW cB cI cJ cZ h0 a0 h1 a1 h2 a2 M0 (sF M1 3 f) M2) H := h
theorem rcD_1_c3 {A : Nat → Prop} {cB cI cJ cZ : ClassId} {h0 : Nat} {a0 : Nat → Nat} {h1 : Nat} {a1 : Nat → Nat} {h2 : Nat} {a2 : Nat → Nat} {M0 : gS} {M1 : gS} {M2 : gS} {f : Nat → Int32} (h : va_D A ((rcW cB cI cJ cZ h0 a0 h1 a1 h2 a2 M0 M1 M2).set 7 (a1 3, .inl (cI, 4, .inl f)))) : va_D A (rcW cB cI cJ cZ h0 a0 h1 a1 h2 a2 M0 (sF M1 3 f) M2) := h
theorem rcP_1_a5 {D : va_G} {H : Heap} {cB cI cJ cZ : ClassId} {h0 : Nat} {a0 : Nat → Nat} {h1 : Nat} {a1 : Nat → Nat} {h2 : Nat} {a2 : Nat → Nat} {M0 : gS} {M1 : gS} {M2 : gS} {j : Nat} {v : Int32} (h : va_P D vwCl ((rcW cB cI cJ cZ h0 a0 h1 a1 h2 a2 M0 M1 M2).set 8 (a1 5, .inl (cI, 2, .inl (upd (ma M1 5) j v)))) H) : va_P D vwCl (rcW cB cI cJ cZ h0 a0 h1 a1 h2 a2 M0 (sa M1 5 j v) M2) H := h
theorem rcD_1_a5 {A : Nat → Prop} {cB cI cJ cZ : ClassId} {h0 : Nat} {a0 : Nat → Nat} {h1 : Nat} {a1 : Nat → Nat} {h2 : Nat} {a2 : Nat → Nat} {M0 : gS} {M1 : gS} {M2 : gS} {j : Nat} {v : Int32} (h : va_D A ((rcW cB cI cJ cZ h0 a0 h1 a1 h2 a2 M0 M1 M2).set 8 (a1 5, .inl (cI, 2, .inl (upd (ma M1 5) j v))))) : va_D A (rcW cB cI cJ cZ h0 a0 h1 a1 h2 a2 M0 (sa M1 5 j v) M2) := h
theorem rcP_1_c5 {D : va_G} {H : Heap} {cB cI cJ cZ : ClassId} {h0 : Nat} {a0 : Nat → Nat} {h1 : Nat} {a1 : Nat → Nat} {h2 : Nat} {a2 : Nat → Nat} {M0 : gS} {M1 : gS} {M2 : gS} {f : Nat → Int32} (h : va_P D vwCl ((rcW cB cI cJ cZ h0 a0 h1 a1 h2 a2 M0 M1 M2).set 8 (a1 5, .inl (cI, 2, .inl f))) H) : va_P D vwCl (rcW cB cI cJ cZ h0 a0 h1 a1 h2 a2 M0 (sF M1 5 f) M2) H := h
theorem rcD_1_c5 {A : Nat → Prop} {cB cI cJ cZ : ClassId} {h0 : Nat} {a0 : Nat → Nat} {h1 : Nat} {a1 : Nat → Nat} {h2 : Nat} {a2 : Nat → Nat} {M0 : gS} {M1 : gS} {M2 : gS} {f : Nat → Int32} (h : va_D A ((rcW cB cI cJ cZ h0 a0 h1 a1 h2 a2 M0 M1 M2).set 8 (a1 5, .inl (cI, 2, .inl f)))) : va_D A (rcW cB cI cJ cZ h0 a0 h1 a1 h2 a2 M0 (sF M1 5 f) M2) := h
theorem rcP_2_f0 {D : va_G} {H : Heap} {cB cI cJ cZ : ClassId} {h0 : Nat} {a0 : Nat → Nat} {h1 : Nat} {a1 : Nat → Nat} {h2 : Nat} {a2 : Nat → Nat} {M0 : gS} {M1 : gS} {M2 : gS} {v : Int32} (h : va_P D vwCl ((rcW cB cI cJ cZ h0 a0 h1 a1 h2 a2 M0 M1 M2).set 9 (h2, .inr (6, ([.int (mg M2 0), .int (mg M2 1), .int (mg M2 2), .int (mg M2 3), .int (mg M2 4), .int (mg M2 5), .int (mg M2 6), .ref (a2 7), .ref (a2 8), .ref (a2 9)]).set 0 (.int v)))) H) : va_P D vwCl (rcW cB cI cJ cZ h0 a0 h1 a1 h2 a2 M0 M1 (sg M2 0 v)) H := h
theorem rcD_2_f0 {A : Nat → Prop} {cB cI cJ cZ : ClassId} {h0 : Nat} {a0 : Nat → Nat} {h1 : Nat} {a1 : Nat → Nat} {h2 : Nat} {a2 : Nat → Nat} {M0 : gS} {M1 : gS} {M2 : gS} {v : Int32} (h : va_D A ((rcW cB cI cJ cZ h0 a0 h1 a1 h2 a2 M0 M1 M2).set 9 (h2, .inr (6, ([.int (mg M2 0), .int (mg M2 1), .int (mg M2 2), .int (mg M2 3), .int (mg M2 4), .int (mg M2 5), .int (mg M2 6), .ref (a2 7), .ref (a2 8), .ref (a2 9)]).set 0 (.int v))))) : va_D A (rcW cB cI cJ cZ h0 a0 h1 a1 h2 a2 M0 M1 (sg M2 0 v)) := h
theorem rcP_2_f1 {D : va_G} {H : Heap} {cB cI cJ cZ : ClassId} {h0 : Nat} {a0 : Nat → Nat} {h1 : Nat} {a1 : Nat → Nat} {h2 : Nat} {a2 : Nat → Nat} {M0 : gS} {M1 : gS} {M2 : gS} {v : Int32} (h : va_P D vwCl ((rcW cB cI cJ cZ h0 a0 h1 a1 h2 a2 M0 M1 M2).set 9 (h2, .inr (6, ([.int (mg M2 0), .int (mg M2 1), .int (mg M2 2), .int (mg M2 3), .int (mg M2 4), .int (mg M2 5), .int (mg M2 6), .ref (a2 7), .ref (a2 8), .ref (a2 9)]).set 1 (.int v)))) H) : va_P D vwCl (rcW cB cI cJ cZ h0 a0 h1 a1 h2 a2 M0 M1 (sg M2 1 v)) H := h
theorem rcD_2_f1 {A : Nat → Prop} {cB cI cJ cZ : ClassId} {h0 : Nat} {a0 : Nat → Nat} {h1 : Nat} {a1 : Nat → Nat} {h2 : Nat} {a2 : Nat → Nat} {M0 : gS} {M1 : gS} {M2 : gS} {v : Int32} (h : va_D A ((rcW cB cI cJ cZ h0 a0 h1 a1 h2 a2 M0 M1 M2).set 9 (h2, .inr (6, ([.int (mg M2 0), .int (mg M2 1), .int (mg M2 2), .int (mg M2 3), .int (mg M2 4), .int (mg M2 5), .int (mg M2 6), .ref (a2 7), .ref (a2 8), .ref (a2 9)]).set 1 (.int v))))) : va_D A (rcW cB cI cJ cZ h0 a0 h1 a1 h2 a2 M0 M1 (sg M2 1 v)) := h
theorem rcP_2_f2 {D : va_G} {H : Heap} {cB cI cJ cZ : ClassId} {h0 : Nat} {a0 : Nat → Nat} {h1 : Nat} {a1 : Nat → Nat} {h2 : Nat} {a2 : Nat → Nat} {M0 : gS} {M1 : gS} {M2 : gS} {v : Int32} (h : va_P D vwCl ((rcW cB cI cJ cZ h0 a0 h1 a1 h2 a2 M0 M1 M2).set 9 (h2, .inr (6, ([.int (mg M2 0), .int (mg M2 1), .int (mg M2 2), .int (mg M2 3), .int (mg M2 4), .int (mg M2 5), .int (mg M2 6), .ref (a2 7), .ref (a2 8), .ref (a2 9)]).set 2 (.int v)))) H) : va_P D vwCl (rcW cB cI cJ cZ h0 a0 h1 a1 h2 a2 M0 M1 (sg M2 2 v)) H := h
theorem rcD_2_f2 {A : Nat → Prop} {cB cI cJ cZ : ClassId} {h0 : Nat} {a0 : Nat → Nat} {h1 : Nat} {a1 : Nat → Nat} {h2 : Nat} {a2 : Nat → Nat} {M0 : gS} {M1 : gS} {M2 : gS} {v : Int32} (h : va_D A ((rcW cB cI cJ cZ h0 a0 h1 a1 h2 a2 M0 M1 M2).set 9 (h2, .inr (6, ([.int (mg M2 0), .int (mg M2 1), .int (mg M2 2), .int (mg M2 3), .int (mg M2 4), .int (mg M2 5), .int (mg M2 6), .ref (a2 7), .ref (a2 8), .ref (a2 9)]).set 2 (.int v))))) : va_D A (rcW cB cI cJ cZ h0 a0 h1 a1 h2 a2 M0 M1 (sg M2 2 v)) := h
theorem rcP_2_f3 {D : va_G} {H : Heap} {cB cI cJ cZ : ClassId} {h0 : Nat} {a0 : Nat → Nat} {h1 : Nat} {a1 : Nat → Nat} {h2 : Nat} {a2 : Nat → Nat} {M0 : gS} {M1 : gS} {M2 : gS} {v : Int32} (h : va_P D vwCl ((rcW cB cI cJ cZ h0 a0 h1 a1 h2 a2 M0 M1 M2).set 9 (h2, .inr (6, ([.int (mg M2 0), .int (mg M2 1), .int (mg M2 2), .int (mg M2 3), .int (mg M2 4), .int (mg M2 5), .int (mg M2 6), .ref (a2 7), .ref (a2 8), .ref (a2 9)]).set 3 (.int v)))) H) : va_P D vwCl (rcW cB cI cJ cZ h0 a0 h1 a1 h2 a2 M0 M1 (sg M2 3 v)) H := h
theorem rcD_2_f3 {A : Nat → Prop} {cB cI cJ cZ : ClassId} {h0 : Nat} {a0 : Nat → Nat} {h1 : Nat} {a1 : Nat → Nat} {h2 : Nat} {a2 : Nat → Nat} {M0 : gS} {M1 : gS} {M2 : gS} {v : Int32} (h : va_D A ((rcW cB cI cJ cZ h0 a0 h1 a1 h2 a2 M0 M1 M2).set 9 (h2, .inr (6, ([.int (mg M2 0), .int (mg M2 1), .int (mg M2 2), .int (mg M2 3), .int (mg M2 4), .int (mg M2 5), .int (mg M2 6), .ref (a2 7), .ref (a2 8), .ref (a2 9)]).set 3 (.int v))))) : va_D A (rcW cB cI cJ cZ h0 a0 h1 a1 h2 a2 M0 M1 (sg M2 3 v)) := h
theorem rcP_2_f4 {D : va_G} {H : Heap} {cB cI cJ cZ : ClassId} {h0 : Nat} {a0 : Nat → Nat} {h1 : Nat} {a1 : Nat → Nat} {h2 : Nat} {a2 : Nat → Nat} {M0 : gS} {M1 : gS} {M2 : gS} {v : Int32} (h : va_P D vwCl ((rcW cB cI cJ cZ h0 a0 h1 a1 h2 a2 M0 M1 M2).set 9 (h2, .inr (6, ([.int (mg M2 0), .int (mg M2 1), .int (mg M2 2), .int (mg M2 3), .int (mg M2 4), .int (mg M2 5), .int (mg M2 6), .ref (a2 7), .ref (a2 8), .ref (a2 9)]).set 4 (.int v)))) H) : va_P D vwCl (rcW cB cI cJ cZ h0 a0 h1 a1 h2 a2 M0 M1 (sg M2 4 v)) H := h
theorem rcD_2_f4 {A : Nat → Prop} {cB cI cJ cZ : ClassId} {h0 : Nat} {a0 : Nat → Nat} {h1 : Nat} {a1 : Nat → Nat} {h2 : Nat} {a2 : Nat → Nat} {M0 : gS} {M1 : gS} {M2 : gS} {v : Int32} (h : va_D A ((rcW cB cI cJ cZ h0 a0 h1 a1 h2 a2 M0 M1 M2).set 9 (h2, .inr (6, ([.int (mg M2 0), .int (mg M2 1), .int (mg M2 2), .int (mg M2 3), .int (mg M2 4), .int (mg M2 5), .int (mg M2 6), .ref (a2 7), .ref (a2 8), .ref (a2 9)]).set 4 (.int v))))) : va_D A (rcW cB cI cJ cZ h0 a0 h1 a1 h2 a2 M0 M1 (sg M2 4 v)) := h
theorem rcP_2_f5 {D : va_G} {H : Heap} {cB cI cJ cZ : ClassId} {h0 : Nat} {a0 : Nat → Nat} {h1 : Nat} {a1 : Nat → Nat} {h2 : Nat} {a2 : Nat → Nat} {M0 : gS} {M1 : gS} {M2 : gS} {v : Int32} (h : va_P D vwCl ((rcW cB cI cJ cZ h0 a0 h1 a1 h2 a2 M0 M1 M2).set 9 (h2, .inr (6, ([.int (mg M2 0), .int (mg M2 1), .int (mg M2 2), .int (mg M2 3), .int (mg M2 4), .int (mg M2 5), .int (mg M2 6), .ref (a2 7), .ref (a2 8), .ref (a2 9)]).set 5 (.int v)))) H) : va_P D vwCl (rcW cB cI cJ cZ h0 a0 h1 a1 h2 a2 M0 M1 (sg M2 5 v)) H := h
theorem rcD_2_f5 {A : Nat → Prop} {cB cI cJ cZ : ClassId} {h0 : Nat} {a0 : Nat → Nat} {h1 : Nat} {a1 : Nat → Nat} {h2 : Nat} {a2 : Nat → Nat} {M0 : gS} {M1 : gS} {M2 : gS} {v : Int32} (h : va_D A ((rcW cB cI cJ cZ h0 a0 h1 a1 h2 a2 M0 M1 M2).set 9 (h2, .inr (6, ([.int (mg M2 0), .int (mg M2 1), .int (mg M2 2), .int (mg M2 3), .int (mg M2 4), .int (mg M2 5), .int (mg M2 6), .ref (a2 7), .ref (a2 8), .ref (a2 9)]).set 5 (.int v))))) : va_D A (rcW cB cI cJ cZ h0 a0 h1 a1 h2 a2 M0 M1 (sg M2 5 v)) := h
theorem rcP_2_f6 {D : va_G} {H : Heap} {cB cI cJ cZ : ClassId} {h0 : Nat} {a0 : Nat → Nat} {h1 : Nat} {a1 : Nat → Nat} {h2 : Nat} {a2 : Nat → Nat} {M0 : gS} {M1 : gS} {M2 : gS} {v : Int32} (h : va_P D vwCl ((rcW cB cI cJ cZ h0 a0 h1 a1 h2 a2 M0 M1 M2).set 9 (h2, .inr (6, ([.int (mg M2 0), .int (mg M2 1), .int (mg M2 2), .int (mg M2 3), .int (mg M2 4), .int (mg M2 5), .int (mg M2 6), .ref (a2 7), .ref (a2 8), .ref (a2 9)]).set 6 (.int v)))) H) : va_P D vwCl (rcW cB cI cJ cZ h0 a0 h1 a1 h2 a2 M0 M1 (sg M2 6 v)) H := h
theorem rcD_2_f6 {A : Nat → Prop} {cB cI cJ cZ : ClassId} {h0 : Nat} {a0 : Nat → Nat} {h1 : Nat} {a1 : Nat → Nat} {h2 : Nat} {a2 : Nat → Nat} {M0 : gS} {M1 : gS} {M2 : gS} {v : Int32} (h : va_D A ((rcW cB cI cJ cZ h0 a0 h1 a1 h2 a2 M0 M1 M2).set 9 (h2, .inr (6, ([.int (mg M2 0), .int (mg M2 1), .int (mg M2 2), .int (mg M2 3), .int (mg M2 4), .int (mg M2 5), .int (mg M2 6), .ref (a2 7), .ref (a2 8), .ref (a2 9)]).set 6 (.int v))))) : va_D A (rcW cB cI cJ cZ h0 a0 h1 a1 h2 a2 M0 M1 (sg M2 6 v)) := h
theorem rcP_2_a7 {D : va_G} {H : Heap} {cB cI cJ cZ : ClassId} {h0 : Nat} {a0 : Nat → Nat} {h1 : Nat} {a1 : Nat → Nat} {h2 : Nat} {a2 : Nat → Nat} {M0 : gS} {M1 : gS} {M2 : gS} {j : Nat} {v : Int32} (h : va_P D vwCl ((rcW cB cI cJ cZ h0 a0 h1 a1 h2 a2 M0 M1 M2).set 10 (a2 7, .inl (cI, 2, .inl (upd (ma M2 7) j v)))) H) : va_P D vwCl (rcW cB cI cJ cZ h0 a0 h1 a1 h2 a2 M0 M1 (sa M2 7 j v)) H := h
theorem rcD_2_a7 {A : Nat → Prop} {cB cI cJ cZ : ClassId} {h0 : Nat} {a0 : Nat → Nat} {h1 : Nat} {a1 : Nat → Nat} {h2 : Nat} {a2 : Nat → Nat} {M0 : gS} {M1 : gS} {M2 : gS} {j : Nat} {v : Int32} (h : va_D A ((rcW cB cI cJ cZ h0 a0 h1 a1 h2 a2 M0 M1 M2).set 10 (a2 7, .inl (cI, 2, .inl (upd (ma M2 7) j v))))) : va_D A (rcW cB cI cJ cZ h0 a0 h1 a1 h2 a2 M0 M1 (sa M2 7 j v)) := h
theorem rcP_2_c7 {D : va_G} {H : Heap} {cB cI cJ cZ : ClassId} {h0 : Nat} {a0 : Nat → Nat} {h1 : Nat} {a1 : Nat → Nat} {h2 : Nat} {a2 : Nat → Nat} {M0 : gS} {M1 : gS} {M2 : gS} {f : Nat → Int32} (h : va_P D vwCl ((rcW cB cI cJ cZ h0 a0 h1 a1 h2 a2 M0 M1 M2).set 10 (a2 7, .inl (cI, 2, .inl f))) H) : va_P D vwCl (rcW cB cI cJ cZ h0 a0 h1 a1 h2 a2 M0 M1 (sF M2 7 f)) H := h
theorem rcD_2_c7 {A : Nat → Prop} {cB cI cJ cZ : ClassId} {h0 : Nat} {a0 : Nat → Nat} {h1 : Nat} {a1 : Nat → Nat} {h2 : Nat} {a2 : Nat → Nat} {M0 : gS} {M1 : gS} {M2 : gS} {f : Nat → Int32} (h : va_D A ((rcW cB cI cJ cZ h0 a0 h1 a1 h2 a2 M0 M1 M2).set 10 (a2 7, .inl (cI, 2, .inl f)))) : va_D A (rcW cB cI cJ cZ h0 a0 h1 a1 h2 a2 M0 M1 (sF M2 7 f)) := h
theorem rcP_2_a8 {D : va_G} {H : Heap} {cB cI cJ cZ : ClassId} {h0 : Nat} {a0 : Nat → Nat} {h1 : Nat} {a1 : Nat → Nat} {h2 : Nat} {a2 : Nat → Nat} {M0 : gS} {M1 : gS} {M2 : gS} {j : Nat} {v : Int32} (h : va_P D vwCl ((rcW cB cI cJ cZ h0 a0 h1 a1 h2 a2 M0 M1 M2).set 11 (a2 8, .inl (cI, 2, .inl (upd (ma M2 8) j v)))) H) : va_P D vwCl (rcW cB cI cJ cZ h0 a0 h1 a1 h2 a2 M0 M1 (sa M2 8 j v)) H := h
theorem rcD_2_a8 {A : Nat → Prop} {cB cI cJ cZ : ClassId} {h0 : Nat} {a0 : Nat → Nat} {h1 : Nat} {a1 : Nat → Nat} {h2 : Nat} {a2 : Nat → Nat} {M0 : gS} {M1 : gS} {M2 : gS} {j : Nat} {v : Int32} (h : va_D A ((rcW cB cI cJ cZ h0 a0 h1 a1 h2 a2 M0 M1 M2).set 11 (a2 8, .inl (cI, 2, .inl (upd (ma M2 8) j v))))) : va_D A (rcW cB cI cJ cZ h0 a0 h1 a1 h2 a2 M0 M1 (sa M2 8 j v)) := h
theorem rcP_2_c8 {D : va_G} {H : Heap} {cB cI cJ cZ : ClassId} {h0 : Nat} {a0 : Nat → Nat} {h1 : Nat} {a1 : Nat → Nat} {h2 : Nat} {a2 : Nat → Nat} {M0 : gS} {M1 : gS} {M2 : gS} {f : Nat → Int32} (h : va_P D vwCl ((rcW cB cI cJ cZ h0 a0 h1 a1 h2 a2 M0 M1 M2).set 11 (a2 8, .inl (cI, 2, .inl f))) H) : va_P D vwCl (rcW cB cI cJ cZ h0 a0 h1 a1 h2 a2 M0 M1 (sF M2 8 f)) H := h
theorem rcD_2_c8 {A : Nat → Prop} {cB cI cJ cZ : ClassId} {h0 : Nat} {a0 : Nat → Nat} {h1 : Nat} {a1 : Nat → Nat} {h2 : Nat} {a2 : Nat → Nat} {M0 : gS} {M1 : gS} {M2 : gS} {f : Nat → Int32} (h : va_D A ((rcW cB cI cJ cZ h0 a0 h1 a1 h2 a2 M0 M1 M2).set 11 (a2 8, .inl (cI, 2, .inl f)))) : va_D A (rcW cB cI cJ cZ h0 a0 h1 a1 h2 a2 M0 M1 (sF M2 8 f)) := h
theorem rcP_2_a9 {D : va_G} {H : Heap} {cB cI cJ cZ : ClassId} {h0 : Nat} {a0 : Nat → Nat} {h1 : Nat} {a1 : Nat → Nat} {h2 : Nat} {a2 : Nat → Nat} {M0 : gS} {M1 : gS} {M2 : gS} {j : Nat} {v : Int32} (h : va_P D vwCl ((rcW cB cI cJ cZ h0 a0 h1 a1 h2 a2 M0 M1 M2).set 12 (a2 9, .inl (cI, 2, .inl (upd (ma M2 9) j v)))) H) : va_P D vwCl (rcW cB cI cJ cZ h0 a0 h1 a1 h2 a2 M0 M1 (sa M2 9 j v)) H := h
theorem rcD_2_a9 {A : Nat → Prop} {cB cI cJ cZ : ClassId} {h0 : Nat} {a0 : Nat → Nat} {h1 : Nat} {a1 : Nat → Nat} {h2 : Nat} {a2 : Nat → Nat} {M0 : gS} {M1 : gS} {M2 : gS} {j : Nat} {v : Int32} (h : va_D A ((rcW cB cI cJ cZ h0 a0 h1 a1 h2 a2 M0 M1 M2).set 12 (a2 9, .inl (cI, 2, .inl (upd (ma M2 9) j v))))) : va_D A (rcW cB cI cJ cZ h0 a0 h1 a1 h2 a2 M0 M1 (sa M2 9 j v)) := h
theorem rcP_2_c9 {D : va_G} {H : Heap} {cB cI cJ cZ : ClassId} {h0 : Nat} {a0 : Nat → Nat} {h1 : Nat} {a1 : Nat → Nat} {h2 : Nat} {a2 : Nat → Nat} {M0 : gS} {M1 : gS} {M2 : gS} {f : Nat → Int32} (h : va_P D vwCl ((rcW cB cI cJ cZ h0 a0 h1 a1 h2 a2 M0 M1 M2).set 12 (a2 9, .inl (cI, 2, .inl f))) H) : va_P D vwCl (rcW cB cI cJ cZ h0 a0 h1 a1 h2 a2 M0 M1 (sF M2 9 f)) H := h
theorem rcD_2_c9 {A : Nat → Prop} {cB cI cJ cZ : ClassId} {h0 : Nat} {a0 : Nat → Nat} {h1 : Nat} {a1 : Nat → Nat} {h2 : Nat} {a2 : Nat → Nat} {M0 : gS} {M1 : gS} {M2 : gS} {f : Nat → Int32} (h : va_D A ((rcW cB cI cJ cZ h0 a0 h1 a1 h2 a2 M0 M1 M2).set 12 (a2 9, .inl (cI, 2, .inl f)))) : va_D A (rcW cB cI cJ cZ h0 a0 h1 a1 h2 a2 M0 M1 (sF M2 9 f)) := h
theorem rcpV {s : State} {dC : Nat → ClassId} {dI : Nat → Nat → Nat} {A : Nat → Prop} {cB cI cJ cZ : ClassId} {h0 : Nat} {a0 : Nat → Nat} {h1 : Nat} {a1 : Nat → Nat} {h2 : Nat} {a2 : Nat → Nat} {M0 : gS} {M1 : gS} {M2 : gS} {H : Heap} {As : List Value} (hK : va_K (dC, dI) vwCl (gT cB cI cJ cZ) s) (hP : va_P (dC, dI) vwCl (rcW cB cI cJ cZ h0 a0 h1 a1 h2 a2 M0 M1 M2) H) (hD : va_D A (rcW cB cI cJ cZ h0 a0 h1 a1 h2 a2 M0 M1 M2)) : PreV s H RX8 h0 (va_Pc (.ref h0 :: As) (rcI dC dI cB cI cJ cZ h0 a0 h1 a1 h2 a2 M0 M1 M2 H.size)) As := ⟨fun a U g mk q => by obtain ⟨q0, q1, qP, qK, qD⟩ := q; exact ⟨q0, q1, qP, va_K.moved (u := U) (U := U.calling g mk a) (Vm.Alike.refl U.vm) qK, qD⟩, va_recv hK hP (ci := 8) (q0 := 0) rfl rfl, fun U hU hW => ⟨rfl, by rw [hU], by rw [hU]; exact hP, va_K.moved hW.alike hK, hD.weaken (fun _ _ _ _ => trivial)⟩⟩
theorem rcpS {s : State} {dC : Nat → ClassId} {dI : Nat → Nat → Nat} {A : Nat → Prop} {cB cI cJ cZ : ClassId} {h0 : Nat} {a0 : Nat → Nat} {h1 : Nat} {a1 : Nat → Nat} {h2 : Nat} {a2 : Nat → Nat} {M0 : gS} {M1 : gS} {M2 : gS} {H : Heap} {As : List Value} (hK : va_K (dC, dI) vwCl (gT cB cI cJ cZ) s) (hP : va_P (dC, dI) vwCl (rcW cB cI cJ cZ h0 a0 h1 a1 h2 a2 M0 M1 M2) H) (hD : va_D A (rcW cB cI cJ cZ h0 a0 h1 a1 h2 a2 M0 M1 M2)) : PreS s H (va_Pc As (rcI dC dI cB cI cJ cZ h0 a0 h1 a1 h2 a2 M0 M1 M2 H.size)) As := ⟨fun a U g mk q => by obtain ⟨q0, q1, qP, qK, qD⟩ := q; exact ⟨q0, q1, qP, va_K.moved (u := U) (U := U.calling g mk a) (Vm.Alike.refl U.vm) qK, qD⟩, fun U hU hW => ⟨rfl, by rw [hU], by rw [hU]; exact hP, va_K.moved hW.alike hK, hD.weaken (fun _ _ _ _ => trivial)⟩⟩
def wX8_clear  (M0 : gS) (Q : gS → Prop) : Prop :=
 (∀ N1 : gS, N1 = sg M0 0 (0 : Int32) → (∀ N2 : gS, N2 = sg N1 4 (0 : Int32) → (Q N2)))
def rmX8_clear : Room := { frames := 0, cells := 0, slots := 0, locals := 0 }
set_option maxHeartbeats 4000000 in
set_option maxRecDepth 100000 in
theorem kX8_clear (l : Launch) (dC : Nat → ClassId) (dI : Nat → Nat → Nat) (cB cI cJ cZ : ClassId) (h0 : Nat) (a0 : Nat → Nat) (sz : Nat)  (M0 : gS) (Q : gS → Prop) (h : wX8_clear  M0 Q) : Met l yX8_clear wsX8_clear rmX8_clear (va_Pc [.ref h0] (ruI dC dI cB cI cJ cZ h0 a0 M0 sz)) (va_Qv (fun (u : gS) => Q u) (ruB dC dI cB cI cJ cZ h0 a0 (va_A (ruW cB cI cJ cZ h0 a0 M0) sz)) (va_A (ruW cB cI cJ cZ h0 a0 M0) sz)) 0 0 (va_A (ruW cB cI cJ cZ h0 a0 M0) sz) := by
  refine Met.ofW (cc := cX8_clear) (maxL := 1) (ret := none) (by decide) rfl ?_
  intro p e s m args below meth c s₁ B hml hv
  obtain ⟨rfl, hsz, hP, hK, hD0⟩ := hv
  have hx := B.exec
  have hb := B.bytes
  have hr := B.returns
  have hts := atoms_spec (ws := wsX8_clear) B.pre
  have hown : s.vm.findClass RX8 = some m.cls := findClass_of_methodNamed B.named
  have hlocks := B.notSynchronized
  subst hsz
  have hD := hD0.self (sz := s.heap.size)
  generalize hAe : va_A (ruW cB cI cJ cZ h0 a0 M0) s.heap.size = A at hD ⊢
  have hA : ∀ q : Nat, s.heap.size ≤ q → A q := fun q h => by rw [← hAe]; exact Or.inr h
  have hS : va_S A s.heap s.heap [] := va_S.rf
  have hinX8 : ∀ w ∈ wsX80, w ∈ wsX8_clear := by decide +kernel
  have f1 := hts (.fieldLink RX8 25 "LastWords$Rule" "clauses" "I") (by decide +kernel)
  have f2 := hts (.fieldLink RX8 29 "LastWords$Rule" "size" "I") (by decide +kernel)
  have bE : ∀ (M0 : gS) (H : Heap) (locs : List Loc) (ls : Array Slot), va_P (dC, dI) vwCl (ruW cB cI cJ cZ h0 a0 M0) H → va_D A (ruW cB cI cJ cZ h0 a0 M0) → va_S A s.heap H locs → lv_has ls 1 [(0, .ref h0)] → wX8_clear  M0 Q → W p l e (headSpec wsX8_clear rmX8_clear).room s m ([.ref h0] : List Value).toArray below meth c H locs 0 0 (MQ below (va_Qv (fun (u : gS) => Q u) (ruB dC dI cB cI cJ cZ h0 a0 A) A) ([.ref h0] : List Value).toArray s 0 0 A) (F0 m 0 ls []) := by
    intro M0 H locs ls hP hD hS hl h
    unfold wX8_clear at h
    refine lv_aload_n hx hb dX8_clear_0 rfl (lv_at hl 0 rfl) ?_
    refine lv_iconst (v := 0) hx hb dX8_clear_1 (by decide) ?_
    refine va_put (D := (dC, dI)) (ci := 8) (v := .int (0 : Int32)) (ty := .int) (C := RX8) (T := TX8) (N := 6) hx hb hts hinX8 tyX8 tyX8_ok nmX8 hown hK hP hD hS 0 rfl rfl 0 (by decide) f1 (fun _ h9 => h9) rfl (by decide +kernel) rfl rfl (Nat.le_of_ble_eq_true rfl) dX8_clear_2 (fun H locs hP hD hS => ?_)
    have hP := ruP_0_f0 hP
    have hD := ruD_0_f0 hD
    have h := h _ rfl
    generalize sg M0 0 (0 : Int32) = N1 at hP hD h
    refine lv_aload_n hx hb dX8_clear_5 rfl (lv_at hl 0 rfl) ?_
    refine lv_iconst (v := 0) hx hb dX8_clear_6 (by decide) ?_
    refine va_put (D := (dC, dI)) (ci := 8) (v := .int (0 : Int32)) (ty := .int) (C := RX8) (T := TX8) (N := 6) hx hb hts hinX8 tyX8 tyX8_ok nmX8 hown hK hP hD hS 0 rfl rfl 4 (by decide) f2 (fun _ h9 => h9) rfl (by decide +kernel) rfl rfl (Nat.le_of_ble_eq_true rfl) dX8_clear_7 (fun H locs hP hD hS => ?_)
    have hP := ruP_0_f4 hP
    have hD := ruD_0_f4 hD
    have h := h _ rfl
    generalize sg N1 4 (0 : Int32) = N2 at hP hD h
    exact W.vret hx hb hr (fun t ht hW => ⟨⟨(N2), rfl, h, by rw [ht]; exact hP, va_K.moved hW.alike hK, hD⟩, hS.F ht⟩) hS.2.2 dX8_clear_10
  have hl := lv_entry ([.ref h0]) (n := 1) (Nat.le_of_ble_eq_true rfl)
  rw [lg_entry_eq]
  generalize (lg_sl ([.ref h0]) ++ List.replicate (1 - (lg_sl ([.ref h0])).length) Slot.unset).toArray = ls at hl ⊢
  have hl : lv_has ls 1 [(0, .ref h0)] := hl
  exact bE M0 s.heap [] ls hP hD hS hl h
def wX8_put (p1 : Int32) (M0 : gS) (Q : gS → Prop) : Prop :=
 (((mg M0 4) < 0 → (Q M0))
 ∧ (¬ (mg M0 4) < 0 → (((400 : Int32) ≤ (mg M0 4) → (Q M0))
 ∧ (¬ (400 : Int32) ≤ (mg M0 4) → (vp_in (mg M0 4) 400 ∧ (∀ N3 : gS, N3 = sa M0 3 (Int32.toNatClampNeg (mg M0 4)) p1 → (∀ x4 : Int32, x4 = ((mg N3 4) + (1 : Int32)) → (∀ N5 : gS, N5 = sg N3 4 x4 → (Q N5)))))))))
def rmX8_put : Room := { frames := 0, cells := 0, slots := 0, locals := 0 }
set_option maxHeartbeats 4000000 in
set_option maxRecDepth 100000 in
theorem kX8_put (l : Launch) (dC : Nat → ClassId) (dI : Nat → Nat → Nat) (cB cI cJ cZ : ClassId) (h0 : Nat) (a0 : Nat → Nat) (sz : Nat) (p1 : Int32) (M0 : gS) (Q : gS → Prop) (h : wX8_put p1 M0 Q) : Met l yX8_put wsX8_put rmX8_put (va_Pc [.ref h0, .int p1] (ruI dC dI cB cI cJ cZ h0 a0 M0 sz)) (va_Qv (fun (u : gS) => Q u) (ruB dC dI cB cI cJ cZ h0 a0 (va_A (ruW cB cI cJ cZ h0 a0 M0) sz)) (va_A (ruW cB cI cJ cZ h0 a0 M0) sz)) 0 0 (va_A (ruW cB cI cJ cZ h0 a0 M0) sz) := by
  refine Met.ofW (cc := cX8_put) (maxL := 2) (ret := none) (by decide) rfl ?_
  intro p e s m args below meth c s₁ B hml hv
  obtain ⟨rfl, hsz, hP, hK, hD0⟩ := hv
  have hx := B.exec
  have hb := B.bytes
  have hr := B.returns
  have hts := atoms_spec (ws := wsX8_put) B.pre
  have hown : s.vm.findClass RX8 = some m.cls := findClass_of_methodNamed B.named
  have hlocks := B.notSynchronized
  subst hsz
  have hD := hD0.self (sz := s.heap.size)
  generalize hAe : va_A (ruW cB cI cJ cZ h0 a0 M0) s.heap.size = A at hD ⊢
  have hA : ∀ q : Nat, s.heap.size ≤ q → A q := fun q h => by rw [← hAe]; exact Or.inr h
  have hS : va_S A s.heap s.heap [] := va_S.rf
  have hinX8 : ∀ w ∈ wsX80, w ∈ wsX8_put := by decide +kernel
  have f1 := hts (.fieldLink RX8 29 "LastWords$Rule" "size" "I") (by decide +kernel)
  have f2 := hts (.fieldLink RX8 18 "LastWords$Rule" "codes" "[I") (by decide +kernel)
  have bE : ∀ (M0 : gS) (H : Heap) (locs : List Loc) (ls : Array Slot), va_P (dC, dI) vwCl (ruW cB cI cJ cZ h0 a0 M0) H → va_D A (ruW cB cI cJ cZ h0 a0 M0) → va_S A s.heap H locs → lv_has ls 2 [(0, .ref h0), (1, .int p1)] → wX8_put p1 M0 Q → W p l e (headSpec wsX8_put rmX8_put).room s m ([.ref h0, .int p1] : List Value).toArray below meth c H locs 0 0 (MQ below (va_Qv (fun (u : gS) => Q u) (ruB dC dI cB cI cJ cZ h0 a0 A) A) ([.ref h0, .int p1] : List Value).toArray s 0 0 A) (F0 m 0 ls []) := by
    intro M0 H locs ls hP hD hS hl h
    unfold wX8_put at h
    refine lv_aload_n hx hb dX8_put_0 rfl (lv_at hl 0 rfl) ?_
    refine va_get (D := (dC, dI)) (ci := 8) (v := .int (mg M0 4)) (C := RX8) (T := TX8) (N := 6) hx hb hts hinX8 hown hK hP 0 rfl rfl 4 (by decide) f1 (fun _ h9 => h9) rfl dX8_put_1 ?_
    refine lv_if_lt (tgt := 37) hx hb dX8_put_4 (by decide) (fun c1 => ?_) (fun c1 => ?_)
    · have h := h.1 c1
      exact W.vret hx hb hr (fun t ht hW => ⟨⟨(M0), rfl, h, by rw [ht]; exact hP, va_K.moved hW.alike hK, hD⟩, hS.F ht⟩) hS.2.2 dX8_put_37
    · have h := h.2 c1
      refine lv_aload_n hx hb dX8_put_7 rfl (lv_at hl 0 rfl) ?_
      refine va_get (D := (dC, dI)) (ci := 8) (v := .int (mg M0 4)) (C := RX8) (T := TX8) (N := 6) hx hb hts hinX8 hown hK hP 0 rfl rfl 4 (by decide) f1 (fun _ h9 => h9) rfl dX8_put_8 ?_
      refine lv_sipush (v := (400)) hx hb dX8_put_11 (by decide) ?_
      refine lv_icmp_ge (tgt := 37) hx hb dX8_put_14 (by decide) (fun c2 => ?_) (fun c2 => ?_)
      · have h := h.1 c2
        exact W.vret hx hb hr (fun t ht hW => ⟨⟨(M0), rfl, h, by rw [ht]; exact hP, va_K.moved hW.alike hK, hD⟩, hS.F ht⟩) hS.2.2 dX8_put_37
      · have h := h.2 c2
        refine lv_aload_n hx hb dX8_put_17 rfl (lv_at hl 0 rfl) ?_
        refine va_get (D := (dC, dI)) (ci := 8) (v := .ref (a0 3)) (C := RX8) (T := TX8) (N := 6) hx hb hts hinX8 hown hK hP 0 rfl rfl 3 (by decide) f2 (fun _ h9 => h9) rfl dX8_put_18 ?_
        refine lv_aload_n hx hb dX8_put_21 rfl (lv_at hl 0 rfl) ?_
        refine va_get (D := (dC, dI)) (ci := 8) (v := .int (mg M0 4)) (C := RX8) (T := TX8) (N := 6) hx hb hts hinX8 hown hK hP 0 rfl rfl 4 (by decide) f1 (fun _ h9 => h9) rfl dX8_put_22 ?_
        refine lv_iload_n hx hb dX8_put_25 rfl (lv_at hl 1 rfl) ?_
        refine va_iast hx hb hK hP hD hS 3 1 (f := ma M0 3) rfl rfl h.1 dX8_put_26 (fun H locs hP hD hS => ?_)
        have h := h.2
        have hP := ruP_0_a3 hP
        have hD := ruD_0_a3 hD
        have h := h _ rfl
        generalize sa M0 3 (Int32.toNatClampNeg (mg M0 4)) p1 = N3 at hP hD h
        refine lv_aload_n hx hb dX8_put_27 rfl (lv_at hl 0 rfl) ?_
        refine lv_dup hx hb dX8_put_28 rfl ?_
        refine va_get (D := (dC, dI)) (ci := 8) (v := .int (mg N3 4)) (C := RX8) (T := TX8) (N := 6) hx hb hts hinX8 hown hK hP 0 rfl rfl 4 (by decide) f1 (fun _ h9 => h9) rfl dX8_put_29 ?_
        refine lv_iconst (v := 1) hx hb dX8_put_32 (by decide) ?_
        refine lv_iadd hx hb dX8_put_33 ?_
        refine lv_topi (fun x4 ex4 => ?_)
        have h := h x4 ex4
        refine va_put (D := (dC, dI)) (ci := 8) (v := .int x4) (ty := .int) (C := RX8) (T := TX8) (N := 6) hx hb hts hinX8 tyX8 tyX8_ok nmX8 hown hK hP hD hS 0 rfl rfl 4 (by decide) f1 (fun _ h9 => h9) rfl (by decide +kernel) rfl rfl (Nat.le_of_ble_eq_true rfl) dX8_put_34 (fun H locs hP hD hS => ?_)
        have hP := ruP_0_f4 hP
        have hD := ruD_0_f4 hD
        have h := h _ rfl
        generalize sg N3 4 x4 = N5 at hP hD h
        exact W.vret hx hb hr (fun t ht hW => ⟨⟨(N5), rfl, h, by rw [ht]; exact hP, va_K.moved hW.alike hK, hD⟩, hS.F ht⟩) hS.2.2 dX8_put_37
  have hl := lv_entry ([.ref h0, .int p1]) (n := 2) (Nat.le_of_ble_eq_true rfl)
  rw [lg_entry_eq]
  generalize (lg_sl ([.ref h0, .int p1]) ++ List.replicate (2 - (lg_sl ([.ref h0, .int p1])).length) Slot.unset).toArray = ls at hl ⊢
  have hl : lv_has ls 2 [(0, .ref h0), (1, .int p1)] := hl
  exact bE M0 s.heap [] ls hP hD hS hl h
def wX8_addClause (p1 : Int32) (M0 : gS) (Q : gS → Prop) : Prop :=
 (((mg M0 0) < 0 → (Q M0))
 ∧ (¬ (mg M0 0) < 0 → (((12 : Int32) ≤ (mg M0 0) → (Q M0))
 ∧ (¬ (12 : Int32) ≤ (mg M0 0) → (vp_in (mg M0 0) 12 ∧ (∀ N3 : gS, N3 = sa M0 1 (Int32.toNatClampNeg (mg M0 0)) p1 → (∀ x4 : Int32, x4 = (mg N3 4) → (vp_in (mg N3 0) 12 ∧ (∀ N5 : gS, N5 = sa N3 2 (Int32.toNatClampNeg (mg N3 0)) x4 → (∀ x6 : Int32, x6 = ((mg N5 0) + (1 : Int32)) → (∀ N7 : gS, N7 = sg N5 0 x6 → (Q N7))))))))))))
def rmX8_addClause : Room := { frames := 0, cells := 0, slots := 0, locals := 0 }
set_option maxHeartbeats 4000000 in
set_option maxRecDepth 100000 in
theorem kX8_addClause (l : Launch) (dC : Nat → ClassId) (dI : Nat → Nat → Nat) (cB cI cJ cZ : ClassId) (h0 : Nat) (a0 : Nat → Nat) (sz : Nat) (p1 : Int32) (M0 : gS) (Q : gS → Prop) (h : wX8_addClause p1 M0 Q) : Met l yX8_addClause wsX8_addClause rmX8_addClause (va_Pc [.ref h0, .int p1] (ruI dC dI cB cI cJ cZ h0 a0 M0 sz)) (va_Qv (fun (u : gS) => Q u) (ruB dC dI cB cI cJ cZ h0 a0 (va_A (ruW cB cI cJ cZ h0 a0 M0) sz)) (va_A (ruW cB cI cJ cZ h0 a0 M0) sz)) 0 0 (va_A (ruW cB cI cJ cZ h0 a0 M0) sz) := by
  refine Met.ofW (cc := cX8_addClause) (maxL := 2) (ret := none) (by decide) rfl ?_
  intro p e s m args below meth c s₁ B hml hv
  obtain ⟨rfl, hsz, hP, hK, hD0⟩ := hv
  have hx := B.exec
  have hb := B.bytes
  have hr := B.returns
  have hts := atoms_spec (ws := wsX8_addClause) B.pre
  have hown : s.vm.findClass RX8 = some m.cls := findClass_of_methodNamed B.named
  have hlocks := B.notSynchronized
  subst hsz
  have hD := hD0.self (sz := s.heap.size)
  generalize hAe : va_A (ruW cB cI cJ cZ h0 a0 M0) s.heap.size = A at hD ⊢
  have hA : ∀ q : Nat, s.heap.size ≤ q → A q := fun q h => by rw [← hAe]; exact Or.inr h
  have hS : va_S A s.heap s.heap [] := va_S.rf
  have hinX8 : ∀ w ∈ wsX80, w ∈ wsX8_addClause := by decide +kernel
  have f1 := hts (.fieldLink RX8 25 "LastWords$Rule" "clauses" "I") (by decide +kernel)
  have f2 := hts (.fieldLink RX8 11 "LastWords$Rule" "does" "[I") (by decide +kernel)
  have f3 := hts (.fieldLink RX8 15 "LastWords$Rule" "testStops" "[I") (by decide +kernel)
  have f4 := hts (.fieldLink RX8 29 "LastWords$Rule" "size" "I") (by decide +kernel)
  have bE : ∀ (M0 : gS) (H : Heap) (locs : List Loc) (ls : Array Slot), va_P (dC, dI) vwCl (ruW cB cI cJ cZ h0 a0 M0) H → va_D A (ruW cB cI cJ cZ h0 a0 M0) → va_S A s.heap H locs → lv_has ls 2 [(0, .ref h0), (1, .int p1)] → wX8_addClause p1 M0 Q → W p l e (headSpec wsX8_addClause rmX8_addClause).room s m ([.ref h0, .int p1] : List Value).toArray below meth c H locs 0 0 (MQ below (va_Qv (fun (u : gS) => Q u) (ruB dC dI cB cI cJ cZ h0 a0 A) A) ([.ref h0, .int p1] : List Value).toArray s 0 0 A) (F0 m 0 ls []) := by
    intro M0 H locs ls hP hD hS hl h
    unfold wX8_addClause at h
    refine lv_aload_n hx hb dX8_addClause_0 rfl (lv_at hl 0 rfl) ?_
    refine va_get (D := (dC, dI)) (ci := 8) (v := .int (mg M0 0)) (C := RX8) (T := TX8) (N := 6) hx hb hts hinX8 hown hK hP 0 rfl rfl 0 (by decide) f1 (fun _ h9 => h9) rfl dX8_addClause_1 ?_
    refine lv_if_lt (tgt := 49) hx hb dX8_addClause_4 (by decide) (fun c1 => ?_) (fun c1 => ?_)
    · have h := h.1 c1
      exact W.vret hx hb hr (fun t ht hW => ⟨⟨(M0), rfl, h, by rw [ht]; exact hP, va_K.moved hW.alike hK, hD⟩, hS.F ht⟩) hS.2.2 dX8_addClause_49
    · have h := h.2 c1
      refine lv_aload_n hx hb dX8_addClause_7 rfl (lv_at hl 0 rfl) ?_
      refine va_get (D := (dC, dI)) (ci := 8) (v := .int (mg M0 0)) (C := RX8) (T := TX8) (N := 6) hx hb hts hinX8 hown hK hP 0 rfl rfl 0 (by decide) f1 (fun _ h9 => h9) rfl dX8_addClause_8 ?_
      refine lv_bipush (v := (12)) hx hb dX8_addClause_11 (by decide) ?_
      refine lv_icmp_ge (tgt := 49) hx hb dX8_addClause_13 (by decide) (fun c2 => ?_) (fun c2 => ?_)
      · have h := h.1 c2
        exact W.vret hx hb hr (fun t ht hW => ⟨⟨(M0), rfl, h, by rw [ht]; exact hP, va_K.moved hW.alike hK, hD⟩, hS.F ht⟩) hS.2.2 dX8_addClause_49
      · have h := h.2 c2
        refine lv_aload_n hx hb dX8_addClause_16 rfl (lv_at hl 0 rfl) ?_
        refine va_get (D := (dC, dI)) (ci := 8) (v := .ref (a0 1)) (C := RX8) (T := TX8) (N := 6) hx hb hts hinX8 hown hK hP 0 rfl rfl 1 (by decide) f2 (fun _ h9 => h9) rfl dX8_addClause_17 ?_
        refine lv_aload_n hx hb dX8_addClause_20 rfl (lv_at hl 0 rfl) ?_
        refine va_get (D := (dC, dI)) (ci := 8) (v := .int (mg M0 0)) (C := RX8) (T := TX8) (N := 6) hx hb hts hinX8 hown hK hP 0 rfl rfl 0 (by decide) f1 (fun _ h9 => h9) rfl dX8_addClause_21 ?_
        refine lv_iload_n hx hb dX8_addClause_24 rfl (lv_at hl 1 rfl) ?_
        refine va_iast hx hb hK hP hD hS 1 1 (f := ma M0 1) rfl rfl h.1 dX8_addClause_25 (fun H locs hP hD hS => ?_)
        have h := h.2
        have hP := ruP_0_a1 hP
        have hD := ruD_0_a1 hD
        have h := h _ rfl
        generalize sa M0 1 (Int32.toNatClampNeg (mg M0 0)) p1 = N3 at hP hD h
        refine lv_aload_n hx hb dX8_addClause_26 rfl (lv_at hl 0 rfl) ?_
        refine va_get (D := (dC, dI)) (ci := 8) (v := .ref (a0 2)) (C := RX8) (T := TX8) (N := 6) hx hb hts hinX8 hown hK hP 0 rfl rfl 2 (by decide) f3 (fun _ h9 => h9) rfl dX8_addClause_27 ?_
        refine lv_aload_n hx hb dX8_addClause_30 rfl (lv_at hl 0 rfl) ?_
        refine va_get (D := (dC, dI)) (ci := 8) (v := .int (mg N3 0)) (C := RX8) (T := TX8) (N := 6) hx hb hts hinX8 hown hK hP 0 rfl rfl 0 (by decide) f1 (fun _ h9 => h9) rfl dX8_addClause_31 ?_
        refine lv_aload_n hx hb dX8_addClause_34 rfl (lv_at hl 0 rfl) ?_
        refine va_get (D := (dC, dI)) (ci := 8) (v := .int (mg N3 4)) (C := RX8) (T := TX8) (N := 6) hx hb hts hinX8 hown hK hP 0 rfl rfl 4 (by decide) f4 (fun _ h9 => h9) rfl dX8_addClause_35 ?_
        refine lv_topi (fun x4 ex4 => ?_)
        have h := h x4 ex4
        refine va_iast hx hb hK hP hD hS 2 1 (f := ma N3 2) rfl rfl h.1 dX8_addClause_38 (fun H locs hP hD hS => ?_)
        have h := h.2
        have hP := ruP_0_a2 hP
        have hD := ruD_0_a2 hD
        have h := h _ rfl
        generalize sa N3 2 (Int32.toNatClampNeg (mg N3 0)) x4 = N5 at hP hD h
        refine lv_aload_n hx hb dX8_addClause_39 rfl (lv_at hl 0 rfl) ?_
        refine lv_dup hx hb dX8_addClause_40 rfl ?_
        refine va_get (D := (dC, dI)) (ci := 8) (v := .int (mg N5 0)) (C := RX8) (T := TX8) (N := 6) hx hb hts hinX8 hown hK hP 0 rfl rfl 0 (by decide) f1 (fun _ h9 => h9) rfl dX8_addClause_41 ?_
        refine lv_iconst (v := 1) hx hb dX8_addClause_44 (by decide) ?_
        refine lv_iadd hx hb dX8_addClause_45 ?_
        refine lv_topi (fun x6 ex6 => ?_)
        have h := h x6 ex6
        refine va_put (D := (dC, dI)) (ci := 8) (v := .int x6) (ty := .int) (C := RX8) (T := TX8) (N := 6) hx hb hts hinX8 tyX8 tyX8_ok nmX8 hown hK hP hD hS 0 rfl rfl 0 (by decide) f1 (fun _ h9 => h9) rfl (by decide +kernel) rfl rfl (Nat.le_of_ble_eq_true rfl) dX8_addClause_46 (fun H locs hP hD hS => ?_)
        have hP := ruP_0_f0 hP
        have hD := ruD_0_f0 hD
        have h := h _ rfl
        generalize sg N5 0 x6 = N7 at hP hD h
        exact W.vret hx hb hr (fun t ht hW => ⟨⟨(N7), rfl, h, by rw [ht]; exact hP, va_K.moved hW.alike hK, hD⟩, hS.F ht⟩) hS.2.2 dX8_addClause_49
  have hl := lv_entry ([.ref h0, .int p1]) (n := 2) (Nat.le_of_ble_eq_true rfl)
  rw [lg_entry_eq]
  generalize (lg_sl ([.ref h0, .int p1]) ++ List.replicate (2 - (lg_sl ([.ref h0, .int p1])).length) Slot.unset).toArray = ls at hl ⊢
  have hl : lv_has ls 2 [(0, .ref h0), (1, .int p1)] := hl
  exact bE M0 s.heap [] ls hP hD hS hl h
def wX8_compares (p1 : Int32) (p2 : Int64) (p3 : Int64)  (Q : Bool → Prop) : Prop :=
 ((p1 = (-17 : Int32) → (((lg_cmp p2 p3) < 0 → (Q false ))
 ∧ (¬ (lg_cmp p2 p3) < 0 → (Q true ))))
 ∧ (¬ p1 = (-17 : Int32) → ((p1 = (-16 : Int32) → (((lg_cmp p2 p3) = 0 → (Q true ))
 ∧ (¬ (lg_cmp p2 p3) = 0 → (Q false ))))
 ∧ (¬ p1 = (-16 : Int32) → ((p1 = (-15 : Int32) → ((0 < (lg_cmp p2 p3) → (Q false ))
 ∧ (¬ 0 < (lg_cmp p2 p3) → (Q true ))))
 ∧ (¬ p1 = (-15 : Int32) → ((p1 = (-14 : Int32) → ((0 ≤ (lg_cmp p2 p3) → (Q false ))
 ∧ (¬ 0 ≤ (lg_cmp p2 p3) → (Q true ))))
 ∧ (¬ p1 = (-14 : Int32) → (((lg_cmp p2 p3) ≤ 0 → (Q false ))
 ∧ (¬ (lg_cmp p2 p3) ≤ 0 → (Q true )))))))))))
def rmX8_compares : Room := { frames := 0, cells := 0, slots := 0, locals := 0 }
set_option maxHeartbeats 4000000 in
set_option maxRecDepth 100000 in
theorem kX8_compares (l : Launch) (dC : Nat → ClassId) (dI : Nat → Nat → Nat) (cB cI cJ cZ : ClassId)  (sz : Nat) (p1 : Int32) (p2 : Int64) (p3 : Int64)  (Q : Bool → Prop) (h : wX8_compares p1 p2 p3  Q) : Met l yX8_compares wsX8_compares rmX8_compares (va_Pc [.int p1, .long p2, .long p3] (e0I dC dI cB cI cJ cZ   sz)) (va_Qi (fun (r : Int32) (u : Unit) => ∃ b : Bool, r = bI b ∧ Q b ) (e0B dC dI cB cI cJ cZ  (va_A (e0W cB cI cJ cZ  ) sz)) (va_A (e0W cB cI cJ cZ  ) sz)) 0 0 (va_A (e0W cB cI cJ cZ  ) sz) := by
  refine Met.ofW (cc := cX8_compares) (maxL := 5) (ret := (some .boolean)) (by decide) rfl ?_
  intro p e s m args below meth c s₁ B hml hv
  obtain ⟨rfl, hsz, hP, hK, hD0⟩ := hv
  have hx := B.exec
  have hb := B.bytes
  have hr := B.returns
  have hts := atoms_spec (ws := wsX8_compares) B.pre
  have hown : s.vm.findClass RX8 = some m.cls := findClass_of_methodNamed B.named
  have hlocks := B.notSynchronized
  subst hsz
  have hD := hD0.self (sz := s.heap.size)
  generalize hAe : va_A (e0W cB cI cJ cZ  ) s.heap.size = A at hD ⊢
  have hA : ∀ q : Nat, s.heap.size ≤ q → A q := fun q h => by rw [← hAe]; exact Or.inr h
  have hS : va_S A s.heap s.heap [] := va_S.rf
  have bE : ∀  (H : Heap) (locs : List Loc) (ls : Array Slot), va_P (dC, dI) vwCl (e0W cB cI cJ cZ  ) H → va_D A (e0W cB cI cJ cZ  ) → va_S A s.heap H locs → lv_has ls 5 [(0, .int p1), (1, .long p2), (3, .long p3)] → wX8_compares p1 p2 p3  Q → W p l e (headSpec wsX8_compares rmX8_compares).room s m ([.int p1, .long p2, .long p3] : List Value).toArray below meth c H locs 0 0 (MQ below (va_Qi (fun (r : Int32) (u : Unit) => ∃ b : Bool, r = bI b ∧ Q b ) (e0B dC dI cB cI cJ cZ  A) A) ([.int p1, .long p2, .long p3] : List Value).toArray s 0 0 A) (F0 m 0 ls []) := by
    intro  H locs ls hP hD hS hl h
    unfold wX8_compares at h
    refine lv_iload_n hx hb dX8_compares_0 rfl (lv_at hl 0 rfl) ?_
    by_cases c1 : p1 = (-17 : Int32)
    · have h := h.1 c1
      refine lv_tableIn (tgt := 68) hx hb dX8_compares_1 (by rw [c1]; decide) (by rw [c1]; decide) (by rw [c1]; rfl) (by decide) ?_
      refine lv_lload_n hx hb dX8_compares_68 rfl (lv_at hl 1 rfl) ?_
      refine lv_lload_n hx hb dX8_compares_69 rfl (lv_at hl 2 rfl) ?_
      refine W.lcmp hx hb dX8_compares_70 ?_
      refine lv_if_lt (tgt := 78) hx hb dX8_compares_71 (by decide) (fun c2 => ?_) (fun c2 => ?_)
      · have h := h.1 c2
        refine lv_iconst (v := 0) hx hb dX8_compares_78 (by decide) ?_
        exact W.zret (v := (bI false)) hx hb hr (nar_bI false) (fun t ht hW => ⟨⟨_, (), rfl, ⟨false, rfl, h⟩, by rw [ht]; exact hP, va_K.moved hW.alike hK, hD⟩, hS.F ht⟩) hS.2.2 dX8_compares_79
      · have h := h.2 c2
        refine lv_iconst (v := 1) hx hb dX8_compares_74 (by decide) ?_
        refine lv_goto (tgt := 79) hx hb dX8_compares_75 (by decide) ?_
        exact W.zret (v := (bI true)) hx hb hr (nar_bI true) (fun t ht hW => ⟨⟨_, (), rfl, ⟨true, rfl, h⟩, by rw [ht]; exact hP, va_K.moved hW.alike hK, hD⟩, hS.F ht⟩) hS.2.2 dX8_compares_79
    have h := h.2 c1
    by_cases c3 : p1 = (-16 : Int32)
    · have h := h.1 c3
      refine lv_tableIn (tgt := 56) hx hb dX8_compares_1 (by rw [c3]; decide) (by rw [c3]; decide) (by rw [c3]; rfl) (by decide) ?_
      refine lv_lload_n hx hb dX8_compares_56 rfl (lv_at hl 1 rfl) ?_
      refine lv_lload_n hx hb dX8_compares_57 rfl (lv_at hl 2 rfl) ?_
      refine W.lcmp hx hb dX8_compares_58 ?_
      refine lv_if_ne (tgt := 66) hx hb dX8_compares_59 (by decide) (fun c4 => ?_) (fun c4 => ?_)
      · have h := h.2 c4
        refine lv_iconst (v := 0) hx hb dX8_compares_66 (by decide) ?_
        exact W.zret (v := (bI false)) hx hb hr (nar_bI false) (fun t ht hW => ⟨⟨_, (), rfl, ⟨false, rfl, h⟩, by rw [ht]; exact hP, va_K.moved hW.alike hK, hD⟩, hS.F ht⟩) hS.2.2 dX8_compares_67
      · have h := h.1 c4
        refine lv_iconst (v := 1) hx hb dX8_compares_62 (by decide) ?_
        refine lv_goto (tgt := 67) hx hb dX8_compares_63 (by decide) ?_
        exact W.zret (v := (bI true)) hx hb hr (nar_bI true) (fun t ht hW => ⟨⟨_, (), rfl, ⟨true, rfl, h⟩, by rw [ht]; exact hP, va_K.moved hW.alike hK, hD⟩, hS.F ht⟩) hS.2.2 dX8_compares_67
    have h := h.2 c3
    by_cases c5 : p1 = (-15 : Int32)
    · have h := h.1 c5
      refine lv_tableIn (tgt := 44) hx hb dX8_compares_1 (by rw [c5]; decide) (by rw [c5]; decide) (by rw [c5]; rfl) (by decide) ?_
      refine lv_lload_n hx hb dX8_compares_44 rfl (lv_at hl 1 rfl) ?_
      refine lv_lload_n hx hb dX8_compares_45 rfl (lv_at hl 2 rfl) ?_
      refine W.lcmp hx hb dX8_compares_46 ?_
      refine lv_if_gt (tgt := 54) hx hb dX8_compares_47 (by decide) (fun c6 => ?_) (fun c6 => ?_)
      · have h := h.1 c6
        refine lv_iconst (v := 0) hx hb dX8_compares_54 (by decide) ?_
        exact W.zret (v := (bI false)) hx hb hr (nar_bI false) (fun t ht hW => ⟨⟨_, (), rfl, ⟨false, rfl, h⟩, by rw [ht]; exact hP, va_K.moved hW.alike hK, hD⟩, hS.F ht⟩) hS.2.2 dX8_compares_55
      · have h := h.2 c6
        refine lv_iconst (v := 1) hx hb dX8_compares_50 (by decide) ?_
        refine lv_goto (tgt := 55) hx hb dX8_compares_51 (by decide) ?_
        exact W.zret (v := (bI true)) hx hb hr (nar_bI true) (fun t ht hW => ⟨⟨_, (), rfl, ⟨true, rfl, h⟩, by rw [ht]; exact hP, va_K.moved hW.alike hK, hD⟩, hS.F ht⟩) hS.2.2 dX8_compares_55
    have h := h.2 c5
    by_cases c7 : p1 = (-14 : Int32)
    · have h := h.1 c7
      refine lv_tableIn (tgt := 32) hx hb dX8_compares_1 (by rw [c7]; decide) (by rw [c7]; decide) (by rw [c7]; rfl) (by decide) ?_
      refine lv_lload_n hx hb dX8_compares_32 rfl (lv_at hl 1 rfl) ?_
      refine lv_lload_n hx hb dX8_compares_33 rfl (lv_at hl 2 rfl) ?_
      refine W.lcmp hx hb dX8_compares_34 ?_
      refine lv_if_ge (tgt := 42) hx hb dX8_compares_35 (by decide) (fun c8 => ?_) (fun c8 => ?_)
      · have h := h.1 c8
        refine lv_iconst (v := 0) hx hb dX8_compares_42 (by decide) ?_
        exact W.zret (v := (bI false)) hx hb hr (nar_bI false) (fun t ht hW => ⟨⟨_, (), rfl, ⟨false, rfl, h⟩, by rw [ht]; exact hP, va_K.moved hW.alike hK, hD⟩, hS.F ht⟩) hS.2.2 dX8_compares_43
      · have h := h.2 c8
        refine lv_iconst (v := 1) hx hb dX8_compares_38 (by decide) ?_
        refine lv_goto (tgt := 43) hx hb dX8_compares_39 (by decide) ?_
        exact W.zret (v := (bI true)) hx hb hr (nar_bI true) (fun t ht hW => ⟨⟨_, (), rfl, ⟨true, rfl, h⟩, by rw [ht]; exact hP, va_K.moved hW.alike hK, hD⟩, hS.F ht⟩) hS.2.2 dX8_compares_43
    have h := h.2 c7
    refine lv_tableOut (tgt := 80) hx hb dX8_compares_1 (by have qc1 : p1.toInt ≠ -17 := fun q => c1 (Int32.toInt_inj.mp (q.trans (by decide))); have qc3 : p1.toInt ≠ -16 := fun q => c3 (Int32.toInt_inj.mp (q.trans (by decide))); have qc5 : p1.toInt ≠ -15 := fun q => c5 (Int32.toInt_inj.mp (q.trans (by decide))); have qc7 : p1.toInt ≠ -14 := fun q => c7 (Int32.toInt_inj.mp (q.trans (by decide))); omega) (by decide) ?_
    refine lv_lload_n hx hb dX8_compares_80 rfl (lv_at hl 1 rfl) ?_
    refine lv_lload_n hx hb dX8_compares_81 rfl (lv_at hl 2 rfl) ?_
    refine W.lcmp hx hb dX8_compares_82 ?_
    refine lv_if_le (tgt := 90) hx hb dX8_compares_83 (by decide) (fun c9 => ?_) (fun c9 => ?_)
    · have h := h.1 c9
      refine lv_iconst (v := 0) hx hb dX8_compares_90 (by decide) ?_
      exact W.zret (v := (bI false)) hx hb hr (nar_bI false) (fun t ht hW => ⟨⟨_, (), rfl, ⟨false, rfl, h⟩, by rw [ht]; exact hP, va_K.moved hW.alike hK, hD⟩, hS.F ht⟩) hS.2.2 dX8_compares_91
    · have h := h.2 c9
      refine lv_iconst (v := 1) hx hb dX8_compares_86 (by decide) ?_
      refine lv_goto (tgt := 91) hx hb dX8_compares_87 (by decide) ?_
      exact W.zret (v := (bI true)) hx hb hr (nar_bI true) (fun t ht hW => ⟨⟨_, (), rfl, ⟨true, rfl, h⟩, by rw [ht]; exact hP, va_K.moved hW.alike hK, hD⟩, hS.F ht⟩) hS.2.2 dX8_compares_91
  have hl := lv_entry ([.int p1, .long p2, .long p3]) (n := 5) (Nat.le_of_ble_eq_true rfl)
  rw [lg_entry_eq]
  generalize (lg_sl ([.int p1, .long p2, .long p3]) ++ List.replicate (5 - (lg_sl ([.int p1, .long p2, .long p3])).length) Slot.unset).toArray = ls at hl ⊢
  have hl : lv_has ls 5 [(0, .int p1), (1, .long p2), (3, .long p3)] := hl
  exact bE  s.heap [] ls hP hD hS hl h
def wX8_joined (p1 : Int32) (p2 : Int64) (p3 : Int64)  (Q : Int64 → Prop) : Prop :=
 ((p1 = (-21 : Int32) → (Q (p2 ||| p3) ))
 ∧ (¬ p1 = (-21 : Int32) → ((p1 = (-20 : Int32) → (Q (p2 &&& p3) ))
 ∧ (¬ p1 = (-20 : Int32) → ((p1 = (-19 : Int32) → (wX8_compares p1 p2 p3  (fun (b5 : Bool)  => (((bI b5) = 0 → (Q (0 : Int64) ))
 ∧ (¬ (bI b5) = 0 → (Q (1 : Int64) ))))))
 ∧ (¬ p1 = (-19 : Int32) → ((p1 = (-18 : Int32) → (wX8_compares p1 p2 p3  (fun (b9 : Bool)  => (((bI b9) = 0 → (Q (0 : Int64) ))
 ∧ (¬ (bI b9) = 0 → (Q (1 : Int64) ))))))
 ∧ (¬ p1 = (-18 : Int32) → ((p1 = (-17 : Int32) → (wX8_compares p1 p2 p3  (fun (b13 : Bool)  => (((bI b13) = 0 → (Q (0 : Int64) ))
 ∧ (¬ (bI b13) = 0 → (Q (1 : Int64) ))))))
 ∧ (¬ p1 = (-17 : Int32) → ((p1 = (-16 : Int32) → (wX8_compares p1 p2 p3  (fun (b17 : Bool)  => (((bI b17) = 0 → (Q (0 : Int64) ))
 ∧ (¬ (bI b17) = 0 → (Q (1 : Int64) ))))))
 ∧ (¬ p1 = (-16 : Int32) → ((p1 = (-15 : Int32) → (wX8_compares p1 p2 p3  (fun (b21 : Bool)  => (((bI b21) = 0 → (Q (0 : Int64) ))
 ∧ (¬ (bI b21) = 0 → (Q (1 : Int64) ))))))
 ∧ (¬ p1 = (-15 : Int32) → ((p1 = (-14 : Int32) → (wX8_compares p1 p2 p3  (fun (b25 : Bool)  => (((bI b25) = 0 → (Q (0 : Int64) ))
 ∧ (¬ (bI b25) = 0 → (Q (1 : Int64) ))))))
 ∧ (¬ p1 = (-14 : Int32) → ((p1 = (-13 : Int32) → (((lg_cmp p3 (0 : Int64)) = 0 → (Q (0 : Int64) ))
 ∧ (¬ (lg_cmp p3 (0 : Int64)) = 0 → (¬ p3 = 0 ∧ (Q (p2 / p3) )))))
 ∧ (¬ p1 = (-13 : Int32) → ((p1 = (-12 : Int32) → (Q (p2 * p3) ))
 ∧ (¬ p1 = (-12 : Int32) → ((p1 = (-11 : Int32) → (Q (p2 - p3) ))
 ∧ (¬ p1 = (-11 : Int32) → ((p1 = (-10 : Int32) → (Q (p2 + p3) ))
 ∧ (¬ p1 = (-10 : Int32) → (wX8_compares p1 p2 p3  (fun (b33 : Bool)  => (((bI b33) = 0 → (Q (0 : Int64) ))
 ∧ (¬ (bI b33) = 0 → (Q (1 : Int64) )))))))))))))))))))))))))))))
def rmX8_joined : Room := { frames := 1, cells := 0, slots := 0, locals := 24 }
set_option maxHeartbeats 4000000 in
set_option maxRecDepth 100000 in
theorem kX8_joined (l : Launch) (dC : Nat → ClassId) (dI : Nat → Nat → Nat) (cB cI cJ cZ : ClassId)  (sz : Nat) (p1 : Int32) (p2 : Int64) (p3 : Int64)  (Q : Int64 → Prop) (h : wX8_joined p1 p2 p3  Q) : Met l yX8_joined wsX8_joined rmX8_joined (va_Pc [.int p1, .long p2, .long p3] (e0I dC dI cB cI cJ cZ   sz)) (va_Ql (fun (r : Int64) (u : Unit) => Q r ) (e0B dC dI cB cI cJ cZ  (va_A (e0W cB cI cJ cZ  ) sz)) (va_A (e0W cB cI cJ cZ  ) sz)) 0 0 (va_A (e0W cB cI cJ cZ  ) sz) := by
  refine Met.ofW (cc := cX8_joined) (maxL := 5) (ret := (some .long)) (by decide) rfl ?_
  intro p e s m args below meth c s₁ B hml hv
  obtain ⟨rfl, hsz, hP, hK, hD0⟩ := hv
  have hx := B.exec
  have hb := B.bytes
  have hr := B.returns
  have hts := atoms_spec (ws := wsX8_joined) B.pre
  have hown : s.vm.findClass RX8 = some m.cls := findClass_of_methodNamed B.named
  have hlocks := B.notSynchronized
  subst hsz
  have hD := hD0.self (sz := s.heap.size)
  generalize hAe : va_A (e0W cB cI cJ cZ  ) s.heap.size = A at hD ⊢
  have hA : ∀ q : Nat, s.heap.size ≤ q → A q := fun q h => by rw [← hAe]; exact Or.inr h
  have hS : va_S A s.heap s.heap [] := va_S.rf
  have bE : ∀  (H : Heap) (locs : List Loc) (ls : Array Slot), va_P (dC, dI) vwCl (e0W cB cI cJ cZ  ) H → va_D A (e0W cB cI cJ cZ  ) → va_S A s.heap H locs → lv_has ls 5 [(0, .int p1), (1, .long p2), (3, .long p3)] → wX8_joined p1 p2 p3  Q → W p l e (headSpec wsX8_joined rmX8_joined).room s m ([.int p1, .long p2, .long p3] : List Value).toArray below meth c H locs 0 0 (MQ below (va_Ql (fun (r : Int64) (u : Unit) => Q r ) (e0B dC dI cB cI cJ cZ  A) A) ([.int p1, .long p2, .long p3] : List Value).toArray s 0 0 A) (F0 m 0 ls []) := by
    intro  H locs ls hP hD hS hl h
    unfold wX8_joined at h
    refine lv_iload_n hx hb dX8_joined_0 rfl (lv_at hl 0 rfl) ?_
    by_cases c1 : p1 = (-21 : Int32)
    · have h := h.1 c1
      refine lv_tableIn (tgt := 94) hx hb dX8_joined_1 (by rw [c1]; decide) (by rw [c1]; decide) (by rw [c1]; rfl) (by decide) ?_
      refine lv_lload_n hx hb dX8_joined_94 rfl (lv_at hl 1 rfl) ?_
      refine lv_lload_n hx hb dX8_joined_95 rfl (lv_at hl 2 rfl) ?_
      refine lv_lor hx hb dX8_joined_96 ?_
      exact W.lret (v := (p2 ||| p3)) hx hb hr (fun t ht hW => ⟨⟨_, (), rfl, h, by rw [ht]; exact hP, va_K.moved hW.alike hK, hD⟩, hS.F ht⟩) hS.2.2 dX8_joined_97
    have h := h.2 c1
    by_cases c2 : p1 = (-20 : Int32)
    · have h := h.1 c2
      refine lv_tableIn (tgt := 90) hx hb dX8_joined_1 (by rw [c2]; decide) (by rw [c2]; decide) (by rw [c2]; rfl) (by decide) ?_
      refine lv_lload_n hx hb dX8_joined_90 rfl (lv_at hl 1 rfl) ?_
      refine lv_lload_n hx hb dX8_joined_91 rfl (lv_at hl 2 rfl) ?_
      refine lv_land hx hb dX8_joined_92 ?_
      exact W.lret (v := (p2 &&& p3)) hx hb hr (fun t ht hW => ⟨⟨_, (), rfl, h, by rw [ht]; exact hP, va_K.moved hW.alike hK, hD⟩, hS.F ht⟩) hS.2.2 dX8_joined_93
    have h := h.2 c2
    by_cases c3 : p1 = (-19 : Int32)
    · have h := h.1 c3
      refine lv_tableIn (tgt := 98) hx hb dX8_joined_1 (by rw [c3]; decide) (by rw [c3]; decide) (by rw [c3]; rfl) (by decide) ?_
      refine lv_iload_n hx hb dX8_joined_98 rfl (lv_at hl 0 rfl) ?_
      refine lv_lload_n hx hb dX8_joined_99 rfl (lv_at hl 1 rfl) ?_
      refine lv_lload_n hx hb dX8_joined_100 rfl (lv_at hl 2 rfl) ?_
      have hFc := gs_free hD hS hA
      refine va_calli (va_runS (As := [.int p1, .long p2, .long p3]) (rest := []) ⟨hx, hb, hml, hown, hts⟩ (kX8_compares l dC dI cB cI cJ cZ  H.size p1 p2 p3  _ h) (cwS 3 hts gX8_joined_X8_compares rfl rfl rfl (by decide +kernel) ⟨Nat.le_of_ble_eq_true rfl, Nat.le_of_ble_eq_true rfl⟩) (e0pS hK hP hD) rfl rfl hl.1 rfl (lv_room (Nat.le_of_ble_eq_true rfl)) dX8_joined_101 ⟨Nat.le_of_ble_eq_true rfl, Nat.le_of_ble_eq_true rfl⟩) hS (fun q _ z => hFc q z) hFc (fun r4 u t H1 locs ht hvm hw hB hz1 hk1 hS => ?_)
      obtain ⟨hP, hD⟩ := gs_back ht hFc hB
      generalize H1 = H at hP hS ⊢
      obtain ⟨b5, rfl, h⟩ := hw
      try dsimp only at h
      refine lv_if_eq (tgt := 111) hx hb dX8_joined_104 (by decide) (fun c6 => ?_) (fun c6 => ?_)
      · have h := h.1 c6
        refine lv_lconst (v := 0) hx hb dX8_joined_111 (by decide) ?_
        exact W.lret (v := (0 : Int64)) hx hb hr (fun t ht hW => ⟨⟨_, (), rfl, h, by rw [ht]; exact hP, va_K.moved hW.alike hK, hD⟩, hS.F ht⟩) hS.2.2 dX8_joined_112
      · have h := h.2 c6
        refine lv_lconst (v := 1) hx hb dX8_joined_107 (by decide) ?_
        refine lv_goto (tgt := 112) hx hb dX8_joined_108 (by decide) ?_
        exact W.lret (v := (1 : Int64)) hx hb hr (fun t ht hW => ⟨⟨_, (), rfl, h, by rw [ht]; exact hP, va_K.moved hW.alike hK, hD⟩, hS.F ht⟩) hS.2.2 dX8_joined_112
    have h := h.2 c3
    by_cases c7 : p1 = (-18 : Int32)
    · have h := h.1 c7
      refine lv_tableIn (tgt := 98) hx hb dX8_joined_1 (by rw [c7]; decide) (by rw [c7]; decide) (by rw [c7]; rfl) (by decide) ?_
      refine lv_iload_n hx hb dX8_joined_98 rfl (lv_at hl 0 rfl) ?_
      refine lv_lload_n hx hb dX8_joined_99 rfl (lv_at hl 1 rfl) ?_
      refine lv_lload_n hx hb dX8_joined_100 rfl (lv_at hl 2 rfl) ?_
      have hFc := gs_free hD hS hA
      refine va_calli (va_runS (As := [.int p1, .long p2, .long p3]) (rest := []) ⟨hx, hb, hml, hown, hts⟩ (kX8_compares l dC dI cB cI cJ cZ  H.size p1 p2 p3  _ h) (cwS 3 hts gX8_joined_X8_compares rfl rfl rfl (by decide +kernel) ⟨Nat.le_of_ble_eq_true rfl, Nat.le_of_ble_eq_true rfl⟩) (e0pS hK hP hD) rfl rfl hl.1 rfl (lv_room (Nat.le_of_ble_eq_true rfl)) dX8_joined_101 ⟨Nat.le_of_ble_eq_true rfl, Nat.le_of_ble_eq_true rfl⟩) hS (fun q _ z => hFc q z) hFc (fun r8 u t H1 locs ht hvm hw hB hz1 hk1 hS => ?_)
      obtain ⟨hP, hD⟩ := gs_back ht hFc hB
      generalize H1 = H at hP hS ⊢
      obtain ⟨b9, rfl, h⟩ := hw
      try dsimp only at h
      refine lv_if_eq (tgt := 111) hx hb dX8_joined_104 (by decide) (fun c10 => ?_) (fun c10 => ?_)
      · have h := h.1 c10
        refine lv_lconst (v := 0) hx hb dX8_joined_111 (by decide) ?_
        exact W.lret (v := (0 : Int64)) hx hb hr (fun t ht hW => ⟨⟨_, (), rfl, h, by rw [ht]; exact hP, va_K.moved hW.alike hK, hD⟩, hS.F ht⟩) hS.2.2 dX8_joined_112
      · have h := h.2 c10
        refine lv_lconst (v := 1) hx hb dX8_joined_107 (by decide) ?_
        refine lv_goto (tgt := 112) hx hb dX8_joined_108 (by decide) ?_
        exact W.lret (v := (1 : Int64)) hx hb hr (fun t ht hW => ⟨⟨_, (), rfl, h, by rw [ht]; exact hP, va_K.moved hW.alike hK, hD⟩, hS.F ht⟩) hS.2.2 dX8_joined_112
    have h := h.2 c7
    by_cases c11 : p1 = (-17 : Int32)
    · have h := h.1 c11
      refine lv_tableIn (tgt := 98) hx hb dX8_joined_1 (by rw [c11]; decide) (by rw [c11]; decide) (by rw [c11]; rfl) (by decide) ?_
      refine lv_iload_n hx hb dX8_joined_98 rfl (lv_at hl 0 rfl) ?_
      refine lv_lload_n hx hb dX8_joined_99 rfl (lv_at hl 1 rfl) ?_
      refine lv_lload_n hx hb dX8_joined_100 rfl (lv_at hl 2 rfl) ?_
      have hFc := gs_free hD hS hA
      refine va_calli (va_runS (As := [.int p1, .long p2, .long p3]) (rest := []) ⟨hx, hb, hml, hown, hts⟩ (kX8_compares l dC dI cB cI cJ cZ  H.size p1 p2 p3  _ h) (cwS 3 hts gX8_joined_X8_compares rfl rfl rfl (by decide +kernel) ⟨Nat.le_of_ble_eq_true rfl, Nat.le_of_ble_eq_true rfl⟩) (e0pS hK hP hD) rfl rfl hl.1 rfl (lv_room (Nat.le_of_ble_eq_true rfl)) dX8_joined_101 ⟨Nat.le_of_ble_eq_true rfl, Nat.le_of_ble_eq_true rfl⟩) hS (fun q _ z => hFc q z) hFc (fun r12 u t H1 locs ht hvm hw hB hz1 hk1 hS => ?_)
      obtain ⟨hP, hD⟩ := gs_back ht hFc hB
      generalize H1 = H at hP hS ⊢
      obtain ⟨b13, rfl, h⟩ := hw
      try dsimp only at h
      refine lv_if_eq (tgt := 111) hx hb dX8_joined_104 (by decide) (fun c14 => ?_) (fun c14 => ?_)
      · have h := h.1 c14
        refine lv_lconst (v := 0) hx hb dX8_joined_111 (by decide) ?_
        exact W.lret (v := (0 : Int64)) hx hb hr (fun t ht hW => ⟨⟨_, (), rfl, h, by rw [ht]; exact hP, va_K.moved hW.alike hK, hD⟩, hS.F ht⟩) hS.2.2 dX8_joined_112
      · have h := h.2 c14
        refine lv_lconst (v := 1) hx hb dX8_joined_107 (by decide) ?_
        refine lv_goto (tgt := 112) hx hb dX8_joined_108 (by decide) ?_
        exact W.lret (v := (1 : Int64)) hx hb hr (fun t ht hW => ⟨⟨_, (), rfl, h, by rw [ht]; exact hP, va_K.moved hW.alike hK, hD⟩, hS.F ht⟩) hS.2.2 dX8_joined_112
    have h := h.2 c11
    by_cases c15 : p1 = (-16 : Int32)
    · have h := h.1 c15
      refine lv_tableIn (tgt := 98) hx hb dX8_joined_1 (by rw [c15]; decide) (by rw [c15]; decide) (by rw [c15]; rfl) (by decide) ?_
      refine lv_iload_n hx hb dX8_joined_98 rfl (lv_at hl 0 rfl) ?_
      refine lv_lload_n hx hb dX8_joined_99 rfl (lv_at hl 1 rfl) ?_
      refine lv_lload_n hx hb dX8_joined_100 rfl (lv_at hl 2 rfl) ?_
      have hFc := gs_free hD hS hA
      refine va_calli (va_runS (As := [.int p1, .long p2, .long p3]) (rest := []) ⟨hx, hb, hml, hown, hts⟩ (kX8_compares l dC dI cB cI cJ cZ  H.size p1 p2 p3  _ h) (cwS 3 hts gX8_joined_X8_compares rfl rfl rfl (by decide +kernel) ⟨Nat.le_of_ble_eq_true rfl, Nat.le_of_ble_eq_true rfl⟩) (e0pS hK hP hD) rfl rfl hl.1 rfl (lv_room (Nat.le_of_ble_eq_true rfl)) dX8_joined_101 ⟨Nat.le_of_ble_eq_true rfl, Nat.le_of_ble_eq_true rfl⟩) hS (fun q _ z => hFc q z) hFc (fun r16 u t H1 locs ht hvm hw hB hz1 hk1 hS => ?_)
      obtain ⟨hP, hD⟩ := gs_back ht hFc hB
      generalize H1 = H at hP hS ⊢
      obtain ⟨b17, rfl, h⟩ := hw
      try dsimp only at h
      refine lv_if_eq (tgt := 111) hx hb dX8_joined_104 (by decide) (fun c18 => ?_) (fun c18 => ?_)
      · have h := h.1 c18
        refine lv_lconst (v := 0) hx hb dX8_joined_111 (by decide) ?_
        exact W.lret (v := (0 : Int64)) hx hb hr (fun t ht hW => ⟨⟨_, (), rfl, h, by rw [ht]; exact hP, va_K.moved hW.alike hK, hD⟩, hS.F ht⟩) hS.2.2 dX8_joined_112
      · have h := h.2 c18
        refine lv_lconst (v := 1) hx hb dX8_joined_107 (by decide) ?_
        refine lv_goto (tgt := 112) hx hb dX8_joined_108 (by decide) ?_
        exact W.lret (v := (1 : Int64)) hx hb hr (fun t ht hW => ⟨⟨_, (), rfl, h, by rw [ht]; exact hP, va_K.moved hW.alike hK, hD⟩, hS.F ht⟩) hS.2.2 dX8_joined_112
    have h := h.2 c15
    by_cases c19 : p1 = (-15 : Int32)
    · have h := h.1 c19
      refine lv_tableIn (tgt := 98) hx hb dX8_joined_1 (by rw [c19]; decide) (by rw [c19]; decide) (by rw [c19]; rfl) (by decide) ?_
      refine lv_iload_n hx hb dX8_joined_98 rfl (lv_at hl 0 rfl) ?_
      refine lv_lload_n hx hb dX8_joined_99 rfl (lv_at hl 1 rfl) ?_
      refine lv_lload_n hx hb dX8_joined_100 rfl (lv_at hl 2 rfl) ?_
      have hFc := gs_free hD hS hA
      refine va_calli (va_runS (As := [.int p1, .long p2, .long p3]) (rest := []) ⟨hx, hb, hml, hown, hts⟩ (kX8_compares l dC dI cB cI cJ cZ  H.size p1 p2 p3  _ h) (cwS 3 hts gX8_joined_X8_compares rfl rfl rfl (by decide +kernel) ⟨Nat.le_of_ble_eq_true rfl, Nat.le_of_ble_eq_true rfl⟩) (e0pS hK hP hD) rfl rfl hl.1 rfl (lv_room (Nat.le_of_ble_eq_true rfl)) dX8_joined_101 ⟨Nat.le_of_ble_eq_true rfl, Nat.le_of_ble_eq_true rfl⟩) hS (fun q _ z => hFc q z) hFc (fun r20 u t H1 locs ht hvm hw hB hz1 hk1 hS => ?_)
      obtain ⟨hP, hD⟩ := gs_back ht hFc hB
      generalize H1 = H at hP hS ⊢
      obtain ⟨b21, rfl, h⟩ := hw
      try dsimp only at h
      refine lv_if_eq (tgt := 111) hx hb dX8_joined_104 (by decide) (fun c22 => ?_) (fun c22 => ?_)
      · have h := h.1 c22
        refine lv_lconst (v := 0) hx hb dX8_joined_111 (by decide) ?_
        exact W.lret (v := (0 : Int64)) hx hb hr (fun t ht hW => ⟨⟨_, (), rfl, h, by rw [ht]; exact hP, va_K.moved hW.alike hK, hD⟩, hS.F ht⟩) hS.2.2 dX8_joined_112
      · have h := h.2 c22
        refine lv_lconst (v := 1) hx hb dX8_joined_107 (by decide) ?_
        refine lv_goto (tgt := 112) hx hb dX8_joined_108 (by decide) ?_
        exact W.lret (v := (1 : Int64)) hx hb hr (fun t ht hW => ⟨⟨_, (), rfl, h, by rw [ht]; exact hP, va_K.moved hW.alike hK, hD⟩, hS.F ht⟩) hS.2.2 dX8_joined_112
    have h := h.2 c19
    by_cases c23 : p1 = (-14 : Int32)
    · have h := h.1 c23
      refine lv_tableIn (tgt := 98) hx hb dX8_joined_1 (by rw [c23]; decide) (by rw [c23]; decide) (by rw [c23]; rfl) (by decide) ?_
      refine lv_iload_n hx hb dX8_joined_98 rfl (lv_at hl 0 rfl) ?_
      refine lv_lload_n hx hb dX8_joined_99 rfl (lv_at hl 1 rfl) ?_
      refine lv_lload_n hx hb dX8_joined_100 rfl (lv_at hl 2 rfl) ?_
      have hFc := gs_free hD hS hA
      refine va_calli (va_runS (As := [.int p1, .long p2, .long p3]) (rest := []) ⟨hx, hb, hml, hown, hts⟩ (kX8_compares l dC dI cB cI cJ cZ  H.size p1 p2 p3  _ h) (cwS 3 hts gX8_joined_X8_compares rfl rfl rfl (by decide +kernel) ⟨Nat.le_of_ble_eq_true rfl, Nat.le_of_ble_eq_true rfl⟩) (e0pS hK hP hD) rfl rfl hl.1 rfl (lv_room (Nat.le_of_ble_eq_true rfl)) dX8_joined_101 ⟨Nat.le_of_ble_eq_true rfl, Nat.le_of_ble_eq_true rfl⟩) hS (fun q _ z => hFc q z) hFc (fun r24 u t H1 locs ht hvm hw hB hz1 hk1 hS => ?_)
      obtain ⟨hP, hD⟩ := gs_back ht hFc hB
      generalize H1 = H at hP hS ⊢
      obtain ⟨b25, rfl, h⟩ := hw
      try dsimp only at h
      refine lv_if_eq (tgt := 111) hx hb dX8_joined_104 (by decide) (fun c26 => ?_) (fun c26 => ?_)
      · have h := h.1 c26
        refine lv_lconst (v := 0) hx hb dX8_joined_111 (by decide) ?_
        exact W.lret (v := (0 : Int64)) hx hb hr (fun t ht hW => ⟨⟨_, (), rfl, h, by rw [ht]; exact hP, va_K.moved hW.alike hK, hD⟩, hS.F ht⟩) hS.2.2 dX8_joined_112
      · have h := h.2 c26
        refine lv_lconst (v := 1) hx hb dX8_joined_107 (by decide) ?_
        refine lv_goto (tgt := 112) hx hb dX8_joined_108 (by decide) ?_
        exact W.lret (v := (1 : Int64)) hx hb hr (fun t ht hW => ⟨⟨_, (), rfl, h, by rw [ht]; exact hP, va_K.moved hW.alike hK, hD⟩, hS.F ht⟩) hS.2.2 dX8_joined_112
    have h := h.2 c23
    by_cases c27 : p1 = (-13 : Int32)
    · have h := h.1 c27
      refine lv_tableIn (tgt := 76) hx hb dX8_joined_1 (by rw [c27]; decide) (by rw [c27]; decide) (by rw [c27]; rfl) (by decide) ?_
      refine lv_lload_n hx hb dX8_joined_76 rfl (lv_at hl 2 rfl) ?_
      refine lv_lconst (v := 0) hx hb dX8_joined_77 (by decide) ?_
      refine W.lcmp hx hb dX8_joined_78 ?_
      refine lv_if_ne (tgt := 86) hx hb dX8_joined_79 (by decide) (fun c28 => ?_) (fun c28 => ?_)
      · have h := h.2 c28
        refine lv_lload_n hx hb dX8_joined_86 rfl (lv_at hl 1 rfl) ?_
        refine lv_lload_n hx hb dX8_joined_87 rfl (lv_at hl 2 rfl) ?_
        refine lv_ldiv hx hb dX8_joined_88 h.1 ?_
        have h := h.2
        exact W.lret (v := (p2 / p3)) hx hb hr (fun t ht hW => ⟨⟨_, (), rfl, h, by rw [ht]; exact hP, va_K.moved hW.alike hK, hD⟩, hS.F ht⟩) hS.2.2 dX8_joined_89
      · have h := h.1 c28
        refine lv_lconst (v := 0) hx hb dX8_joined_82 (by decide) ?_
        refine lv_goto (tgt := 89) hx hb dX8_joined_83 (by decide) ?_
        exact W.lret (v := (0 : Int64)) hx hb hr (fun t ht hW => ⟨⟨_, (), rfl, h, by rw [ht]; exact hP, va_K.moved hW.alike hK, hD⟩, hS.F ht⟩) hS.2.2 dX8_joined_89
    have h := h.2 c27
    by_cases c29 : p1 = (-12 : Int32)
    · have h := h.1 c29
      refine lv_tableIn (tgt := 72) hx hb dX8_joined_1 (by rw [c29]; decide) (by rw [c29]; decide) (by rw [c29]; rfl) (by decide) ?_
      refine lv_lload_n hx hb dX8_joined_72 rfl (lv_at hl 1 rfl) ?_
      refine lv_lload_n hx hb dX8_joined_73 rfl (lv_at hl 2 rfl) ?_
      refine lv_lmul hx hb dX8_joined_74 ?_
      exact W.lret (v := (p2 * p3)) hx hb hr (fun t ht hW => ⟨⟨_, (), rfl, h, by rw [ht]; exact hP, va_K.moved hW.alike hK, hD⟩, hS.F ht⟩) hS.2.2 dX8_joined_75
    have h := h.2 c29
    by_cases c30 : p1 = (-11 : Int32)
    · have h := h.1 c30
      refine lv_tableIn (tgt := 68) hx hb dX8_joined_1 (by rw [c30]; decide) (by rw [c30]; decide) (by rw [c30]; rfl) (by decide) ?_
      refine lv_lload_n hx hb dX8_joined_68 rfl (lv_at hl 1 rfl) ?_
      refine lv_lload_n hx hb dX8_joined_69 rfl (lv_at hl 2 rfl) ?_
      refine lv_lsub hx hb dX8_joined_70 ?_
      exact W.lret (v := (p2 - p3)) hx hb hr (fun t ht hW => ⟨⟨_, (), rfl, h, by rw [ht]; exact hP, va_K.moved hW.alike hK, hD⟩, hS.F ht⟩) hS.2.2 dX8_joined_71
    have h := h.2 c30
    by_cases c31 : p1 = (-10 : Int32)
    · have h := h.1 c31
      refine lv_tableIn (tgt := 64) hx hb dX8_joined_1 (by rw [c31]; decide) (by rw [c31]; decide) (by rw [c31]; rfl) (by decide) ?_
      refine lv_lload_n hx hb dX8_joined_64 rfl (lv_at hl 1 rfl) ?_
      refine lv_lload_n hx hb dX8_joined_65 rfl (lv_at hl 2 rfl) ?_
      refine lv_ladd hx hb dX8_joined_66 ?_
      exact W.lret (v := (p2 + p3)) hx hb hr (fun t ht hW => ⟨⟨_, (), rfl, h, by rw [ht]; exact hP, va_K.moved hW.alike hK, hD⟩, hS.F ht⟩) hS.2.2 dX8_joined_67
    have h := h.2 c31
    refine lv_tableOut (tgt := 98) hx hb dX8_joined_1 (by have qc1 : p1.toInt ≠ -21 := fun q => c1 (Int32.toInt_inj.mp (q.trans (by decide))); have qc2 : p1.toInt ≠ -20 := fun q => c2 (Int32.toInt_inj.mp (q.trans (by decide))); have qc3 : p1.toInt ≠ -19 := fun q => c3 (Int32.toInt_inj.mp (q.trans (by decide))); have qc7 : p1.toInt ≠ -18 := fun q => c7 (Int32.toInt_inj.mp (q.trans (by decide))); have qc11 : p1.toInt ≠ -17 := fun q => c11 (Int32.toInt_inj.mp (q.trans (by decide))); have qc15 : p1.toInt ≠ -16 := fun q => c15 (Int32.toInt_inj.mp (q.trans (by decide))); have qc19 : p1.toInt ≠ -15 := fun q => c19 (Int32.toInt_inj.mp (q.trans (by decide))); have qc23 : p1.toInt ≠ -14 := fun q => c23 (Int32.toInt_inj.mp (q.trans (by decide))); have qc27 : p1.toInt ≠ -13 := fun q => c27 (Int32.toInt_inj.mp (q.trans (by decide))); have qc29 : p1.toInt ≠ -12 := fun q => c29 (Int32.toInt_inj.mp (q.trans (by decide))); have qc30 : p1.toInt ≠ -11 := fun q => c30 (Int32.toInt_inj.mp (q.trans (by decide))); have qc31 : p1.toInt ≠ -10 := fun q => c31 (Int32.toInt_inj.mp (q.trans (by decide))); omega) (by decide) ?_
    refine lv_iload_n hx hb dX8_joined_98 rfl (lv_at hl 0 rfl) ?_
    refine lv_lload_n hx hb dX8_joined_99 rfl (lv_at hl 1 rfl) ?_
    refine lv_lload_n hx hb dX8_joined_100 rfl (lv_at hl 2 rfl) ?_
    have hFc := gs_free hD hS hA
    refine va_calli (va_runS (As := [.int p1, .long p2, .long p3]) (rest := []) ⟨hx, hb, hml, hown, hts⟩ (kX8_compares l dC dI cB cI cJ cZ  H.size p1 p2 p3  _ h) (cwS 3 hts gX8_joined_X8_compares rfl rfl rfl (by decide +kernel) ⟨Nat.le_of_ble_eq_true rfl, Nat.le_of_ble_eq_true rfl⟩) (e0pS hK hP hD) rfl rfl hl.1 rfl (lv_room (Nat.le_of_ble_eq_true rfl)) dX8_joined_101 ⟨Nat.le_of_ble_eq_true rfl, Nat.le_of_ble_eq_true rfl⟩) hS (fun q _ z => hFc q z) hFc (fun r32 u t H1 locs ht hvm hw hB hz1 hk1 hS => ?_)
    obtain ⟨hP, hD⟩ := gs_back ht hFc hB
    generalize H1 = H at hP hS ⊢
    obtain ⟨b33, rfl, h⟩ := hw
    try dsimp only at h
    refine lv_if_eq (tgt := 111) hx hb dX8_joined_104 (by decide) (fun c34 => ?_) (fun c34 => ?_)
    · have h := h.1 c34
      refine lv_lconst (v := 0) hx hb dX8_joined_111 (by decide) ?_
      exact W.lret (v := (0 : Int64)) hx hb hr (fun t ht hW => ⟨⟨_, (), rfl, h, by rw [ht]; exact hP, va_K.moved hW.alike hK, hD⟩, hS.F ht⟩) hS.2.2 dX8_joined_112
    · have h := h.2 c34
      refine lv_lconst (v := 1) hx hb dX8_joined_107 (by decide) ?_
      refine lv_goto (tgt := 112) hx hb dX8_joined_108 (by decide) ?_
      exact W.lret (v := (1 : Int64)) hx hb hr (fun t ht hW => ⟨⟨_, (), rfl, h, by rw [ht]; exact hP, va_K.moved hW.alike hK, hD⟩, hS.F ht⟩) hS.2.2 dX8_joined_112
  have hl := lv_entry ([.int p1, .long p2, .long p3]) (n := 5) (Nat.le_of_ble_eq_true rfl)
  rw [lg_entry_eq]
  generalize (lg_sl ([.int p1, .long p2, .long p3]) ++ List.replicate (5 - (lg_sl ([.int p1, .long p2, .long p3])).length) Slot.unset).toArray = ls at hl ⊢
  have hl : lv_has ls 5 [(0, .int p1), (1, .long p2), (3, .long p3)] := hl
  exact bE  s.heap [] ls hP hD hS hl h
def wX8_holds_169  (Q : Bool → gS → gS → Prop)  (M0 : gS) (M1 : gS) : Prop :=
 (Q true M0 M1)
def wX8_holds_153  (Q : Bool → gS → gS → Prop) (y4 : Int32) (M0 : gS) (M1 : gS) : Prop :=
 ((y4 = 0 → (wX8_holds_169  Q M0 M1))
 ∧ (¬ y4 = 0 → (((lg_cmp (ml M0 5 0) (0 : Int64)) = 0 → (Q false M0 M1))
 ∧ (¬ (lg_cmp (ml M0 5 0) (0 : Int64)) = 0 → (wX8_holds_169  Q M0 M1)))))
def wX8_holds_147 (B6 : Int32 → Int32 → Int32 → gS → gS → Prop) (Q : Bool → gS → gS → Prop) (y2 : Int32) (y4 : Int32) (y5 : Int32) (M0 : gS) (M1 : gS) : Prop :=
 (∀ x1 : Int32, x1 = y5 + (1 : Int32) → (B6 y2 y4 x1 M0 M1))
def wX8_holds_66 (B6 : Int32 → Int32 → Int32 → gS → gS → Prop) (Q : Bool → gS → gS → Prop) (y2 : Int32) (y4 : Int32) (y5 : Int32) (z1 : Int32) (z0 : Int64) (M0 : gS) (M1 : gS) : Prop :=
 (vp_in z1 60 ∧ (∀ N1 : gS, N1 = sl M0 5 (Int32.toNatClampNeg z1) z0 → (∀ x2 : Int32, x2 = y4 + (1 : Int32) → (wX8_holds_147 B6 Q y2 x2 y5 N1 M1))))
def wX8_holds_6  (Q : Bool → gS → gS → Prop) : Nat → Int32 → Int32 → Int32 → gS → gS → Prop
 | 0, _, _, _, _, _ => False
 | n + 1, y2, y4, y5, M0, M1 => ((y2 ≤ y5 → (wX8_holds_153  Q y4 M0 M1))
 ∧ (¬ y2 ≤ y5 → (((400 : Int32) ≤ y5 → (wX8_holds_153  Q y4 M0 M1))
 ∧ (¬ (400 : Int32) ≤ y5 → (vp_in y5 400 ∧ (∀ x3 : Int32, x3 = (ma M0 3 (Int32.toNatClampNeg y5)) → ((x3 < (-9 : Int32) → ((x3 = (-19 : Int32) → ((y4 ≤ 0 → (wX8_holds_147 (fun (y2 : Int32) (y4 : Int32) (y5 : Int32) (M0 : gS) (M1 : gS) => wX8_holds_6  Q n y2 y4 y5 M0 M1) Q y2 y4 y5 M0 M1))
 ∧ (¬ y4 ≤ 0 → (vp_in (y4 - (1 : Int32)) 60 ∧ (∀ x11 : Int64, x11 = ((1 : Int64) - (ml M0 5 (Int32.toNatClampNeg (y4 - (1 : Int32))))) → (vp_in (y4 - (1 : Int32)) 60 ∧ (∀ N12 : gS, N12 = sl M0 5 (Int32.toNatClampNeg (y4 - (1 : Int32))) x11 → (wX8_holds_147 (fun (y2 : Int32) (y4 : Int32) (y5 : Int32) (M0 : gS) (M1 : gS) => wX8_holds_6  Q n y2 y4 y5 M0 M1) Q y2 y4 y5 N12 M1))))))))
 ∧ (¬ x3 = (-19 : Int32) → ((y4 ≤ (1 : Int32) → (wX8_holds_147 (fun (y2 : Int32) (y4 : Int32) (y5 : Int32) (M0 : gS) (M1 : gS) => wX8_holds_6  Q n y2 y4 y5 M0 M1) Q y2 y4 y5 M0 M1))
 ∧ (¬ y4 ≤ (1 : Int32) → (∀ x7 : Int32, x7 = y4 + (-1 : Int32) → (vp_in (x7 - (1 : Int32)) 60 ∧ (vp_in x7 60 ∧ (wX8_joined x3 (ml M0 5 (Int32.toNatClampNeg (x7 - (1 : Int32)))) (ml M0 5 (Int32.toNatClampNeg x7))  (fun (r8 : Int64)  => (vp_in (x7 - (1 : Int32)) 60 ∧ (∀ N9 : gS, N9 = sl M0 5 (Int32.toNatClampNeg (x7 - (1 : Int32))) r8 → (wX8_holds_147 (fun (y2 : Int32) (y4 : Int32) (y5 : Int32) (M0 : gS) (M1 : gS) => wX8_holds_6  Q n y2 y4 y5 M0 M1) Q y2 x7 y5 N9 M1)))))))))))))
 ∧ (¬ x3 < (-9 : Int32) → (((60 : Int32) ≤ y4 → (wX8_holds_147 (fun (y2 : Int32) (y4 : Int32) (y5 : Int32) (M0 : gS) (M1 : gS) => wX8_holds_6  Q n y2 y4 y5 M0 M1) Q y2 y4 y5 M0 M1))
 ∧ (¬ (60 : Int32) ≤ y4 → ((x3 < 0 → (wX6_ownWord x3 M1 (fun (r15 : Int64) (N16 : gS) => (wX8_holds_66 (fun (y2 : Int32) (y4 : Int32) (y5 : Int32) (M0 : gS) (M1 : gS) => wX8_holds_6  Q n y2 y4 y5 M0 M1) Q y2 y4 y5 y4 r15 M0 N16))))
 ∧ (¬ x3 < 0 → (wX8_holds_66 (fun (y2 : Int32) (y4 : Int32) (y5 : Int32) (M0 : gS) (M1 : gS) => wX8_holds_6  Q n y2 y4 y5 M0 M1) Q y2 y4 y5 y4 (Int32.toInt64 x3) M0 M1)))))))))))))
def wX8_holds (p1 : Int32) (p2 : Int32) (M0 : gS) (M1 : gS) (Q : Bool → gS → gS → Prop) : Prop :=
 (∃ k6 : Nat, wX8_holds_6  Q k6 p2 (0 : Int32) p1 M0 M1)
def rmX8_holds : Room := { frames := 2, cells := 0, slots := 0, locals := 48 }
set_option maxHeartbeats 4000000 in
set_option maxRecDepth 100000 in
theorem kX8_holds (l : Launch) (dC : Nat → ClassId) (dI : Nat → Nat → Nat) (cB cI cJ cZ : ClassId) (h0 : Nat) (a0 : Nat → Nat) (h1 : Nat) (a1 : Nat → Nat) (sz : Nat) (p1 : Int32) (p2 : Int32) (M0 : gS) (M1 : gS) (Q : Bool → gS → gS → Prop) (h : wX8_holds p1 p2 M0 M1 Q) : Met l yX8_holds wsX8_holds rmX8_holds (va_Pc [.ref h0, .int p1, .int p2, .ref h1] (rqI dC dI cB cI cJ cZ h0 a0 h1 a1 M0 M1 sz)) (va_Qi (fun (r : Int32) (u : gS × gS) => ∃ b : Bool, r = bI b ∧ Q b u.1 u.2) (rqB dC dI cB cI cJ cZ h0 a0 h1 a1 (va_A (rqW cB cI cJ cZ h0 a0 h1 a1 M0 M1) sz)) (va_A (rqW cB cI cJ cZ h0 a0 h1 a1 M0 M1) sz)) 0 0 (va_A (rqW cB cI cJ cZ h0 a0 h1 a1 M0 M1) sz) := by
  refine Met.ofW (cc := cX8_holds) (maxL := 7) (ret := (some .boolean)) (by decide) rfl ?_
  intro p e s m args below meth c s₁ B hml hv
  obtain ⟨rfl, hsz, hP, hK, hD0⟩ := hv
  have hx := B.exec
  have hb := B.bytes
  have hr := B.returns
  have hts := atoms_spec (ws := wsX8_holds) B.pre
  have hown : s.vm.findClass RX8 = some m.cls := findClass_of_methodNamed B.named
  have hlocks := B.notSynchronized
  subst hsz
  have hD := hD0.self (sz := s.heap.size)
  generalize hAe : va_A (rqW cB cI cJ cZ h0 a0 h1 a1 M0 M1) s.heap.size = A at hD ⊢
  have hA : ∀ q : Nat, s.heap.size ≤ q → A q := fun q h => by rw [← hAe]; exact Or.inr h
  have hS : va_S A s.heap s.heap [] := va_S.rf
  have hinX8 : ∀ w ∈ wsX80, w ∈ wsX8_holds := by decide +kernel
  have f1 := hts (.fieldLink RX8 21 "LastWords$Rule" "stack" "[J") (by decide +kernel)
  have f2 := hts (.fieldLink RX8 18 "LastWords$Rule" "codes" "[I") (by decide +kernel)
  have b169 : ∀  (M0 : gS) (M1 : gS) (H : Heap) (locs : List Loc) (ls : Array Slot), va_P (dC, dI) vwCl (rqW cB cI cJ cZ h0 a0 h1 a1 M0 M1) H → va_D A (rqW cB cI cJ cZ h0 a0 h1 a1 M0 M1) → va_S A s.heap H locs → lv_has ls 7 [] → wX8_holds_169  Q M0 M1 → W p l e (headSpec wsX8_holds rmX8_holds).room s m ([.ref h0, .int p1, .int p2, .ref h1] : List Value).toArray below meth c H locs 0 0 (MQ below (va_Qi (fun (r : Int32) (u : gS × gS) => ∃ b : Bool, r = bI b ∧ Q b u.1 u.2) (rqB dC dI cB cI cJ cZ h0 a0 h1 a1 A) A) ([.ref h0, .int p1, .int p2, .ref h1] : List Value).toArray s 0 0 A) (F0 m 169 ls []) := by
    intro  M0 M1 H locs ls hP hD hS hl h
    unfold wX8_holds_169 at h
    refine lv_iconst (v := 1) hx hb dX8_holds_169 (by decide) ?_
    refine lv_goto (tgt := 174) hx hb dX8_holds_170 (by decide) ?_
    exact W.zret (v := (bI true)) hx hb hr (nar_bI true) (fun t ht hW => ⟨⟨_, (M0, M1), rfl, ⟨true, rfl, h⟩, by rw [ht]; exact hP, va_K.moved hW.alike hK, hD⟩, hS.F ht⟩) hS.2.2 dX8_holds_174
  have b153 : ∀ (y4 : Int32) (M0 : gS) (M1 : gS) (H : Heap) (locs : List Loc) (ls : Array Slot), va_P (dC, dI) vwCl (rqW cB cI cJ cZ h0 a0 h1 a1 M0 M1) H → va_D A (rqW cB cI cJ cZ h0 a0 h1 a1 M0 M1) → va_S A s.heap H locs → lv_has ls 7 [(0, .ref h0), (4, .int y4)] → wX8_holds_153  Q y4 M0 M1 → W p l e (headSpec wsX8_holds rmX8_holds).room s m ([.ref h0, .int p1, .int p2, .ref h1] : List Value).toArray below meth c H locs 0 0 (MQ below (va_Qi (fun (r : Int32) (u : gS × gS) => ∃ b : Bool, r = bI b ∧ Q b u.1 u.2) (rqB dC dI cB cI cJ cZ h0 a0 h1 a1 A) A) ([.ref h0, .int p1, .int p2, .ref h1] : List Value).toArray s 0 0 A) (F0 m 153 ls []) := by
    intro  y4 M0 M1 H locs ls hP hD hS hl h
    unfold wX8_holds_153 at h
    refine lv_iload hx hb dX8_holds_153 (lv_at hl 1 rfl) ?_
    refine lv_if_eq (tgt := 169) hx hb dX8_holds_155 (by decide) (fun c1 => ?_) (fun c1 => ?_)
    · have h := h.1 c1
      exact b169  M0 M1 H locs ls hP hD hS (lv_sub hl [] rfl) h
    · have h := h.2 c1
      refine lv_aload_n hx hb dX8_holds_158 rfl (lv_at hl 0 rfl) ?_
      refine va_get (D := (dC, dI)) (ci := 8) (v := .ref (a0 5)) (C := RX8) (T := TX8) (N := 6) hx hb hts hinX8 hown hK hP 0 rfl rfl 5 (by decide) f1 (fun _ h9 => h9) rfl dX8_holds_159 ?_
      refine lv_iconst (v := 0) hx hb dX8_holds_162 (by decide) ?_
      refine wc_lald (j := 0) hx hb hK hP 4 2 (f := ml M0 5) rfl rfl (by decide) (by decide) (by decide) dX8_holds_163 ?_
      refine lv_lconst (v := 0) hx hb dX8_holds_164 (by decide) ?_
      refine W.lcmp hx hb dX8_holds_165 ?_
      refine lv_if_eq (tgt := 173) hx hb dX8_holds_166 (by decide) (fun c2 => ?_) (fun c2 => ?_)
      · have h := h.1 c2
        refine lv_iconst (v := 0) hx hb dX8_holds_173 (by decide) ?_
        exact W.zret (v := (bI false)) hx hb hr (nar_bI false) (fun t ht hW => ⟨⟨_, (M0, M1), rfl, ⟨false, rfl, h⟩, by rw [ht]; exact hP, va_K.moved hW.alike hK, hD⟩, hS.F ht⟩) hS.2.2 dX8_holds_174
      · have h := h.2 c2
        exact b169  M0 M1 H locs ls hP hD hS (lv_sub hl [] rfl) h
  have b147 : ∀ (B6 : Int32 → Int32 → Int32 → gS → gS → Prop) (hB6 : ∀ (y2 : Int32) (y4 : Int32) (y5 : Int32) (M0 : gS) (M1 : gS) (H : Heap) (locs : List Loc) (ls : Array Slot), va_P (dC, dI) vwCl (rqW cB cI cJ cZ h0 a0 h1 a1 M0 M1) H → va_D A (rqW cB cI cJ cZ h0 a0 h1 a1 M0 M1) → va_S A s.heap H locs → lv_has ls 7 [(0, .ref h0), (2, .int y2), (3, .ref h1), (4, .int y4), (5, .int y5)] → B6 y2 y4 y5 M0 M1 → W p l e (headSpec wsX8_holds rmX8_holds).room s m ([.ref h0, .int p1, .int p2, .ref h1] : List Value).toArray below meth c H locs 0 0 (MQ below (va_Qi (fun (r : Int32) (u : gS × gS) => ∃ b : Bool, r = bI b ∧ Q b u.1 u.2) (rqB dC dI cB cI cJ cZ h0 a0 h1 a1 A) A) ([.ref h0, .int p1, .int p2, .ref h1] : List Value).toArray s 0 0 A) (F0 m 6 ls [])) (y2 : Int32) (y4 : Int32) (y5 : Int32) (M0 : gS) (M1 : gS) (H : Heap) (locs : List Loc) (ls : Array Slot), va_P (dC, dI) vwCl (rqW cB cI cJ cZ h0 a0 h1 a1 M0 M1) H → va_D A (rqW cB cI cJ cZ h0 a0 h1 a1 M0 M1) → va_S A s.heap H locs → lv_has ls 7 [(0, .ref h0), (2, .int y2), (3, .ref h1), (4, .int y4), (5, .int y5)] → wX8_holds_147 B6 Q y2 y4 y5 M0 M1 → W p l e (headSpec wsX8_holds rmX8_holds).room s m ([.ref h0, .int p1, .int p2, .ref h1] : List Value).toArray below meth c H locs 0 0 (MQ below (va_Qi (fun (r : Int32) (u : gS × gS) => ∃ b : Bool, r = bI b ∧ Q b u.1 u.2) (rqB dC dI cB cI cJ cZ h0 a0 h1 a1 A) A) ([.ref h0, .int p1, .int p2, .ref h1] : List Value).toArray s 0 0 A) (F0 m 147 ls []) := by
    intro B6 hB6 y2 y4 y5 M0 M1 H locs ls hP hD hS hl h
    unfold wX8_holds_147 at h
    obtain ⟨x1, ex1⟩ : ∃ y : Int32, y = y5 + (1 : Int32) := ⟨_, rfl⟩
    have h := h x1 ex1
    refine lv_iinc (v := x1) (lv' := [(5, .int x1), (0, .ref h0), (2, .int y2), (3, .ref h1), (4, .int y4)]) hx hb dX8_holds_147 hl (k := 4) rfl (by rw [ex1]; rfl) (by decide) rfl (fun ls hl => ?_)
    refine lv_goto (tgt := 6) hx hb dX8_holds_150 (by decide) ?_
    exact hB6 y2 y4 x1 M0 M1 H locs ls hP hD hS (lv_sub hl [1, 2, 3, 4, 0] rfl) h
  have b66 : ∀ (B6 : Int32 → Int32 → Int32 → gS → gS → Prop) (hB6 : ∀ (y2 : Int32) (y4 : Int32) (y5 : Int32) (M0 : gS) (M1 : gS) (H : Heap) (locs : List Loc) (ls : Array Slot), va_P (dC, dI) vwCl (rqW cB cI cJ cZ h0 a0 h1 a1 M0 M1) H → va_D A (rqW cB cI cJ cZ h0 a0 h1 a1 M0 M1) → va_S A s.heap H locs → lv_has ls 7 [(0, .ref h0), (2, .int y2), (3, .ref h1), (4, .int y4), (5, .int y5)] → B6 y2 y4 y5 M0 M1 → W p l e (headSpec wsX8_holds rmX8_holds).room s m ([.ref h0, .int p1, .int p2, .ref h1] : List Value).toArray below meth c H locs 0 0 (MQ below (va_Qi (fun (r : Int32) (u : gS × gS) => ∃ b : Bool, r = bI b ∧ Q b u.1 u.2) (rqB dC dI cB cI cJ cZ h0 a0 h1 a1 A) A) ([.ref h0, .int p1, .int p2, .ref h1] : List Value).toArray s 0 0 A) (F0 m 6 ls [])) (y2 : Int32) (y4 : Int32) (y5 : Int32) (z1 : Int32) (z0 : Int64) (M0 : gS) (M1 : gS) (H : Heap) (locs : List Loc) (ls : Array Slot), va_P (dC, dI) vwCl (rqW cB cI cJ cZ h0 a0 h1 a1 M0 M1) H → va_D A (rqW cB cI cJ cZ h0 a0 h1 a1 M0 M1) → va_S A s.heap H locs → lv_has ls 7 [(0, .ref h0), (2, .int y2), (3, .ref h1), (4, .int y4), (5, .int y5)] → wX8_holds_66 B6 Q y2 y4 y5 z1 z0 M0 M1 → W p l e (headSpec wsX8_holds rmX8_holds).room s m ([.ref h0, .int p1, .int p2, .ref h1] : List Value).toArray below meth c H locs 0 0 (MQ below (va_Qi (fun (r : Int32) (u : gS × gS) => ∃ b : Bool, r = bI b ∧ Q b u.1 u.2) (rqB dC dI cB cI cJ cZ h0 a0 h1 a1 A) A) ([.ref h0, .int p1, .int p2, .ref h1] : List Value).toArray s 0 0 A) (F0 m 66 ls [.long z0, .int z1, .ref (a0 5)]) := by
    intro B6 hB6 y2 y4 y5 z1 z0 M0 M1 H locs ls hP hD hS hl h
    unfold wX8_holds_66 at h
    refine va_last hx hb hK hP hD hS 4 2 (f := ml M0 5) rfl rfl h.1 dX8_holds_66 (fun H locs hP hD hS => ?_)
    have h := h.2
    have hP := rqP_0_a5 hP
    have hD := rqD_0_a5 hD
    have h := h _ rfl
    generalize sl M0 5 (Int32.toNatClampNeg z1) z0 = N1 at hP hD h
    obtain ⟨x2, ex2⟩ : ∃ y : Int32, y = y4 + (1 : Int32) := ⟨_, rfl⟩
    have h := h x2 ex2
    refine lv_iinc (v := x2) (lv' := [(4, .int x2), (0, .ref h0), (2, .int y2), (3, .ref h1), (5, .int y5)]) hx hb dX8_holds_67 hl (k := 3) rfl (by rw [ex2]; rfl) (by decide) rfl (fun ls hl => ?_)
    refine lv_goto (tgt := 147) hx hb dX8_holds_70 (by decide) ?_
    exact b147 _ hB6 y2 x2 y5 N1 M1 H locs ls hP hD hS (lv_sub hl [1, 2, 3, 0, 4] rfl) h
  have b6 : ∀ (n : Nat) (y2 : Int32) (y4 : Int32) (y5 : Int32) (M0 : gS) (M1 : gS) (H : Heap) (locs : List Loc) (ls : Array Slot), va_P (dC, dI) vwCl (rqW cB cI cJ cZ h0 a0 h1 a1 M0 M1) H → va_D A (rqW cB cI cJ cZ h0 a0 h1 a1 M0 M1) → va_S A s.heap H locs → lv_has ls 7 [(0, .ref h0), (2, .int y2), (3, .ref h1), (4, .int y4), (5, .int y5)] → wX8_holds_6  Q n y2 y4 y5 M0 M1 → W p l e (headSpec wsX8_holds rmX8_holds).room s m ([.ref h0, .int p1, .int p2, .ref h1] : List Value).toArray below meth c H locs 0 0 (MQ below (va_Qi (fun (r : Int32) (u : gS × gS) => ∃ b : Bool, r = bI b ∧ Q b u.1 u.2) (rqB dC dI cB cI cJ cZ h0 a0 h1 a1 A) A) ([.ref h0, .int p1, .int p2, .ref h1] : List Value).toArray s 0 0 A) (F0 m 6 ls []) := by
    intro  n
    induction n with
    | zero => intro y2 y4 y5 M0 M1 H locs ls hP hD hS hl h; exact absurd h (by simp [wX8_holds_6])
    | succ n hB60 =>
      intro y2 y4 y5 M0 M1 H locs ls hP hD hS hl h
      have hB6 := hB60
      rw [wX8_holds_6] at h
      refine lv_iload hx hb dX8_holds_6 (lv_at hl 4 rfl) ?_
      refine lv_iload_n hx hb dX8_holds_8 rfl (lv_at hl 1 rfl) ?_
      refine lv_icmp_ge (tgt := 153) hx hb dX8_holds_9 (by decide) (fun c1 => ?_) (fun c1 => ?_)
      · have h := h.1 c1
        exact b153  y4 M0 M1 H locs ls hP hD hS (lv_sub hl [0, 3] rfl) h
      · have h := h.2 c1
        refine lv_iload hx hb dX8_holds_12 (lv_at hl 4 rfl) ?_
        refine lv_sipush (v := (400)) hx hb dX8_holds_14 (by decide) ?_
        refine lv_icmp_ge (tgt := 153) hx hb dX8_holds_17 (by decide) (fun c2 => ?_) (fun c2 => ?_)
        · have h := h.1 c2
          exact b153  y4 M0 M1 H locs ls hP hD hS (lv_sub hl [0, 3] rfl) h
        · have h := h.2 c2
          refine lv_aload_n hx hb dX8_holds_20 rfl (lv_at hl 0 rfl) ?_
          refine va_get (D := (dC, dI)) (ci := 8) (v := .ref (a0 3)) (C := RX8) (T := TX8) (N := 6) hx hb hts hinX8 hown hK hP 0 rfl rfl 3 (by decide) f2 (fun _ h9 => h9) rfl dX8_holds_21 ?_
          refine lv_iload hx hb dX8_holds_24 (lv_at hl 4 rfl) ?_
          refine va_iald hx hb hK hP 3 1 (f := ma M0 3) rfl rfl h.1 dX8_holds_26 ?_
          have h := h.2
          refine lv_topi (fun x3 ex3 => ?_)
          have h := h x3 ex3
          refine lv_istore (lv' := [(6, .int x3), (0, .ref h0), (2, .int y2), (3, .ref h1), (4, .int y4), (5, .int y5)]) hx hb dX8_holds_27 hl (by decide) rfl (fun ls hl => ?_)
          refine lv_iload hx hb dX8_holds_29 (lv_at hl 0 rfl) ?_
          refine lv_bipush (v := (-9)) hx hb dX8_holds_31 (by decide) ?_
          refine lv_icmp_lt (tgt := 73) hx hb dX8_holds_33 (by decide) (fun c4 => ?_) (fun c4 => ?_)
          · have h := h.1 c4
            refine lv_iload hx hb dX8_holds_73 (lv_at hl 0 rfl) ?_
            refine lv_bipush (v := (-19)) hx hb dX8_holds_75 (by decide) ?_
            refine lv_icmp_ne (tgt := 108) hx hb dX8_holds_77 (by decide) (fun c5 => ?_) (fun c5 => ?_)
            · have h := h.2 c5
              refine lv_iload hx hb dX8_holds_108 (lv_at hl 4 rfl) ?_
              refine lv_iconst (v := 1) hx hb dX8_holds_110 (by decide) ?_
              refine lv_icmp_le (tgt := 147) hx hb dX8_holds_111 (by decide) (fun c6 => ?_) (fun c6 => ?_)
              · have h := h.1 c6
                exact b147 _ hB6 y2 y4 y5 M0 M1 H locs ls hP hD hS (lv_sub hl [1, 2, 3, 4, 5] rfl) h
              · have h := h.2 c6
                obtain ⟨x7, ex7⟩ : ∃ y : Int32, y = y4 + (-1 : Int32) := ⟨_, rfl⟩
                have h := h x7 ex7
                refine lv_iinc (v := x7) (lv' := [(4, .int x7), (6, .int x3), (0, .ref h0), (2, .int y2), (3, .ref h1), (5, .int y5)]) hx hb dX8_holds_114 hl (k := 4) rfl (by rw [ex7]; rfl) (by decide) rfl (fun ls hl => ?_)
                refine lv_aload_n hx hb dX8_holds_117 rfl (lv_at hl 2 rfl) ?_
                refine va_get (D := (dC, dI)) (ci := 8) (v := .ref (a0 5)) (C := RX8) (T := TX8) (N := 6) hx hb hts hinX8 hown hK hP 0 rfl rfl 5 (by decide) f1 (fun _ h9 => h9) rfl dX8_holds_118 ?_
                refine lv_iload hx hb dX8_holds_121 (lv_at hl 0 rfl) ?_
                refine lv_iconst (v := 1) hx hb dX8_holds_123 (by decide) ?_
                refine lv_isub hx hb dX8_holds_124 ?_
                refine lv_iload hx hb dX8_holds_125 (lv_at hl 1 rfl) ?_
                refine lv_aload_n hx hb dX8_holds_127 rfl (lv_at hl 2 rfl) ?_
                refine va_get (D := (dC, dI)) (ci := 8) (v := .ref (a0 5)) (C := RX8) (T := TX8) (N := 6) hx hb hts hinX8 hown hK hP 0 rfl rfl 5 (by decide) f1 (fun _ h9 => h9) rfl dX8_holds_128 ?_
                refine lv_iload hx hb dX8_holds_131 (lv_at hl 0 rfl) ?_
                refine lv_iconst (v := 1) hx hb dX8_holds_133 (by decide) ?_
                refine lv_isub hx hb dX8_holds_134 ?_
                refine va_lald hx hb hK hP 4 2 (f := ml M0 5) rfl rfl h.1 dX8_holds_135 ?_
                have h := h.2
                refine lv_aload_n hx hb dX8_holds_136 rfl (lv_at hl 2 rfl) ?_
                refine va_get (D := (dC, dI)) (ci := 8) (v := .ref (a0 5)) (C := RX8) (T := TX8) (N := 6) hx hb hts hinX8 hown hK hP 0 rfl rfl 5 (by decide) f1 (fun _ h9 => h9) rfl dX8_holds_137 ?_
                refine lv_iload hx hb dX8_holds_140 (lv_at hl 0 rfl) ?_
                refine va_lald hx hb hK hP 4 2 (f := ml M0 5) rfl rfl h.1 dX8_holds_142 ?_
                have h := h.2
                have hPc := hP.sub (ws' := (e0W cB cI cJ cZ  )) [] rfl
                have hDc := hD.sub (ws' := (e0W cB cI cJ cZ  )) [] (by decide) rfl
                have hFc := va_free (wc := (e0W cB cI cJ cZ  )) hD hS hA [] rfl
                refine va_calll (va_runS (As := [.int x3, .long (ml M0 5 (Int32.toNatClampNeg (x7 - (1 : Int32)))), .long (ml M0 5 (Int32.toNatClampNeg x7))]) (rest := [.int (x7 - (1 : Int32)), .ref (a0 5)]) ⟨hx, hb, hml, hown, hts⟩ (kX8_joined l dC dI cB cI cJ cZ  H.size x3 (ml M0 5 (Int32.toNatClampNeg (x7 - (1 : Int32)))) (ml M0 5 (Int32.toNatClampNeg x7))  _ h) (cwS 3 hts gX8_holds_X8_joined rfl rfl rfl (by decide +kernel) ⟨Nat.le_of_ble_eq_true rfl, Nat.le_of_ble_eq_true rfl⟩) (e0pS hK hPc hDc) rfl rfl hl.1 rfl (lv_room (Nat.le_of_ble_eq_true rfl)) dX8_holds_143 ⟨Nat.le_of_ble_eq_true rfl, Nat.le_of_ble_eq_true rfl⟩) hS (fun q _ z => hFc q z) hFc (fun r8 u t H1 locs ht hvm hw hB hz1 hk1 hS => ?_)
                obtain ⟨hP1, hK1, hD1⟩ := hB
                rw [ht] at hP1
                obtain ⟨hP, hD⟩ := va_join (wr := [(h0, .inr (8, [.int (mg M0 0), .ref (a0 1), .ref (a0 2), .ref (a0 3), .int (mg M0 4), .ref (a0 5)])), (a0 1, .inl (cI, 12, .inl (ma M0 1))), (a0 2, .inl (cI, 12, .inl (ma M0 2))), (a0 3, .inl (cI, 400, .inl (ma M0 3))), (a0 5, .inl (cJ, 60, .inr (.inl (ml M0 5)))), (h1, .inr (6, [.int (mg M1 0), .int (mg M1 1), .int (mg M1 2), .int (mg M1 3), .int (mg M1 4), .int (mg M1 5), .int (mg M1 6), .ref (a1 7), .ref (a1 8), .ref (a1 9)])), (a1 7, .inl (cI, 2, .inl (ma M1 7))), (a1 8, .inl (cI, 2, .inl (ma M1 8))), (a1 9, .inl (cI, 2, .inl (ma M1 9)))]) (w1 := (e0W cB cI cJ cZ  )) hP hD [] [0, 1, 2, 3, 4, 5, 6, 7, 8] rfl rfl (by decide) (by decide) hk1 hFc hP1 hD1
                have hP := hP.sub (ws' := (rqW cB cI cJ cZ h0 a0 h1 a1 M0 M1)) [0, 1, 2, 3, 4, 5, 6, 7, 8] rfl
                have hD := hD.sub (ws' := (rqW cB cI cJ cZ h0 a0 h1 a1 M0 M1)) [0, 1, 2, 3, 4, 5, 6, 7, 8] (by decide) rfl
                generalize H1 = H at hP hS ⊢
                have h := hw
                try dsimp only at h
                refine va_last hx hb hK hP hD hS 4 2 (f := ml M0 5) rfl rfl h.1 dX8_holds_146 (fun H locs hP hD hS => ?_)
                have h := h.2
                have hP := rqP_0_a5 hP
                have hD := rqD_0_a5 hD
                have h := h _ rfl
                generalize sl M0 5 (Int32.toNatClampNeg (x7 - (1 : Int32))) r8 = N9 at hP hD h
                exact b147 _ hB6 y2 x7 y5 N9 M1 H locs ls hP hD hS (lv_sub hl [2, 3, 4, 0, 5] rfl) h
            · have h := h.1 c5
              refine lv_iload hx hb dX8_holds_80 (lv_at hl 4 rfl) ?_
              refine lv_if_le (tgt := 147) hx hb dX8_holds_82 (by decide) (fun c10 => ?_) (fun c10 => ?_)
              · have h := h.1 c10
                exact b147 _ hB6 y2 y4 y5 M0 M1 H locs ls hP hD hS (lv_sub hl [1, 2, 3, 4, 5] rfl) h
              · have h := h.2 c10
                refine lv_aload_n hx hb dX8_holds_85 rfl (lv_at hl 1 rfl) ?_
                refine va_get (D := (dC, dI)) (ci := 8) (v := .ref (a0 5)) (C := RX8) (T := TX8) (N := 6) hx hb hts hinX8 hown hK hP 0 rfl rfl 5 (by decide) f1 (fun _ h9 => h9) rfl dX8_holds_86 ?_
                refine lv_iload hx hb dX8_holds_89 (lv_at hl 4 rfl) ?_
                refine lv_iconst (v := 1) hx hb dX8_holds_91 (by decide) ?_
                refine lv_isub hx hb dX8_holds_92 ?_
                refine lv_lconst (v := 1) hx hb dX8_holds_93 (by decide) ?_
                refine lv_aload_n hx hb dX8_holds_94 rfl (lv_at hl 1 rfl) ?_
                refine va_get (D := (dC, dI)) (ci := 8) (v := .ref (a0 5)) (C := RX8) (T := TX8) (N := 6) hx hb hts hinX8 hown hK hP 0 rfl rfl 5 (by decide) f1 (fun _ h9 => h9) rfl dX8_holds_95 ?_
                refine lv_iload hx hb dX8_holds_98 (lv_at hl 4 rfl) ?_
                refine lv_iconst (v := 1) hx hb dX8_holds_100 (by decide) ?_
                refine lv_isub hx hb dX8_holds_101 ?_
                refine va_lald hx hb hK hP 4 2 (f := ml M0 5) rfl rfl h.1 dX8_holds_102 ?_
                have h := h.2
                refine lv_lsub hx hb dX8_holds_103 ?_
                refine lv_topl (fun x11 ex11 => ?_)
                have h := h x11 ex11
                refine va_last hx hb hK hP hD hS 4 2 (f := ml M0 5) rfl rfl h.1 dX8_holds_104 (fun H locs hP hD hS => ?_)
                have h := h.2
                have hP := rqP_0_a5 hP
                have hD := rqD_0_a5 hD
                have h := h _ rfl
                generalize sl M0 5 (Int32.toNatClampNeg (y4 - (1 : Int32))) x11 = N12 at hP hD h
                refine lv_goto (tgt := 147) hx hb dX8_holds_105 (by decide) ?_
                exact b147 _ hB6 y2 y4 y5 N12 M1 H locs ls hP hD hS (lv_sub hl [1, 2, 3, 4, 5] rfl) h
          · have h := h.2 c4
            refine lv_iload hx hb dX8_holds_36 (lv_at hl 4 rfl) ?_
            refine lv_bipush (v := (60)) hx hb dX8_holds_38 (by decide) ?_
            refine lv_icmp_ge (tgt := 147) hx hb dX8_holds_40 (by decide) (fun c13 => ?_) (fun c13 => ?_)
            · have h := h.1 c13
              exact b147 _ hB6 y2 y4 y5 M0 M1 H locs ls hP hD hS (lv_sub hl [1, 2, 3, 4, 5] rfl) h
            · have h := h.2 c13
              refine lv_aload_n hx hb dX8_holds_43 rfl (lv_at hl 1 rfl) ?_
              refine va_get (D := (dC, dI)) (ci := 8) (v := .ref (a0 5)) (C := RX8) (T := TX8) (N := 6) hx hb hts hinX8 hown hK hP 0 rfl rfl 5 (by decide) f1 (fun _ h9 => h9) rfl dX8_holds_44 ?_
              refine lv_iload hx hb dX8_holds_47 (lv_at hl 4 rfl) ?_
              refine lv_iload hx hb dX8_holds_49 (lv_at hl 0 rfl) ?_
              refine lv_if_lt (tgt := 60) hx hb dX8_holds_51 (by decide) (fun c14 => ?_) (fun c14 => ?_)
              · have h := h.1 c14
                refine lv_aload_n hx hb dX8_holds_60 rfl (lv_at hl 3 rfl) ?_
                refine lv_iload hx hb dX8_holds_61 (lv_at hl 0 rfl) ?_
                have hPc := hP.sub (ws' := (qrW cB cI cJ cZ h1 a1 M1)) [5, 6, 7, 8] rfl
                have hDc := hD.sub (ws' := (qrW cB cI cJ cZ h1 a1 M1)) [5, 6, 7, 8] (by decide) rfl
                have hFc := va_free (wc := (qrW cB cI cJ cZ h1 a1 M1)) hD hS hA [5, 6, 7, 8] rfl
                refine va_calll (va_runV (As := [.int x3]) (rest := [.int y4, .ref (a0 5)]) ⟨hx, hb, hml, hown, hts⟩ (kX6_ownWord l dC dI cB cI cJ cZ h1 a1 H.size x3 M1 _ h) (cwV 1 hts gX8_holds_X6_ownWord rfl rfl rfl (by decide +kernel) ⟨Nat.le_of_ble_eq_true rfl, Nat.le_of_ble_eq_true rfl⟩) (qrpV hK hPc hDc) rfl rfl hl.1 rfl (lv_room (Nat.le_of_ble_eq_true rfl)) dX8_holds_63 ⟨Nat.le_of_ble_eq_true rfl, Nat.le_of_ble_eq_true rfl⟩) hS (fun q _ z => hFc q z) hFc (fun r15 u t H1 locs ht hvm hw hB hz1 hk1 hS => ?_)
                obtain ⟨N16, rfl⟩ : ∃ z, z = u := ⟨_, rfl⟩
                obtain ⟨hP1, hK1, hD1⟩ := hB
                rw [ht] at hP1
                obtain ⟨hP, hD⟩ := va_join (wr := [(h0, .inr (8, [.int (mg M0 0), .ref (a0 1), .ref (a0 2), .ref (a0 3), .int (mg M0 4), .ref (a0 5)])), (a0 1, .inl (cI, 12, .inl (ma M0 1))), (a0 2, .inl (cI, 12, .inl (ma M0 2))), (a0 3, .inl (cI, 400, .inl (ma M0 3))), (a0 5, .inl (cJ, 60, .inr (.inl (ml M0 5))))]) (w1 := (qrW cB cI cJ cZ h1 a1 N16)) hP hD [5, 6, 7, 8] [0, 1, 2, 3, 4] rfl rfl (by decide) (by decide) hk1 hFc hP1 hD1
                have hP := hP.sub (ws' := (rqW cB cI cJ cZ h0 a0 h1 a1 M0 N16)) [0, 1, 2, 3, 4, 5, 6, 7, 8] rfl
                have hD := hD.sub (ws' := (rqW cB cI cJ cZ h0 a0 h1 a1 M0 N16)) [0, 1, 2, 3, 4, 5, 6, 7, 8] (by decide) rfl
                generalize H1 = H at hP hS ⊢
                have h := hw
                try dsimp only at h
                exact b66 _ hB6 y2 y4 y5 y4 r15 M0 N16 H locs ls hP hD hS (lv_sub hl [1, 2, 3, 4, 5] rfl) h
              · have h := h.2 c14
                refine lv_iload hx hb dX8_holds_54 (lv_at hl 0 rfl) ?_
                refine lv_i2l hx hb dX8_holds_56 rfl ?_
                refine lv_goto (tgt := 66) hx hb dX8_holds_57 (by decide) ?_
                exact b66 _ hB6 y2 y4 y5 y4 (Int32.toInt64 x3) M0 M1 H locs ls hP hD hS (lv_sub hl [1, 2, 3, 4, 5] rfl) h
  have bE : ∀ (M0 : gS) (M1 : gS) (H : Heap) (locs : List Loc) (ls : Array Slot), va_P (dC, dI) vwCl (rqW cB cI cJ cZ h0 a0 h1 a1 M0 M1) H → va_D A (rqW cB cI cJ cZ h0 a0 h1 a1 M0 M1) → va_S A s.heap H locs → lv_has ls 7 [(0, .ref h0), (1, .int p1), (2, .int p2), (3, .ref h1)] → wX8_holds p1 p2 M0 M1 Q → W p l e (headSpec wsX8_holds rmX8_holds).room s m ([.ref h0, .int p1, .int p2, .ref h1] : List Value).toArray below meth c H locs 0 0 (MQ below (va_Qi (fun (r : Int32) (u : gS × gS) => ∃ b : Bool, r = bI b ∧ Q b u.1 u.2) (rqB dC dI cB cI cJ cZ h0 a0 h1 a1 A) A) ([.ref h0, .int p1, .int p2, .ref h1] : List Value).toArray s 0 0 A) (F0 m 0 ls []) := by
    intro M0 M1 H locs ls hP hD hS hl h
    unfold wX8_holds at h
    refine lv_iconst (v := 0) hx hb dX8_holds_0 (by decide) ?_
    refine lv_istore (lv' := [(4, .int (0 : Int32)), (0, .ref h0), (1, .int p1), (2, .int p2), (3, .ref h1)]) hx hb dX8_holds_1 hl (by decide) rfl (fun ls hl => ?_)
    refine lv_iload_n hx hb dX8_holds_3 rfl (lv_at hl 2 rfl) ?_
    refine lv_istore (lv' := [(5, .int p1), (4, .int (0 : Int32)), (0, .ref h0), (1, .int p1), (2, .int p2), (3, .ref h1)]) hx hb dX8_holds_4 hl (by decide) rfl (fun ls hl => ?_)
    obtain ⟨n9, h⟩ := h
    exact b6  n9 p2 (0 : Int32) p1 M0 M1 H locs ls hP hD hS (lv_sub hl [2, 4, 5, 1, 0] rfl) h
  have hl := lv_entry ([.ref h0, .int p1, .int p2, .ref h1]) (n := 7) (Nat.le_of_ble_eq_true rfl)
  rw [lg_entry_eq]
  generalize (lg_sl ([.ref h0, .int p1, .int p2, .ref h1]) ++ List.replicate (7 - (lg_sl ([.ref h0, .int p1, .int p2, .ref h1])).length) Slot.unset).toArray = ls at hl ⊢
  have hl : lv_has ls 7 [(0, .ref h0), (1, .int p1), (2, .int p2), (3, .ref h1)] := hl
  exact bE M0 M1 s.heap [] ls hP hD hS hl h
def wX8_mayDo (p1 : Int32) (M0 : gS) (M1 : gS) (Q : Bool → gS → gS → Prop) : Prop :=
 ((p1 = (-1 : Int32) → (Q true M0 M1))
 ∧ (¬ p1 = (-1 : Int32) → ((p1 = (4 : Int32) → (wX6_mayThrow  M1 (fun (b9 : Bool) (N8 : gS) => (Q b9 M0 N8))))
 ∧ (¬ p1 = (4 : Int32) → (wX6_maySay p1 M1 M0 (fun (b6 : Bool) (N4 : gS) (N5 : gS) => (Q b6 N5 N4)))))))
def rmX8_mayDo : Room := { frames := 2, cells := 0, slots := 0, locals := 44 }
set_option maxHeartbeats 4000000 in
set_option maxRecDepth 100000 in
theorem kX8_mayDo (l : Launch) (dC : Nat → ClassId) (dI : Nat → Nat → Nat) (cB cI cJ cZ : ClassId) (h0 : Nat) (a0 : Nat → Nat) (h1 : Nat) (a1 : Nat → Nat) (sz : Nat) (p1 : Int32) (M0 : gS) (M1 : gS) (Q : Bool → gS → gS → Prop) (h : wX8_mayDo p1 M0 M1 Q) : Met l yX8_mayDo wsX8_mayDo rmX8_mayDo (va_Pc [.int p1, .ref h0, .ref h1] (cqI dC dI cB cI cJ cZ h0 a0 h1 a1 M0 M1 sz)) (va_Qi (fun (r : Int32) (u : gS × gS) => ∃ b : Bool, r = bI b ∧ Q b u.1 u.2) (cqB dC dI cB cI cJ cZ h0 a0 h1 a1 (va_A (cqW cB cI cJ cZ h0 a0 h1 a1 M0 M1) sz)) (va_A (cqW cB cI cJ cZ h0 a0 h1 a1 M0 M1) sz)) 0 0 (va_A (cqW cB cI cJ cZ h0 a0 h1 a1 M0 M1) sz) := by
  refine Met.ofW (cc := cX8_mayDo) (maxL := 3) (ret := (some .boolean)) (by decide) rfl ?_
  intro p e s m args below meth c s₁ B hml hv
  obtain ⟨rfl, hsz, hP, hK, hD0⟩ := hv
  have hx := B.exec
  have hb := B.bytes
  have hr := B.returns
  have hts := atoms_spec (ws := wsX8_mayDo) B.pre
  have hown : s.vm.findClass RX8 = some m.cls := findClass_of_methodNamed B.named
  have hlocks := B.notSynchronized
  subst hsz
  have hD := hD0.self (sz := s.heap.size)
  generalize hAe : va_A (cqW cB cI cJ cZ h0 a0 h1 a1 M0 M1) s.heap.size = A at hD ⊢
  have hA : ∀ q : Nat, s.heap.size ≤ q → A q := fun q h => by rw [← hAe]; exact Or.inr h
  have hS : va_S A s.heap s.heap [] := va_S.rf
  have bE : ∀ (M0 : gS) (M1 : gS) (H : Heap) (locs : List Loc) (ls : Array Slot), va_P (dC, dI) vwCl (cqW cB cI cJ cZ h0 a0 h1 a1 M0 M1) H → va_D A (cqW cB cI cJ cZ h0 a0 h1 a1 M0 M1) → va_S A s.heap H locs → lv_has ls 3 [(0, .int p1), (1, .ref h0), (2, .ref h1)] → wX8_mayDo p1 M0 M1 Q → W p l e (headSpec wsX8_mayDo rmX8_mayDo).room s m ([.int p1, .ref h0, .ref h1] : List Value).toArray below meth c H locs 0 0 (MQ below (va_Qi (fun (r : Int32) (u : gS × gS) => ∃ b : Bool, r = bI b ∧ Q b u.1 u.2) (cqB dC dI cB cI cJ cZ h0 a0 h1 a1 A) A) ([.int p1, .ref h0, .ref h1] : List Value).toArray s 0 0 A) (F0 m 0 ls []) := by
    intro M0 M1 H locs ls hP hD hS hl h
    unfold wX8_mayDo at h
    refine lv_iload_n hx hb dX8_mayDo_0 rfl (lv_at hl 0 rfl) ?_
    refine lv_iconst (v := (-1)) hx hb dX8_mayDo_1 (by decide) ?_
    refine lv_icmp_ne (tgt := 7) hx hb dX8_mayDo_2 (by decide) (fun c1 => ?_) (fun c1 => ?_)
    · have h := h.2 c1
      refine lv_iload_n hx hb dX8_mayDo_7 rfl (lv_at hl 0 rfl) ?_
      refine lv_iconst (v := 4) hx hb dX8_mayDo_8 (by decide) ?_
      refine lv_icmp_ne (tgt := 19) hx hb dX8_mayDo_9 (by decide) (fun c2 => ?_) (fun c2 => ?_)
      · have h := h.2 c2
        refine lv_aload_n hx hb dX8_mayDo_19 rfl (lv_at hl 2 rfl) ?_
        refine lv_aload_n hx hb dX8_mayDo_20 rfl (lv_at hl 1 rfl) ?_
        refine lv_iload_n hx hb dX8_mayDo_21 rfl (lv_at hl 0 rfl) ?_
        have hPc := hP.sub (ws' := (qcW cB cI cJ cZ h1 a1 h0 a0 M1 M0)) [4, 5, 6, 7, 0, 1, 2, 3] rfl
        have hDc := hD.sub (ws' := (qcW cB cI cJ cZ h1 a1 h0 a0 M1 M0)) [4, 5, 6, 7, 0, 1, 2, 3] (by decide) rfl
        have hFc := va_free (wc := (qcW cB cI cJ cZ h1 a1 h0 a0 M1 M0)) hD hS hA [4, 5, 6, 7, 0, 1, 2, 3] rfl
        refine va_calli (va_runV (As := [.ref h0, .int p1]) (rest := []) ⟨hx, hb, hml, hown, hts⟩ (kX6_maySay l dC dI cB cI cJ cZ h1 a1 h0 a0 H.size p1 M1 M0 _ h) (cwV 2 hts gX8_mayDo_X6_maySay rfl rfl rfl (by decide +kernel) ⟨Nat.le_of_ble_eq_true rfl, Nat.le_of_ble_eq_true rfl⟩) (qcpV hK hPc hDc) rfl rfl hl.1 rfl (lv_room (Nat.le_of_ble_eq_true rfl)) dX8_mayDo_22 ⟨Nat.le_of_ble_eq_true rfl, Nat.le_of_ble_eq_true rfl⟩) hS (fun q _ z => hFc q z) hFc (fun r3 u t H1 locs ht hvm hw hB hz1 hk1 hS => ?_)
        obtain ⟨N4, N5⟩ := u
        obtain ⟨hP1, hK1, hD1⟩ := hB
        rw [ht] at hP1
        obtain ⟨hP, hD⟩ := va_join (wr := []) (w1 := (qcW cB cI cJ cZ h1 a1 h0 a0 N4 N5)) hP hD [4, 5, 6, 7, 0, 1, 2, 3] [] rfl rfl (by decide) (by decide) hk1 hFc hP1 hD1
        have hP := hP.sub (ws' := (cqW cB cI cJ cZ h0 a0 h1 a1 N5 N4)) [4, 5, 6, 7, 0, 1, 2, 3] rfl
        have hD := hD.sub (ws' := (cqW cB cI cJ cZ h0 a0 h1 a1 N5 N4)) [4, 5, 6, 7, 0, 1, 2, 3] (by decide) rfl
        generalize H1 = H at hP hS ⊢
        obtain ⟨b6, rfl, h⟩ := hw
        try dsimp only at h
        exact W.zret (v := (bI b6)) hx hb hr (nar_bI b6) (fun t ht hW => ⟨⟨_, (N5, N4), rfl, ⟨b6, rfl, h⟩, by rw [ht]; exact hP, va_K.moved hW.alike hK, hD⟩, hS.F ht⟩) hS.2.2 dX8_mayDo_25
      · have h := h.1 c2
        refine lv_aload_n hx hb dX8_mayDo_12 rfl (lv_at hl 2 rfl) ?_
        have hPc := hP.sub (ws' := (qrW cB cI cJ cZ h1 a1 M1)) [4, 5, 6, 7] rfl
        have hDc := hD.sub (ws' := (qrW cB cI cJ cZ h1 a1 M1)) [4, 5, 6, 7] (by decide) rfl
        have hFc := va_free (wc := (qrW cB cI cJ cZ h1 a1 M1)) hD hS hA [4, 5, 6, 7] rfl
        refine va_calli (va_runV (As := []) (rest := []) ⟨hx, hb, hml, hown, hts⟩ (kX6_mayThrow l dC dI cB cI cJ cZ h1 a1 H.size  M1 _ h) (cwV 0 hts gX8_mayDo_X6_mayThrow rfl rfl rfl (by decide +kernel) ⟨Nat.le_of_ble_eq_true rfl, Nat.le_of_ble_eq_true rfl⟩) (qrpV hK hPc hDc) rfl rfl hl.1 rfl (lv_room (Nat.le_of_ble_eq_true rfl)) dX8_mayDo_13 ⟨Nat.le_of_ble_eq_true rfl, Nat.le_of_ble_eq_true rfl⟩) hS (fun q _ z => hFc q z) hFc (fun r7 u t H1 locs ht hvm hw hB hz1 hk1 hS => ?_)
        obtain ⟨N8, rfl⟩ : ∃ z, z = u := ⟨_, rfl⟩
        obtain ⟨hP1, hK1, hD1⟩ := hB
        rw [ht] at hP1
        obtain ⟨hP, hD⟩ := va_join (wr := [(h0, .inr (1, [.int (mg M0 0), .ref (a0 1), .int (mg M0 2), .ref (a0 3), .int (mg M0 4), .ref (a0 5)])), (a0 1, .inl (cI, 4, .inl (ma M0 1))), (a0 3, .inl (cI, 4, .inl (ma M0 3))), (a0 5, .inl (cI, 2, .inl (ma M0 5)))]) (w1 := (qrW cB cI cJ cZ h1 a1 N8)) hP hD [4, 5, 6, 7] [0, 1, 2, 3] rfl rfl (by decide) (by decide) hk1 hFc hP1 hD1
        have hP := hP.sub (ws' := (cqW cB cI cJ cZ h0 a0 h1 a1 M0 N8)) [0, 1, 2, 3, 4, 5, 6, 7] rfl
        have hD := hD.sub (ws' := (cqW cB cI cJ cZ h0 a0 h1 a1 M0 N8)) [0, 1, 2, 3, 4, 5, 6, 7] (by decide) rfl
        generalize H1 = H at hP hS ⊢
        obtain ⟨b9, rfl, h⟩ := hw
        try dsimp only at h
        refine lv_goto (tgt := 25) hx hb dX8_mayDo_16 (by decide) ?_
        exact W.zret (v := (bI b9)) hx hb hr (nar_bI b9) (fun t ht hW => ⟨⟨_, (M0, N8), rfl, ⟨b9, rfl, h⟩, by rw [ht]; exact hP, va_K.moved hW.alike hK, hD⟩, hS.F ht⟩) hS.2.2 dX8_mayDo_25
    · have h := h.1 c1
      refine lv_iconst (v := 1) hx hb dX8_mayDo_5 (by decide) ?_
      exact W.zret (v := (bI true)) hx hb hr (nar_bI true) (fun t ht hW => ⟨⟨_, (M0, M1), rfl, ⟨true, rfl, h⟩, by rw [ht]; exact hP, va_K.moved hW.alike hK, hD⟩, hS.F ht⟩) hS.2.2 dX8_mayDo_6
  have hl := lv_entry ([.int p1, .ref h0, .ref h1]) (n := 3) (Nat.le_of_ble_eq_true rfl)
  rw [lg_entry_eq]
  generalize (lg_sl ([.int p1, .ref h0, .ref h1]) ++ List.replicate (3 - (lg_sl ([.int p1, .ref h0, .ref h1])).length) Slot.unset).toArray = ls at hl ⊢
  have hl : lv_has ls 3 [(0, .int p1), (1, .ref h0), (2, .ref h1)] := hl
  exact bE M0 M1 s.heap [] ls hP hD hS hl h
def wX8_choose_60 (B5 : Int32 → Int32 → gS → gS → gS → Prop) (Q : Int32 → gS → gS → gS → Prop) (y4 : Int32) (M0 : gS) (M1 : gS) (M2 : gS) : Prop :=
 (vp_in y4 12 ∧ (∀ x1 : Int32, x1 = (ma M0 2 (Int32.toNatClampNeg y4)) → (∀ x2 : Int32, x2 = y4 + (1 : Int32) → (B5 x1 x2 M0 M1 M2))))
def wX8_choose_5  (Q : Int32 → gS → gS → gS → Prop) : Nat → Int32 → Int32 → gS → gS → gS → Prop
 | 0, _, _, _, _, _ => False
 | n + 1, y3, y4, M0, M1, M2 => (((mg M0 0) ≤ y4 → (Q (-1 : Int32) M0 M1 M2))
 ∧ (¬ (mg M0 0) ≤ y4 → (((12 : Int32) ≤ y4 → (Q (-1 : Int32) M0 M1 M2))
 ∧ (¬ (12 : Int32) ≤ y4 → (vp_in y4 12 ∧ (wX8_mayDo (ma M0 1 (Int32.toNatClampNeg y4)) M1 M2 (fun (b6 : Bool) (N4 : gS) (N5 : gS) => (((bI b6) = 0 → (wX8_choose_60 (fun (y3 : Int32) (y4 : Int32) (M0 : gS) (M1 : gS) (M2 : gS) => wX8_choose_5  Q n y3 y4 M0 M1 M2) Q y4 M0 N4 N5))
 ∧ (¬ (bI b6) = 0 → (vp_in y4 12 ∧ (wX8_holds y3 (ma M0 2 (Int32.toNatClampNeg y4)) M0 N5 (fun (b11 : Bool) (N9 : gS) (N10 : gS) => (((bI b11) = 0 → (wX8_choose_60 (fun (y3 : Int32) (y4 : Int32) (M0 : gS) (M1 : gS) (M2 : gS) => wX8_choose_5  Q n y3 y4 M0 M1 M2) Q y4 N9 N4 N10))
 ∧ (¬ (bI b11) = 0 → (vp_in y4 12 ∧ (Q (ma N9 1 (Int32.toNatClampNeg y4)) N9 N4 N10))))))))))))))))
def wX8_choose  (M0 : gS) (M1 : gS) (M2 : gS) (Q : Int32 → gS → gS → gS → Prop) : Prop :=
 (∃ k5 : Nat, wX8_choose_5  Q k5 (0 : Int32) (0 : Int32) M0 M1 M2)
def rmX8_choose : Room := { frames := 3, cells := 0, slots := 0, locals := 74 }
set_option maxHeartbeats 4000000 in
set_option maxRecDepth 100000 in
theorem kX8_choose (l : Launch) (dC : Nat → ClassId) (dI : Nat → Nat → Nat) (cB cI cJ cZ : ClassId) (h0 : Nat) (a0 : Nat → Nat) (h1 : Nat) (a1 : Nat → Nat) (h2 : Nat) (a2 : Nat → Nat) (sz : Nat)  (M0 : gS) (M1 : gS) (M2 : gS) (Q : Int32 → gS → gS → gS → Prop) (h : wX8_choose  M0 M1 M2 Q) : Met l yX8_choose wsX8_choose rmX8_choose (va_Pc [.ref h0, .ref h1, .ref h2] (rcI dC dI cB cI cJ cZ h0 a0 h1 a1 h2 a2 M0 M1 M2 sz)) (va_Qi (fun (r : Int32) (u : gS × gS × gS) => Q r u.1 u.2.1 u.2.2) (rcB dC dI cB cI cJ cZ h0 a0 h1 a1 h2 a2 (va_A (rcW cB cI cJ cZ h0 a0 h1 a1 h2 a2 M0 M1 M2) sz)) (va_A (rcW cB cI cJ cZ h0 a0 h1 a1 h2 a2 M0 M1 M2) sz)) 0 0 (va_A (rcW cB cI cJ cZ h0 a0 h1 a1 h2 a2 M0 M1 M2) sz) := by
  refine Met.ofW (cc := cX8_choose) (maxL := 5) (ret := (some .int)) (by decide) rfl ?_
  intro p e s m args below meth c s₁ B hml hv
  obtain ⟨rfl, hsz, hP, hK, hD0⟩ := hv
  have hx := B.exec
  have hb := B.bytes
  have hr := B.returns
  have hts := atoms_spec (ws := wsX8_choose) B.pre
  have hown : s.vm.findClass RX8 = some m.cls := findClass_of_methodNamed B.named
  have hlocks := B.notSynchronized
  subst hsz
  have hD := hD0.self (sz := s.heap.size)
  generalize hAe : va_A (rcW cB cI cJ cZ h0 a0 h1 a1 h2 a2 M0 M1 M2) s.heap.size = A at hD ⊢
  have hA : ∀ q : Nat, s.heap.size ≤ q → A q := fun q h => by rw [← hAe]; exact Or.inr h
  have hS : va_S A s.heap s.heap [] := va_S.rf
  have hinX8 : ∀ w ∈ wsX80, w ∈ wsX8_choose := by decide +kernel
  have f1 := hts (.fieldLink RX8 15 "LastWords$Rule" "testStops" "[I") (by decide +kernel)
  have f2 := hts (.fieldLink RX8 25 "LastWords$Rule" "clauses" "I") (by decide +kernel)
  have f3 := hts (.fieldLink RX8 11 "LastWords$Rule" "does" "[I") (by decide +kernel)
  have b60 : ∀ (B5 : Int32 → Int32 → gS → gS → gS → Prop) (hB5 : ∀ (y3 : Int32) (y4 : Int32) (M0 : gS) (M1 : gS) (M2 : gS) (H : Heap) (locs : List Loc) (ls : Array Slot), va_P (dC, dI) vwCl (rcW cB cI cJ cZ h0 a0 h1 a1 h2 a2 M0 M1 M2) H → va_D A (rcW cB cI cJ cZ h0 a0 h1 a1 h2 a2 M0 M1 M2) → va_S A s.heap H locs → lv_has ls 5 [(0, .ref h0), (1, .ref h1), (2, .ref h2), (3, .int y3), (4, .int y4)] → B5 y3 y4 M0 M1 M2 → W p l e (headSpec wsX8_choose rmX8_choose).room s m ([.ref h0, .ref h1, .ref h2] : List Value).toArray below meth c H locs 0 0 (MQ below (va_Qi (fun (r : Int32) (u : gS × gS × gS) => Q r u.1 u.2.1 u.2.2) (rcB dC dI cB cI cJ cZ h0 a0 h1 a1 h2 a2 A) A) ([.ref h0, .ref h1, .ref h2] : List Value).toArray s 0 0 A) (F0 m 5 ls [])) (y4 : Int32) (M0 : gS) (M1 : gS) (M2 : gS) (H : Heap) (locs : List Loc) (ls : Array Slot), va_P (dC, dI) vwCl (rcW cB cI cJ cZ h0 a0 h1 a1 h2 a2 M0 M1 M2) H → va_D A (rcW cB cI cJ cZ h0 a0 h1 a1 h2 a2 M0 M1 M2) → va_S A s.heap H locs → lv_has ls 5 [(0, .ref h0), (1, .ref h1), (2, .ref h2), (4, .int y4)] → wX8_choose_60 B5 Q y4 M0 M1 M2 → W p l e (headSpec wsX8_choose rmX8_choose).room s m ([.ref h0, .ref h1, .ref h2] : List Value).toArray below meth c H locs 0 0 (MQ below (va_Qi (fun (r : Int32) (u : gS × gS × gS) => Q r u.1 u.2.1 u.2.2) (rcB dC dI cB cI cJ cZ h0 a0 h1 a1 h2 a2 A) A) ([.ref h0, .ref h1, .ref h2] : List Value).toArray s 0 0 A) (F0 m 60 ls []) := by
    intro B5 hB5 y4 M0 M1 M2 H locs ls hP hD hS hl h
    unfold wX8_choose_60 at h
    refine lv_aload_n hx hb dX8_choose_60 rfl (lv_at hl 0 rfl) ?_
    refine va_get (D := (dC, dI)) (ci := 8) (v := .ref (a0 2)) (C := RX8) (T := TX8) (N := 6) hx hb hts hinX8 hown hK hP 0 rfl rfl 2 (by decide) f1 (fun _ h9 => h9) rfl dX8_choose_61 ?_
    refine lv_iload hx hb dX8_choose_64 (lv_at hl 3 rfl) ?_
    refine va_iald hx hb hK hP 2 1 (f := ma M0 2) rfl rfl h.1 dX8_choose_66 ?_
    have h := h.2
    refine lv_topi (fun x1 ex1 => ?_)
    have h := h x1 ex1
    refine lv_istore_n (lv' := [(3, .int x1), (0, .ref h0), (1, .ref h1), (2, .ref h2), (4, .int y4)]) hx hb dX8_choose_67 rfl hl (by decide) rfl (fun ls hl => ?_)
    obtain ⟨x2, ex2⟩ : ∃ y : Int32, y = y4 + (1 : Int32) := ⟨_, rfl⟩
    have h := h x2 ex2
    refine lv_iinc (v := x2) (lv' := [(4, .int x2), (3, .int x1), (0, .ref h0), (1, .ref h1), (2, .ref h2)]) hx hb dX8_choose_68 hl (k := 4) rfl (by rw [ex2]; rfl) (by decide) rfl (fun ls hl => ?_)
    refine lv_goto (tgt := 5) hx hb dX8_choose_71 (by decide) ?_
    exact hB5 x1 x2 M0 M1 M2 H locs ls hP hD hS (lv_sub hl [2, 3, 4, 1, 0] rfl) h
  have b5 : ∀ (n : Nat) (y3 : Int32) (y4 : Int32) (M0 : gS) (M1 : gS) (M2 : gS) (H : Heap) (locs : List Loc) (ls : Array Slot), va_P (dC, dI) vwCl (rcW cB cI cJ cZ h0 a0 h1 a1 h2 a2 M0 M1 M2) H → va_D A (rcW cB cI cJ cZ h0 a0 h1 a1 h2 a2 M0 M1 M2) → va_S A s.heap H locs → lv_has ls 5 [(0, .ref h0), (1, .ref h1), (2, .ref h2), (3, .int y3), (4, .int y4)] → wX8_choose_5  Q n y3 y4 M0 M1 M2 → W p l e (headSpec wsX8_choose rmX8_choose).room s m ([.ref h0, .ref h1, .ref h2] : List Value).toArray below meth c H locs 0 0 (MQ below (va_Qi (fun (r : Int32) (u : gS × gS × gS) => Q r u.1 u.2.1 u.2.2) (rcB dC dI cB cI cJ cZ h0 a0 h1 a1 h2 a2 A) A) ([.ref h0, .ref h1, .ref h2] : List Value).toArray s 0 0 A) (F0 m 5 ls []) := by
    intro  n
    induction n with
    | zero => intro y3 y4 M0 M1 M2 H locs ls hP hD hS hl h; exact absurd h (by simp [wX8_choose_5])
    | succ n hB50 =>
      intro y3 y4 M0 M1 M2 H locs ls hP hD hS hl h
      have hB5 := hB50
      rw [wX8_choose_5] at h
      refine lv_iload hx hb dX8_choose_5 (lv_at hl 4 rfl) ?_
      refine lv_aload_n hx hb dX8_choose_7 rfl (lv_at hl 0 rfl) ?_
      refine va_get (D := (dC, dI)) (ci := 8) (v := .int (mg M0 0)) (C := RX8) (T := TX8) (N := 6) hx hb hts hinX8 hown hK hP 0 rfl rfl 0 (by decide) f2 (fun _ h9 => h9) rfl dX8_choose_8 ?_
      refine lv_icmp_ge (tgt := 74) hx hb dX8_choose_11 (by decide) (fun c1 => ?_) (fun c1 => ?_)
      · have h := h.1 c1
        refine lv_iconst (v := (-1)) hx hb dX8_choose_74 (by decide) ?_
        exact W.iret (v := (-1 : Int32)) hx hb hr (fun t ht hW => ⟨⟨_, (M0, M1, M2), rfl, h, by rw [ht]; exact hP, va_K.moved hW.alike hK, hD⟩, hS.F ht⟩) hS.2.2 dX8_choose_75
      · have h := h.2 c1
        refine lv_iload hx hb dX8_choose_14 (lv_at hl 4 rfl) ?_
        refine lv_bipush (v := (12)) hx hb dX8_choose_16 (by decide) ?_
        refine lv_icmp_ge (tgt := 74) hx hb dX8_choose_18 (by decide) (fun c2 => ?_) (fun c2 => ?_)
        · have h := h.1 c2
          refine lv_iconst (v := (-1)) hx hb dX8_choose_74 (by decide) ?_
          exact W.iret (v := (-1 : Int32)) hx hb hr (fun t ht hW => ⟨⟨_, (M0, M1, M2), rfl, h, by rw [ht]; exact hP, va_K.moved hW.alike hK, hD⟩, hS.F ht⟩) hS.2.2 dX8_choose_75
        · have h := h.2 c2
          refine lv_aload_n hx hb dX8_choose_21 rfl (lv_at hl 0 rfl) ?_
          refine va_get (D := (dC, dI)) (ci := 8) (v := .ref (a0 1)) (C := RX8) (T := TX8) (N := 6) hx hb hts hinX8 hown hK hP 0 rfl rfl 1 (by decide) f3 (fun _ h9 => h9) rfl dX8_choose_22 ?_
          refine lv_iload hx hb dX8_choose_25 (lv_at hl 4 rfl) ?_
          refine va_iald hx hb hK hP 1 1 (f := ma M0 1) rfl rfl h.1 dX8_choose_27 ?_
          have h := h.2
          refine lv_aload_n hx hb dX8_choose_28 rfl (lv_at hl 1 rfl) ?_
          refine lv_aload_n hx hb dX8_choose_29 rfl (lv_at hl 2 rfl) ?_
          have hPc := hP.sub (ws' := (cqW cB cI cJ cZ h1 a1 h2 a2 M1 M2)) [5, 6, 7, 8, 9, 10, 11, 12] rfl
          have hDc := hD.sub (ws' := (cqW cB cI cJ cZ h1 a1 h2 a2 M1 M2)) [5, 6, 7, 8, 9, 10, 11, 12] (by decide) rfl
          have hFc := va_free (wc := (cqW cB cI cJ cZ h1 a1 h2 a2 M1 M2)) hD hS hA [5, 6, 7, 8, 9, 10, 11, 12] rfl
          refine va_calli (va_runS (As := [.int (ma M0 1 (Int32.toNatClampNeg y4)), .ref h1, .ref h2]) (rest := []) ⟨hx, hb, hml, hown, hts⟩ (kX8_mayDo l dC dI cB cI cJ cZ h1 a1 h2 a2 H.size (ma M0 1 (Int32.toNatClampNeg y4)) M1 M2 _ h) (cwS 3 hts gX8_choose_X8_mayDo rfl rfl rfl (by decide +kernel) ⟨Nat.le_of_ble_eq_true rfl, Nat.le_of_ble_eq_true rfl⟩) (cqpS hK hPc hDc) rfl rfl hl.1 rfl (lv_room (Nat.le_of_ble_eq_true rfl)) dX8_choose_30 ⟨Nat.le_of_ble_eq_true rfl, Nat.le_of_ble_eq_true rfl⟩) hS (fun q _ z => hFc q z) hFc (fun r3 u t H1 locs ht hvm hw hB hz1 hk1 hS => ?_)
          obtain ⟨N4, N5⟩ := u
          obtain ⟨hP1, hK1, hD1⟩ := hB
          rw [ht] at hP1
          obtain ⟨hP, hD⟩ := va_join (wr := [(h0, .inr (8, [.int (mg M0 0), .ref (a0 1), .ref (a0 2), .ref (a0 3), .int (mg M0 4), .ref (a0 5)])), (a0 1, .inl (cI, 12, .inl (ma M0 1))), (a0 2, .inl (cI, 12, .inl (ma M0 2))), (a0 3, .inl (cI, 400, .inl (ma M0 3))), (a0 5, .inl (cJ, 60, .inr (.inl (ml M0 5))))]) (w1 := (cqW cB cI cJ cZ h1 a1 h2 a2 N4 N5)) hP hD [5, 6, 7, 8, 9, 10, 11, 12] [0, 1, 2, 3, 4] rfl rfl (by decide) (by decide) hk1 hFc hP1 hD1
          have hP := hP.sub (ws' := (rcW cB cI cJ cZ h0 a0 h1 a1 h2 a2 M0 N4 N5)) [0, 1, 2, 3, 4, 5, 6, 7, 8, 9, 10, 11, 12] rfl
          have hD := hD.sub (ws' := (rcW cB cI cJ cZ h0 a0 h1 a1 h2 a2 M0 N4 N5)) [0, 1, 2, 3, 4, 5, 6, 7, 8, 9, 10, 11, 12] (by decide) rfl
          generalize H1 = H at hP hS ⊢
          obtain ⟨b6, rfl, h⟩ := hw
          try dsimp only at h
          refine lv_if_eq (tgt := 60) hx hb dX8_choose_33 (by decide) (fun c7 => ?_) (fun c7 => ?_)
          · have h := h.1 c7
            exact b60 _ hB5 y4 M0 N4 N5 H locs ls hP hD hS (lv_sub hl [0, 1, 2, 4] rfl) h
          · have h := h.2 c7
            refine lv_aload_n hx hb dX8_choose_36 rfl (lv_at hl 0 rfl) ?_
            refine lv_iload_n hx hb dX8_choose_37 rfl (lv_at hl 3 rfl) ?_
            refine lv_aload_n hx hb dX8_choose_38 rfl (lv_at hl 0 rfl) ?_
            refine va_get (D := (dC, dI)) (ci := 8) (v := .ref (a0 2)) (C := RX8) (T := TX8) (N := 6) hx hb hts hinX8 hown hK hP 0 rfl rfl 2 (by decide) f1 (fun _ h9 => h9) rfl dX8_choose_39 ?_
            refine lv_iload hx hb dX8_choose_42 (lv_at hl 4 rfl) ?_
            refine va_iald hx hb hK hP 2 1 (f := ma M0 2) rfl rfl h.1 dX8_choose_44 ?_
            have h := h.2
            refine lv_aload_n hx hb dX8_choose_45 rfl (lv_at hl 2 rfl) ?_
            have hPc := hP.sub (ws' := (rqW cB cI cJ cZ h0 a0 h2 a2 M0 N5)) [0, 1, 2, 3, 4, 9, 10, 11, 12] rfl
            have hDc := hD.sub (ws' := (rqW cB cI cJ cZ h0 a0 h2 a2 M0 N5)) [0, 1, 2, 3, 4, 9, 10, 11, 12] (by decide) rfl
            have hFc := va_free (wc := (rqW cB cI cJ cZ h0 a0 h2 a2 M0 N5)) hD hS hA [0, 1, 2, 3, 4, 9, 10, 11, 12] rfl
            refine va_calli (va_runV (As := [.int y3, .int (ma M0 2 (Int32.toNatClampNeg y4)), .ref h2]) (rest := []) ⟨hx, hb, hml, hown, hts⟩ (kX8_holds l dC dI cB cI cJ cZ h0 a0 h2 a2 H.size y3 (ma M0 2 (Int32.toNatClampNeg y4)) M0 N5 _ h) (cwV 3 hts gX8_choose_X8_holds rfl rfl rfl (by decide +kernel) ⟨Nat.le_of_ble_eq_true rfl, Nat.le_of_ble_eq_true rfl⟩) (rqpV hK hPc hDc) rfl rfl hl.1 rfl (lv_room (Nat.le_of_ble_eq_true rfl)) dX8_choose_46 ⟨Nat.le_of_ble_eq_true rfl, Nat.le_of_ble_eq_true rfl⟩) hS (fun q _ z => hFc q z) hFc (fun r8 u t H1 locs ht hvm hw hB hz1 hk1 hS => ?_)
            obtain ⟨N9, N10⟩ := u
            obtain ⟨hP1, hK1, hD1⟩ := hB
            rw [ht] at hP1
            obtain ⟨hP, hD⟩ := va_join (wr := [(h1, .inr (1, [.int (mg N4 0), .ref (a1 1), .int (mg N4 2), .ref (a1 3), .int (mg N4 4), .ref (a1 5)])), (a1 1, .inl (cI, 4, .inl (ma N4 1))), (a1 3, .inl (cI, 4, .inl (ma N4 3))), (a1 5, .inl (cI, 2, .inl (ma N4 5)))]) (w1 := (rqW cB cI cJ cZ h0 a0 h2 a2 N9 N10)) hP hD [0, 1, 2, 3, 4, 9, 10, 11, 12] [5, 6, 7, 8] rfl rfl (by decide) (by decide) hk1 hFc hP1 hD1
            have hP := hP.sub (ws' := (rcW cB cI cJ cZ h0 a0 h1 a1 h2 a2 N9 N4 N10)) [4, 5, 6, 7, 8, 0, 1, 2, 3, 9, 10, 11, 12] rfl
            have hD := hD.sub (ws' := (rcW cB cI cJ cZ h0 a0 h1 a1 h2 a2 N9 N4 N10)) [4, 5, 6, 7, 8, 0, 1, 2, 3, 9, 10, 11, 12] (by decide) rfl
            generalize H1 = H at hP hS ⊢
            obtain ⟨b11, rfl, h⟩ := hw
            try dsimp only at h
            refine lv_if_eq (tgt := 60) hx hb dX8_choose_49 (by decide) (fun c12 => ?_) (fun c12 => ?_)
            · have h := h.1 c12
              exact b60 _ hB5 y4 N9 N4 N10 H locs ls hP hD hS (lv_sub hl [0, 1, 2, 4] rfl) h
            · have h := h.2 c12
              refine lv_aload_n hx hb dX8_choose_52 rfl (lv_at hl 0 rfl) ?_
              refine va_get (D := (dC, dI)) (ci := 8) (v := .ref (a0 1)) (C := RX8) (T := TX8) (N := 6) hx hb hts hinX8 hown hK hP 0 rfl rfl 1 (by decide) f3 (fun _ h9 => h9) rfl dX8_choose_53 ?_
              refine lv_iload hx hb dX8_choose_56 (lv_at hl 4 rfl) ?_
              refine va_iald hx hb hK hP 1 1 (f := ma N9 1) rfl rfl h.1 dX8_choose_58 ?_
              have h := h.2
              exact W.iret (v := (ma N9 1 (Int32.toNatClampNeg y4))) hx hb hr (fun t ht hW => ⟨⟨_, (N9, N4, N10), rfl, h, by rw [ht]; exact hP, va_K.moved hW.alike hK, hD⟩, hS.F ht⟩) hS.2.2 dX8_choose_59
  have bE : ∀ (M0 : gS) (M1 : gS) (M2 : gS) (H : Heap) (locs : List Loc) (ls : Array Slot), va_P (dC, dI) vwCl (rcW cB cI cJ cZ h0 a0 h1 a1 h2 a2 M0 M1 M2) H → va_D A (rcW cB cI cJ cZ h0 a0 h1 a1 h2 a2 M0 M1 M2) → va_S A s.heap H locs → lv_has ls 5 [(0, .ref h0), (1, .ref h1), (2, .ref h2)] → wX8_choose  M0 M1 M2 Q → W p l e (headSpec wsX8_choose rmX8_choose).room s m ([.ref h0, .ref h1, .ref h2] : List Value).toArray below meth c H locs 0 0 (MQ below (va_Qi (fun (r : Int32) (u : gS × gS × gS) => Q r u.1 u.2.1 u.2.2) (rcB dC dI cB cI cJ cZ h0 a0 h1 a1 h2 a2 A) A) ([.ref h0, .ref h1, .ref h2] : List Value).toArray s 0 0 A) (F0 m 0 ls []) := by
    intro M0 M1 M2 H locs ls hP hD hS hl h
    unfold wX8_choose at h
    refine lv_iconst (v := 0) hx hb dX8_choose_0 (by decide) ?_
    refine lv_istore_n (lv' := [(3, .int (0 : Int32)), (0, .ref h0), (1, .ref h1), (2, .ref h2)]) hx hb dX8_choose_1 rfl hl (by decide) rfl (fun ls hl => ?_)
    refine lv_iconst (v := 0) hx hb dX8_choose_2 (by decide) ?_
    refine lv_istore (lv' := [(4, .int (0 : Int32)), (3, .int (0 : Int32)), (0, .ref h0), (1, .ref h1), (2, .ref h2)]) hx hb dX8_choose_3 hl (by decide) rfl (fun ls hl => ?_)
    obtain ⟨n9, h⟩ := h
    exact b5  n9 (0 : Int32) (0 : Int32) M0 M1 M2 H locs ls hP hD hS (lv_sub hl [2, 3, 4, 1, 0] rfl) h
  have hl := lv_entry ([.ref h0, .ref h1, .ref h2]) (n := 5) (Nat.le_of_ble_eq_true rfl)
  rw [lg_entry_eq]
  generalize (lg_sl ([.ref h0, .ref h1, .ref h2]) ++ List.replicate (5 - (lg_sl ([.ref h0, .ref h1, .ref h2])).length) Slot.unset).toArray = ls at hl ⊢
  have hl : lv_has ls 5 [(0, .ref h0), (1, .ref h1), (2, .ref h2)] := hl
  exact bE M0 M1 M2 s.heap [] ls hP hD hS hl h
