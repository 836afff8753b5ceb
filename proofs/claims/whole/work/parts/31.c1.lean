abbrev e0W (cB cI cJ cZ : ClassId)   : va_W := []
abbrev e0I (dC : Nat → ClassId) (dI : Nat → Nat → Nat) (cB cI cJ cZ : ClassId)   (sz : Nat) : State → Prop := fun U => U.heap.size = sz ∧ va_P (dC, dI) vwCl (e0W cB cI cJ cZ  ) U.heap ∧ va_K (dC, dI) vwCl (gT cB cI cJ cZ) U ∧ va_D (fun _ => True) (e0W cB cI cJ cZ  )
abbrev e0B (dC : Nat → ClassId) (dI : Nat → Nat → Nat) (cB cI cJ cZ : ClassId)  (A : Nat → Prop) (u : Unit) (t : State) : Prop := match u with
  | () => va_P (dC, dI) vwCl (e0W cB cI cJ cZ  ) t.heap ∧ va_K (dC, dI) vwCl (gT cB cI cJ cZ) t ∧ va_D A (e0W cB cI cJ cZ  )
theorem e0pS {s : State} {dC : Nat → ClassId} {dI : Nat → Nat → Nat} {A : Nat → Prop} {cB cI cJ cZ : ClassId}   {H : Heap} {As : List Value} (hK : va_K (dC, dI) vwCl (gT cB cI cJ cZ) s) (hP : va_P (dC, dI) vwCl (e0W cB cI cJ cZ  ) H) (hD : va_D A (e0W cB cI cJ cZ  )) : PreS s H (va_Pc As (e0I dC dI cB cI cJ cZ   H.size)) As := ⟨fun a U g mk q => by obtain ⟨q0, q1, qP, qK, qD⟩ := q; exact ⟨q0, q1, qP, va_K.moved (u := U) (U := U.calling g mk a) (Vm.Alike.refl U.vm) qK, qD⟩, fun U hU hW => ⟨rfl, by rw [hU], by rw [hU]; exact hP, va_K.moved hW.alike hK, hD.weaken (fun _ _ _ _ => trivial)⟩⟩

abbrev cnW (cB cI cJ cZ : ClassId) (h0 : Nat) (a0 : Nat → Nat) (M0 : gS) : va_W := [(h0, .inr (1, [.int (mg M0 0), .ref (a0 1), .int (mg M0 2), .ref (a0 3), .int (mg M0 4), .ref (a0 5)])), (a0 1, .inl (cI, 4, .inl (ma M0 1))), (a0 3, .inl (cI, 4, .inl (ma M0 3))), (a0 5, .inl (cI, 2, .inl (ma M0 5)))]
abbrev cnI (dC : Nat → ClassId) (dI : Nat → Nat → Nat) (cB cI cJ cZ : ClassId) (h0 : Nat) (a0 : Nat → Nat) (M0 : gS) (sz : Nat) : State → Prop := fun U => U.heap.size = sz ∧ va_P (dC, dI) vwCl (cnW cB cI cJ cZ h0 a0 M0) U.heap ∧ va_K (dC, dI) vwCl (gT cB cI cJ cZ) U ∧ va_D (fun _ => True) (cnW cB cI cJ cZ h0 a0 M0)
abbrev cnB (dC : Nat → ClassId) (dI : Nat → Nat → Nat) (cB cI cJ cZ : ClassId) (h0 : Nat) (a0 : Nat → Nat) (A : Nat → Prop) (u : gS) (t : State) : Prop := match u with
  | (M0) => va_P (dC, dI) vwCl (cnW cB cI cJ cZ h0 a0 M0) t.heap ∧ va_K (dC, dI) vwCl (gT cB cI cJ cZ) t ∧ va_D A (cnW cB cI cJ cZ h0 a0 M0)
theorem cnP_0_f0 {D : va_G} {H : Heap} {cB cI cJ cZ : ClassId} {h0 : Nat} {a0 : Nat → Nat} {M0 : gS} {v : Int32} (h : va_P D vwCl ((cnW cB cI cJ cZ h0 a0 M0).set 0 (h0, .inr (1, ([.int (mg M0 0), .ref (a0 1), .int (mg M0 2), .ref (a0 3), .int (mg M0 4), .ref (a0 5)]).set 0 (.int v)))) H) : va_P D vwCl (cnW cB cI cJ cZ h0 a0 (sg M0 0 v)) H := h
theorem cnD_0_f0 {A : Nat → Prop} {cB cI cJ cZ : ClassId} {h0 : Nat} {a0 : Nat → Nat} {M0 : gS} {v : Int32} (h : va_D A ((cnW cB cI cJ cZ h0 a0 M0).set 0 (h0, .inr (1, ([.int (mg M0 0), .ref (a0 1), .int (mg M0 2), .ref (a0 3), .int (mg M0 4), .ref (a0 5)]).set 0 (.int v))))) : va_D A (cnW cB cI cJ cZ h0 a0 (sg M0 0 v)) := h
theorem cnP_0_f2 {D : va_G} {H : Heap} {cB cI cJ cZ : ClassId} {h0 : Nat} {a0 : Nat → Nat} {M0 : gS} {v : Int32} (h : va_P D vwCl ((cnW cB cI cJ cZ h0 a0 M0).set 0 (h0, .inr (1, ([.int (mg M0 0), .ref (a0 1), .int (mg M0 2), .ref (a0 3), .int (mg M0 4), .ref (a0 5)]).set 2 (.int v)))) H) : va_P D vwCl (cnW cB cI cJ cZ h0 a0 (sg M0 2 v)) H := h
theorem cnD_0_f2 {A : Nat → Prop} {cB cI cJ cZ : ClassId} {h0 : Nat} {a0 : Nat → Nat} {M0 : gS} {v : Int32} (h : va_D A ((cnW cB cI cJ cZ h0 a0 M0).set 0 (h0, .inr (1, ([.int (mg M0 0), .ref (a0 1), .int (mg M0 2), .ref (a0 3), .int (mg M0 4), .ref (a0 5)]).set 2 (.int v))))) : va_D A (cnW cB cI cJ cZ h0 a0 (sg M0 2 v)) := h
theorem cnP_0_f4 {D : va_G} {H : Heap} {cB cI cJ cZ : ClassId} {h0 : Nat} {a0 : Nat → Nat} {M0 : gS} {v : Int32} (h : va_P D vwCl ((cnW cB cI cJ cZ h0 a0 M0).set 0 (h0, .inr (1, ([.int (mg M0 0), .ref (a0 1), .int (mg M0 2), .ref (a0 3), .int (mg M0 4), .ref (a0 5)]).set 4 (.int v)))) H) : va_P D vwCl (cnW cB cI cJ cZ h0 a0 (sg M0 4 v)) H := h
theorem cnD_0_f4 {A : Nat → Prop} {cB cI cJ cZ : ClassId} {h0 : Nat} {a0 : Nat → Nat} {M0 : gS} {v : Int32} (h : va_D A ((cnW cB cI cJ cZ h0 a0 M0).set 0 (h0, .inr (1, ([.int (mg M0 0), .ref (a0 1), .int (mg M0 2), .ref (a0 3), .int (mg M0 4), .ref (a0 5)]).set 4 (.int v))))) : va_D A (cnW cB cI cJ cZ h0 a0 (sg M0 4 v)) := h
theorem cnP_0_a1 {D : va_G} {H : Heap} {cB cI cJ cZ : ClassId} {h0 : Nat} {a0 : Nat → Nat} {M0 : gS} {j : Nat} {v : Int32} (h : va_P D vwCl ((cnW cB cI cJ cZ h0 a0 M0).set 1 (a0 1, .inl (cI, 4, .inl (upd (ma M0 1) j v)))) H) : va_P D vwCl (cnW cB cI cJ cZ h0 a0 (sa M0 1 j v)) H := h
theorem cnD_0_a1 {A : Nat → Prop} {cB cI cJ cZ : ClassId} {h0 : Nat} {a0 : Nat → Nat} {M0 : gS} {j : Nat} {v : Int32} (h : va_D A ((cnW cB cI cJ cZ h0 a0 M0).set 1 (a0 1, .inl (cI, 4, .inl (upd (ma M0 1) j v))))) : va_D A (cnW cB cI cJ cZ h0 a0 (sa M0 1 j v)) := h
theorem cnP_0_c1 {D : va_G} {H : Heap} {cB cI cJ cZ : ClassId} {h0 : Nat} {a0 : Nat → Nat} {M0 : gS} {f : Nat → Int32} (h : va_P D vwCl ((cnW cB cI cJ cZ h0 a0 M0).set 1 (a0 1, .inl (cI, 4, .inl f))) H) : va_P D vwCl (cnW cB cI cJ cZ h0 a0 (sF M0 1 f)) H := h
theorem cnD_0_c1 {A : Nat → Prop} {cB cI cJ cZ : ClassId} {h0 : Nat} {a0 : Nat → Nat} {M0 : gS} {f : Nat → Int32} (h : va_D A ((cnW cB cI cJ cZ h0 a0 M0).set 1 (a0 1, .inl (cI, 4, .inl f)))) : va_D A (cnW cB cI cJ cZ h0 a0 (sF M0 1 f)) := h
theorem cnP_0_a3 {D : va_G} {H : Heap} {cB cI cJ cZ : ClassId} {h0 : Nat} {a0 : Nat → Nat} {M0 : gS} {j : Nat} {v : Int32} (h : va_P D vwCl ((cnW cB cI cJ cZ h0 a0 M0).set 2 (a0 3, .inl (cI, 4, .inl (upd (ma M0 3) j v)))) H) : va_P D vwCl (cnW cB cI cJ cZ h0 a0 (sa M0 3 j v)) H := h
theorem cnD_0_a3 {A : Nat → Prop} {cB cI cJ cZ : ClassId} {h0 : Nat} {a0 : Nat → Nat} {M0 : gS} {j : Nat} {v : Int32} (h : va_D A ((cnW cB cI cJ cZ h0 a0 M0).set 2 (a0 3, .inl (cI, 4, .inl (upd (ma M0 3) j v))))) : va_D A (cnW cB cI cJ cZ h0 a0 (sa M0 3 j v)) := h
theorem cnP_0_c3 {D : va_G} {H : Heap} {cB cI cJ cZ : ClassId} {h0 : Nat} {a0 : Nat → Nat} {M0 : gS} {f : Nat → Int32} (h : va_P D vwCl ((cnW cB cI cJ cZ h0 a0 M0).set 2 (a0 3, .inl (cI, 4, .inl f))) H) : va_P D vwCl (cnW cB cI cJ cZ h0 a0 (sF M0 3 f)) H := h
theorem cnD_0_c3 {A : Nat → Prop} {cB cI cJ cZ : ClassId} {h0 : Nat} {a0 : Nat → Nat} {M0 : gS} {f : Nat → Int32} (h : va_D A ((cnW cB cI cJ cZ h0 a0 M0).set 2 (a0 3, .inl (cI, 4, .inl f)))) : va_D A (cnW cB cI cJ cZ h0 a0 (sF M0 3 f)) := h
theorem cnP_0_a5 {D : va_G} {H : Heap} {cB cI cJ cZ : ClassId} {h0 : Nat} {a0 : Nat → Nat} {M0 : gS} {j : Nat} {v : Int32} (h : va_P D vwCl ((cnW cB cI cJ cZ h0 a0 M0).set 3 (a0 5, .inl (cI, 2, .inl (upd (ma M0 5) j v)))) H) : va_P D vwCl (cnW cB cI cJ cZ h0 a0 (sa M0 5 j v)) H := h
theorem cnD_0_a5 {A : Nat → Prop} {cB cI cJ cZ : ClassId} {h0 : Nat} {a0 : Nat → Nat} {M0 : gS} {j : Nat} {v : Int32} (h : va_D A ((cnW cB cI cJ cZ h0 a0 M0).set 3 (a0 5, .inl (cI, 2, .inl (upd (ma M0 5) j v))))) : va_D A (cnW cB cI cJ cZ h0 a0 (sa M0 5 j v)) := h
theorem cnP_0_c5 {D : va_G} {H : Heap} {cB cI cJ cZ : ClassId} {h0 : Nat} {a0 : Nat → Nat} {M0 : gS} {f : Nat → Int32} (h : va_P D vwCl ((cnW cB cI cJ cZ h0 a0 M0).set 3 (a0 5, .inl (cI, 2, .inl f))) H) : va_P D vwCl (cnW cB cI cJ cZ h0 a0 (sF M0 5 f)) H := h
theorem cnD_0_c5 {A : Nat → Prop} {cB cI cJ cZ : ClassId} {h0 : Nat} {a0 : Nat → Nat} {M0 : gS} {f : Nat → Int32} (h : va_D A ((cnW cB cI cJ cZ h0 a0 M0).set 3 (a0 5, .inl (cI, 2, .inl f)))) : va_D A (cnW cB cI cJ cZ h0 a0 (sF M0 5 f)) := h
theorem cnpV {s : State} {dC : Nat → ClassId} {dI : Nat → Nat → Nat} {A : Nat → Prop} {cB cI cJ cZ : ClassId} {h0 : Nat} {a0 : Nat → Nat} {M0 : gS} {H : Heap} {As : List Value} (hK : va_K (dC, dI) vwCl (gT cB cI cJ cZ) s) (hP : va_P (dC, dI) vwCl (cnW cB cI cJ cZ h0 a0 M0) H) (hD : va_D A (cnW cB cI cJ cZ h0 a0 M0)) : PreV s H RX1 h0 (va_Pc (.ref h0 :: As) (cnI dC dI cB cI cJ cZ h0 a0 M0 H.size)) As := ⟨fun a U g mk q => by obtain ⟨q0, q1, qP, qK, qD⟩ := q; exact ⟨q0, q1, qP, va_K.moved (u := U) (U := U.calling g mk a) (Vm.Alike.refl U.vm) qK, qD⟩, va_recv hK hP (ci := 1) (q0 := 0) rfl rfl, fun U hU hW => ⟨rfl, by rw [hU], by rw [hU]; exact hP, va_K.moved hW.alike hK, hD.weaken (fun _ _ _ _ => trivial)⟩⟩
theorem cnpS {s : State} {dC : Nat → ClassId} {dI : Nat → Nat → Nat} {A : Nat → Prop} {cB cI cJ cZ : ClassId} {h0 : Nat} {a0 : Nat → Nat} {M0 : gS} {H : Heap} {As : List Value} (hK : va_K (dC, dI) vwCl (gT cB cI cJ cZ) s) (hP : va_P (dC, dI) vwCl (cnW cB cI cJ cZ h0 a0 M0) H) (hD : va_D A (cnW cB cI cJ cZ h0 a0 M0)) : PreS s H (va_Pc As (cnI dC dI cB cI cJ cZ h0 a0 M0 H.size)) As := ⟨fun a U g mk q => by obtain ⟨q0, q1, qP, qK, qD⟩ := q; exact ⟨q0, q1, qP, va_K.moved (u := U) (U := U.calling g mk a) (Vm.Alike.refl U.vm) qK, qD⟩, fun U hU hW => ⟨rfl, by rw [hU], by rw [hU]; exact hP, va_K.moved hW.alike hK, hD.weaken (fun _ _ _ _ => trivial)⟩⟩

abbrev ccW (cB cI cJ cZ : ClassId) (h0 : Nat) (a0 : Nat → Nat) (h1 : Nat) (a1 : Nat → Nat) (M0 : gS) (M1 : gS) : va_W := [(h0, .inr (1, [.int (mg M0 0), .ref (a0 1), .int (mg M0 2), .ref (a0 3), .int (mg M0 4), .ref (a0 5)])), (a0 1, .inl (cI, 4, .inl (ma M0 1))), (a0 3, .inl (cI, 4, .inl (ma M0 3))), (a0 5, .inl (cI, 2, .inl (ma M0 5))), (h1, .inr (1, [.int (mg M1 0), .ref (a1 1), .int (mg M1 2), .ref (a1 3), .int (mg M1 4), .ref (a1 5)])), (a1 1, .inl (cI, 4, .inl (ma M1 1))), (a1 3, .inl (cI, 4, .inl (ma M1 3))), (a1 5, .inl (cI, 2, .inl (ma M1 5)))]
abbrev ccI (dC : Nat → ClassId) (dI : Nat → Nat → Nat) (cB cI cJ cZ : ClassId) (h0 : Nat) (a0 : Nat → Nat) (h1 : Nat) (a1 : Nat → Nat) (M0 : gS) (M1 : gS) (sz : Nat) : State → Prop := fun U => U.heap.size = sz ∧ va_P (dC, dI) vwCl (ccW cB cI cJ cZ h0 a0 h1 a1 M0 M1) U.heap ∧ va_K (dC, dI) vwCl (gT cB cI cJ cZ) U ∧ va_D (fun _ => True) (ccW cB cI cJ cZ h0 a0 h1 a1 M0 M1)
abbrev ccB (dC : Nat → ClassId) (dI : Nat → Nat → Nat) (cB cI cJ cZ : ClassId) (h0 : Nat) (a0 : Nat → Nat) (h1 : Nat) (a1 : Nat → Nat) (A : Nat → Prop) (u : gS × gS) (t : State) : Prop := match u with
  | (M0, M1) => va_P (dC, dI) vwCl (ccW cB cI cJ cZ h0 a0 h1 a1 M0 M1) t.heap ∧ va_K (dC, dI) vwCl (gT cB cI cJ cZ) t ∧ va_D A (ccW cB cI cJ cZ h0 a0 h1 a1 M0 M1)
theorem ccP_0_f0 {D : va_G} {H : Heap} {cB cI cJ cZ : ClassId} {h0 : Nat} {a0 : Nat → Nat} {h1 : Nat} {a1 : Nat → Nat} {M0 : gS} {M1 : gS} {v : Int32} (h : va_P D vwCl ((ccW cB cI cJ cZ h0 a0 h1 a1 M0 M1).set 0 (h0, .inr (1, ([.int (mg M0 0), .ref (a0 1), .int (mg M0 2), .ref (a0 3), .int (mg M0 4), .ref (a0 5)]).set 0 (.int v)))) H) : va_P D vwCl (ccW cB cI cJ cZ h0 a0 h1 a1 (sg M0 0 v) M1) H := h
theorem ccD_0_f0 {A : Nat → Prop} {cB cI cJ cZ : ClassId} {h0 : Nat} {a0 : Nat → Nat} {h1 : Nat} {a1 : Nat → Nat} {M0 : gS} {M1 : gS} {v : Int32} (h : va_D A ((ccW cB cI cJ cZ h0 a0 h1 a1 M0 M1).set 0 (h0, .inr (1, ([.int (mg M0 0), .ref (a0 1), .int (mg M0 2), .ref (a0 3), .int (mg M0 4), .ref (a0 5)]).set 0 (.int v))))) : va_D A (ccW cB cI cJ cZ h0 a0 h1 a1 (sg M0 0 v) M1) := h
theorem ccP_0_f2 {D : va_G} {H : Heap} {cB cI cJ cZ : ClassId} {h0 : Nat} {a0 : Nat → Nat} {h1 : Nat} {a1 : Nat → Nat} {M0 : gS} {M1 : gS} {v : Int32} (h : va_P D vwCl ((ccW cB cI cJ cZ h0 a0 h1 a1 M0 M1).set 0 (h0, .inr (1, ([.int (mg M0 0), .ref (a0 1), .int (mg M0 2), .ref (a0 3), .int (mg M0 4), .ref (a0 5)]).set 2 (.int v)))) H) : va_P D vwCl (ccW cB cI cJ cZ h0 a0 h1 a1 (sg M0 2 v) M1) H := h
theorem ccD_0_f2 {A : Nat → Prop} {cB cI cJ cZ : ClassId} {h0 : Nat} {a0 : Nat → Nat} {h1 : Nat} {a1 : Nat → Nat} {M0 : gS} {M1 : gS} {v : Int32} (h : va_D A ((ccW cB cI cJ cZ h0 a0 h1 a1 M0 M1).set 0 (h0, .inr (1, ([.int (mg M0 0), .ref (a0 1), .int (mg M0 2), .ref (a0 3), .int (mg M0 4), .ref (a0 5)]).set 2 (.int v))))) : va_D A (ccW cB cI cJ cZ h0 a0 h1 a1 (sg M0 2 v) M1) := h
theorem ccP_0_f4 {D : va_G} {H : Heap} {cB cI cJ cZ : ClassId} {h0 : Nat} {a0 : Nat → Nat} {h1 : Nat} {a1 : Nat → Nat} {M0 : gS} {M1 : gS} {v : Int32} (h : va_P D vwCl ((ccW cB cI cJ cZ h0 a0 h1 a1 M0 M1).set 0 (h0, .inr (1, ([.int (mg M0 0), .ref (a0 1), .int (mg M0 2), .ref (a0 3), .int (mg M0 4), .ref (a0 5)]).set 4 (.int v)))) H) : va_P D vwCl (ccW cB cI cJ cZ h0 a0 h1 a1 (sg M0 4 v) M1) H := h
theorem ccD_0_f4 {A : Nat → Prop} {cB cI cJ cZ : ClassId} {h0 : Nat} {a0 : Nat → Nat} {h1 : Nat} {a1 : Nat → Nat} {M0 : gS} {M1 : gS} {v : Int32} (h : va_D A ((ccW cB cI cJ cZ h0 a0 h1 a1 M0 M1).set 0 (h0, .inr (1, ([.int (mg M0 0), .ref (a0 1), .int (mg M0 2), .ref (a0 3), .int (mg M0 4), .ref (a0 5)]).set 4 (.int v))))) : va_D A (ccW cB cI cJ cZ h0 a0 h1 a1 (sg M0 4 v) M1) := h
theorem ccP_0_a1 {D : va_G} {H : Heap} {cB cI cJ cZ : ClassId} {h0 : Nat} {a0 : Nat → Nat} {h1 : Nat} {a1 : Nat → Nat} {M0 : gS} {M1 : gS} {j : Nat} {v : Int32} (h : va_P D vwCl ((ccW cB cI cJ cZ h0 a0 h1 a1 M0 M1).set 1 (a0 1, .inl (cI, 4, .inl (upd (ma M0 1) j v)))) H) : va_P D vwCl (ccW cB cI cJ cZ h0 a0 h1 a1 (sa M0 1 j v) M1) H := h
theorem ccD_0_a1 {A : Nat → Prop} {cB cI cJ cZ : ClassId} {h0 : Nat} {a0 : Nat → Nat} {h1 : Nat} {a1 : Nat → Nat} {M0 : gS} {M1 : gS} {j : Nat} {v : Int32} (h : va_D A ((ccW cB cI cJ cZ h0 a0 h1 a1 M0 M1).set 1 (a0 1, .inl (cI, 4, .inl (upd (ma M0 1) j v))))) : va_D A (ccW cB cI cJ cZ h0 a0 h1 a1 (sa M0 1 j v) M1) := h
theorem ccP_0_c1 {D : va_G} {H : Heap} {cB cI cJ cZ : ClassId} {h0 : Nat} {a0 : Nat → Nat} {h1 : Nat} {a1 : Nat → Nat} {M0 : gS} {M1 : gS} {f : Nat → Int32} (h : va_P D vwCl ((ccW cB cI cJ cZ h0 a0 h1 a1 M0 M1).set 1 (a0 1, .inl (cI, 4, .inl f))) H) : va_P D vwCl (ccW cB cI cJ cZ h0 a0 h1 a1 (sF M0 1 f) M1) H := h
theorem ccD_0_c1 {A : Nat → Prop} {cB cI cJ cZ : ClassId} {h0 : Nat} {a0 : Nat → Nat} {h1 : Nat} {a1 : Nat → Nat} {M0 : gS} {M1 : gS} {f : Nat → Int32} (h : va_D A ((ccW cB cI cJ cZ h0 a0 h1 a1 M0 M1).set 1 (a0 1, .inl (cI, 4, .inl f)))) : va_D A (ccW cB cI cJ cZ h0 a0 h1 a1 (sF M0 1 f) M1) := h
theorem ccP_0_a3 {D : va_G} {H : Heap} {cB cI cJ cZ : ClassId} {h0 : Nat} {a0 : Nat → Nat} {h1 : Nat} {a1 : Nat → Nat} {M0 : gS} {M1 : gS} {j : Nat} {v : Int32} (h : va_P D vwCl ((ccW cB cI cJ cZ h0 a0 h1 a1 M0 M1).set 2 (a0 3, .inl (cI, 4, .inl (upd (ma M0 3) j v)))) H) : va_P D vwCl (ccW cB cI cJ cZ h0 a0 h1 a1 (sa M0 3 j v) M1) H := h
theorem ccD_0_a3 {A : Nat → Prop} {cB cI cJ cZ : ClassId} {h0 : Nat} {a0 : Nat → Nat} {h1 : Nat} {a1 : Nat → Nat} {M0 : gS} {M1 : gS} {j : Nat} {v : Int32} (h : va_D A ((ccW cB cI cJ cZ h0 a0 h1 a1 M0 M1).set 2 (a0 3, .inl (cI, 4, .inl (upd (ma M0 3) j v))))) : va_D A (ccW cB cI cJ cZ h0 a0 h1 a1 (sa M0 3 j v) M1) := h
theorem ccP_0_c3 {D : va_G} {H : Heap} {cB cI cJ cZ : ClassId} {h0 : Nat} {a0 : Nat → Nat} {h1 : Nat} {a1 : Nat → Nat} {M0 : gS} {M1 : gS} {f : Nat → Int32} (h : va_P D vwCl ((ccW cB cI cJ cZ h0 a0 h1 a1 M0 M1).set 2 (a0 3, .inl (cI, 4, .inl f))) H) : va_P D vwCl (ccW cB cI cJ cZ h0 a0 h1 a1 (sF M0 3 f) M1) H := h
theorem ccD_0_c3 {A : Nat → Prop} {cB cI cJ cZ : ClassId} {h0 : Nat} {a0 : Nat → Nat} {h1 : Nat} {a1 : Nat → Nat} {M0 : gS} {M1 : gS} {f : Nat → Int32} (h : va_D A ((ccW cB cI cJ cZ h0 a0 h1 a1 M0 M1).set 2 (a0 3, .inl (cI, 4, .inl f)))) : va_D A (ccW cB cI cJ cZ h0 a0 h1 a1 (sF M0 3 f) M1) := h
theorem ccP_0_a5 {D : va_G} {H : Heap} {cB cI cJ cZ : ClassId} {h0 : Nat} {a0 : Nat → Nat} {h1 : Nat} {a1 : Nat → Nat} {M0 : gS} {M1 : gS} {j : Nat} {v : Int32} (h : va_P D vwCl ((ccW cB cI cJ cZ h0 a0 h1 a1 M0 M1).set 3 (a0 5, .inl (cI, 2, .inl (upd (ma M0 5) j v)))) H) : va_P D vwCl (ccW cB cI cJ cZ h0 a0 h1 a1 (sa M0 5 j v) M1) H := h
theorem ccD_0_a5 {A : Nat → Prop} {cB cI cJ cZ : ClassId} {h0 : Nat} {a0 : Nat → Nat} {h1 : Nat} {a1 : Nat → Nat} {M0 : gS} {M1 : gS} {j : Nat} {v : Int32} (h : va_D A ((ccW cB cI cJ cZ h0 a0 h1 a1 M0 M1).set 3 (a0 5, .inl (cI, 2, .inl (upd (ma M0 5) j v))))) : va_D A (ccW cB cI cJ cZ h0 a0 h1 a1 (sa M0 5 j v) M1) := h
theorem ccP_0_c5 {D : va_G} {H : Heap} {cB cI cJ cZ : ClassId} {h0 : Nat} {a0 : Nat → Nat} {h1 : Nat} {a1 : Nat → Nat} {M0 : gS} {M1 : gS} {f : Nat → Int32} (h : va_P D vwCl ((ccW cB cI cJ cZ h0 a0 h1 a1 M0 M1).set 3 (a0 5, .inl (cI, 2, .inl f))) H) : va_P D vwCl (ccW cB cI cJ cZ h0 a0 h1 a1 (sF M0 5 f) M1) H := h
theorem ccD_0_c5 {A : Nat → Prop} {cB cI cJ cZ : ClassId} {h0 : Nat} {a0 : Nat → Nat} {h1 : Nat} {a1 : Nat → Nat} {M0 : gS} {M1 : gS} {f : Nat → Int32} (h : va_D A ((ccW cB cI cJ cZ h0 a0 h1 a1 M0 M1).set 3 (a0 5, .inl (cI, 2, .inl f)))) : va_D A (ccW cB cI cJ cZ h0 a0 h1 a1 (sF M0 5 f) M1) := h
theorem ccP_1_f0 {D : va_G} {H : Heap} {cB cI cJ cZ : ClassId} {h0 : Nat} {a0 : Nat → Nat} {h1 : Nat} {a1 : Nat → Nat} {M0 : gS} {M1 : gS} {v : Int32} (h : va_P D vwCl ((ccW cB cI cJ cZ h0 a0 h1 a1 M0 M1).set 4 (h1, .inr (1, ([.int (mg M1 0), .ref (a1 1), .int (mg M1 2), .ref (a1 3), .int (mg M1 4), .ref (a1 5)]).set 0 (.int v)))) H) : va_P D vwCl (ccW cB cI cJ cZ h0 a0 h1 a1 M0 (sg M1 0 v)) H := h
theorem ccD_1_f0 {A : Nat → Prop} {cB cI cJ cZ : ClassId} {h0 : Nat} {a0 : Nat → Nat} {h1 : Nat} {a1 : Nat → Nat} {M0 : gS} {M1 : gS} {v : Int32} (h : va_D A ((ccW cB cI cJ cZ h0 a0 h1 a1 M0 M1).set 4 (h1, .inr (1, ([.int (mg M1 0), .ref (a1 1), .int (mg M1 2), .ref (a1 3), .int (mg M1 4), .ref (a1 5)]).set 0 (.int v))))) : va_D A (ccW cB cI cJ cZ h0 a0 h1 a1 M0 (sg M1 0 v)) := h
theorem ccP_1_f2 {D : va_G} {H : Heap} {cB cI cJ cZ : ClassId} {h0 : Nat} {a0 : Nat → Nat} {h1 : Nat} {a1 : Nat → Nat} {M0 : gS} {M1 : gS} {v : Int32} (h : va_P D vwCl ((ccW cB cI cJ cZ h0 a0 h1 a1 M0 M1).set 4 (h1, .inr (1, ([.int (mg M1 0), .ref (a1 1), .int (mg M1 2), .ref (a1 3), .int (mg M1 4), .ref (a1 5)]).set 2 (.int v)))) H) : va_P D vwCl (ccW cB cI cJ cZ h0 a0 h1 a1 M0 (sg M1 2 v)) H := h
theorem ccD_1_f2 {A : Nat → Prop} {cB cI cJ cZ : ClassId} {h0 : Nat} {a0 : Nat → Nat} {h1 : Nat} {a1 : Nat → Nat} {M0 : gS} {M1 : gS} {v : Int32} (h : va_D A ((ccW cB cI cJ cZ h0 a0 h1 a1 M0 M1).set 4 (h1, .inr (1, ([.int (mg M1 0), .ref (a1 1), .int (mg M1 2), .ref (a1 3), .int (mg M1 4), .ref (a1 5)]).set 2 (.int v))))) : va_D A (ccW cB cI cJ cZ h0 a0 h1 a1 M0 (sg M1 2 v)) := h
theorem ccP_1_f4 {D : va_G} {H : Heap} {cB cI cJ cZ : ClassId} {h0 : Nat} {a0 : Nat → Nat} {h1 : Nat} {a1 : Nat → Nat} {M0 : gS} {M1 : gS} {v : Int32} (h : va_P D vwCl ((ccW cB cI cJ cZ h0 a0 h1 a1 M0 M1).set 4 (h1, .inr (1, ([.int (mg M1 0), .ref (a1 1), .int (mg M1 2), .ref (a1 3), .int (mg M1 4), .ref (a1 5)]).set 4 (.int v)))) H) : va_P D vwCl (ccW cB cI cJ cZ h0 a0 h1 a1 M0 (sg M1 4 v)) H := h
theorem ccD_1_f4 {A : Nat → Prop} {cB cI cJ cZ : ClassId} {h0 : Nat} {a0 : Nat → Nat} {h1 : Nat} {a1 : Nat → Nat} {M0 : gS} {M1 : gS} {v : Int32} (h : va_D A ((ccW cB cI cJ cZ h0 a0 h1 a1 M0 M1).set 4 (h1, .inr (1, ([.int (mg M1 0), .ref (a1 1), .int (mg M1 2), .ref (a1 3), .int (mg M1 4), .ref (a1 5)]).set 4 (.int v))))) : va_D A (ccW cB cI cJ cZ h0 a0 h1 a1 M0 (sg M1 4 v)) := h
theorem ccP_1_a1 {D : va_G} {H : Heap} {cB cI cJ cZ : ClassId} {h0 : Nat} {a0 : Nat → Nat} {h1 : Nat} {a1 : Nat → Nat} {M0 : gS} {M1 : gS} {j : Nat} {v : Int32} (h : va_P D vwCl ((ccW cB cI cJ cZ h0 a0 h1 a1 M0 M1).set 5 (a1 1, .inl (cI, 4, .inl (upd (ma M1 1) j v)))) H) : va_P D vwCl (ccW cB cI cJ cZ h0 a0 h1 a1 M0 (sa M1 1 j v)) H := h
theorem ccD_1_a1 {A : Nat → Prop} {cB cI cJ cZ : ClassId} {h0 : Nat} {a0 : Nat → Nat} {h1 : Nat} {a1 : Nat → Nat} {M0 : gS} {M1 : gS} {j : Nat} {v : Int32} (h : va_D A ((ccW cB cI cJ cZ h0 a0 h1 a1 M0 M1).set 5 (a1 1, .inl (cI, 4, .inl (upd (ma M1 1) j v))))) : va_D A (ccW cB cI cJ cZ h0 a0 h1 a1 M0 (sa M1 1 j v)) := h
theorem ccP_1_c1 {D : va_G} {H : Heap} {cB cI cJ cZ : ClassId} {h0 : Nat} {a0 : Nat → Nat} {h1 : Nat} {a1 : Nat → Nat} {M0 : gS} {M1 : gS} {f : Nat → Int32} (h : va_P D vwCl ((ccW cB cI cJ cZ h0 a0 h1 a1 M0 M1).set 5 (a1 1, .inl (cI, 4, .inl f))) H) : va_P D vwCl (ccW cB cI cJ cZ h0 a0 h1 a1 M0 (sF M1 1 f)) H := h
theorem ccD_1_c1 {A : Nat → Prop} {cB cI cJ cZ : ClassId} {h0 : Nat} {a0 : Nat → Nat} {h1 : Nat} {a1 : Nat → Nat} {M0 : gS} {M1 : gS} {f : Nat → Int32} (h : va_D A ((ccW cB cI cJ cZ h0 a0 h1 a1 M0 M1).set 5 (a1 1, .inl (cI, 4, .inl f)))) : va_D A (ccW cB cI cJ cZ h0 a0 h1 a1 M0 (sF M1 1 f)) := h
theorem ccP_1_a3 {D : va_G} {H : Heap} {cB cI cJ cZ : ClassId} {h0 : Nat} {a0 : Nat → Nat} {h1 : Nat} {a1 : Nat → Nat} {M0 : gS} {M1 : gS} {j : Nat} {v : Int32} (h : va_P D vwCl ((ccW cB cI cJ cZ h0 a0 h1 a1 M0 M1).set 6 (a1 3, .inl (cI, 4, .inl (upd (ma M1 3) j v)))) H) : va_P D vwCl (ccW cB cI cJ cZ h0 a0 h1 a1 M0 (sa M1 3 j v)) H := h
theorem ccD_1_a3 {A : Nat → Prop} {cB cI cJ cZ : ClassId} {h0 : Nat} {a0 : Nat → Nat} {h1 : Nat} {a1 : Nat → Nat} {M0 : gS} {M1 : gS} {j : Nat} {v : Int32} (h : va_D A ((ccW cB cI cJ cZ h0 a0 h1 a1 M0 M1).set 6 (a1 3, .inl (cI, 4, .inl (upd (ma M1 3) j v))))) : va_D A (ccW cB cI cJ cZ h0 a0 h1 a1 M0 (sa M1 3 j v)) := h
theorem ccP_1_c3 {D : va_G} {H : Heap} {cB cI cJ cZ : ClassId} {h0 : Nat} {a0 : Nat → Nat} {h1 : Nat} {a1 : Nat → Nat} {M0 : gS} {M1 : gS} {f : Nat → Int32} (h : va_P D vwCl ((ccW cB cI cJ cZ h0 a0 h1 a1 M0 M1).set 6 (a1 3, .inl (cI, 4, .inl f))) H) : va_P D vwCl (ccW cB cI cJ cZ h0 a0 h1 a1 M0 (sF M1 3 f)) H := h
theorem ccD_1_c3 {A : Nat → Prop} {cB cI cJ cZ : ClassId} {h0 : Nat} {a0 : Nat → Nat} {h1 : Nat} {a1 : Nat → Nat} {M0 : gS} {M1 : gS} {f : Nat → Int32} (h : va_D A ((ccW cB cI cJ cZ h0 a0 h1 a1 M0 M1).set 6 (a1 3, .inl (cI, 4, .inl f)))) : va_D A (ccW cB cI cJ cZ h0 a0 h1 a1 M0 (sF M1 3 f)) := h
theorem ccP_1_a5 {D : va_G} {H : Heap} {cB cI cJ cZ : ClassId} {h0 : Nat} {a0 : Nat → Nat} {h1 : Nat} {a1 : Nat → Nat} {M0 : gS} {M1 : gS} {j : Nat} {v : Int32} (h : va_P D vwCl ((ccW cB cI cJ cZ h0 a0 h1 a1 M0 M1).set 7 (a1 5, .inl (cI, 2, .inl (upd (ma M1 5) j v)))) H) : va_P D vwCl (ccW cB cI cJ cZ h0 a0 h1 a1 M0 (sa M1 5 j v)) H := h
theorem ccD_1_a5 {A : Nat → Prop} {cB cI cJ cZ : ClassId} {h0 : Nat} {a0 : Nat → Nat} {h1 : Nat} {a1 : Nat → Nat} {M0 : gS} {M1 : gS} {j : Nat} {v : Int32} (h : va_D A ((ccW cB cI cJ cZ h0 a0 h1 a1 M0 M1).set 7 (a1 5, .inl (cI, 2, .inl (upd (ma M1 5) j v))))) : va_D A (ccW cB cI cJ cZ h0 a0 h1 a1 M0 (sa M1 5 j v)) := h
theorem ccP_1_c5 {D : va_G} {H : Heap} {cB cI cJ cZ : ClassId} {h0 : Nat} {a0 : Nat → Nat} {h1 : Nat} {a1 : Nat → Nat} {M0 : gS} {M1 : gS} {f : Nat → Int32} (h : va_P D vwCl ((ccW cB cI cJ cZ h0 a0 h1 a1 M0 M1).set 7 (a1 5, .inl (cI, 2, .inl f))) H) : va_P D vwCl (ccW cB cI cJ cZ h0 a0 h1 a1 M0 (sF M1 5 f)) H := h
theorem ccD_1_c5 {A : Nat → Prop} {cB cI cJ cZ : ClassId} {h0 : Nat} {a0 : Nat → Nat} {h1 : Nat} {a1 : Nat → Nat} {M0 : gS} {M1 : gS} {f : Nat → Int32} (h : va_D A ((ccW cB cI cJ cZ h0 a0 h1 a1 M0 M1).set 7 (a1 5, .inl (cI, 2, .inl f)))) : va_D A (ccW cB cI cJ cZ h0 a0 h1 a1 M0 (sF M1 5 f)) := h
theorem ccpV {s : State} {dC : Nat → ClassId} {dI : Nat → Nat → Nat} {A : Nat → Prop} {cB cI cJ cZ : ClassId} {h0 : Nat} {a0 : Nat → Nat} {h1 : Nat} {a1 : Nat → Nat} {M0 : gS} {M1 : gS} {H : Heap} {As : List Value} (hK : va_K (dC, dI) vwCl (gT cB cI cJ cZ) s) (hP : va_P (dC, dI) vwCl (ccW cB cI cJ cZ h0 a0 h1 a1 M0 M1) H) (hD : va_D A (ccW cB cI cJ cZ h0 a0 h1 a1 M0 M1)) : PreV s H RX1 h0 (va_Pc (.ref h0 :: As) (ccI dC dI cB cI cJ cZ h0 a0 h1 a1 M0 M1 H.size)) As := ⟨fun a U g mk q => by obtain ⟨q0, q1, qP, qK, qD⟩ := q; exact ⟨q0, q1, qP, va_K.moved (u := U) (U := U.calling g mk a) (Vm.Alike.refl U.vm) qK, qD⟩, va_recv hK hP (ci := 1) (q0 := 0) rfl rfl, fun U hU hW => ⟨rfl, by rw [hU], by rw [hU]; exact hP, va_K.moved hW.alike hK, hD.weaken (fun _ _ _ _ => trivial)⟩⟩
theorem ccpS {s : State} {dC : Nat → ClassId} {dI : Nat → Nat → Nat} {A : Nat → Prop} {cB cI cJ cZ : ClassId} {h0 : Nat} {a0 : Nat → Nat} {h1 : Nat} {a1 : Nat → Nat} {M0 : gS} {M1 : gS} {H : Heap} {As : List Value} (hK : va_K (dC, dI) vwCl (gT cB cI cJ cZ) s) (hP : va_P (dC, dI) vwCl (ccW cB cI cJ cZ h0 a0 h1 a1 M0 M1) H) (hD : va_D A (ccW cB cI cJ cZ h0 a0 h1 a1 M0 M1)) : PreS s H (va_Pc As (ccI dC dI cB cI cJ cZ h0 a0 h1 a1 M0 M1 H.size)) As := ⟨fun a U g mk q => by obtain ⟨q0, q1, qP, qK, qD⟩ := q; exact ⟨q0, q1, qP, va_K.moved (u := U) (U := U.calling g mk a) (Vm.Alike.refl U.vm) qK, qD⟩, fun U hU hW => ⟨rfl, by rw [hU], by rw [hU]; exact hP, va_K.moved hW.alike hK, hD.weaken (fun _ _ _ _ => trivial)⟩⟩

abbrev loW (cB cI cJ cZ : ClassId) (h0 : Nat) (a0 : Nat → Nat) (M0 : gS) : va_W := [(h0, .inr (3, [.int (mg M0 0), .int (mg M0 1), .int (mg M0 2), .int (mg M0 3), .int (mg M0 4)]))]
abbrev loI (dC : Nat → ClassId) (dI : Nat → Nat → Nat) (cB cI cJ cZ : ClassId) (h0 : Nat) (a0 : Nat → Nat) (M0 : gS) (sz : Nat) : State → Prop := fun U => U.heap.size = sz ∧ va_P (dC, dI) vwCl (loW cB cI cJ cZ h0 a0 M0) U.heap ∧ va_K (dC, dI) vwCl (gT cB cI cJ cZ) U ∧ va_D (fun _ => True) (loW cB cI cJ cZ h0 a0 M0)
abbrev loB (dC : Nat → ClassId) (dI : Nat → Nat → Nat) (cB cI cJ cZ : ClassId) (h0 : Nat) (a0 : Nat → Nat) (A : Nat → Prop) (u : gS) (t : State) : Prop := match u with
  | (M0) => va_P (dC, dI) vwCl (loW cB cI cJ cZ h0 a0 M0) t.heap ∧ va_K (dC, dI) vwCl (gT cB cI cJ cZ) t ∧ va_D A (loW cB cI cJ cZ h0 a0 M0)
theorem loP_0_f0 {D : va_G} {H : Heap} {cB cI cJ cZ : ClassId} {h0 : Nat} {a0 : Nat → Nat} {M0 : gS} {v : Int32} (h : va_P D vwCl ((loW cB cI cJ cZ h0 a0 M0).set 0 (h0, .inr (3, ([.int (mg M0 0), .int (mg M0 1), .int (mg M0 2), .int (mg M0 3), .int (mg M0 4)]).set 0 (.int v)))) H) : va_P D vwCl (loW cB cI cJ cZ h0 a0 (sg M0 0 v)) H := h
theorem loD_0_f0 {A : Nat → Prop} {cB cI cJ cZ : ClassId} {h0 : Nat} {a0 : Nat → Nat} {M0 : gS} {v : Int32} (h : va_D A ((loW cB cI cJ cZ h0 a0 M0).set 0 (h0, .inr (3, ([.int (mg M0 0), .int (mg M0 1), .int (mg M0 2), .int (mg M0 3), .int (mg M0 4)]).set 0 (.int v))))) : va_D A (loW cB cI cJ cZ h0 a0 (sg M0 0 v)) := h
theorem loP_0_f1 {D : va_G} {H : Heap} {cB cI cJ cZ : ClassId} {h0 : Nat} {a0 : Nat → Nat} {M0 : gS} {v : Int32} (h : va_P D vwCl ((loW cB cI cJ cZ h0 a0 M0).set 0 (h0, .inr (3, ([.int (mg M0 0), .int (mg M0 1), .int (mg M0 2), .int (mg M0 3), .int (mg M0 4)]).set 1 (.int v)))) H) : va_P D vwCl (loW cB cI cJ cZ h0 a0 (sg M0 1 v)) H := h
theorem loD_0_f1 {A : Nat → Prop} {cB cI cJ cZ : ClassId} {h0 : Nat} {a0 : Nat → Nat} {M0 : gS} {v : Int32} (h : va_D A ((loW cB cI cJ cZ h0 a0 M0).set 0 (h0, .inr (3, ([.int (mg M0 0), .int (mg M0 1), .int (mg M0 2), .int (mg M0 3), .int (mg M0 4)]).set 1 (.int v))))) : va_D A (loW cB cI cJ cZ h0 a0 (sg M0 1 v)) := h
theorem loP_0_f2 {D : va_G} {H : Heap} {cB cI cJ cZ : ClassId} {h0 : Nat} {a0 : Nat → Nat} {M0 : gS} {v : Int32} (h : va_P D vwCl ((loW cB cI cJ cZ h0 a0 M0).set 0 (h0, .inr (3, ([.int (mg M0 0), .int (mg M0 1), .int (mg M0 2), .int (mg M0 3), .int (mg M0 4)]).set 2 (.int v)))) H) : va_P D vwCl (loW cB cI cJ cZ h0 a0 (sg M0 2 v)) H := h
theorem loD_0_f2 {A : Nat → Prop} {cB cI cJ cZ : ClassId} {h0 : Nat} {a0 : Nat → Nat} {M0 : gS} {v : Int32} (h : va_D A ((loW cB cI cJ cZ h0 a0 M0).set 0 (h0, .inr (3, ([.int (mg M0 0), .int (mg M0 1), .int (mg M0 2), .int (mg M0 3), .int (mg M0 4)]).set 2 (.int v))))) : va_D A (loW cB cI cJ cZ h0 a0 (sg M0 2 v)) := h
theorem loP_0_f3 {D : va_G} {H : Heap} {cB cI cJ cZ : ClassId} {h0 : Nat} {a0 : Nat → Nat} {M0 : gS} {v : Int32} (h : va_P D vwCl ((loW cB cI cJ cZ h0 a0 M0).set 0 (h0, .inr (3, ([.int (mg M0 0), .int (mg M0 1), .int (mg M0 2), .int (mg M0 3), .int (mg M0 4)]).set 3 (.int v)))) H) : va_P D vwCl (loW cB cI cJ cZ h0 a0 (sg M0 3 v)) H := h
theorem loD_0_f3 {A : Nat → Prop} {cB cI cJ cZ : ClassId} {h0 : Nat} {a0 : Nat → Nat} {M0 : gS} {v : Int32} (h : va_D A ((loW cB cI cJ cZ h0 a0 M0).set 0 (h0, .inr (3, ([.int (mg M0 0), .int (mg M0 1), .int (mg M0 2), .int (mg M0 3), .int (mg M0 4)]).set 3 (.int v))))) : va_D A (loW cB cI cJ cZ h0 a0 (sg M0 3 v)) := h
theorem loP_0_f4 {D : va_G} {H : Heap} {cB cI cJ cZ : ClassId} {h0 : Nat} {a0 : Nat → Nat} {M0 : gS} {v : Int32} (h : va_P D vwCl ((loW cB cI cJ cZ h0 a0 M0).set 0 (h0, .inr (3, ([.int (mg M0 0), .int (mg M0 1), .int (mg M0 2), .int (mg M0 3), .int (mg M0 4)]).set 4 (.int v)))) H) : va_P D vwCl (loW cB cI cJ cZ h0 a0 (sg M0 4 v)) H := h
theorem loD_0_f4 {A : Nat → Prop} {cB cI cJ cZ : ClassId} {h0 : Nat} {a0 : Nat → Nat} {M0 : gS} {v : Int32} (h : va_D A ((loW cB cI cJ cZ h0 a0 M0).set 0 (h0, .inr (3, ([.int (mg M0 0), .int (mg M0 1), .int (mg M0 2), .int (mg M0 3), .int (mg M0 4)]).set 4 (.int v))))) : va_D A (loW cB cI cJ cZ h0 a0 (sg M0 4 v)) := h
theorem lopV {s : State} {dC : Nat → ClassId} {dI : Nat → Nat → Nat} {A : Nat → Prop} {cB cI cJ cZ : ClassId} {h0 : Nat} {a0 : Nat → Nat} {M0 : gS} {H : Heap} {As : List Value} (hK : va_K (dC, dI) vwCl (gT cB cI cJ cZ) s) (hP : va_P (dC, dI) vwCl (loW cB cI cJ cZ h0 a0 M0) H) (hD : va_D A (loW cB cI cJ cZ h0 a0 M0)) : PreV s H RX3 h0 (va_Pc (.ref h0 :: As) (loI dC dI cB cI cJ cZ h0 a0 M0 H.size)) As := ⟨fun a U g mk q => by obtain ⟨q0, q1, qP, qK, qD⟩ := q; exact ⟨q0, q1, qP, va_K.moved (u := U) (U := U.calling g mk a) (Vm.Alike.refl U.vm) qK, qD⟩, va_recv hK hP (ci := 3) (q0 := 0) rfl rfl, fun U hU hW => ⟨rfl, by rw [hU], by rw [hU]; exact hP, va_K.moved hW.alike hK, hD.weaken (fun _ _ _ _ => trivial)⟩⟩
theorem lopS {s : State} {dC : Nat → ClassId} {dI : Nat → Nat → Nat} {A : Nat → Prop} {cB cI cJ cZ : ClassId} {h0 : Nat} {a0 : Nat → Nat} {M0 : gS} {H : Heap} {As : List Value} (hK : va_K (dC, dI) vwCl (gT cB cI cJ cZ) s) (hP : va_P (dC, dI) vwCl (loW cB cI cJ cZ h0 a0 M0) H) (hD : va_D A (loW cB cI cJ cZ h0 a0 M0)) : PreS s H (va_Pc As (loI dC dI cB cI cJ cZ h0 a0 M0 H.size)) As := ⟨fun a U g mk q => by obtain ⟨q0, q1, qP, qK, qD⟩ := q; exact ⟨q0, q1, qP, va_K.moved (u := U) (U := U.calling g mk a) (Vm.Alike.refl U.vm) qK, qD⟩, fun U hU hW => ⟨rfl, by rw [hU], by rw [hU]; exact hP, va_K.moved hW.alike hK, hD.weaken (fun _ _ _ _ => trivial)⟩⟩

abbrev ogW (cB cI cJ cZ : ClassId) (h0 : Nat) (a0 : Nat → Nat) (M0 : gS) : va_W := [(h0, .inr (4, [.int (mg M0 0), .ref (a0 1), .ref (a0 2), .ref (a0 3)])), (a0 1, .inl (cI, 6, .inl (ma M0 1))), (a0 2, .inl (cI, 6, .inl (ma M0 2))), (a0 3, .inl (cI, 6, .inl (ma M0 3)))]
abbrev ogI (dC : Nat → ClassId) (dI : Nat → Nat → Nat) (cB cI cJ cZ : ClassId) (h0 : Nat) (a0 : Nat → Nat) (M0 : gS) (sz : Nat) : State → Prop := fun U => U.heap.size = sz ∧ va_P (dC, dI) vwCl (ogW cB cI cJ cZ h0 a0 M0) U.heap ∧ va_K (dC, dI) vwCl (gT cB cI cJ cZ) U ∧ va_D (fun _ => True) (ogW cB cI cJ cZ h0 a0 M0)
abbrev ogB (dC : Nat → ClassId) (dI : Nat → Nat → Nat) (cB cI cJ cZ : ClassId) (h0 : Nat) (a0 : Nat → Nat) (A : Nat → Prop) (u : gS) (t : State) : Prop := match u with
  | (M0) => va_P (dC, dI) vwCl (ogW cB cI cJ cZ h0 a0 M0) t.heap ∧ va_K (dC, dI) vwCl (gT cB cI cJ cZ) t ∧ va_D A (ogW cB cI cJ cZ h0 a0 M0)
theorem ogP_0_f0 {D : va_G} {H : Heap} {cB cI cJ cZ : ClassId} {h0 : Nat} {a0 : Nat → Nat} {M0 : gS} {v : Int32} (h : va_P D vwCl ((ogW cB cI cJ cZ h0 a0 M0).set 0 (h0, .inr (4, ([.int (mg M0 0), .ref (a0 1), .ref (a0 2), .ref (a0 3)]).set 0 (.int v)))) H) : va_P D vwCl (ogW cB cI cJ cZ h0 a0 (sg M0 0 v)) H := h
theorem ogD_0_f0 {A : Nat → Prop} {cB cI cJ cZ : ClassId} {h0 : Nat} {a0 : Nat → Nat} {M0 : gS} {v : Int32} (h : va_D A ((ogW cB cI cJ cZ h0 a0 M0).set 0 (h0, .inr (4, ([.int (mg M0 0), .ref (a0 1), .ref (a0 2), .ref (a0 3)]).set 0 (.int v))))) : va_D A (ogW cB cI cJ cZ h0 a0 (sg M0 0 v)) := h
theorem ogP_0_a1 {D : va_G} {H : Heap} {cB cI cJ cZ : ClassId} {h0 : Nat} {a0 : Nat → Nat} {M0 : gS} {j : Nat} {v : Int32} (h : va_P D vwCl ((ogW cB cI cJ cZ h0 a0 M0).set 1 (a0 1, .inl (cI, 6, .inl (upd (ma M0 1) j v)))) H) : va_P D vwCl (ogW cB cI cJ cZ h0 a0 (sa M0 1 j v)) H := h
theorem ogD_0_a1 {A : Nat → Prop} {cB cI cJ cZ : ClassId} {h0 : Nat} {a0 : Nat → Nat} {M0 : gS} {j : Nat} {v : Int32} (h : va_D A ((ogW cB cI cJ cZ h0 a0 M0).set 1 (a0 1, .inl (cI, 6, .inl (upd (ma M0 1) j v))))) : va_D A (ogW cB cI cJ cZ h0 a0 (sa M0 1 j v)) := h
theorem ogP_0_c1 {D : va_G} {H : Heap} {cB cI cJ cZ : ClassId} {h0 : Nat} {a0 : Nat → Nat} {M0 : gS} {f : Nat → Int32} (h : va_P D vwCl ((ogW cB cI cJ cZ h0 a0 M0).set 1 (a0 1, .inl (cI, 6, .inl f))) H) : va_P D vwCl (ogW cB cI cJ cZ h0 a0 (sF M0 1 f)) H := h
theorem ogD_0_c1 {A : Nat → Prop} {cB cI cJ cZ : ClassId} {h0 : Nat} {a0 : Nat → Nat} {M0 : gS} {f : Nat → Int32} (h : va_D A ((ogW cB cI cJ cZ h0 a0 M0).set 1 (a0 1, .inl (cI, 6, .inl f)))) : va_D A (ogW cB cI cJ cZ h0 a0 (sF M0 1 f)) := h
theorem ogP_0_a2 {D : va_G} {H : Heap} {cB cI cJ cZ : ClassId} {h0 : Nat} {a0 : Nat → Nat} {M0 : gS} {j : Nat} {v : Int32} (h : va_P D vwCl ((ogW cB cI cJ cZ h0 a0 M0).set 2 (a0 2, .inl (cI, 6, .inl (upd (ma M0 2) j v)))) H) : va_P D vwCl (ogW cB cI cJ cZ h0 a0 (sa M0 2 j v)) H := h
theorem ogD_0_a2 {A : Nat → Prop} {cB cI cJ cZ : ClassId} {h0 : Nat} {a0 : Nat → Nat} {M0 : gS} {j : Nat} {v : Int32} (h : va_D A ((ogW cB cI cJ cZ h0 a0 M0).set 2 (a0 2, .inl (cI, 6, .inl (upd (ma M0 2) j v))))) : va_D A (ogW cB cI cJ cZ h0 a0 (sa M0 2 j v)) := h
theorem ogP_0_c2 {D : va_G} {H : Heap} {cB cI cJ cZ : ClassId} {h0 : Nat} {a0 : Nat → Nat} {M0 : gS} {f : Nat → Int32} (h : va_P D vwCl ((ogW cB cI cJ cZ h0 a0 M0).set 2 (a0 2, .inl (cI, 6, .inl f))) H) : va_P D vwCl (ogW cB cI cJ cZ h0 a0 (sF M0 2 f)) H := h
theorem ogD_0_c2 {A : Nat → Prop} {cB cI cJ cZ : ClassId} {h0 : Nat} {a0 : Nat → Nat} {M0 : gS} {f : Nat → Int32} (h : va_D A ((ogW cB cI cJ cZ h0 a0 M0).set 2 (a0 2, .inl (cI, 6, .inl f)))) : va_D A (ogW cB cI cJ cZ h0 a0 (sF M0 2 f)) := h
theorem ogP_0_a3 {D : va_G} {H : Heap} {cB cI cJ cZ : ClassId} {h0 : Nat} {a0 : Nat → Nat} {M0 : gS} {j : Nat} {v : Int32} (h : va_P D vwCl ((ogW cB cI cJ cZ h0 a0 M0).set 3 (a0 3, .inl (cI, 6, .inl (upd (ma M0 3) j v)))) H) : va_P D vwCl (ogW cB cI cJ cZ h0 a0 (sa M0 3 j v)) H := h
theorem ogD_0_a3 {A : Nat → Prop} {cB cI cJ cZ : ClassId} {h0 : Nat} {a0 : Nat → Nat} {M0 : gS} {j : Nat} {v : Int32} (h : va_D A ((ogW cB cI cJ cZ h0 a0 M0).set 3 (a0 3, .inl (cI, 6, .inl (upd (ma M0 3) j v))))) : va_D A (ogW cB cI cJ cZ h0 a0 (sa M0 3 j v)) := h
theorem ogP_0_c3 {D : va_G} {H : Heap} {cB cI cJ cZ : ClassId} {h0 : Nat} {a0 : Nat → Nat} {M0 : gS} {f : Nat → Int32} (h : va_P D vwCl ((ogW cB cI cJ cZ h0 a0 M0).set 3 (a0 3, .inl (cI, 6, .inl f))) H) : va_P D vwCl (ogW cB cI cJ cZ h0 a0 (sF M0 3 f)) H := h
theorem ogD_0_c3 {A : Nat → Prop} {cB cI cJ cZ : ClassId} {h0 : Nat} {a0 : Nat → Nat} {M0 : gS} {f : Nat → Int32} (h : va_D A ((ogW cB cI cJ cZ h0 a0 M0).set 3 (a0 3, .inl (cI, 6, .inl f)))) : va_D A (ogW cB cI cJ cZ h0 a0 (sF M0 3 f)) := h
theorem ogpV {s : State} {dC : Nat → ClassId} {dI : Nat → Nat → Nat} {A : Nat → Prop} {cB cI cJ cZ : ClassId} {h0 : Nat} {a0 : Nat → Nat} {M0 : gS} {H : Heap} {As : List Value} (hK : va_K (dC, dI) vwCl (gT cB cI cJ cZ) s) (hP : va_P (dC, dI) vwCl (ogW cB cI cJ cZ h0 a0 M0) H) (hD : va_D A (ogW cB cI cJ cZ h0 a0 M0)) : PreV s H RX4 h0 (va_Pc (.ref h0 :: As) (ogI dC dI cB cI cJ cZ h0 a0 M0 H.size)) As := ⟨fun a U g mk q => by obtain ⟨q0, q1, qP, qK, qD⟩ := q; exact ⟨q0, q1, qP, va_K.moved (u := U) (U := U.calling g mk a) (Vm.Alike.refl U.vm) qK, qD⟩, va_recv hK hP (ci := 4) (q0 := 0) rfl rfl, fun U hU hW => ⟨rfl, by rw [hU], by rw [hU]; exact hP, va_K.moved hW.alike hK, hD.weaken (fun _ _ _ _ => trivial)⟩⟩
theorem ogpS {s : State} {dC : Nat → ClassId} {dI : Nat → Nat → Nat} {A : Nat → Prop} {cB cI cJ cZ : ClassId} {h0 : Nat} {a0 : Nat → Nat} {M0 : gS} {H : Heap} {As : List Value} (hK : va_K (dC, dI) vwCl (gT cB cI cJ cZ) s) (hP : va_P (dC, dI) vwCl (ogW cB cI cJ cZ h0 a0 M0) H) (hD : va_D A (ogW cB cI cJ cZ h0 a0 M0)) : PreS s H (va_Pc As (ogI dC dI cB cI cJ cZ h0 a0 M0 H.size)) As := ⟨fun a U g mk q => by obtain ⟨q0, q1, qP, qK, qD⟩ := q; exact ⟨q0, q1, qP, va_K.moved (u := U) (U := U.calling g mk a) (Vm.Alike.refl U.vm) qK, qD⟩, fun U hU hW => ⟨rfl, by rw [hU], by rw [hU]; exact hP, va_K.moved hW.alike hK, hD.weaken (fun _ _ _ _ => trivial)⟩⟩

abbrev ooW (cB cI cJ cZ : ClassId) (h0 : Nat) (a0 : Nat → Nat) (h1 : Nat) (a1 : Nat → Nat) (M0 : gS) (M1 : gS) : va_W := [(h0, .inr (4, [.int (mg M0 0), .ref (a0 1), .ref (a0 2), .ref (a0 3)])), (a0 1, .inl (cI, 6, .inl (ma M0 1))), (a0 2, .inl (cI, 6, .inl (ma M0 2))), (a0 3, .inl (cI, 6, .inl (ma M0 3))), (h1, .inr (4, [.int (mg M1 0), .ref (a1 1), .ref (a1 2), .ref (a1 3)])), (a1 1, .inl (cI, 6, .inl (ma M1 1))), (a1 2, .inl (cI, 6, .inl (ma M1 2))), (a1 3, .inl (cI, 6, .inl (ma M1 3)))]
abbrev ooI (dC : Nat → ClassId) (dI : Nat → Nat → Nat) (cB cI cJ cZ : ClassId) (h0 : Nat) (a0 : Nat → Nat) (h1 : Nat) (a1 : Nat → Nat) (M0 : gS) (M1 : gS) (sz : Nat) : State → Prop := fun U => U.heap.size = sz ∧ va_P (dC, dI) vwCl (ooW cB cI cJ cZ h0 a0 h1 a1 M0 M1) U.heap ∧ va_K (dC, dI) vwCl (gT cB cI cJ cZ) U ∧ va_D (fun _ => True) (ooW cB cI cJ cZ h0 a0 h1 a1 M0 M1)
abbrev ooB (dC : Nat → ClassId) (dI : Nat → Nat → Nat) (cB cI cJ cZ : ClassId) (h0 : Nat) (a0 : Nat → Nat) (h1 : Nat) (a1 : Nat → Nat) (A : Nat → Prop) (u : gS × gS) (t : State) : Prop := match u with
  | (M0, M1) => va_P (dC, dI) vwCl (ooW cB cI cJ cZ h0 a0 h1 a1 M0 M1) t.heap ∧ va_K (dC, dI) vwCl (gT cB cI cJ cZ) t ∧ va_D A (ooW cB cI cJ cZ h0 a0 h1 a1 M0 M1)
theorem ooP_0_f0 {D : va_G} {H : Heap} {cB cI cJ cZ : ClassId} {h0 : Nat} {a0 : Nat → Nat} {h1 : Nat} {a1 : Nat → Nat} {M0 : gS} {M1 : gS} {v : Int32} (h : va_P D vwCl ((ooW cB cI cJ cZ h0 a0 h1 a1 M0 M1).set 0 (h0, .inr (4, ([.int (mg M0 0), .ref (a0 1), .ref (a0 2), .ref (a0 3)]).set 0 (.int v)))) H) : va_P D vwCl (ooW cB cI cJ cZ h0 a0 h1 a1 (sg M0 0 v) M1) H := h
theorem ooD_0_f0 {A : Nat → Prop} {cB cI cJ cZ : ClassId} {h0 : Nat} {a0 : Nat → Nat} {h1 : Nat} {a1 : Nat → Nat} {M0 : gS} {M1 : gS} {v : Int32} (h : va_D A ((ooW cB cI cJ cZ h0 a0 h1 a1 M0 M1).set 0 (h0, .inr (4, ([.int (mg M0 0), .ref (a0 1), .ref (a0 2), .ref (a0 3)]).set 0 (.int v))))) : va_D A (ooW cB cI cJ cZ h0 a0 h1 a1 (sg M0 0 v) M1) := h
theorem ooP_0_a1 {D : va_G} {H : Heap} {cB cI cJ cZ : ClassId} {h0 : Nat} {a0 : Nat → Nat} {h1 : Nat} {a1 : Nat → Nat} {M0 : gS} {M1 : gS} {j : Nat} {v : Int32} (h : va_P D vwCl ((ooW cB cI cJ cZ h0 a0 h1 a1 M0 M1).set 1 (a0 1, .inl (cI, 6, .inl (upd (ma M0 1) j v)))) H) : va_P D vwCl (ooW cB cI cJ cZ h0 a0 h1 a1 (sa M0 1 j v) M1) H := h
theorem ooD_0_a1 {A : Nat → Prop} {cB cI cJ cZ : ClassId} {h0 : Nat} {a0 : Nat → Nat} {h1 : Nat} {a1 : Nat → Nat} {M0 : gS} {M1 : gS} {j : Nat} {v : Int32} (h : va_D A ((ooW cB cI cJ cZ h0 a0 h1 a1 M0 M1).set 1 (a0 1, .inl (cI, 6, .inl (upd (ma M0 1) j v))))) : va_D A (ooW cB cI cJ cZ h0 a0 h1 a1 (sa M0 1 j v) M1) := h
theorem ooP_0_c1 {D : va_G} {H : Heap} {cB cI cJ cZ : ClassId} {h0 : Nat} {a0 : Nat → Nat} {h1 : Nat} {a1 : Nat → Nat} {M0 : gS} {M1 : gS} {f : Nat → Int32} (h : va_P D vwCl ((ooW cB cI cJ cZ h0 a0 h1 a1 M0 M1).set 1 (a0 1, .inl (cI, 6, .inl f))) H) : va_P D vwCl (ooW cB cI cJ cZ h0 a0 h1 a1 (sF M0 1 f) M1) H := h
theorem ooD_0_c1 {A : Nat → Prop} {cB cI cJ cZ : ClassId} {h0 : Nat} {a0 : Nat → Nat} {h1 : Nat} {a1 : Nat → Nat} {M0 : gS} {M1 : gS} {f : Nat → Int32} (h : va_D A ((ooW cB cI cJ cZ h0 a0 h1 a1 M0 M1).set 1 (a0 1, .inl (cI, 6, .inl f)))) : va_D A (ooW cB cI cJ cZ h0 a0 h1 a1 (sF M0 1 f) M1) := h
theorem ooP_0_a2 {D : va_G} {H : Heap} {cB cI cJ cZ : ClassId} {h0 : Nat} {a0 : Nat → Nat} {h1 : Nat} {a1 : Nat → Nat} {M0 : gS} {M1 : gS} {j : Nat} {v : Int32} (h : va_P D vwCl ((ooW cB cI cJ cZ h0 a0 h1 a1 M0 M1).set 2 (a0 2, .inl (cI, 6, .inl (upd (ma M0 2) j v)))) H) : va_P D vwCl (ooW cB cI cJ cZ h0 a0 h1 a1 (sa M0 2 j v) M1) H := h
theorem ooD_0_a2 {A : Nat → Prop} {cB cI cJ cZ : ClassId} {h0 : Nat} {a0 : Nat → Nat} {h1 : Nat} {a1 : Nat → Nat} {M0 : gS} {M1 : gS} {j : Nat} {v : Int32} (h : va_D A ((ooW cB cI cJ cZ h0 a0 h1 a1 M0 M1).set 2 (a0 2, .inl (cI, 6, .inl (upd (ma M0 2) j v))))) : va_D A (ooW cB cI cJ cZ h0 a0 h1 a1 (sa M0 2 j v) M1) := h
theorem ooP_0_c2 {D : va_G} {H : Heap} {cB cI cJ cZ : ClassId} {h0 : Nat} {a0 : Nat → Nat} {h1 : Nat} {a1 : Nat → Nat} {M0 : gS} {M1 : gS} {f : Nat → Int32} (h : va_P D vwCl ((ooW cB cI cJ cZ h0 a0 h1 a1 M0 M1).set 2 (a0 2, .inl (cI, 6, .inl f))) H) : va_P D vwCl (ooW cB cI cJ cZ h0 a0 h1 a1 (sF M0 2 f) M1) H := h
theorem ooD_0_c2 {A : Nat → Prop} {cB cI cJ cZ : ClassId} {h0 : Nat} {a0 : Nat → Nat} {h1 : Nat} {a1 : Nat → Nat} {M0 : gS} {M1 : gS} {f : Nat → Int32} (h : va_D A ((ooW cB cI cJ cZ h0 a0 h1 a1 M0 M1).set 2 (a0 2, .inl (cI, 6, .inl f)))) : va_D A (ooW cB cI cJ cZ h0 a0 h1 a1 (sF M0 2 f) M1) := h
theorem ooP_0_a3 {D : va_G} {H : Heap} {cB cI cJ cZ : ClassId} {h0 : Nat} {a0 : Nat → Nat} {h1 : Nat} {a1 : Nat → Nat} {M0 : gS} {M1 : gS} {j : Nat} {v : Int32} (h : va_P D vwCl ((ooW cB cI cJ cZ h0 a0 h1 a1 M0 M1).set 3 (a0 3, .inl (cI, 6, .inl (upd (ma M0 3) j v)))) H) : va_P D vwCl (ooW cB cI cJ cZ h0 a0 h1 a1 (sa M0 3 j v) M1) H := h
theorem ooD_0_a3 {A : Nat → Prop} {cB cI cJ cZ : ClassId} {h0 : Nat} {a0 : Nat → Nat} {h1 : Nat} {a1 : Nat → Nat} {M0 : gS} {M1 : gS} {j : Nat} {v : Int32} (h : va_D A ((ooW cB cI cJ cZ h0 a0 h1 a1 M0 M1).set 3 (a0 3, .inl (cI, 6, .inl (upd (ma M0 3) j v))))) : va_D A (ooW cB cI cJ cZ h0 a0 h1 a1 (sa M0 3 j v) M1) := h
theorem ooP_0_c3 {D : va_G} {H : Heap} {cB cI cJ cZ : ClassId} {h0 : Nat} {a0 : Nat → Nat} {h1 : Nat} {a1 : Nat → Nat} {M0 : gS} {M1 : gS} {f : Nat → Int32} (h : va_P D vwCl ((ooW cB cI cJ cZ h0 a0 h1 a1 M0 M1).set 3 (a0 3, .inl (cI, 6, .inl f))) H) : va_P D vwCl (ooW cB cI cJ cZ h0 a0 h1 a1 (sF M0 3 f) M1) H := h
theorem ooD_0_c3 {A : Nat → Prop} {cB cI cJ cZ : ClassId} {h0 : Nat} {a0 : Nat → Nat} {h1 : Nat} {a1 : Nat → Nat} {M0 : gS} {M1 : gS} {f : Nat → Int32} (h : va_D A ((ooW cB cI cJ cZ h0 a0 h1 a1 M0 M1).set 3 (a0 3, .inl (cI, 6, .inl f)))) : va_D A (ooW cB cI cJ cZ h0 a0 h1 a1 (sF M0 3 f) M1) := h
theorem ooP_1_f0 {D : va_G} {H : Heap} {cB cI cJ cZ : ClassId} {h0 : Nat} {a0 : Nat → Nat} {h1 : Nat} {a1 : Nat → Nat} {M0 : gS} {M1 : gS} {v : Int32} (h : va_P D vwCl ((ooW cB cI cJ cZ h0 a0 h1 a1 M0 M1).set 4 (h1, .inr (4, ([.int (mg M1 0), .ref (a1 1), .ref (a1 2), .ref (a1 3)]).set 0 (.int v)))) H) : va_P D vwCl (ooW cB cI cJ cZ h0 a0 h1 a1 M0 (sg M1 0 v)) H := h
theorem ooD_1_f0 {A : Nat → Prop} {cB cI cJ cZ : ClassId} {h0 : Nat} {a0 : Nat → Nat} {h1 : Nat} {a1 : Nat → Nat} {M0 : gS} {M1 : gS} {v : Int32} (h : va_D A ((ooW cB cI cJ cZ h0 a0 h1 a1 M0 M1).set 4 (h1, .inr (4, ([.int (mg M1 0), .ref (a1 1), .ref (a1 2), .ref (a1 3)]).set 0 (.int v))))) : va_D A (ooW cB cI cJ cZ h0 a0 h1 a1 M0 (sg M1 0 v)) := h
theorem ooP_1_a1 {D : va_G} {H : Heap} {cB cI cJ cZ : ClassId} {h0 : Nat} {a0 : Nat → Nat} {h1 : Nat} {a1 : Nat → Nat} {M0 : gS} {M1 : gS} {j : Nat} {v : Int32} (h : va_P D vwCl ((ooW cB cI cJ cZ h0 a0 h1 a1 M0 M1).set 5 (a1 1, .inl (cI, 6, .inl (upd (ma M1 1) j v)))) H) : va_P D vwCl (ooW cB cI cJ cZ h0 a0 h1 a1 M0 (sa M1 1 j v)) H := h
theorem ooD_1_a1 {A : Nat → Prop} {cB cI cJ cZ : ClassId} {h0 : Nat} {a0 : Nat → Nat} {h1 : Nat} {a1 : Nat → Nat} {M0 : gS} {M1 : gS} {j : Nat} {v : Int32} (h : va_D A ((ooW cB cI cJ cZ h0 a0 h1 a1 M0 M1).set 5 (a1 1, .inl (cI, 6, .inl (upd (ma M1 1) j v))))) : va_D A (ooW cB cI cJ cZ h0 a0 h1 a1 M0 (sa M1 1 j v)) := h
theorem ooP_1_c1 {D : va_G} {H : Heap} {cB cI cJ cZ : ClassId} {h0 : Nat} {a0 : Nat → Nat} {h1 : Nat} {a1 : Nat → Nat} {M0 : gS} {M1 : gS} {f : Nat → Int32} (h : va_P D vwCl ((ooW cB cI cJ cZ h0 a0 h1 a1 M0 M1).set 5 (a1 1, .inl (cI, 6, .inl f))) H) : va_P D vwCl (ooW cB cI cJ cZ h0 a0 h1 a1 M0 (sF M1 1 f)) H := h
theorem ooD_1_c1 {A : Nat → Prop} {cB cI cJ cZ : ClassId} {h0 : Nat} {a0 : Nat → Nat} {h1 : Nat} {a1 : Nat → Nat} {M0 : gS} {M1 : gS} {f : Nat → Int32} (h : va_D A ((ooW cB cI cJ cZ h0 a0 h1 a1 M0 M1).set 5 (a1 1, .inl (cI, 6, .inl f)))) : va_D A (ooW cB cI cJ cZ h0 a0 h1 a1 M0 (sF M1 1 f)) := h
theorem ooP_1_a2 {D : va_G} {H : Heap} {cB cI cJ cZ : ClassId} {h0 : Nat} {a0 : Nat → Nat} {h1 : Nat} {a1 : Nat → Nat} {M0 : gS} {M1 : gS} {j : Nat} {v : Int32} (h : va_P D vwCl ((ooW cB cI cJ cZ h0 a0 h1 a1 M0 M1).set 6 (a1 2, .inl (cI, 6, .inl (upd (ma M1 2) j v)))) H) : va_P D vwCl (ooW cB cI cJ cZ h0 a0 h1 a1 M0 (sa M1 2 j v)) H := h
theorem ooD_1_a2 {A : Nat → Prop} {cB cI cJ cZ : ClassId} {h0 : Nat} {a0 : Nat → Nat} {h1 : Nat} {a1 : Nat → Nat} {M0 : gS} {M1 : gS} {j : Nat} {v : Int32} (h : va_D A ((ooW cB cI cJ cZ h0 a0 h1 a1 M0 M1).set 6 (a1 2, .inl (cI, 6, .inl (upd (ma M1 2) j v))))) : va_D A (ooW cB cI cJ cZ h0 a0 h1 a1 M0 (sa M1 2 j v)) := h
theorem ooP_1_c2 {D : va_G} {H : Heap} {cB cI cJ cZ : ClassId} {h0 : Nat} {a0 : Nat → Nat} {h1 : Nat} {a1 : Nat → Nat} {M0 : gS} {M1 : gS} {f : Nat → Int32} (h : va_P D vwCl ((ooW cB cI cJ cZ h0 a0 h1 a1 M0 M1).set 6 (a1 2, .inl (cI, 6, .inl f))) H) : va_P D vwCl (ooW cB cI cJ cZ h0 a0 h1 a1 M0 (sF M1 2 f)) H := h
theorem ooD_1_c2 {A : Nat → Prop} {cB cI cJ cZ : ClassId} {h0 : Nat} {a0 : Nat → Nat} {h1 : Nat} {a1 : Nat → Nat} {M0 : gS} {M1 : gS} {f : Nat → Int32} (h : va_D A ((ooW cB cI cJ cZ h0 a0 h1 a1 M0 M1).set 6 (a1 2, .inl (cI, 6, .inl f)))) : va_D A (ooW cB cI cJ cZ h0 a0 h1 a1 M0 (sF M1 2 f)) := h
theorem ooP_1_a3 {D : va_G} {H : Heap} {cB cI cJ cZ : ClassId} {h0 : Nat} {a0 : Nat → Nat} {h1 : Nat} {a1 : Nat → Nat} {M0 : gS} {M1 : gS} {j : Nat} {v : Int32} (h : va_P D vwCl ((ooW cB cI cJ cZ h0 a0 h1 a1 M0 M1).set 7 (a1 3, .inl (cI, 6, .inl (upd (ma M1 3) j v)))) H) : va_P D vwCl (ooW cB cI cJ cZ h0 a0 h1 a1 M0 (sa M1 3 j v)) H := h
theorem ooD_1_a3 {A : Nat → Prop} {cB cI cJ cZ : ClassId} {h0 : Nat} {a0 : Nat → Nat} {h1 : Nat} {a1 : Nat → Nat} {M0 : gS} {M1 : gS} {j : Nat} {v : Int32} (h : va_D A ((ooW cB cI cJ cZ h0 a0 h1 a1 M0 M1).set 7 (a1 3, .inl (cI, 6, .inl (upd (ma M1 3) j v))))) : va_D A (ooW cB cI cJ cZ h0 a0 h1 a1 M0 (sa M1 3 j v)) := h
theorem ooP_1_c3 {D : va_G} {H : Heap} {cB cI cJ cZ : ClassId} {h0 : Nat} {a0 : Nat → Nat} {h1 : Nat} {a1 : Nat → Nat} {M0 : gS} {M1 : gS} {f : Nat → Int32} (h : va_P D vwCl ((ooW cB cI cJ cZ h0 a0 h1 a1 M0 M1).set 7 (a1 3, .inl (cI, 6, .inl f))) H) : va_P D vwCl (ooW cB cI cJ cZ h0 a0 h1 a1 M0 (sF M1 3 f)) H := h
theorem ooD_1_c3 {A : Nat → Prop} {cB cI cJ cZ : ClassId} {h0 : Nat} {a0 : Nat → Nat} {h1 : Nat} {a1 : Nat → Nat} {M0 : gS} {M1 : gS} {f : Nat → Int32} (h : va_D A ((ooW cB cI cJ cZ h0 a0 h1 a1 M0 M1).set 7 (a1 3, .inl (cI, 6, .inl f)))) : va_D A (ooW cB cI cJ cZ h0 a0 h1 a1 M0 (sF M1 3 f)) := h
theorem oopV {s : State} {dC : Nat → ClassId} {dI : Nat → Nat → Nat} {A : Nat → Prop} {cB cI cJ cZ : ClassId} {h0 : Nat} {a0 : Nat → Nat} {h1 : Nat} {a1 : Nat → Nat} {M0 : gS} {M1 : gS} {H : Heap} {As : List Value} (hK : va_K (dC, dI) vwCl (gT cB cI cJ cZ) s) (hP : va_P (dC, dI) vwCl (ooW cB cI cJ cZ h0 a0 h1 a1 M0 M1) H) (hD : va_D A (ooW cB cI cJ cZ h0 a0 h1 a1 M0 M1)) : PreV s H RX4 h0 (va_Pc (.ref h0 :: As) (ooI dC dI cB cI cJ cZ h0 a0 h1 a1 M0 M1 H.size)) As := ⟨fun a U g mk q => by obtain ⟨q0, q1, qP, qK, qD⟩ := q; exact ⟨q0, q1, qP, va_K.moved (u := U) (U := U.calling g mk a) (Vm.Alike.refl U.vm) qK, qD⟩, va_recv hK hP (ci := 4) (q0 := 0) rfl rfl, fun U hU hW => ⟨rfl, by rw [hU], by rw [hU]; exact hP, va_K.moved hW.alike hK, hD.weaken (fun _ _ _ _ => trivial)⟩⟩
theorem oopS {s : State} {dC : Nat → ClassId} {dI : Nat → Nat → Nat} {A : Nat → Prop} {cB cI cJ cZ : ClassId} {h0 : Nat} {a0 : Nat → Nat} {h1 : Nat} {a1 : Nat → Nat} {M0 : gS} {M1 : gS} {H : Heap} {As : List Value} (hK : va_K (dC, dI) vwCl (gT cB cI cJ cZ) s) (hP : va_P (dC, dI) vwCl (ooW cB cI cJ cZ h0 a0 h1 a1 M0 M1) H) (hD : va_D A (ooW cB cI cJ cZ h0 a0 h1 a1 M0 M1)) : PreS s H (va_Pc As (ooI dC dI cB cI cJ cZ h0 a0 h1 a1 M0 M1 H.size)) As := ⟨fun a U g mk q => by obtain ⟨q0, q1, qP, qK, qD⟩ := q; exact ⟨q0, q1, qP, va_K.moved (u := U) (U := U.calling g mk a) (Vm.Alike.refl U.vm) qK, qD⟩, fun U hU hW => ⟨rfl, by rw [hU], by rw [hU]; exact hP, va_K.moved hW.alike hK, hD.weaken (fun _ _ _ _ => trivial)⟩⟩
def wX1_hasTune (p1 : Int32) (M0 : gS) (Q : Bool → gS → Prop) : Prop :=
 ((p1 < 0 → (Q false M0))
 ∧ (¬ p1 < 0 → (((mg M0 0) ≤ p1 → (Q false M0))
 ∧ (¬ (mg M0 0) ≤ p1 → (((4 : Int32) ≤ p1 → (Q false M0))
 ∧ (¬ (4 : Int32) ≤ p1 → (Q true M0)))))))
def rmX1_hasTune : Room := { frames := 0, cells := 0, slots := 0, locals := 0 }
set_option maxHeartbeats 4000000 in
set_option maxRecDepth 100000 in
theorem kX1_hasTune (l : Launch) (dC : Nat → ClassId) (dI : Nat → Nat → Nat) (cB cI cJ cZ : ClassId) (h0 : Nat) (a0 : Nat → Nat) (sz : Nat) (p1 : Int32) (M0 : gS) (Q : Bool → gS → Prop) (h : wX1_hasTune p1 M0 Q) : Met l yX1_hasTune wsX1_hasTune rmX1_hasTune (va_Pc [.ref h0, .int p1] (cnI dC dI cB cI cJ cZ h0 a0 M0 sz)) (va_Qi (fun (r : Int32) (u : gS) => ∃ b : Bool, r = bI b ∧ Q b u) (cnB dC dI cB cI cJ cZ h0 a0 (va_A (cnW cB cI cJ cZ h0 a0 M0) sz)) (va_A (cnW cB cI cJ cZ h0 a0 M0) sz)) 0 0 (va_A (cnW cB cI cJ cZ h0 a0 M0) sz) := by
  refine Met.ofW (cc := cX1_hasTune) (maxL := 2) (ret := (some .boolean)) (by decide) rfl ?_
  intro p e s m args below meth c s₁ B hml hv
  obtain ⟨rfl, hsz, hP, hK, hD0⟩ := hv
  have hx := B.exec
  have hb := B.bytes
  have hr := B.returns
  have hts := atoms_spec (ws := wsX1_hasTune) B.pre
  have hown : s.vm.findClass RX1 = some m.cls := findClass_of_methodNamed B.named
  have hlocks := B.notSynchronized
  subst hsz
  have hD := hD0.self (sz := s.heap.size)
  generalize hAe : va_A (cnW cB cI cJ cZ h0 a0 M0) s.heap.size = A at hD ⊢
  have hA : ∀ q : Nat, s.heap.size ≤ q → A q := fun q h => by rw [← hAe]; exact Or.inr h
  have hS : va_S A s.heap s.heap [] := va_S.rf
  have hinX1 : ∀ w ∈ wsX10, w ∈ wsX1_hasTune := by decide +kernel
  have f1 := hts (.fieldLink RX1 21 "LastWords$Corner" "tunes" "I") (by decide +kernel)
  have bE : ∀ (M0 : gS) (H : Heap) (locs : List Loc) (ls : Array Slot), va_P (dC, dI) vwCl (cnW cB cI cJ cZ h0 a0 M0) H → va_D A (cnW cB cI cJ cZ h0 a0 M0) → va_S A s.heap H locs → lv_has ls 2 [(0, .ref h0), (1, .int p1)] → wX1_hasTune p1 M0 Q → W p l e (headSpec wsX1_hasTune rmX1_hasTune).room s m ([.ref h0, .int p1] : List Value).toArray below meth c H locs 0 0 (MQ below (va_Qi (fun (r : Int32) (u : gS) => ∃ b : Bool, r = bI b ∧ Q b u) (cnB dC dI cB cI cJ cZ h0 a0 A) A) ([.ref h0, .int p1] : List Value).toArray s 0 0 A) (F0 m 0 ls []) := by
    intro M0 H locs ls hP hD hS hl h
    unfold wX1_hasTune at h
    refine lv_iload_n hx hb dX1_hasTune_0 rfl (lv_at hl 1 rfl) ?_
    refine lv_if_lt (tgt := 21) hx hb dX1_hasTune_1 (by decide) (fun c1 => ?_) (fun c1 => ?_)
    · have h := h.1 c1
      refine lv_iconst (v := 0) hx hb dX1_hasTune_21 (by decide) ?_
      exact W.zret (v := (bI false)) hx hb hr (nar_bI false) (fun t ht hW => ⟨⟨_, (M0), rfl, ⟨false, rfl, h⟩, by rw [ht]; exact hP, va_K.moved hW.alike hK, hD⟩, hS.F ht⟩) hS.2.2 dX1_hasTune_22
    · have h := h.2 c1
      refine lv_iload_n hx hb dX1_hasTune_4 rfl (lv_at hl 1 rfl) ?_
      refine lv_aload_n hx hb dX1_hasTune_5 rfl (lv_at hl 0 rfl) ?_
      refine va_get (D := (dC, dI)) (ci := 1) (v := .int (mg M0 0)) (C := RX1) (T := TX1) (N := 6) hx hb hts hinX1 hown hK hP 0 rfl rfl 0 (by decide) f1 (fun _ h9 => h9) rfl dX1_hasTune_6 ?_
      refine lv_icmp_ge (tgt := 21) hx hb dX1_hasTune_9 (by decide) (fun c2 => ?_) (fun c2 => ?_)
      · have h := h.1 c2
        refine lv_iconst (v := 0) hx hb dX1_hasTune_21 (by decide) ?_
        exact W.zret (v := (bI false)) hx hb hr (nar_bI false) (fun t ht hW => ⟨⟨_, (M0), rfl, ⟨false, rfl, h⟩, by rw [ht]; exact hP, va_K.moved hW.alike hK, hD⟩, hS.F ht⟩) hS.2.2 dX1_hasTune_22
      · have h := h.2 c2
        refine lv_iload_n hx hb dX1_hasTune_12 rfl (lv_at hl 1 rfl) ?_
        refine lv_iconst (v := 4) hx hb dX1_hasTune_13 (by decide) ?_
        refine lv_icmp_ge (tgt := 21) hx hb dX1_hasTune_14 (by decide) (fun c3 => ?_) (fun c3 => ?_)
        · have h := h.1 c3
          refine lv_iconst (v := 0) hx hb dX1_hasTune_21 (by decide) ?_
          exact W.zret (v := (bI false)) hx hb hr (nar_bI false) (fun t ht hW => ⟨⟨_, (M0), rfl, ⟨false, rfl, h⟩, by rw [ht]; exact hP, va_K.moved hW.alike hK, hD⟩, hS.F ht⟩) hS.2.2 dX1_hasTune_22
        · have h := h.2 c3
          refine lv_iconst (v := 1) hx hb dX1_hasTune_17 (by decide) ?_
          refine lv_goto (tgt := 22) hx hb dX1_hasTune_18 (by decide) ?_
          exact W.zret (v := (bI true)) hx hb hr (nar_bI true) (fun t ht hW => ⟨⟨_, (M0), rfl, ⟨true, rfl, h⟩, by rw [ht]; exact hP, va_K.moved hW.alike hK, hD⟩, hS.F ht⟩) hS.2.2 dX1_hasTune_22
  have hl := lv_entry ([.ref h0, .int p1]) (n := 2) (Nat.le_of_ble_eq_true rfl)
  rw [lg_entry_eq]
  generalize (lg_sl ([.ref h0, .int p1]) ++ List.replicate (2 - (lg_sl ([.ref h0, .int p1])).length) Slot.unset).toArray = ls at hl ⊢
  have hl : lv_has ls 2 [(0, .ref h0), (1, .int p1)] := hl
  exact bE M0 s.heap [] ls hP hD hS hl h
def wX1_hasWord (p1 : Int32) (M0 : gS) (Q : Bool → gS → Prop) : Prop :=
 ((p1 < 0 → (Q false M0))
 ∧ (¬ p1 < 0 → (((mg M0 2) ≤ p1 → (Q false M0))
 ∧ (¬ (mg M0 2) ≤ p1 → (((4 : Int32) ≤ p1 → (Q false M0))
 ∧ (¬ (4 : Int32) ≤ p1 → (Q true M0)))))))
def rmX1_hasWord : Room := { frames := 0, cells := 0, slots := 0, locals := 0 }
set_option maxHeartbeats 4000000 in
set_option maxRecDepth 100000 in
theorem kX1_hasWord (l : Launch) (dC : Nat → ClassId) (dI : Nat → Nat → Nat) (cB cI cJ cZ : ClassId) (h0 : Nat) (a0 : Nat → Nat) (sz : Nat) (p1 : Int32) (M0 : gS) (Q : Bool → gS → Prop) (h : wX1_hasWord p1 M0 Q) : Met l yX1_hasWord wsX1_hasWord rmX1_hasWord (va_Pc [.ref h0, .int p1] (cnI dC dI cB cI cJ cZ h0 a0 M0 sz)) (va_Qi (fun (r : Int32) (u : gS) => ∃ b : Bool, r = bI b ∧ Q b u) (cnB dC dI cB cI cJ cZ h0 a0 (va_A (cnW cB cI cJ cZ h0 a0 M0) sz)) (va_A (cnW cB cI cJ cZ h0 a0 M0) sz)) 0 0 (va_A (cnW cB cI cJ cZ h0 a0 M0) sz) := by
  refine Met.ofW (cc := cX1_hasWord) (maxL := 2) (ret := (some .boolean)) (by decide) rfl ?_
  intro p e s m args below meth c s₁ B hml hv
  obtain ⟨rfl, hsz, hP, hK, hD0⟩ := hv
  have hx := B.exec
  have hb := B.bytes
  have hr := B.returns
  have hts := atoms_spec (ws := wsX1_hasWord) B.pre
  have hown : s.vm.findClass RX1 = some m.cls := findClass_of_methodNamed B.named
  have hlocks := B.notSynchronized
  subst hsz
  have hD := hD0.self (sz := s.heap.size)
  generalize hAe : va_A (cnW cB cI cJ cZ h0 a0 M0) s.heap.size = A at hD ⊢
  have hA : ∀ q : Nat, s.heap.size ≤ q → A q := fun q h => by rw [← hAe]; exact Or.inr h
  have hS : va_S A s.heap s.heap [] := va_S.rf
  have hinX1 : ∀ w ∈ wsX10, w ∈ wsX1_hasWord := by decide +kernel
  have f1 := hts (.fieldLink RX1 25 "LastWords$Corner" "words" "I") (by decide +kernel)
  have bE : ∀ (M0 : gS) (H : Heap) (locs : List Loc) (ls : Array Slot), va_P (dC, dI) vwCl (cnW cB cI cJ cZ h0 a0 M0) H → va_D A (cnW cB cI cJ cZ h0 a0 M0) → va_S A s.heap H locs → lv_has ls 2 [(0, .ref h0), (1, .int p1)] → wX1_hasWord p1 M0 Q → W p l e (headSpec wsX1_hasWord rmX1_hasWord).room s m ([.ref h0, .int p1] : List Value).toArray below meth c H locs 0 0 (MQ below (va_Qi (fun (r : Int32) (u : gS) => ∃ b : Bool, r = bI b ∧ Q b u) (cnB dC dI cB cI cJ cZ h0 a0 A) A) ([.ref h0, .int p1] : List Value).toArray s 0 0 A) (F0 m 0 ls []) := by
    intro M0 H locs ls hP hD hS hl h
    unfold wX1_hasWord at h
    refine lv_iload_n hx hb dX1_hasWord_0 rfl (lv_at hl 1 rfl) ?_
    refine lv_if_lt (tgt := 21) hx hb dX1_hasWord_1 (by decide) (fun c1 => ?_) (fun c1 => ?_)
    · have h := h.1 c1
      refine lv_iconst (v := 0) hx hb dX1_hasWord_21 (by decide) ?_
      exact W.zret (v := (bI false)) hx hb hr (nar_bI false) (fun t ht hW => ⟨⟨_, (M0), rfl, ⟨false, rfl, h⟩, by rw [ht]; exact hP, va_K.moved hW.alike hK, hD⟩, hS.F ht⟩) hS.2.2 dX1_hasWord_22
    · have h := h.2 c1
      refine lv_iload_n hx hb dX1_hasWord_4 rfl (lv_at hl 1 rfl) ?_
      refine lv_aload_n hx hb dX1_hasWord_5 rfl (lv_at hl 0 rfl) ?_
      refine va_get (D := (dC, dI)) (ci := 1) (v := .int (mg M0 2)) (C := RX1) (T := TX1) (N := 6) hx hb hts hinX1 hown hK hP 0 rfl rfl 2 (by decide) f1 (fun _ h9 => h9) rfl dX1_hasWord_6 ?_
      refine lv_icmp_ge (tgt := 21) hx hb dX1_hasWord_9 (by decide) (fun c2 => ?_) (fun c2 => ?_)
      · have h := h.1 c2
        refine lv_iconst (v := 0) hx hb dX1_hasWord_21 (by decide) ?_
        exact W.zret (v := (bI false)) hx hb hr (nar_bI false) (fun t ht hW => ⟨⟨_, (M0), rfl, ⟨false, rfl, h⟩, by rw [ht]; exact hP, va_K.moved hW.alike hK, hD⟩, hS.F ht⟩) hS.2.2 dX1_hasWord_22
      · have h := h.2 c2
        refine lv_iload_n hx hb dX1_hasWord_12 rfl (lv_at hl 1 rfl) ?_
        refine lv_iconst (v := 4) hx hb dX1_hasWord_13 (by decide) ?_
        refine lv_icmp_ge (tgt := 21) hx hb dX1_hasWord_14 (by decide) (fun c3 => ?_) (fun c3 => ?_)
        · have h := h.1 c3
          refine lv_iconst (v := 0) hx hb dX1_hasWord_21 (by decide) ?_
          exact W.zret (v := (bI false)) hx hb hr (nar_bI false) (fun t ht hW => ⟨⟨_, (M0), rfl, ⟨false, rfl, h⟩, by rw [ht]; exact hP, va_K.moved hW.alike hK, hD⟩, hS.F ht⟩) hS.2.2 dX1_hasWord_22
        · have h := h.2 c3
          refine lv_iconst (v := 1) hx hb dX1_hasWord_17 (by decide) ?_
          refine lv_goto (tgt := 22) hx hb dX1_hasWord_18 (by decide) ?_
          exact W.zret (v := (bI true)) hx hb hr (nar_bI true) (fun t ht hW => ⟨⟨_, (M0), rfl, ⟨true, rfl, h⟩, by rw [ht]; exact hP, va_K.moved hW.alike hK, hD⟩, hS.F ht⟩) hS.2.2 dX1_hasWord_22
  have hl := lv_entry ([.ref h0, .int p1]) (n := 2) (Nat.le_of_ble_eq_true rfl)
  rw [lg_entry_eq]
  generalize (lg_sl ([.ref h0, .int p1]) ++ List.replicate (2 - (lg_sl ([.ref h0, .int p1])).length) Slot.unset).toArray = ls at hl ⊢
  have hl : lv_has ls 2 [(0, .ref h0), (1, .int p1)] := hl
  exact bE M0 s.heap [] ls hP hD hS hl h
def wX1_verseOf (p1 : Int32) (M0 : gS) (Q : Int32 → gS → Prop) : Prop :=
 (wX1_hasTune p1 M0 (fun (b3 : Bool) (N2 : gS) => (((bI b3) = 0 → (Q (1 : Int32) N2))
 ∧ (¬ (bI b3) = 0 → (vp_in p1 4 ∧ (Q (ma N2 1 (Int32.toNatClampNeg p1)) N2))))))
def rmX1_verseOf : Room := { frames := 1, cells := 0, slots := 0, locals := 21 }
set_option maxHeartbeats 4000000 in
set_option maxRecDepth 100000 in
theorem kX1_verseOf (l : Launch) (dC : Nat → ClassId) (dI : Nat → Nat → Nat) (cB cI cJ cZ : ClassId) (h0 : Nat) (a0 : Nat → Nat) (sz : Nat) (p1 : Int32) (M0 : gS) (Q : Int32 → gS → Prop) (h : wX1_verseOf p1 M0 Q) : Met l yX1_verseOf wsX1_verseOf rmX1_verseOf (va_Pc [.ref h0, .int p1] (cnI dC dI cB cI cJ cZ h0 a0 M0 sz)) (va_Qi (fun (r : Int32) (u : gS) => Q r u) (cnB dC dI cB cI cJ cZ h0 a0 (va_A (cnW cB cI cJ cZ h0 a0 M0) sz)) (va_A (cnW cB cI cJ cZ h0 a0 M0) sz)) 0 0 (va_A (cnW cB cI cJ cZ h0 a0 M0) sz) := by
  refine Met.ofW (cc := cX1_verseOf) (maxL := 2) (ret := (some .int)) (by decide) rfl ?_
  intro p e s m args below meth c s₁ B hml hv
  obtain ⟨rfl, hsz, hP, hK, hD0⟩ := hv
  have hx := B.exec
  have hb := B.bytes
  have hr := B.returns
  have hts := atoms_spec (ws := wsX1_verseOf) B.pre
  have hown : s.vm.findClass RX1 = some m.cls := findClass_of_methodNamed B.named
  have hlocks := B.notSynchronized
  subst hsz
  have hD := hD0.self (sz := s.heap.size)
  generalize hAe : va_A (cnW cB cI cJ cZ h0 a0 M0) s.heap.size = A at hD ⊢
  have hA : ∀ q : Nat, s.heap.size ≤ q → A q := fun q h => by rw [← hAe]; exact Or.inr h
  have hS : va_S A s.heap s.heap [] := va_S.rf
  have hinX1 : ∀ w ∈ wsX10, w ∈ wsX1_verseOf := by decide +kernel
  have f1 := hts (.fieldLink RX1 9 "LastWords$Corner" "verses" "[I") (by decide +kernel)
  have bE : ∀ (M0 : gS) (H : Heap) (locs : List Loc) (ls : Array Slot), va_P (dC, dI) vwCl (cnW cB cI cJ cZ h0 a0 M0) H → va_D A (cnW cB cI cJ cZ h0 a0 M0) → va_S A s.heap H locs → lv_has ls 2 [(0, .ref h0), (1, .int p1)] → wX1_verseOf p1 M0 Q → W p l e (headSpec wsX1_verseOf rmX1_verseOf).room s m ([.ref h0, .int p1] : List Value).toArray below meth c H locs 0 0 (MQ below (va_Qi (fun (r : Int32) (u : gS) => Q r u) (cnB dC dI cB cI cJ cZ h0 a0 A) A) ([.ref h0, .int p1] : List Value).toArray s 0 0 A) (F0 m 0 ls []) := by
    intro M0 H locs ls hP hD hS hl h
    unfold wX1_verseOf at h
    refine lv_aload_n hx hb dX1_verseOf_0 rfl (lv_at hl 0 rfl) ?_
    refine lv_iload_n hx hb dX1_verseOf_1 rfl (lv_at hl 1 rfl) ?_
    have hFc := gs_free hD hS hA
    refine va_calli (va_runV (As := [.int p1]) (rest := []) ⟨hx, hb, hml, hown, hts⟩ (kX1_hasTune l dC dI cB cI cJ cZ h0 a0 H.size p1 M0 _ h) (cwV 1 hts gX1_verseOf_X1_hasTune rfl rfl rfl (by decide +kernel) ⟨Nat.le_of_ble_eq_true rfl, Nat.le_of_ble_eq_true rfl⟩) (cnpV hK hP hD) rfl rfl hl.1 rfl (lv_room (Nat.le_of_ble_eq_true rfl)) dX1_verseOf_2 ⟨Nat.le_of_ble_eq_true rfl, Nat.le_of_ble_eq_true rfl⟩) hS (fun q _ z => hFc q z) hFc (fun r1 u t H1 locs ht hvm hw hB hz1 hk1 hS => ?_)
    obtain ⟨N2, rfl⟩ : ∃ z, z = u := ⟨_, rfl⟩
    obtain ⟨hP, hD⟩ := gs_back ht hFc hB
    generalize H1 = H at hP hS ⊢
    obtain ⟨b3, rfl, h⟩ := hw
    try dsimp only at h
    refine lv_if_eq (tgt := 17) hx hb dX1_verseOf_5 (by decide) (fun c4 => ?_) (fun c4 => ?_)
    · have h := h.1 c4
      refine lv_iconst (v := 1) hx hb dX1_verseOf_17 (by decide) ?_
      exact W.iret (v := (1 : Int32)) hx hb hr (fun t ht hW => ⟨⟨_, (N2), rfl, h, by rw [ht]; exact hP, va_K.moved hW.alike hK, hD⟩, hS.F ht⟩) hS.2.2 dX1_verseOf_18
    · have h := h.2 c4
      refine lv_aload_n hx hb dX1_verseOf_8 rfl (lv_at hl 0 rfl) ?_
      refine va_get (D := (dC, dI)) (ci := 1) (v := .ref (a0 1)) (C := RX1) (T := TX1) (N := 6) hx hb hts hinX1 hown hK hP 0 rfl rfl 1 (by decide) f1 (fun _ h9 => h9) rfl dX1_verseOf_9 ?_
      refine lv_iload_n hx hb dX1_verseOf_12 rfl (lv_at hl 1 rfl) ?_
      refine va_iald hx hb hK hP 1 1 (f := ma N2 1) rfl rfl h.1 dX1_verseOf_13 ?_
      have h := h.2
      refine lv_goto (tgt := 18) hx hb dX1_verseOf_14 (by decide) ?_
      exact W.iret (v := (ma N2 1 (Int32.toNatClampNeg p1))) hx hb hr (fun t ht hW => ⟨⟨_, (N2), rfl, h, by rw [ht]; exact hP, va_K.moved hW.alike hK, hD⟩, hS.F ht⟩) hS.2.2 dX1_verseOf_18
  have hl := lv_entry ([.ref h0, .int p1]) (n := 2) (Nat.le_of_ble_eq_true rfl)
  rw [lg_entry_eq]
  generalize (lg_sl ([.ref h0, .int p1]) ++ List.replicate (2 - (lg_sl ([.ref h0, .int p1])).length) Slot.unset).toArray = ls at hl ⊢
  have hl : lv_has ls 2 [(0, .ref h0), (1, .int p1)] := hl
  exact bE M0 s.heap [] ls hP hD hS hl h
def wX1_cost (p1 : Int32) (p2 : Int32) (M0 : gS) (Q : Int32 → gS → Prop) : Prop :=
 ((p1 < 0 → (Q (1000 : Int32) M0))
 ∧ (¬ p1 < 0 → (((mg M0 2) ≤ p1 → (Q (1000 : Int32) M0))
 ∧ (¬ (mg M0 2) ≤ p1 → ((p1 < (4 : Int32) → ((p1 = p2 → (vp_in p1 4 ∧ (Q ((ma M0 3 (Int32.toNatClampNeg p1)) + (mg M0 4)) M0)))
 ∧ (¬ p1 = p2 → (vp_in p1 4 ∧ (Q (ma M0 3 (Int32.toNatClampNeg p1)) M0)))))
 ∧ (¬ p1 < (4 : Int32) → (Q (1000 : Int32) M0)))))))
def rmX1_cost : Room := { frames := 0, cells := 0, slots := 0, locals := 0 }
set_option maxHeartbeats 4000000 in
set_option maxRecDepth 100000 in
theorem kX1_cost (l : Launch) (dC : Nat → ClassId) (dI : Nat → Nat → Nat) (cB cI cJ cZ : ClassId) (h0 : Nat) (a0 : Nat → Nat) (sz : Nat) (p1 : Int32) (p2 : Int32) (M0 : gS) (Q : Int32 → gS → Prop) (h : wX1_cost p1 p2 M0 Q) : Met l yX1_cost wsX1_cost rmX1_cost (va_Pc [.ref h0, .int p1, .int p2] (cnI dC dI cB cI cJ cZ h0 a0 M0 sz)) (va_Qi (fun (r : Int32) (u : gS) => Q r u) (cnB dC dI cB cI cJ cZ h0 a0 (va_A (cnW cB cI cJ cZ h0 a0 M0) sz)) (va_A (cnW cB cI cJ cZ h0 a0 M0) sz)) 0 0 (va_A (cnW cB cI cJ cZ h0 a0 M0) sz) := by
  refine Met.ofW (cc := cX1_cost) (maxL := 3) (ret := (some .int)) (by decide) rfl ?_
  intro p e s m args below meth c s₁ B hml hv
  obtain ⟨rfl, hsz, hP, hK, hD0⟩ := hv
  have hx := B.exec
  have hb := B.bytes
  have hr := B.returns
  have hts := atoms_spec (ws := wsX1_cost) B.pre
  have hown : s.vm.findClass RX1 = some m.cls := findClass_of_methodNamed B.named
  have hlocks := B.notSynchronized
  subst hsz
  have hD := hD0.self (sz := s.heap.size)
  generalize hAe : va_A (cnW cB cI cJ cZ h0 a0 M0) s.heap.size = A at hD ⊢
  have hA : ∀ q : Nat, s.heap.size ≤ q → A q := fun q h => by rw [← hAe]; exact Or.inr h
  have hS : va_S A s.heap s.heap [] := va_S.rf
  have hinX1 : ∀ w ∈ wsX10, w ∈ wsX1_cost := by decide +kernel
  have f1 := hts (.fieldLink RX1 25 "LastWords$Corner" "words" "I") (by decide +kernel)
  have f2 := hts (.fieldLink RX1 15 "LastWords$Corner" "beats" "[I") (by decide +kernel)
  have f3 := hts (.fieldLink RX1 28 "LastWords$Corner" "again" "I") (by decide +kernel)
  have bE : ∀ (M0 : gS) (H : Heap) (locs : List Loc) (ls : Array Slot), va_P (dC, dI) vwCl (cnW cB cI cJ cZ h0 a0 M0) H → va_D A (cnW cB cI cJ cZ h0 a0 M0) → va_S A s.heap H locs → lv_has ls 3 [(0, .ref h0), (1, .int p1), (2, .int p2)] → wX1_cost p1 p2 M0 Q → W p l e (headSpec wsX1_cost rmX1_cost).room s m ([.ref h0, .int p1, .int p2] : List Value).toArray below meth c H locs 0 0 (MQ below (va_Qi (fun (r : Int32) (u : gS) => Q r u) (cnB dC dI cB cI cJ cZ h0 a0 A) A) ([.ref h0, .int p1, .int p2] : List Value).toArray s 0 0 A) (F0 m 0 ls []) := by
    intro M0 H locs ls hP hD hS hl h
    unfold wX1_cost at h
    refine lv_iload_n hx hb dX1_cost_0 rfl (lv_at hl 1 rfl) ?_
    refine lv_if_lt (tgt := 17) hx hb dX1_cost_1 (by decide) (fun c1 => ?_) (fun c1 => ?_)
    · have h := h.1 c1
      refine lv_sipush (v := (1000)) hx hb dX1_cost_17 (by decide) ?_
      exact W.iret (v := (1000 : Int32)) hx hb hr (fun t ht hW => ⟨⟨_, (M0), rfl, h, by rw [ht]; exact hP, va_K.moved hW.alike hK, hD⟩, hS.F ht⟩) hS.2.2 dX1_cost_20
    · have h := h.2 c1
      refine lv_iload_n hx hb dX1_cost_4 rfl (lv_at hl 1 rfl) ?_
      refine lv_aload_n hx hb dX1_cost_5 rfl (lv_at hl 0 rfl) ?_
      refine va_get (D := (dC, dI)) (ci := 1) (v := .int (mg M0 2)) (C := RX1) (T := TX1) (N := 6) hx hb hts hinX1 hown hK hP 0 rfl rfl 2 (by decide) f1 (fun _ h9 => h9) rfl dX1_cost_6 ?_
      refine lv_icmp_ge (tgt := 17) hx hb dX1_cost_9 (by decide) (fun c2 => ?_) (fun c2 => ?_)
      · have h := h.1 c2
        refine lv_sipush (v := (1000)) hx hb dX1_cost_17 (by decide) ?_
        exact W.iret (v := (1000 : Int32)) hx hb hr (fun t ht hW => ⟨⟨_, (M0), rfl, h, by rw [ht]; exact hP, va_K.moved hW.alike hK, hD⟩, hS.F ht⟩) hS.2.2 dX1_cost_20
      · have h := h.2 c2
        refine lv_iload_n hx hb dX1_cost_12 rfl (lv_at hl 1 rfl) ?_
        refine lv_iconst (v := 4) hx hb dX1_cost_13 (by decide) ?_
        refine lv_icmp_lt (tgt := 21) hx hb dX1_cost_14 (by decide) (fun c3 => ?_) (fun c3 => ?_)
        · have h := h.1 c3
          refine lv_iload_n hx hb dX1_cost_21 rfl (lv_at hl 1 rfl) ?_
          refine lv_iload_n hx hb dX1_cost_22 rfl (lv_at hl 2 rfl) ?_
          refine lv_icmp_ne (tgt := 40) hx hb dX1_cost_23 (by decide) (fun c4 => ?_) (fun c4 => ?_)
          · have h := h.2 c4
            refine lv_aload_n hx hb dX1_cost_40 rfl (lv_at hl 0 rfl) ?_
            refine va_get (D := (dC, dI)) (ci := 1) (v := .ref (a0 3)) (C := RX1) (T := TX1) (N := 6) hx hb hts hinX1 hown hK hP 0 rfl rfl 3 (by decide) f2 (fun _ h9 => h9) rfl dX1_cost_41 ?_
            refine lv_iload_n hx hb dX1_cost_44 rfl (lv_at hl 1 rfl) ?_
            refine va_iald hx hb hK hP 2 1 (f := ma M0 3) rfl rfl h.1 dX1_cost_45 ?_
            have h := h.2
            exact W.iret (v := (ma M0 3 (Int32.toNatClampNeg p1))) hx hb hr (fun t ht hW => ⟨⟨_, (M0), rfl, h, by rw [ht]; exact hP, va_K.moved hW.alike hK, hD⟩, hS.F ht⟩) hS.2.2 dX1_cost_46
          · have h := h.1 c4
            refine lv_aload_n hx hb dX1_cost_26 rfl (lv_at hl 0 rfl) ?_
            refine va_get (D := (dC, dI)) (ci := 1) (v := .ref (a0 3)) (C := RX1) (T := TX1) (N := 6) hx hb hts hinX1 hown hK hP 0 rfl rfl 3 (by decide) f2 (fun _ h9 => h9) rfl dX1_cost_27 ?_
            refine lv_iload_n hx hb dX1_cost_30 rfl (lv_at hl 1 rfl) ?_
            refine va_iald hx hb hK hP 2 1 (f := ma M0 3) rfl rfl h.1 dX1_cost_31 ?_
            have h := h.2
            refine lv_aload_n hx hb dX1_cost_32 rfl (lv_at hl 0 rfl) ?_
            refine va_get (D := (dC, dI)) (ci := 1) (v := .int (mg M0 4)) (C := RX1) (T := TX1) (N := 6) hx hb hts hinX1 hown hK hP 0 rfl rfl 4 (by decide) f3 (fun _ h9 => h9) rfl dX1_cost_33 ?_
            refine lv_iadd hx hb dX1_cost_36 ?_
            refine lv_goto (tgt := 46) hx hb dX1_cost_37 (by decide) ?_
            exact W.iret (v := ((ma M0 3 (Int32.toNatClampNeg p1)) + (mg M0 4))) hx hb hr (fun t ht hW => ⟨⟨_, (M0), rfl, h, by rw [ht]; exact hP, va_K.moved hW.alike hK, hD⟩, hS.F ht⟩) hS.2.2 dX1_cost_46
        · have h := h.2 c3
          refine lv_sipush (v := (1000)) hx hb dX1_cost_17 (by decide) ?_
          exact W.iret (v := (1000 : Int32)) hx hb hr (fun t ht hW => ⟨⟨_, (M0), rfl, h, by rw [ht]; exact hP, va_K.moved hW.alike hK, hD⟩, hS.F ht⟩) hS.2.2 dX1_cost_20
  have hl := lv_entry ([.ref h0, .int p1, .int p2]) (n := 3) (Nat.le_of_ble_eq_true rfl)
  rw [lg_entry_eq]
  generalize (lg_sl ([.ref h0, .int p1, .int p2]) ++ List.replicate (3 - (lg_sl ([.ref h0, .int p1, .int p2])).length) Slot.unset).toArray = ls at hl ⊢
  have hl : lv_has ls 3 [(0, .ref h0), (1, .int p1), (2, .int p2)] := hl
  exact bE M0 s.heap [] ls hP hD hS hl h
def wX1_anyWordFits_2  (Q : Bool → gS → Prop) : Nat → Int32 → Int32 → Int32 → gS → Prop
 | 0, _, _, _, _ => False
 | n + 1, y1, y2, y3, M0 => (((mg M0 2) ≤ y3 → (Q false M0))
 ∧ (¬ (mg M0 2) ≤ y3 → (wX1_cost y3 y1 M0 (fun (r2 : Int32) (N3 : gS) => ((y2 < r2 → (∀ x5 : Int32, x5 = y3 + (1 : Int32) → (wX1_anyWordFits_2  Q n y1 y2 x5 N3)))
 ∧ (¬ y2 < r2 → (Q true N3)))))))
def wX1_anyWordFits (p1 : Int32) (p2 : Int32) (M0 : gS) (Q : Bool → gS → Prop) : Prop :=
 (∃ k2 : Nat, wX1_anyWordFits_2  Q k2 p1 p2 (0 : Int32) M0)
def rmX1_anyWordFits : Room := { frames := 1, cells := 0, slots := 0, locals := 22 }
set_option maxHeartbeats 4000000 in
set_option maxRecDepth 100000 in
theorem kX1_anyWordFits (l : Launch) (dC : Nat → ClassId) (dI : Nat → Nat → Nat) (cB cI cJ cZ : ClassId) (h0 : Nat) (a0 : Nat → Nat) (sz : Nat) (p1 : Int32) (p2 : Int32) (M0 : gS) (Q : Bool → gS → Prop) (h : wX1_anyWordFits p1 p2 M0 Q) : Met l yX1_anyWordFits wsX1_anyWordFits rmX1_anyWordFits (va_Pc [.ref h0, .int p1, .int p2] (cnI dC dI cB cI cJ cZ h0 a0 M0 sz)) (va_Qi (fun (r : Int32) (u : gS) => ∃ b : Bool, r = bI b ∧ Q b u) (cnB dC dI cB cI cJ cZ h0 a0 (va_A (cnW cB cI cJ cZ h0 a0 M0) sz)) (va_A (cnW cB cI cJ cZ h0 a0 M0) sz)) 0 0 (va_A (cnW cB cI cJ cZ h0 a0 M0) sz) := by
  refine Met.ofW (cc := cX1_anyWordFits) (maxL := 4) (ret := (some .boolean)) (by decide) rfl ?_
  intro p e s m args below meth c s₁ B hml hv
  obtain ⟨rfl, hsz, hP, hK, hD0⟩ := hv
  have hx := B.exec
  have hb := B.bytes
  have hr := B.returns
  have hts := atoms_spec (ws := wsX1_anyWordFits) B.pre
  have hown : s.vm.findClass RX1 = some m.cls := findClass_of_methodNamed B.named
  have hlocks := B.notSynchronized
  subst hsz
  have hD := hD0.self (sz := s.heap.size)
  generalize hAe : va_A (cnW cB cI cJ cZ h0 a0 M0) s.heap.size = A at hD ⊢
  have hA : ∀ q : Nat, s.heap.size ≤ q → A q := fun q h => by rw [← hAe]; exact Or.inr h
  have hS : va_S A s.heap s.heap [] := va_S.rf
  have hinX1 : ∀ w ∈ wsX10, w ∈ wsX1_anyWordFits := by decide +kernel
  have f1 := hts (.fieldLink RX1 25 "LastWords$Corner" "words" "I") (by decide +kernel)
  have b2 : ∀ (n : Nat) (y1 : Int32) (y2 : Int32) (y3 : Int32) (M0 : gS) (H : Heap) (locs : List Loc) (ls : Array Slot), va_P (dC, dI) vwCl (cnW cB cI cJ cZ h0 a0 M0) H → va_D A (cnW cB cI cJ cZ h0 a0 M0) → va_S A s.heap H locs → lv_has ls 4 [(0, .ref h0), (1, .int y1), (2, .int y2), (3, .int y3)] → wX1_anyWordFits_2  Q n y1 y2 y3 M0 → W p l e (headSpec wsX1_anyWordFits rmX1_anyWordFits).room s m ([.ref h0, .int p1, .int p2] : List Value).toArray below meth c H locs 0 0 (MQ below (va_Qi (fun (r : Int32) (u : gS) => ∃ b : Bool, r = bI b ∧ Q b u) (cnB dC dI cB cI cJ cZ h0 a0 A) A) ([.ref h0, .int p1, .int p2] : List Value).toArray s 0 0 A) (F0 m 2 ls []) := by
    intro  n
    induction n with
    | zero => intro y1 y2 y3 M0 H locs ls hP hD hS hl h; exact absurd h (by simp [wX1_anyWordFits_2])
    | succ n hB20 =>
      intro y1 y2 y3 M0 H locs ls hP hD hS hl h
      have hB2 := hB20
      rw [wX1_anyWordFits_2] at h
      refine lv_iload_n hx hb dX1_anyWordFits_2 rfl (lv_at hl 3 rfl) ?_
      refine lv_aload_n hx hb dX1_anyWordFits_3 rfl (lv_at hl 0 rfl) ?_
      refine va_get (D := (dC, dI)) (ci := 1) (v := .int (mg M0 2)) (C := RX1) (T := TX1) (N := 6) hx hb hts hinX1 hown hK hP 0 rfl rfl 2 (by decide) f1 (fun _ h9 => h9) rfl dX1_anyWordFits_4 ?_
      refine lv_icmp_ge (tgt := 28) hx hb dX1_anyWordFits_7 (by decide) (fun c1 => ?_) (fun c1 => ?_)
      · have h := h.1 c1
        refine lv_iconst (v := 0) hx hb dX1_anyWordFits_28 (by decide) ?_
        exact W.zret (v := (bI false)) hx hb hr (nar_bI false) (fun t ht hW => ⟨⟨_, (M0), rfl, ⟨false, rfl, h⟩, by rw [ht]; exact hP, va_K.moved hW.alike hK, hD⟩, hS.F ht⟩) hS.2.2 dX1_anyWordFits_29
      · have h := h.2 c1
        refine lv_aload_n hx hb dX1_anyWordFits_10 rfl (lv_at hl 0 rfl) ?_
        refine lv_iload_n hx hb dX1_anyWordFits_11 rfl (lv_at hl 3 rfl) ?_
        refine lv_iload_n hx hb dX1_anyWordFits_12 rfl (lv_at hl 1 rfl) ?_
        have hFc := gs_free hD hS hA
        refine va_calli (va_runV (As := [.int y3, .int y1]) (rest := []) ⟨hx, hb, hml, hown, hts⟩ (kX1_cost l dC dI cB cI cJ cZ h0 a0 H.size y3 y1 M0 _ h) (cwV 2 hts gX1_anyWordFits_X1_cost rfl rfl rfl (by decide +kernel) ⟨Nat.le_of_ble_eq_true rfl, Nat.le_of_ble_eq_true rfl⟩) (cnpV hK hP hD) rfl rfl hl.1 rfl (lv_room (Nat.le_of_ble_eq_true rfl)) dX1_anyWordFits_13 ⟨Nat.le_of_ble_eq_true rfl, Nat.le_of_ble_eq_true rfl⟩) hS (fun q _ z => hFc q z) hFc (fun r2 u t H1 locs ht hvm hw hB hz1 hk1 hS => ?_)
        obtain ⟨N3, rfl⟩ : ∃ z, z = u := ⟨_, rfl⟩
        obtain ⟨hP, hD⟩ := gs_back ht hFc hB
        generalize H1 = H at hP hS ⊢
        have h := hw
        try dsimp only at h
        refine lv_iload_n hx hb dX1_anyWordFits_16 rfl (lv_at hl 2 rfl) ?_
        refine lv_icmp_gt (tgt := 22) hx hb dX1_anyWordFits_17 (by decide) (fun c4 => ?_) (fun c4 => ?_)
        · have h := h.1 c4
          obtain ⟨x5, ex5⟩ : ∃ y : Int32, y = y3 + (1 : Int32) := ⟨_, rfl⟩
          have h := h x5 ex5
          refine lv_iinc (v := x5) (lv' := [(3, .int x5), (0, .ref h0), (1, .int y1), (2, .int y2)]) hx hb dX1_anyWordFits_22 hl (k := 3) rfl (by rw [ex5]; rfl) (by decide) rfl (fun ls hl => ?_)
          refine lv_goto (tgt := 2) hx hb dX1_anyWordFits_25 (by decide) ?_
          exact hB2 y1 y2 x5 N3 H locs ls hP hD hS (lv_sub hl [1, 2, 3, 0] rfl) h
        · have h := h.2 c4
          refine lv_iconst (v := 1) hx hb dX1_anyWordFits_20 (by decide) ?_
          exact W.zret (v := (bI true)) hx hb hr (nar_bI true) (fun t ht hW => ⟨⟨_, (N3), rfl, ⟨true, rfl, h⟩, by rw [ht]; exact hP, va_K.moved hW.alike hK, hD⟩, hS.F ht⟩) hS.2.2 dX1_anyWordFits_21
  have bE : ∀ (M0 : gS) (H : Heap) (locs : List Loc) (ls : Array Slot), va_P (dC, dI) vwCl (cnW cB cI cJ cZ h0 a0 M0) H → va_D A (cnW cB cI cJ cZ h0 a0 M0) → va_S A s.heap H locs → lv_has ls 4 [(0, .ref h0), (1, .int p1), (2, .int p2)] → wX1_anyWordFits p1 p2 M0 Q → W p l e (headSpec wsX1_anyWordFits rmX1_anyWordFits).room s m ([.ref h0, .int p1, .int p2] : List Value).toArray below meth c H locs 0 0 (MQ below (va_Qi (fun (r : Int32) (u : gS) => ∃ b : Bool, r = bI b ∧ Q b u) (cnB dC dI cB cI cJ cZ h0 a0 A) A) ([.ref h0, .int p1, .int p2] : List Value).toArray s 0 0 A) (F0 m 0 ls []) := by
    intro M0 H locs ls hP hD hS hl h
    unfold wX1_anyWordFits at h
    refine lv_iconst (v := 0) hx hb dX1_anyWordFits_0 (by decide) ?_
    refine lv_istore_n (lv' := [(3, .int (0 : Int32)), (0, .ref h0), (1, .int p1), (2, .int p2)]) hx hb dX1_anyWordFits_1 rfl hl (by decide) rfl (fun ls hl => ?_)
    obtain ⟨n9, h⟩ := h
    exact b2  n9 p1 p2 (0 : Int32) M0 H locs ls hP hD hS (lv_sub hl [1, 2, 3, 0] rfl) h
  have hl := lv_entry ([.ref h0, .int p1, .int p2]) (n := 4) (Nat.le_of_ble_eq_true rfl)
  rw [lg_entry_eq]
  generalize (lg_sl ([.ref h0, .int p1, .int p2]) ++ List.replicate (4 - (lg_sl ([.ref h0, .int p1, .int p2])).length) Slot.unset).toArray = ls at hl ⊢
  have hl : lv_has ls 4 [(0, .ref h0), (1, .int p1), (2, .int p2)] := hl
  exact bE M0 s.heap [] ls hP hD hS hl h
def wX1_copyFrom  (M0 : gS) (M1 : gS) (Q : gS → gS → Prop) : Prop :=
 (∀ x1 : Int32, x1 = (mg M1 0) → (∀ N2 : gS, N2 = sg M0 0 x1 → (∀ x3 : Int32, x3 = (mg M1 2) → (∀ N4 : gS, N4 = sg N2 2 x3 → (∀ x5 : Int32, x5 = (mg M1 4) → (∀ N6 : gS, N6 = sg N4 4 x5 → (∀ N7 : gS, N7 = sF N6 1 (va_cpy (ma M1 1) (ma N6 1) 0 0 4) → (∀ N8 : gS, N8 = sF N7 3 (va_cpy (ma M1 3) (ma N7 3) 0 0 4) → (∀ N9 : gS, N9 = sF N8 5 (va_cpy (ma M1 5) (ma N8 5) 0 0 2) → (Q N9 M1))))))))))
def rmX1_copyFrom : Room := { frames := 1, cells := 0, slots := 0, locals := 64 }
set_option maxHeartbeats 4000000 in
set_option maxRecDepth 100000 in
theorem kX1_copyFrom (l : Launch) (dC : Nat → ClassId) (dI : Nat → Nat → Nat) (cB cI cJ cZ : ClassId) (h0 : Nat) (a0 : Nat → Nat) (h1 : Nat) (a1 : Nat → Nat) (sz : Nat)  (M0 : gS) (M1 : gS) (Q : gS → gS → Prop) (h : wX1_copyFrom  M0 M1 Q) : Met l yX1_copyFrom wsX1_copyFrom rmX1_copyFrom (va_Pc [.ref h0, .ref h1] (ccI dC dI cB cI cJ cZ h0 a0 h1 a1 M0 M1 sz)) (va_Qv (fun (u : gS × gS) => Q u.1 u.2) (ccB dC dI cB cI cJ cZ h0 a0 h1 a1 (va_A (ccW cB cI cJ cZ h0 a0 h1 a1 M0 M1) sz)) (va_A (ccW cB cI cJ cZ h0 a0 h1 a1 M0 M1) sz)) 0 0 (va_A (ccW cB cI cJ cZ h0 a0 h1 a1 M0 M1) sz) := by
  refine Met.ofW (cc := cX1_copyFrom) (maxL := 2) (ret := none) (by decide) rfl ?_
  intro p e s m args below meth c s₁ B hml hv
  obtain ⟨rfl, hsz, hP, hK, hD0⟩ := hv
  have hx := B.exec
  have hb := B.bytes
  have hr := B.returns
  have hts := atoms_spec (ws := wsX1_copyFrom) B.pre
  have hown : s.vm.findClass RX1 = some m.cls := findClass_of_methodNamed B.named
  have hlocks := B.notSynchronized
  subst hsz
  have hD := hD0.self (sz := s.heap.size)
  generalize hAe : va_A (ccW cB cI cJ cZ h0 a0 h1 a1 M0 M1) s.heap.size = A at hD ⊢
  have hA : ∀ q : Nat, s.heap.size ≤ q → A q := fun q h => by rw [← hAe]; exact Or.inr h
  have hS : va_S A s.heap s.heap [] := va_S.rf
  have hinX1 : ∀ w ∈ wsX10, w ∈ wsX1_copyFrom := by decide +kernel
  have f1 := hts (.fieldLink RX1 21 "LastWords$Corner" "tunes" "I") (by decide +kernel)
  have f2 := hts (.fieldLink RX1 25 "LastWords$Corner" "words" "I") (by decide +kernel)
  have f3 := hts (.fieldLink RX1 28 "LastWords$Corner" "again" "I") (by decide +kernel)
  have f4 := hts (.fieldLink RX1 9 "LastWords$Corner" "verses" "[I") (by decide +kernel)
  have f5 := hts (.methodLink RX1 31 arraycopyName) (by decide +kernel)
  have f6 := hts (.native arraycopyName) (by decide +kernel)
  have f7 := hts (.static arraycopyName) (by decide +kernel)
  have f8 := hts (.initialized "java/lang/System") (by decide +kernel)
  have f9 := hts (.fieldLink RX1 15 "LastWords$Corner" "beats" "[I") (by decide +kernel)
  have f10 := hts (.fieldLink RX1 18 "LastWords$Corner" "purses" "[I") (by decide +kernel)
  have bE : ∀ (M0 : gS) (M1 : gS) (H : Heap) (locs : List Loc) (ls : Array Slot), va_P (dC, dI) vwCl (ccW cB cI cJ cZ h0 a0 h1 a1 M0 M1) H → va_D A (ccW cB cI cJ cZ h0 a0 h1 a1 M0 M1) → va_S A s.heap H locs → lv_has ls 2 [(0, .ref h0), (1, .ref h1)] → wX1_copyFrom  M0 M1 Q → W p l e (headSpec wsX1_copyFrom rmX1_copyFrom).room s m ([.ref h0, .ref h1] : List Value).toArray below meth c H locs 0 0 (MQ below (va_Qv (fun (u : gS × gS) => Q u.1 u.2) (ccB dC dI cB cI cJ cZ h0 a0 h1 a1 A) A) ([.ref h0, .ref h1] : List Value).toArray s 0 0 A) (F0 m 0 ls []) := by
    intro M0 M1 H locs ls hP hD hS hl h
    unfold wX1_copyFrom at h
    refine lv_aload_n hx hb dX1_copyFrom_0 rfl (lv_at hl 0 rfl) ?_
    refine lv_aload_n hx hb dX1_copyFrom_1 rfl (lv_at hl 1 rfl) ?_
    refine va_get (D := (dC, dI)) (ci := 1) (v := .int (mg M1 0)) (C := RX1) (T := TX1) (N := 6) hx hb hts hinX1 hown hK hP 4 rfl rfl 0 (by decide) f1 (fun _ h9 => h9) rfl dX1_copyFrom_2 ?_
    refine lv_topi (fun x1 ex1 => ?_)
    have h := h x1 ex1
    refine va_put (D := (dC, dI)) (ci := 1) (v := .int x1) (ty := .int) (C := RX1) (T := TX1) (N := 6) hx hb hts hinX1 tyX1 tyX1_ok nmX1 hown hK hP hD hS 0 rfl rfl 0 (by decide) f1 (fun _ h9 => h9) rfl (by decide +kernel) rfl rfl (Nat.le_of_ble_eq_true rfl) dX1_copyFrom_5 (fun H locs hP hD hS => ?_)
    have hP := ccP_0_f0 hP
    have hD := ccD_0_f0 hD
    have h := h _ rfl
    generalize sg M0 0 x1 = N2 at hP hD h
    refine lv_aload_n hx hb dX1_copyFrom_8 rfl (lv_at hl 0 rfl) ?_
    refine lv_aload_n hx hb dX1_copyFrom_9 rfl (lv_at hl 1 rfl) ?_
    refine va_get (D := (dC, dI)) (ci := 1) (v := .int (mg M1 2)) (C := RX1) (T := TX1) (N := 6) hx hb hts hinX1 hown hK hP 4 rfl rfl 2 (by decide) f2 (fun _ h9 => h9) rfl dX1_copyFrom_10 ?_
    refine lv_topi (fun x3 ex3 => ?_)
    have h := h x3 ex3
    refine va_put (D := (dC, dI)) (ci := 1) (v := .int x3) (ty := .int) (C := RX1) (T := TX1) (N := 6) hx hb hts hinX1 tyX1 tyX1_ok nmX1 hown hK hP hD hS 0 rfl rfl 2 (by decide) f2 (fun _ h9 => h9) rfl (by decide +kernel) rfl rfl (Nat.le_of_ble_eq_true rfl) dX1_copyFrom_13 (fun H locs hP hD hS => ?_)
    have hP := ccP_0_f2 hP
    have hD := ccD_0_f2 hD
    have h := h _ rfl
    generalize sg N2 2 x3 = N4 at hP hD h
    refine lv_aload_n hx hb dX1_copyFrom_16 rfl (lv_at hl 0 rfl) ?_
    refine lv_aload_n hx hb dX1_copyFrom_17 rfl (lv_at hl 1 rfl) ?_
    refine va_get (D := (dC, dI)) (ci := 1) (v := .int (mg M1 4)) (C := RX1) (T := TX1) (N := 6) hx hb hts hinX1 hown hK hP 4 rfl rfl 4 (by decide) f3 (fun _ h9 => h9) rfl dX1_copyFrom_18 ?_
    refine lv_topi (fun x5 ex5 => ?_)
    have h := h x5 ex5
    refine va_put (D := (dC, dI)) (ci := 1) (v := .int x5) (ty := .int) (C := RX1) (T := TX1) (N := 6) hx hb hts hinX1 tyX1 tyX1_ok nmX1 hown hK hP hD hS 0 rfl rfl 4 (by decide) f3 (fun _ h9 => h9) rfl (by decide +kernel) rfl rfl (Nat.le_of_ble_eq_true rfl) dX1_copyFrom_21 (fun H locs hP hD hS => ?_)
    have hP := ccP_0_f4 hP
    have hD := ccD_0_f4 hD
    have h := h _ rfl
    generalize sg N4 4 x5 = N6 at hP hD h
    refine lv_aload_n hx hb dX1_copyFrom_24 rfl (lv_at hl 1 rfl) ?_
    refine va_get (D := (dC, dI)) (ci := 1) (v := .ref (a1 1)) (C := RX1) (T := TX1) (N := 6) hx hb hts hinX1 hown hK hP 4 rfl rfl 1 (by decide) f4 (fun _ h9 => h9) rfl dX1_copyFrom_25 ?_
    refine lv_iconst (v := 0) hx hb dX1_copyFrom_28 (by decide) ?_
    refine lv_aload_n hx hb dX1_copyFrom_29 rfl (lv_at hl 0 rfl) ?_
    refine va_get (D := (dC, dI)) (ci := 1) (v := .ref (a0 1)) (C := RX1) (T := TX1) (N := 6) hx hb hts hinX1 hown hK hP 0 rfl rfl 1 (by decide) f4 (fun _ h9 => h9) rfl dX1_copyFrom_30 ?_
    refine lv_iconst (v := 0) hx hb dX1_copyFrom_33 (by decide) ?_
    refine lv_iconst (v := 4) hx hb dX1_copyFrom_34 (by decide) ?_
    refine wc_copyi (k := 4) hx hb (by rw [hml]; exact hl.1.symm) hown f5 f6 f7 f8 hK hP hD hS 5 1 1 1 (f := ma M1 1) (g := ma N6 1) rfl rfl rfl rfl rfl (by decide) (by decide) (by decide) (Nat.le_of_ble_eq_true rfl) (Nat.le_of_ble_eq_true rfl) dX1_copyFrom_35 (fun H locs hP hD hS => ?_)
    have hP := ccP_0_c1 hP
    have hD := ccD_0_c1 hD
    have h := h _ rfl
    generalize sF N6 1 (va_cpy (ma M1 1) (ma N6 1) 0 0 4) = N7 at hP hD h
    refine lv_aload_n hx hb dX1_copyFrom_38 rfl (lv_at hl 1 rfl) ?_
    refine va_get (D := (dC, dI)) (ci := 1) (v := .ref (a1 3)) (C := RX1) (T := TX1) (N := 6) hx hb hts hinX1 hown hK hP 4 rfl rfl 3 (by decide) f9 (fun _ h9 => h9) rfl dX1_copyFrom_39 ?_
    refine lv_iconst (v := 0) hx hb dX1_copyFrom_42 (by decide) ?_
    refine lv_aload_n hx hb dX1_copyFrom_43 rfl (lv_at hl 0 rfl) ?_
    refine va_get (D := (dC, dI)) (ci := 1) (v := .ref (a0 3)) (C := RX1) (T := TX1) (N := 6) hx hb hts hinX1 hown hK hP 0 rfl rfl 3 (by decide) f9 (fun _ h9 => h9) rfl dX1_copyFrom_44 ?_
    refine lv_iconst (v := 0) hx hb dX1_copyFrom_47 (by decide) ?_
    refine lv_iconst (v := 4) hx hb dX1_copyFrom_48 (by decide) ?_
    refine wc_copyi (k := 4) hx hb (by rw [hml]; exact hl.1.symm) hown f5 f6 f7 f8 hK hP hD hS 6 2 1 1 (f := ma M1 3) (g := ma N7 3) rfl rfl rfl rfl rfl (by decide) (by decide) (by decide) (Nat.le_of_ble_eq_true rfl) (Nat.le_of_ble_eq_true rfl) dX1_copyFrom_49 (fun H locs hP hD hS => ?_)
    have hP := ccP_0_c3 hP
    have hD := ccD_0_c3 hD
    have h := h _ rfl
    generalize sF N7 3 (va_cpy (ma M1 3) (ma N7 3) 0 0 4) = N8 at hP hD h
    refine lv_aload_n hx hb dX1_copyFrom_52 rfl (lv_at hl 1 rfl) ?_
    refine va_get (D := (dC, dI)) (ci := 1) (v := .ref (a1 5)) (C := RX1) (T := TX1) (N := 6) hx hb hts hinX1 hown hK hP 4 rfl rfl 5 (by decide) f10 (fun _ h9 => h9) rfl dX1_copyFrom_53 ?_
    refine lv_iconst (v := 0) hx hb dX1_copyFrom_56 (by decide) ?_
    refine lv_aload_n hx hb dX1_copyFrom_57 rfl (lv_at hl 0 rfl) ?_
    refine va_get (D := (dC, dI)) (ci := 1) (v := .ref (a0 5)) (C := RX1) (T := TX1) (N := 6) hx hb hts hinX1 hown hK hP 0 rfl rfl 5 (by decide) f10 (fun _ h9 => h9) rfl dX1_copyFrom_58 ?_
    refine lv_iconst (v := 0) hx hb dX1_copyFrom_61 (by decide) ?_
    refine lv_iconst (v := 2) hx hb dX1_copyFrom_62 (by decide) ?_
    refine wc_copyi (k := 2) hx hb (by rw [hml]; exact hl.1.symm) hown f5 f6 f7 f8 hK hP hD hS 7 3 1 1 (f := ma M1 5) (g := ma N8 5) rfl rfl rfl rfl rfl (by decide) (by decide) (by decide) (Nat.le_of_ble_eq_true rfl) (Nat.le_of_ble_eq_true rfl) dX1_copyFrom_63 (fun H locs hP hD hS => ?_)
    have hP := ccP_0_c5 hP
    have hD := ccD_0_c5 hD
    have h := h _ rfl
    generalize sF N8 5 (va_cpy (ma M1 5) (ma N8 5) 0 0 2) = N9 at hP hD h
    exact W.vret hx hb hr (fun t ht hW => ⟨⟨(N9, M1), rfl, h, by rw [ht]; exact hP, va_K.moved hW.alike hK, hD⟩, hS.F ht⟩) hS.2.2 dX1_copyFrom_66
  have hl := lv_entry ([.ref h0, .ref h1]) (n := 2) (Nat.le_of_ble_eq_true rfl)
  rw [lg_entry_eq]
  generalize (lg_sl ([.ref h0, .ref h1]) ++ List.replicate (2 - (lg_sl ([.ref h0, .ref h1])).length) Slot.unset).toArray = ls at hl ⊢
  have hl : lv_has ls 2 [(0, .ref h0), (1, .ref h1)] := hl
  exact bE M0 M1 s.heap [] ls hP hD hS hl h
def wX3_drawBelow (p1 : Int32) (M0 : gS) (Q : Int32 → gS → Prop) : Prop :=
 (∀ x1 : Int32, x1 = (Int64.toInt32 ((((Int32.toInt64 (mg M0 0)) * (1103515245 : Int64)) + (12345 : Int64)) &&& (2147483647 : Int64))) → (∀ N2 : gS, N2 = sg M0 0 x1 → ((p1 ≤ 0 → (Q (0 : Int32) N2))
 ∧ (¬ p1 ≤ 0 → (¬ p1 = 0 ∧ (Q (((mg N2 0) / (65536 : Int32)) - ((mg N2 0) / (65536 : Int32)) / p1 * p1) N2))))))
def rmX3_drawBelow : Room := { frames := 0, cells := 0, slots := 0, locals := 0 }
set_option maxHeartbeats 4000000 in
set_option maxRecDepth 100000 in
theorem kX3_drawBelow (l : Launch) (dC : Nat → ClassId) (dI : Nat → Nat → Nat) (cB cI cJ cZ : ClassId) (h0 : Nat) (a0 : Nat → Nat) (sz : Nat) (p1 : Int32) (M0 : gS) (Q : Int32 → gS → Prop) (h : wX3_drawBelow p1 M0 Q) : Met l yX3_drawBelow wsX3_drawBelow rmX3_drawBelow (va_Pc [.ref h0, .int p1] (loI dC dI cB cI cJ cZ h0 a0 M0 sz)) (va_Qi (fun (r : Int32) (u : gS) => Q r u) (loB dC dI cB cI cJ cZ h0 a0 (va_A (loW cB cI cJ cZ h0 a0 M0) sz)) (va_A (loW cB cI cJ cZ h0 a0 M0) sz)) 0 0 (va_A (loW cB cI cJ cZ h0 a0 M0) sz) := by
  refine Met.ofW (cc := cX3_drawBelow) (maxL := 2) (ret := (some .int)) (by decide) rfl ?_
  intro p e s m args below meth c s₁ B hml hv
  obtain ⟨rfl, hsz, hP, hK, hD0⟩ := hv
  have hx := B.exec
  have hb := B.bytes
  have hr := B.returns
  have hts := atoms_spec (ws := wsX3_drawBelow) B.pre
  have hown : s.vm.findClass RX3 = some m.cls := findClass_of_methodNamed B.named
  have hlocks := B.notSynchronized
  subst hsz
  have hD := hD0.self (sz := s.heap.size)
  generalize hAe : va_A (loW cB cI cJ cZ h0 a0 M0) s.heap.size = A at hD ⊢
  have hA : ∀ q : Nat, s.heap.size ≤ q → A q := fun q h => by rw [← hAe]; exact Or.inr h
  have hS : va_S A s.heap s.heap [] := va_S.rf
  have hinX3 : ∀ w ∈ wsX30, w ∈ wsX3_drawBelow := by decide +kernel
  have f1 := hts (.fieldLink RX3 26 "LastWords$Lot" "x" "I") (by decide +kernel)
  have f2 := hts (.constantLong RX3 29 (1103515245)) (by decide +kernel)
  have f3 := hts (.constantLong RX3 31 (12345)) (by decide +kernel)
  have f4 := hts (.constantLong RX3 33 (2147483647)) (by decide +kernel)
  have f5 := hts (.constant RX3 35 (65536)) (by decide +kernel)
  have bE : ∀ (M0 : gS) (H : Heap) (locs : List Loc) (ls : Array Slot), va_P (dC, dI) vwCl (loW cB cI cJ cZ h0 a0 M0) H → va_D A (loW cB cI cJ cZ h0 a0 M0) → va_S A s.heap H locs → lv_has ls 2 [(0, .ref h0), (1, .int p1)] → wX3_drawBelow p1 M0 Q → W p l e (headSpec wsX3_drawBelow rmX3_drawBelow).room s m ([.ref h0, .int p1] : List Value).toArray below meth c H locs 0 0 (MQ below (va_Qi (fun (r : Int32) (u : gS) => Q r u) (loB dC dI cB cI cJ cZ h0 a0 A) A) ([.ref h0, .int p1] : List Value).toArray s 0 0 A) (F0 m 0 ls []) := by
    intro M0 H locs ls hP hD hS hl h
    unfold wX3_drawBelow at h
    refine lv_aload_n hx hb dX3_drawBelow_0 rfl (lv_at hl 0 rfl) ?_
    refine lv_aload_n hx hb dX3_drawBelow_1 rfl (lv_at hl 0 rfl) ?_
    refine va_get (D := (dC, dI)) (ci := 3) (v := .int (mg M0 0)) (C := RX3) (T := TX3) (N := 5) hx hb hts hinX3 hown hK hP 0 rfl rfl 0 (by decide) f1 (fun _ h9 => h9) rfl dX3_drawBelow_2 ?_
    refine lv_i2l hx hb dX3_drawBelow_5 rfl ?_
    refine lv_ldc2 (v := (1103515245)) hx hb hown f2 dX3_drawBelow_6 ?_
    refine lv_lmul hx hb dX3_drawBelow_9 ?_
    refine lv_ldc2 (v := (12345)) hx hb hown f3 dX3_drawBelow_10 ?_
    refine lv_ladd hx hb dX3_drawBelow_13 ?_
    refine lv_ldc2 (v := (2147483647)) hx hb hown f4 dX3_drawBelow_14 ?_
    refine lv_land hx hb dX3_drawBelow_17 ?_
    refine lv_l2i hx hb dX3_drawBelow_18 rfl ?_
    refine lv_topi (fun x1 ex1 => ?_)
    have h := h x1 ex1
    refine va_put (D := (dC, dI)) (ci := 3) (v := .int x1) (ty := .int) (C := RX3) (T := TX3) (N := 5) hx hb hts hinX3 tyX3 tyX3_ok nmX3 hown hK hP hD hS 0 rfl rfl 0 (by decide) f1 (fun _ h9 => h9) rfl (by decide +kernel) rfl rfl (Nat.le_of_ble_eq_true rfl) dX3_drawBelow_19 (fun H locs hP hD hS => ?_)
    have hP := loP_0_f0 hP
    have hD := loD_0_f0 hD
    have h := h _ rfl
    generalize sg M0 0 x1 = N2 at hP hD h
    refine lv_iload_n hx hb dX3_drawBelow_22 rfl (lv_at hl 1 rfl) ?_
    refine lv_if_le (tgt := 38) hx hb dX3_drawBelow_23 (by decide) (fun c3 => ?_) (fun c3 => ?_)
    · have h := h.1 c3
      refine lv_iconst (v := 0) hx hb dX3_drawBelow_38 (by decide) ?_
      exact W.iret (v := (0 : Int32)) hx hb hr (fun t ht hW => ⟨⟨_, (N2), rfl, h, by rw [ht]; exact hP, va_K.moved hW.alike hK, hD⟩, hS.F ht⟩) hS.2.2 dX3_drawBelow_39
    · have h := h.2 c3
      refine lv_aload_n hx hb dX3_drawBelow_26 rfl (lv_at hl 0 rfl) ?_
      refine va_get (D := (dC, dI)) (ci := 3) (v := .int (mg N2 0)) (C := RX3) (T := TX3) (N := 5) hx hb hts hinX3 hown hK hP 0 rfl rfl 0 (by decide) f1 (fun _ h9 => h9) rfl dX3_drawBelow_27 ?_
      refine lv_ldc (v := (65536)) hx hb hown f5 dX3_drawBelow_30 ?_
      refine lv_idiv hx hb dX3_drawBelow_32 (by decide) ?_
      refine lv_iload_n hx hb dX3_drawBelow_33 rfl (lv_at hl 1 rfl) ?_
      refine lv_irem hx hb dX3_drawBelow_34 h.1 ?_
      have h := h.2
      refine lv_goto (tgt := 39) hx hb dX3_drawBelow_35 (by decide) ?_
      exact W.iret (v := (((mg N2 0) / (65536 : Int32)) - ((mg N2 0) / (65536 : Int32)) / p1 * p1)) hx hb hr (fun t ht hW => ⟨⟨_, (N2), rfl, h, by rw [ht]; exact hP, va_K.moved hW.alike hK, hD⟩, hS.F ht⟩) hS.2.2 dX3_drawBelow_39
  have hl := lv_entry ([.ref h0, .int p1]) (n := 2) (Nat.le_of_ble_eq_true rfl)
  rw [lg_entry_eq]
  generalize (lg_sl ([.ref h0, .int p1]) ++ List.replicate (2 - (lg_sl ([.ref h0, .int p1])).length) Slot.unset).toArray = ls at hl ⊢
  have hl : lv_has ls 2 [(0, .ref h0), (1, .int p1)] := hl
  exact bE M0 s.heap [] ls hP hD hS hl h
def wX3_draw (p1 : Int32) (p2 : Int32) (M0 : gS) (Q : gS → Prop) : Prop :=
 (wX3_drawBelow p1 M0 (fun (r1 : Int32) (N2 : gS) => (∀ N3 : gS, N3 = sg N2 1 r1 → (wX3_drawBelow (2 : Int32) N3 (fun (r4 : Int32) (N5 : gS) => (∀ N6 : gS, N6 = sg N5 2 r4 → (wX3_drawBelow (p2 + (1 : Int32)) N6 (fun (r7 : Int32) (N8 : gS) => (∀ N9 : gS, N9 = sg N8 3 r7 → (wX3_drawBelow (p2 + (1 : Int32)) N9 (fun (r10 : Int32) (N11 : gS) => (∀ N12 : gS, N12 = sg N11 4 r10 → (Q N12)))))))))))))
def rmX3_draw : Room := { frames := 1, cells := 0, slots := 0, locals := 21 }
set_option maxHeartbeats 4000000 in
set_option maxRecDepth 100000 in
theorem kX3_draw (l : Launch) (dC : Nat → ClassId) (dI : Nat → Nat → Nat) (cB cI cJ cZ : ClassId) (h0 : Nat) (a0 : Nat → Nat) (sz : Nat) (p1 : Int32) (p2 : Int32) (M0 : gS) (Q : gS → Prop) (h : wX3_draw p1 p2 M0 Q) : Met l yX3_draw wsX3_draw rmX3_draw (va_Pc [.ref h0, .int p1, .int p2] (loI dC dI cB cI cJ cZ h0 a0 M0 sz)) (va_Qv (fun (u : gS) => Q u) (loB dC dI cB cI cJ cZ h0 a0 (va_A (loW cB cI cJ cZ h0 a0 M0) sz)) (va_A (loW cB cI cJ cZ h0 a0 M0) sz)) 0 0 (va_A (loW cB cI cJ cZ h0 a0 M0) sz) := by
  refine Met.ofW (cc := cX3_draw) (maxL := 3) (ret := none) (by decide) rfl ?_
  intro p e s m args below meth c s₁ B hml hv
  obtain ⟨rfl, hsz, hP, hK, hD0⟩ := hv
  have hx := B.exec
  have hb := B.bytes
  have hr := B.returns
  have hts := atoms_spec (ws := wsX3_draw) B.pre
  have hown : s.vm.findClass RX3 = some m.cls := findClass_of_methodNamed B.named
  have hlocks := B.notSynchronized
  subst hsz
  have hD := hD0.self (sz := s.heap.size)
  generalize hAe : va_A (loW cB cI cJ cZ h0 a0 M0) s.heap.size = A at hD ⊢
  have hA : ∀ q : Nat, s.heap.size ≤ q → A q := fun q h => by rw [← hAe]; exact Or.inr h
  have hS : va_S A s.heap s.heap [] := va_S.rf
  have hinX3 : ∀ w ∈ wsX30, w ∈ wsX3_draw := by decide +kernel
  have f1 := hts (.fieldLink RX3 13 "LastWords$Lot" "tune" "I") (by decide +kernel)
  have f2 := hts (.fieldLink RX3 17 "LastWords$Lot" "first" "I") (by decide +kernel)
  have f3 := hts (.fieldLink RX3 20 "LastWords$Lot" "purseOfZero" "I") (by decide +kernel)
  have f4 := hts (.fieldLink RX3 23 "LastWords$Lot" "purseOfOne" "I") (by decide +kernel)
  have bE : ∀ (M0 : gS) (H : Heap) (locs : List Loc) (ls : Array Slot), va_P (dC, dI) vwCl (loW cB cI cJ cZ h0 a0 M0) H → va_D A (loW cB cI cJ cZ h0 a0 M0) → va_S A s.heap H locs → lv_has ls 3 [(0, .ref h0), (1, .int p1), (2, .int p2)] → wX3_draw p1 p2 M0 Q → W p l e (headSpec wsX3_draw rmX3_draw).room s m ([.ref h0, .int p1, .int p2] : List Value).toArray below meth c H locs 0 0 (MQ below (va_Qv (fun (u : gS) => Q u) (loB dC dI cB cI cJ cZ h0 a0 A) A) ([.ref h0, .int p1, .int p2] : List Value).toArray s 0 0 A) (F0 m 0 ls []) := by
    intro M0 H locs ls hP hD hS hl h
    unfold wX3_draw at h
    refine lv_aload_n hx hb dX3_draw_0 rfl (lv_at hl 0 rfl) ?_
    refine lv_aload_n hx hb dX3_draw_1 rfl (lv_at hl 0 rfl) ?_
    refine lv_iload_n hx hb dX3_draw_2 rfl (lv_at hl 1 rfl) ?_
    have hFc := gs_free hD hS hA
    refine va_calli (va_runV (As := [.int p1]) (rest := [.ref h0]) ⟨hx, hb, hml, hown, hts⟩ (kX3_drawBelow l dC dI cB cI cJ cZ h0 a0 H.size p1 M0 _ h) (cwV 1 hts gX3_draw_X3_drawBelow rfl rfl rfl (by decide +kernel) ⟨Nat.le_of_ble_eq_true rfl, Nat.le_of_ble_eq_true rfl⟩) (lopV hK hP hD) rfl rfl hl.1 rfl (lv_room (Nat.le_of_ble_eq_true rfl)) dX3_draw_3 ⟨Nat.le_of_ble_eq_true rfl, Nat.le_of_ble_eq_true rfl⟩) hS (fun q _ z => hFc q z) hFc (fun r1 u t H1 locs ht hvm hw hB hz1 hk1 hS => ?_)
    obtain ⟨N2, rfl⟩ : ∃ z, z = u := ⟨_, rfl⟩
    obtain ⟨hP, hD⟩ := gs_back ht hFc hB
    generalize H1 = H at hP hS ⊢
    have h := hw
    try dsimp only at h
    refine va_put (D := (dC, dI)) (ci := 3) (v := .int r1) (ty := .int) (C := RX3) (T := TX3) (N := 5) hx hb hts hinX3 tyX3 tyX3_ok nmX3 hown hK hP hD hS 0 rfl rfl 1 (by decide) f1 (fun _ h9 => h9) rfl (by decide +kernel) rfl rfl (Nat.le_of_ble_eq_true rfl) dX3_draw_6 (fun H locs hP hD hS => ?_)
    have hP := loP_0_f1 hP
    have hD := loD_0_f1 hD
    have h := h _ rfl
    generalize sg N2 1 r1 = N3 at hP hD h
    refine lv_aload_n hx hb dX3_draw_9 rfl (lv_at hl 0 rfl) ?_
    refine lv_aload_n hx hb dX3_draw_10 rfl (lv_at hl 0 rfl) ?_
    refine lv_iconst (v := 2) hx hb dX3_draw_11 (by decide) ?_
    have hFc := gs_free hD hS hA
    refine va_calli (va_runV (As := [.int (2 : Int32)]) (rest := [.ref h0]) ⟨hx, hb, hml, hown, hts⟩ (kX3_drawBelow l dC dI cB cI cJ cZ h0 a0 H.size (2 : Int32) N3 _ h) (cwV 1 hts gX3_draw_X3_drawBelow rfl rfl rfl (by decide +kernel) ⟨Nat.le_of_ble_eq_true rfl, Nat.le_of_ble_eq_true rfl⟩) (lopV hK hP hD) rfl rfl hl.1 rfl (lv_room (Nat.le_of_ble_eq_true rfl)) dX3_draw_12 ⟨Nat.le_of_ble_eq_true rfl, Nat.le_of_ble_eq_true rfl⟩) hS (fun q _ z => hFc q z) hFc (fun r4 u t H1 locs ht hvm hw hB hz1 hk1 hS => ?_)
    obtain ⟨N5, rfl⟩ : ∃ z, z = u := ⟨_, rfl⟩
    obtain ⟨hP, hD⟩ := gs_back ht hFc hB
    generalize H1 = H at hP hS ⊢
    have h := hw
    try dsimp only at h
    refine va_put (D := (dC, dI)) (ci := 3) (v := .int r4) (ty := .int) (C := RX3) (T := TX3) (N := 5) hx hb hts hinX3 tyX3 tyX3_ok nmX3 hown hK hP hD hS 0 rfl rfl 2 (by decide) f2 (fun _ h9 => h9) rfl (by decide +kernel) rfl rfl (Nat.le_of_ble_eq_true rfl) dX3_draw_15 (fun H locs hP hD hS => ?_)
    have hP := loP_0_f2 hP
    have hD := loD_0_f2 hD
    have h := h _ rfl
    generalize sg N5 2 r4 = N6 at hP hD h
    refine lv_aload_n hx hb dX3_draw_18 rfl (lv_at hl 0 rfl) ?_
    refine lv_aload_n hx hb dX3_draw_19 rfl (lv_at hl 0 rfl) ?_
    refine lv_iload_n hx hb dX3_draw_20 rfl (lv_at hl 2 rfl) ?_
    refine lv_iconst (v := 1) hx hb dX3_draw_21 (by decide) ?_
    refine lv_iadd hx hb dX3_draw_22 ?_
    have hFc := gs_free hD hS hA
    refine va_calli (va_runV (As := [.int (p2 + (1 : Int32))]) (rest := [.ref h0]) ⟨hx, hb, hml, hown, hts⟩ (kX3_drawBelow l dC dI cB cI cJ cZ h0 a0 H.size (p2 + (1 : Int32)) N6 _ h) (cwV 1 hts gX3_draw_X3_drawBelow rfl rfl rfl (by decide +kernel) ⟨Nat.le_of_ble_eq_true rfl, Nat.le_of_ble_eq_true rfl⟩) (lopV hK hP hD) rfl rfl hl.1 rfl (lv_room (Nat.le_of_ble_eq_true rfl)) dX3_draw_23 ⟨Nat.le_of_ble_eq_true rfl, Nat.le_of_ble_eq_true rfl⟩) hS (fun q _ z => hFc q z) hFc (fun r7 u t H1 locs ht hvm hw hB hz1 hk1 hS => ?_)
    obtain ⟨N8, rfl⟩ : ∃ z, z = u := ⟨_, rfl⟩
    obtain ⟨hP, hD⟩ := gs_back ht hFc hB
    generalize H1 = H at hP hS ⊢
    have h := hw
    try dsimp only at h
    refine va_put (D := (dC, dI)) (ci := 3) (v := .int r7) (ty := .int) (C := RX3) (T := TX3) (N := 5) hx hb hts hinX3 tyX3 tyX3_ok nmX3 hown hK hP hD hS 0 rfl rfl 3 (by decide) f3 (fun _ h9 => h9) rfl (by decide +kernel) rfl rfl (Nat.le_of_ble_eq_true rfl) dX3_draw_26 (fun H locs hP hD hS => ?_)
    have hP := loP_0_f3 hP
    have hD := loD_0_f3 hD
    have h := h _ rfl
    generalize sg N8 3 r7 = N9 at hP hD h
    refine lv_aload_n hx hb dX3_draw_29 rfl (lv_at hl 0 rfl) ?_
    refine lv_aload_n hx hb dX3_draw_30 rfl (lv_at hl 0 rfl) ?_
    refine lv_iload_n hx hb dX3_draw_31 rfl (lv_at hl 2 rfl) ?_
    refine lv_iconst (v := 1) hx hb dX3_draw_32 (by decide) ?_
    refine lv_iadd hx hb dX3_draw_33 ?_
    have hFc := gs_free hD hS hA
    refine va_calli (va_runV (As := [.int (p2 + (1 : Int32))]) (rest := [.ref h0]) ⟨hx, hb, hml, hown, hts⟩ (kX3_drawBelow l dC dI cB cI cJ cZ h0 a0 H.size (p2 + (1 : Int32)) N9 _ h) (cwV 1 hts gX3_draw_X3_drawBelow rfl rfl rfl (by decide +kernel) ⟨Nat.le_of_ble_eq_true rfl, Nat.le_of_ble_eq_true rfl⟩) (lopV hK hP hD) rfl rfl hl.1 rfl (lv_room (Nat.le_of_ble_eq_true rfl)) dX3_draw_34 ⟨Nat.le_of_ble_eq_true rfl, Nat.le_of_ble_eq_true rfl⟩) hS (fun q _ z => hFc q z) hFc (fun r10 u t H1 locs ht hvm hw hB hz1 hk1 hS => ?_)
    obtain ⟨N11, rfl⟩ : ∃ z, z = u := ⟨_, rfl⟩
    obtain ⟨hP, hD⟩ := gs_back ht hFc hB
    generalize H1 = H at hP hS ⊢
    have h := hw
    try dsimp only at h
    refine va_put (D := (dC, dI)) (ci := 3) (v := .int r10) (ty := .int) (C := RX3) (T := TX3) (N := 5) hx hb hts hinX3 tyX3 tyX3_ok nmX3 hown hK hP hD hS 0 rfl rfl 4 (by decide) f4 (fun _ h9 => h9) rfl (by decide +kernel) rfl rfl (Nat.le_of_ble_eq_true rfl) dX3_draw_37 (fun H locs hP hD hS => ?_)
    have hP := loP_0_f4 hP
    have hD := loD_0_f4 hD
    have h := h _ rfl
    generalize sg N11 4 r10 = N12 at hP hD h
    exact W.vret hx hb hr (fun t ht hW => ⟨⟨(N12), rfl, h, by rw [ht]; exact hP, va_K.moved hW.alike hK, hD⟩, hS.F ht⟩) hS.2.2 dX3_draw_40
  have hl := lv_entry ([.ref h0, .int p1, .int p2]) (n := 3) (Nat.le_of_ble_eq_true rfl)
  rw [lg_entry_eq]
  generalize (lg_sl ([.ref h0, .int p1, .int p2]) ++ List.replicate (3 - (lg_sl ([.ref h0, .int p1, .int p2])).length) Slot.unset).toArray = ls at hl ⊢
  have hl : lv_has ls 3 [(0, .ref h0), (1, .int p1), (2, .int p2)] := hl
  exact bE M0 s.heap [] ls hP hD hS hl h
def wX4_copyFrom  (M0 : gS) (M1 : gS) (Q : gS → gS → Prop) : Prop :=
 (∀ x1 : Int32, x1 = (mg M1 0) → (∀ N2 : gS, N2 = sg M0 0 x1 → (∀ N3 : gS, N3 = sF N2 1 (va_cpy (ma M1 1) (ma N2 1) 0 0 6) → (∀ N4 : gS, N4 = sF N3 2 (va_cpy (ma M1 2) (ma N3 2) 0 0 6) → (Q N4 M1)))))
def rmX4_copyFrom : Room := { frames := 1, cells := 0, slots := 0, locals := 64 }
set_option maxHeartbeats 4000000 in
set_option maxRecDepth 100000 in
theorem kX4_copyFrom (l : Launch) (dC : Nat → ClassId) (dI : Nat → Nat → Nat) (cB cI cJ cZ : ClassId) (h0 : Nat) (a0 : Nat → Nat) (h1 : Nat) (a1 : Nat → Nat) (sz : Nat)  (M0 : gS) (M1 : gS) (Q : gS → gS → Prop) (h : wX4_copyFrom  M0 M1 Q) : Met l yX4_copyFrom wsX4_copyFrom rmX4_copyFrom (va_Pc [.ref h0, .ref h1] (ooI dC dI cB cI cJ cZ h0 a0 h1 a1 M0 M1 sz)) (va_Qv (fun (u : gS × gS) => Q u.1 u.2) (ooB dC dI cB cI cJ cZ h0 a0 h1 a1 (va_A (ooW cB cI cJ cZ h0 a0 h1 a1 M0 M1) sz)) (va_A (ooW cB cI cJ cZ h0 a0 h1 a1 M0 M1) sz)) 0 0 (va_A (ooW cB cI cJ cZ h0 a0 h1 a1 M0 M1) sz) := by
  refine Met.ofW (cc := cX4_copyFrom) (maxL := 2) (ret := none) (by decide) rfl ?_
  intro p e s m args below meth c s₁ B hml hv
  obtain ⟨rfl, hsz, hP, hK, hD0⟩ := hv
  have hx := B.exec
  have hb := B.bytes
  have hr := B.returns
  have hts := atoms_spec (ws := wsX4_copyFrom) B.pre
  have hown : s.vm.findClass RX4 = some m.cls := findClass_of_methodNamed B.named
  have hlocks := B.notSynchronized
  subst hsz
  have hD := hD0.self (sz := s.heap.size)
  generalize hAe : va_A (ooW cB cI cJ cZ h0 a0 h1 a1 M0 M1) s.heap.size = A at hD ⊢
  have hA : ∀ q : Nat, s.heap.size ≤ q → A q := fun q h => by rw [← hAe]; exact Or.inr h
  have hS : va_S A s.heap s.heap [] := va_S.rf
  have hinX4 : ∀ w ∈ wsX40, w ∈ wsX4_copyFrom := by decide +kernel
  have f1 := hts (.fieldLink RX4 21 "LastWords$Organ" "waiting" "I") (by decide +kernel)
  have f2 := hts (.fieldLink RX4 9 "LastWords$Organ" "beats" "[I") (by decide +kernel)
  have f3 := hts (.methodLink RX4 25 arraycopyName) (by decide +kernel)
  have f4 := hts (.native arraycopyName) (by decide +kernel)
  have f5 := hts (.static arraycopyName) (by decide +kernel)
  have f6 := hts (.initialized "java/lang/System") (by decide +kernel)
  have f7 := hts (.fieldLink RX4 15 "LastWords$Organ" "worth" "[I") (by decide +kernel)
  have bE : ∀ (M0 : gS) (M1 : gS) (H : Heap) (locs : List Loc) (ls : Array Slot), va_P (dC, dI) vwCl (ooW cB cI cJ cZ h0 a0 h1 a1 M0 M1) H → va_D A (ooW cB cI cJ cZ h0 a0 h1 a1 M0 M1) → va_S A s.heap H locs → lv_has ls 2 [(0, .ref h0), (1, .ref h1)] → wX4_copyFrom  M0 M1 Q → W p l e (headSpec wsX4_copyFrom rmX4_copyFrom).room s m ([.ref h0, .ref h1] : List Value).toArray below meth c H locs 0 0 (MQ below (va_Qv (fun (u : gS × gS) => Q u.1 u.2) (ooB dC dI cB cI cJ cZ h0 a0 h1 a1 A) A) ([.ref h0, .ref h1] : List Value).toArray s 0 0 A) (F0 m 0 ls []) := by
    intro M0 M1 H locs ls hP hD hS hl h
    unfold wX4_copyFrom at h
    refine lv_aload_n hx hb dX4_copyFrom_0 rfl (lv_at hl 0 rfl) ?_
    refine lv_aload_n hx hb dX4_copyFrom_1 rfl (lv_at hl 1 rfl) ?_
    refine va_get (D := (dC, dI)) (ci := 4) (v := .int (mg M1 0)) (C := RX4) (T := TX4) (N := 4) hx hb hts hinX4 hown hK hP 4 rfl rfl 0 (by decide) f1 (fun _ h9 => h9) rfl dX4_copyFrom_2 ?_
    refine lv_topi (fun x1 ex1 => ?_)
    have h := h x1 ex1
    refine va_put (D := (dC, dI)) (ci := 4) (v := .int x1) (ty := .int) (C := RX4) (T := TX4) (N := 4) hx hb hts hinX4 tyX4 tyX4_ok nmX4 hown hK hP hD hS 0 rfl rfl 0 (by decide) f1 (fun _ h9 => h9) rfl (by decide +kernel) rfl rfl (Nat.le_of_ble_eq_true rfl) dX4_copyFrom_5 (fun H locs hP hD hS => ?_)
    have hP := ooP_0_f0 hP
    have hD := ooD_0_f0 hD
    have h := h _ rfl
    generalize sg M0 0 x1 = N2 at hP hD h
    refine lv_aload_n hx hb dX4_copyFrom_8 rfl (lv_at hl 1 rfl) ?_
    refine va_get (D := (dC, dI)) (ci := 4) (v := .ref (a1 1)) (C := RX4) (T := TX4) (N := 4) hx hb hts hinX4 hown hK hP 4 rfl rfl 1 (by decide) f2 (fun _ h9 => h9) rfl dX4_copyFrom_9 ?_
    refine lv_iconst (v := 0) hx hb dX4_copyFrom_12 (by decide) ?_
    refine lv_aload_n hx hb dX4_copyFrom_13 rfl (lv_at hl 0 rfl) ?_
    refine va_get (D := (dC, dI)) (ci := 4) (v := .ref (a0 1)) (C := RX4) (T := TX4) (N := 4) hx hb hts hinX4 hown hK hP 0 rfl rfl 1 (by decide) f2 (fun _ h9 => h9) rfl dX4_copyFrom_14 ?_
    refine lv_iconst (v := 0) hx hb dX4_copyFrom_17 (by decide) ?_
    refine lv_bipush (v := (6)) hx hb dX4_copyFrom_18 (by decide) ?_
    refine wc_copyi (k := 6) hx hb (by rw [hml]; exact hl.1.symm) hown f3 f4 f5 f6 hK hP hD hS 5 1 1 1 (f := ma M1 1) (g := ma N2 1) rfl rfl rfl rfl rfl (by decide) (by decide) (by decide) (Nat.le_of_ble_eq_true rfl) (Nat.le_of_ble_eq_true rfl) dX4_copyFrom_20 (fun H locs hP hD hS => ?_)
    have hP := ooP_0_c1 hP
    have hD := ooD_0_c1 hD
    have h := h _ rfl
    generalize sF N2 1 (va_cpy (ma M1 1) (ma N2 1) 0 0 6) = N3 at hP hD h
    refine lv_aload_n hx hb dX4_copyFrom_23 rfl (lv_at hl 1 rfl) ?_
    refine va_get (D := (dC, dI)) (ci := 4) (v := .ref (a1 2)) (C := RX4) (T := TX4) (N := 4) hx hb hts hinX4 hown hK hP 4 rfl rfl 2 (by decide) f7 (fun _ h9 => h9) rfl dX4_copyFrom_24 ?_
    refine lv_iconst (v := 0) hx hb dX4_copyFrom_27 (by decide) ?_
    refine lv_aload_n hx hb dX4_copyFrom_28 rfl (lv_at hl 0 rfl) ?_
    refine va_get (D := (dC, dI)) (ci := 4) (v := .ref (a0 2)) (C := RX4) (T := TX4) (N := 4) hx hb hts hinX4 hown hK hP 0 rfl rfl 2 (by decide) f7 (fun _ h9 => h9) rfl dX4_copyFrom_29 ?_
    refine lv_iconst (v := 0) hx hb dX4_copyFrom_32 (by decide) ?_
    refine lv_bipush (v := (6)) hx hb dX4_copyFrom_33 (by decide) ?_
    refine wc_copyi (k := 6) hx hb (by rw [hml]; exact hl.1.symm) hown f3 f4 f5 f6 hK hP hD hS 6 2 1 1 (f := ma M1 2) (g := ma N3 2) rfl rfl rfl rfl rfl (by decide) (by decide) (by decide) (Nat.le_of_ble_eq_true rfl) (Nat.le_of_ble_eq_true rfl) dX4_copyFrom_35 (fun H locs hP hD hS => ?_)
    have hP := ooP_0_c2 hP
    have hD := ooD_0_c2 hD
    have h := h _ rfl
    generalize sF N3 2 (va_cpy (ma M1 2) (ma N3 2) 0 0 6) = N4 at hP hD h
    exact W.vret hx hb hr (fun t ht hW => ⟨⟨(N4, M1), rfl, h, by rw [ht]; exact hP, va_K.moved hW.alike hK, hD⟩, hS.F ht⟩) hS.2.2 dX4_copyFrom_38
  have hl := lv_entry ([.ref h0, .ref h1]) (n := 2) (Nat.le_of_ble_eq_true rfl)
  rw [lg_entry_eq]
  generalize (lg_sl ([.ref h0, .ref h1]) ++ List.replicate (2 - (lg_sl ([.ref h0, .ref h1])).length) Slot.unset).toArray = ls at hl ⊢
  have hl : lv_has ls 2 [(0, .ref h0), (1, .ref h1)] := hl
  exact bE M0 M1 s.heap [] ls hP hD hS hl h
def wX4_add (p1 : Int32) (p2 : Int32) (M0 : gS) (Q : Bool → gS → Prop) : Prop :=
 (((mg M0 0) < 0 → (Q false M0))
 ∧ (¬ (mg M0 0) < 0 → (((mg M0 0) < (6 : Int32) → (vp_in (mg M0 0) 6 ∧ (∀ N3 : gS, N3 = sa M0 1 (Int32.toNatClampNeg (mg M0 0)) p1 → (vp_in (mg N3 0) 6 ∧ (∀ N4 : gS, N4 = sa N3 2 (Int32.toNatClampNeg (mg N3 0)) p2 → (∀ x5 : Int32, x5 = ((mg N4 0) + (1 : Int32)) → (∀ N6 : gS, N6 = sg N4 0 x5 → (Q true N6))))))))
 ∧ (¬ (mg M0 0) < (6 : Int32) → (Q false M0)))))
def rmX4_add : Room := { frames := 0, cells := 0, slots := 0, locals := 0 }
set_option maxHeartbeats 4000000 in
set_option maxRecDepth 100000 in
theorem kX4_add (l : Launch) (dC : Nat → ClassId) (dI : Nat → Nat → Nat) (cB cI cJ cZ : ClassId) (h0 : Nat) (a0 : Nat → Nat) (sz : Nat) (p1 : Int32) (p2 : Int32) (M0 : gS) (Q : Bool → gS → Prop) (h : wX4_add p1 p2 M0 Q) : Met l yX4_add wsX4_add rmX4_add (va_Pc [.ref h0, .int p1, .int p2] (ogI dC dI cB cI cJ cZ h0 a0 M0 sz)) (va_Qi (fun (r : Int32) (u : gS) => ∃ b : Bool, r = bI b ∧ Q b u) (ogB dC dI cB cI cJ cZ h0 a0 (va_A (ogW cB cI cJ cZ h0 a0 M0) sz)) (va_A (ogW cB cI cJ cZ h0 a0 M0) sz)) 0 0 (va_A (ogW cB cI cJ cZ h0 a0 M0) sz) := by
  refine Met.ofW (cc := cX4_add) (maxL := 3) (ret := (some .boolean)) (by decide) rfl ?_
  intro p e s m args below meth c s₁ B hml hv
  obtain ⟨rfl, hsz, hP, hK, hD0⟩ := hv
  have hx := B.exec
  have hb := B.bytes
  have hr := B.returns
  have hts := atoms_spec (ws := wsX4_add) B.pre
  have hown : s.vm.findClass RX4 = some m.cls := findClass_of_methodNamed B.named
  have hlocks := B.notSynchronized
  subst hsz
  have hD := hD0.self (sz := s.heap.size)
  generalize hAe : va_A (ogW cB cI cJ cZ h0 a0 M0) s.heap.size = A at hD ⊢
  have hA : ∀ q : Nat, s.heap.size ≤ q → A q := fun q h => by rw [← hAe]; exact Or.inr h
  have hS : va_S A s.heap s.heap [] := va_S.rf
  have hinX4 : ∀ w ∈ wsX40, w ∈ wsX4_add := by decide +kernel
  have f1 := hts (.fieldLink RX4 21 "LastWords$Organ" "waiting" "I") (by decide +kernel)
  have f2 := hts (.fieldLink RX4 9 "LastWords$Organ" "beats" "[I") (by decide +kernel)
  have f3 := hts (.fieldLink RX4 15 "LastWords$Organ" "worth" "[I") (by decide +kernel)
  have bE : ∀ (M0 : gS) (H : Heap) (locs : List Loc) (ls : Array Slot), va_P (dC, dI) vwCl (ogW cB cI cJ cZ h0 a0 M0) H → va_D A (ogW cB cI cJ cZ h0 a0 M0) → va_S A s.heap H locs → lv_has ls 3 [(0, .ref h0), (1, .int p1), (2, .int p2)] → wX4_add p1 p2 M0 Q → W p l e (headSpec wsX4_add rmX4_add).room s m ([.ref h0, .int p1, .int p2] : List Value).toArray below meth c H locs 0 0 (MQ below (va_Qi (fun (r : Int32) (u : gS) => ∃ b : Bool, r = bI b ∧ Q b u) (ogB dC dI cB cI cJ cZ h0 a0 A) A) ([.ref h0, .int p1, .int p2] : List Value).toArray s 0 0 A) (F0 m 0 ls []) := by
    intro M0 H locs ls hP hD hS hl h
    unfold wX4_add at h
    refine lv_aload_n hx hb dX4_add_0 rfl (lv_at hl 0 rfl) ?_
    refine va_get (D := (dC, dI)) (ci := 4) (v := .int (mg M0 0)) (C := RX4) (T := TX4) (N := 4) hx hb hts hinX4 hown hK hP 0 rfl rfl 0 (by decide) f1 (fun _ h9 => h9) rfl dX4_add_1 ?_
    refine lv_if_lt (tgt := 16) hx hb dX4_add_4 (by decide) (fun c1 => ?_) (fun c1 => ?_)
    · have h := h.1 c1
      refine lv_iconst (v := 0) hx hb dX4_add_16 (by decide) ?_
      exact W.zret (v := (bI false)) hx hb hr (nar_bI false) (fun t ht hW => ⟨⟨_, (M0), rfl, ⟨false, rfl, h⟩, by rw [ht]; exact hP, va_K.moved hW.alike hK, hD⟩, hS.F ht⟩) hS.2.2 dX4_add_17
    · have h := h.2 c1
      refine lv_aload_n hx hb dX4_add_7 rfl (lv_at hl 0 rfl) ?_
      refine va_get (D := (dC, dI)) (ci := 4) (v := .int (mg M0 0)) (C := RX4) (T := TX4) (N := 4) hx hb hts hinX4 hown hK hP 0 rfl rfl 0 (by decide) f1 (fun _ h9 => h9) rfl dX4_add_8 ?_
      refine lv_bipush (v := (6)) hx hb dX4_add_11 (by decide) ?_
      refine lv_icmp_lt (tgt := 18) hx hb dX4_add_13 (by decide) (fun c2 => ?_) (fun c2 => ?_)
      · have h := h.1 c2
        refine lv_aload_n hx hb dX4_add_18 rfl (lv_at hl 0 rfl) ?_
        refine va_get (D := (dC, dI)) (ci := 4) (v := .ref (a0 1)) (C := RX4) (T := TX4) (N := 4) hx hb hts hinX4 hown hK hP 0 rfl rfl 1 (by decide) f2 (fun _ h9 => h9) rfl dX4_add_19 ?_
        refine lv_aload_n hx hb dX4_add_22 rfl (lv_at hl 0 rfl) ?_
        refine va_get (D := (dC, dI)) (ci := 4) (v := .int (mg M0 0)) (C := RX4) (T := TX4) (N := 4) hx hb hts hinX4 hown hK hP 0 rfl rfl 0 (by decide) f1 (fun _ h9 => h9) rfl dX4_add_23 ?_
        refine lv_iload_n hx hb dX4_add_26 rfl (lv_at hl 1 rfl) ?_
        refine va_iast hx hb hK hP hD hS 1 1 (f := ma M0 1) rfl rfl h.1 dX4_add_27 (fun H locs hP hD hS => ?_)
        have h := h.2
        have hP := ogP_0_a1 hP
        have hD := ogD_0_a1 hD
        have h := h _ rfl
        generalize sa M0 1 (Int32.toNatClampNeg (mg M0 0)) p1 = N3 at hP hD h
        refine lv_aload_n hx hb dX4_add_28 rfl (lv_at hl 0 rfl) ?_
        refine va_get (D := (dC, dI)) (ci := 4) (v := .ref (a0 2)) (C := RX4) (T := TX4) (N := 4) hx hb hts hinX4 hown hK hP 0 rfl rfl 2 (by decide) f3 (fun _ h9 => h9) rfl dX4_add_29 ?_
        refine lv_aload_n hx hb dX4_add_32 rfl (lv_at hl 0 rfl) ?_
        refine va_get (D := (dC, dI)) (ci := 4) (v := .int (mg N3 0)) (C := RX4) (T := TX4) (N := 4) hx hb hts hinX4 hown hK hP 0 rfl rfl 0 (by decide) f1 (fun _ h9 => h9) rfl dX4_add_33 ?_
        refine lv_iload_n hx hb dX4_add_36 rfl (lv_at hl 2 rfl) ?_
        refine va_iast hx hb hK hP hD hS 2 1 (f := ma N3 2) rfl rfl h.1 dX4_add_37 (fun H locs hP hD hS => ?_)
        have h := h.2
        have hP := ogP_0_a2 hP
        have hD := ogD_0_a2 hD
        have h := h _ rfl
        generalize sa N3 2 (Int32.toNatClampNeg (mg N3 0)) p2 = N4 at hP hD h
        refine lv_aload_n hx hb dX4_add_38 rfl (lv_at hl 0 rfl) ?_
        refine lv_dup hx hb dX4_add_39 rfl ?_
        refine va_get (D := (dC, dI)) (ci := 4) (v := .int (mg N4 0)) (C := RX4) (T := TX4) (N := 4) hx hb hts hinX4 hown hK hP 0 rfl rfl 0 (by decide) f1 (fun _ h9 => h9) rfl dX4_add_40 ?_
        refine lv_iconst (v := 1) hx hb dX4_add_43 (by decide) ?_
        refine lv_iadd hx hb dX4_add_44 ?_
        refine lv_topi (fun x5 ex5 => ?_)
        have h := h x5 ex5
        refine va_put (D := (dC, dI)) (ci := 4) (v := .int x5) (ty := .int) (C := RX4) (T := TX4) (N := 4) hx hb hts hinX4 tyX4 tyX4_ok nmX4 hown hK hP hD hS 0 rfl rfl 0 (by decide) f1 (fun _ h9 => h9) rfl (by decide +kernel) rfl rfl (Nat.le_of_ble_eq_true rfl) dX4_add_45 (fun H locs hP hD hS => ?_)
        have hP := ogP_0_f0 hP
        have hD := ogD_0_f0 hD
        have h := h _ rfl
        generalize sg N4 0 x5 = N6 at hP hD h
        refine lv_iconst (v := 1) hx hb dX4_add_48 (by decide) ?_
        exact W.zret (v := (bI true)) hx hb hr (nar_bI true) (fun t ht hW => ⟨⟨_, (N6), rfl, ⟨true, rfl, h⟩, by rw [ht]; exact hP, va_K.moved hW.alike hK, hD⟩, hS.F ht⟩) hS.2.2 dX4_add_49
      · have h := h.2 c2
        refine lv_iconst (v := 0) hx hb dX4_add_16 (by decide) ?_
        exact W.zret (v := (bI false)) hx hb hr (nar_bI false) (fun t ht hW => ⟨⟨_, (M0), rfl, ⟨false, rfl, h⟩, by rw [ht]; exact hP, va_K.moved hW.alike hK, hD⟩, hS.F ht⟩) hS.2.2 dX4_add_17
  have hl := lv_entry ([.ref h0, .int p1, .int p2]) (n := 3) (Nat.le_of_ble_eq_true rfl)
  rw [lg_entry_eq]
  generalize (lg_sl ([.ref h0, .int p1, .int p2]) ++ List.replicate (3 - (lg_sl ([.ref h0, .int p1, .int p2])).length) Slot.unset).toArray = ls at hl ⊢
  have hl : lv_has ls 3 [(0, .ref h0), (1, .int p1), (2, .int p2)] := hl
  exact bE M0 s.heap [] ls hP hD hS hl h
def wX4_isDearer (p1 : Int32) (p2 : Int32) (M0 : gS) (Q : Bool → gS → Prop) : Prop :=
 (vp_in p1 6 ∧ (vp_in p2 6 ∧ (vp_in p2 6 ∧ (vp_in p1 6 ∧ ((((ma M0 2 (Int32.toNatClampNeg p1)) * (ma M0 1 (Int32.toNatClampNeg p2))) ≤ ((ma M0 2 (Int32.toNatClampNeg p2)) * (ma M0 1 (Int32.toNatClampNeg p1))) → (Q false M0))
 ∧ (¬ ((ma M0 2 (Int32.toNatClampNeg p1)) * (ma M0 1 (Int32.toNatClampNeg p2))) ≤ ((ma M0 2 (Int32.toNatClampNeg p2)) * (ma M0 1 (Int32.toNatClampNeg p1))) → (Q true M0)))))))
def rmX4_isDearer : Room := { frames := 0, cells := 0, slots := 0, locals := 0 }
set_option maxHeartbeats 4000000 in
set_option maxRecDepth 100000 in
theorem kX4_isDearer (l : Launch) (dC : Nat → ClassId) (dI : Nat → Nat → Nat) (cB cI cJ cZ : ClassId) (h0 : Nat) (a0 : Nat → Nat) (sz : Nat) (p1 : Int32) (p2 : Int32) (M0 : gS) (Q : Bool → gS → Prop) (h : wX4_isDearer p1 p2 M0 Q) : Met l yX4_isDearer wsX4_isDearer rmX4_isDearer (va_Pc [.ref h0, .int p1, .int p2] (ogI dC dI cB cI cJ cZ h0 a0 M0 sz)) (va_Qi (fun (r : Int32) (u : gS) => ∃ b : Bool, r = bI b ∧ Q b u) (ogB dC dI cB cI cJ cZ h0 a0 (va_A (ogW cB cI cJ cZ h0 a0 M0) sz)) (va_A (ogW cB cI cJ cZ h0 a0 M0) sz)) 0 0 (va_A (ogW cB cI cJ cZ h0 a0 M0) sz) := by
  refine Met.ofW (cc := cX4_isDearer) (maxL := 3) (ret := (some .boolean)) (by decide) rfl ?_
  intro p e s m args below meth c s₁ B hml hv
  obtain ⟨rfl, hsz, hP, hK, hD0⟩ := hv
  have hx := B.exec
  have hb := B.bytes
  have hr := B.returns
  have hts := atoms_spec (ws := wsX4_isDearer) B.pre
  have hown : s.vm.findClass RX4 = some m.cls := findClass_of_methodNamed B.named
  have hlocks := B.notSynchronized
  subst hsz
  have hD := hD0.self (sz := s.heap.size)
  generalize hAe : va_A (ogW cB cI cJ cZ h0 a0 M0) s.heap.size = A at hD ⊢
  have hA : ∀ q : Nat, s.heap.size ≤ q → A q := fun q h => by rw [← hAe]; exact Or.inr h
  have hS : va_S A s.heap s.heap [] := va_S.rf
  have hinX4 : ∀ w ∈ wsX40, w ∈ wsX4_isDearer := by decide +kernel
  have f1 := hts (.fieldLink RX4 15 "LastWords$Organ" "worth" "[I") (by decide +kernel)
  have f2 := hts (.fieldLink RX4 9 "LastWords$Organ" "beats" "[I") (by decide +kernel)
  have bE : ∀ (M0 : gS) (H : Heap) (locs : List Loc) (ls : Array Slot), va_P (dC, dI) vwCl (ogW cB cI cJ cZ h0 a0 M0) H → va_D A (ogW cB cI cJ cZ h0 a0 M0) → va_S A s.heap H locs → lv_has ls 3 [(0, .ref h0), (1, .int p1), (2, .int p2)] → wX4_isDearer p1 p2 M0 Q → W p l e (headSpec wsX4_isDearer rmX4_isDearer).room s m ([.ref h0, .int p1, .int p2] : List Value).toArray below meth c H locs 0 0 (MQ below (va_Qi (fun (r : Int32) (u : gS) => ∃ b : Bool, r = bI b ∧ Q b u) (ogB dC dI cB cI cJ cZ h0 a0 A) A) ([.ref h0, .int p1, .int p2] : List Value).toArray s 0 0 A) (F0 m 0 ls []) := by
    intro M0 H locs ls hP hD hS hl h
    unfold wX4_isDearer at h
    refine lv_aload_n hx hb dX4_isDearer_0 rfl (lv_at hl 0 rfl) ?_
    refine va_get (D := (dC, dI)) (ci := 4) (v := .ref (a0 2)) (C := RX4) (T := TX4) (N := 4) hx hb hts hinX4 hown hK hP 0 rfl rfl 2 (by decide) f1 (fun _ h9 => h9) rfl dX4_isDearer_1 ?_
    refine lv_iload_n hx hb dX4_isDearer_4 rfl (lv_at hl 1 rfl) ?_
    refine va_iald hx hb hK hP 2 1 (f := ma M0 2) rfl rfl h.1 dX4_isDearer_5 ?_
    have h := h.2
    refine lv_aload_n hx hb dX4_isDearer_6 rfl (lv_at hl 0 rfl) ?_
    refine va_get (D := (dC, dI)) (ci := 4) (v := .ref (a0 1)) (C := RX4) (T := TX4) (N := 4) hx hb hts hinX4 hown hK hP 0 rfl rfl 1 (by decide) f2 (fun _ h9 => h9) rfl dX4_isDearer_7 ?_
    refine lv_iload_n hx hb dX4_isDearer_10 rfl (lv_at hl 2 rfl) ?_
    refine va_iald hx hb hK hP 1 1 (f := ma M0 1) rfl rfl h.1 dX4_isDearer_11 ?_
    have h := h.2
    refine lv_imul hx hb dX4_isDearer_12 ?_
    refine lv_aload_n hx hb dX4_isDearer_13 rfl (lv_at hl 0 rfl) ?_
    refine va_get (D := (dC, dI)) (ci := 4) (v := .ref (a0 2)) (C := RX4) (T := TX4) (N := 4) hx hb hts hinX4 hown hK hP 0 rfl rfl 2 (by decide) f1 (fun _ h9 => h9) rfl dX4_isDearer_14 ?_
    refine lv_iload_n hx hb dX4_isDearer_17 rfl (lv_at hl 2 rfl) ?_
    refine va_iald hx hb hK hP 2 1 (f := ma M0 2) rfl rfl h.1 dX4_isDearer_18 ?_
    have h := h.2
    refine lv_aload_n hx hb dX4_isDearer_19 rfl (lv_at hl 0 rfl) ?_
    refine va_get (D := (dC, dI)) (ci := 4) (v := .ref (a0 1)) (C := RX4) (T := TX4) (N := 4) hx hb hts hinX4 hown hK hP 0 rfl rfl 1 (by decide) f2 (fun _ h9 => h9) rfl dX4_isDearer_20 ?_
    refine lv_iload_n hx hb dX4_isDearer_23 rfl (lv_at hl 1 rfl) ?_
    refine va_iald hx hb hK hP 1 1 (f := ma M0 1) rfl rfl h.1 dX4_isDearer_24 ?_
    have h := h.2
    refine lv_imul hx hb dX4_isDearer_25 ?_
    refine lv_icmp_le (tgt := 33) hx hb dX4_isDearer_26 (by decide) (fun c1 => ?_) (fun c1 => ?_)
    · have h := h.1 c1
      refine lv_iconst (v := 0) hx hb dX4_isDearer_33 (by decide) ?_
      exact W.zret (v := (bI false)) hx hb hr (nar_bI false) (fun t ht hW => ⟨⟨_, (M0), rfl, ⟨false, rfl, h⟩, by rw [ht]; exact hP, va_K.moved hW.alike hK, hD⟩, hS.F ht⟩) hS.2.2 dX4_isDearer_34
    · have h := h.2 c1
      refine lv_iconst (v := 1) hx hb dX4_isDearer_29 (by decide) ?_
      refine lv_goto (tgt := 34) hx hb dX4_isDearer_30 (by decide) ?_
      exact W.zret (v := (bI true)) hx hb hr (nar_bI true) (fun t ht hW => ⟨⟨_, (M0), rfl, ⟨true, rfl, h⟩, by rw [ht]; exact hP, va_K.moved hW.alike hK, hD⟩, hS.F ht⟩) hS.2.2 dX4_isDearer_34
  have hl := lv_entry ([.ref h0, .int p1, .int p2]) (n := 3) (Nat.le_of_ble_eq_true rfl)
  rw [lg_entry_eq]
  generalize (lg_sl ([.ref h0, .int p1, .int p2]) ++ List.replicate (3 - (lg_sl ([.ref h0, .int p1, .int p2])).length) Slot.unset).toArray = ls at hl ⊢
  have hl : lv_has ls 3 [(0, .ref h0), (1, .int p1), (2, .int p2)] := hl
  exact bE M0 s.heap [] ls hP hD hS hl h
def wX4_arrange_58 (B2 : Int32 → gS → Prop) (Q : gS → Prop) (y1 : Int32) (y2 : Int32) (M0 : gS) : Prop :=
 (vp_in y2 6 ∧ (∀ N1 : gS, N1 = sa M0 3 (Int32.toNatClampNeg y2) y1 → (∀ x2 : Int32, x2 = y1 + (1 : Int32) → (B2 x2 N1))))
def wX4_arrange_18 (B2 : Int32 → gS → Prop) (Q : gS → Prop) : Nat → Int32 → Int32 → gS → Prop
 | 0, _, _, _ => False
 | n + 1, y1, y2, M0 => ((y2 ≤ 0 → (wX4_arrange_58 B2 Q y1 y2 M0))
 ∧ (¬ y2 ≤ 0 → (vp_in (y2 - (1 : Int32)) 6 ∧ (wX4_isDearer y1 (ma M0 3 (Int32.toNatClampNeg (y2 - (1 : Int32)))) M0 (fun (b4 : Bool) (N3 : gS) => (((bI b4) = 0 → (wX4_arrange_58 B2 Q y1 y2 N3))
 ∧ (¬ (bI b4) = 0 → (vp_in (y2 - (1 : Int32)) 6 ∧ (∀ x6 : Int32, x6 = (ma N3 3 (Int32.toNatClampNeg (y2 - (1 : Int32)))) → (vp_in y2 6 ∧ (∀ N7 : gS, N7 = sa N3 3 (Int32.toNatClampNeg y2) x6 → (∀ x8 : Int32, x8 = y2 + (-1 : Int32) → (wX4_arrange_18 B2 Q n y1 x8 N7)))))))))))))
def wX4_arrange_2  (Q : gS → Prop) : Nat → Int32 → gS → Prop
 | 0, _, _ => False
 | n + 1, y1, M0 => (((mg M0 0) ≤ y1 → (Q M0))
 ∧ (¬ (mg M0 0) ≤ y1 → (((6 : Int32) ≤ y1 → (Q M0))
 ∧ (¬ (6 : Int32) ≤ y1 → (∃ k18 : Nat, wX4_arrange_18 (fun (y1 : Int32) (M0 : gS) => wX4_arrange_2  Q n y1 M0) Q k18 y1 y1 M0)))))
def wX4_arrange  (M0 : gS) (Q : gS → Prop) : Prop :=
 (∃ k2 : Nat, wX4_arrange_2  Q k2 (0 : Int32) M0)
def rmX4_arrange : Room := { frames := 1, cells := 0, slots := 0, locals := 22 }
set_option maxHeartbeats 4000000 in
set_option maxRecDepth 100000 in
theorem kX4_arrange (l : Launch) (dC : Nat → ClassId) (dI : Nat → Nat → Nat) (cB cI cJ cZ : ClassId) (h0 : Nat) (a0 : Nat → Nat) (sz : Nat)  (M0 : gS) (Q : gS → Prop) (h : wX4_arrange  M0 Q) : Met l yX4_arrange wsX4_arrange rmX4_arrange (va_Pc [.ref h0] (ogI dC dI cB cI cJ cZ h0 a0 M0 sz)) (va_Qv (fun (u : gS) => Q u) (ogB dC dI cB cI cJ cZ h0 a0 (va_A (ogW cB cI cJ cZ h0 a0 M0) sz)) (va_A (ogW cB cI cJ cZ h0 a0 M0) sz)) 0 0 (va_A (ogW cB cI cJ cZ h0 a0 M0) sz) := by
  refine Met.ofW (cc := cX4_arrange) (maxL := 3) (ret := none) (by decide) rfl ?_
  intro p e s m args below meth c s₁ B hml hv
  obtain ⟨rfl, hsz, hP, hK, hD0⟩ := hv
  have hx := B.exec
  have hb := B.bytes
  have hr := B.returns
  have hts := atoms_spec (ws := wsX4_arrange) B.pre
  have hown : s.vm.findClass RX4 = some m.cls := findClass_of_methodNamed B.named
  have hlocks := B.notSynchronized
  subst hsz
  have hD := hD0.self (sz := s.heap.size)
  generalize hAe : va_A (ogW cB cI cJ cZ h0 a0 M0) s.heap.size = A at hD ⊢
  have hA : ∀ q : Nat, s.heap.size ≤ q → A q := fun q h => by rw [← hAe]; exact Or.inr h
  have hS : va_S A s.heap s.heap [] := va_S.rf
  have hinX4 : ∀ w ∈ wsX40, w ∈ wsX4_arrange := by decide +kernel
  have f1 := hts (.fieldLink RX4 18 "LastWords$Organ" "places" "[I") (by decide +kernel)
  have f2 := hts (.fieldLink RX4 21 "LastWords$Organ" "waiting" "I") (by decide +kernel)
  have b58 : ∀ (B2 : Int32 → gS → Prop) (hB2 : ∀ (y1 : Int32) (M0 : gS) (H : Heap) (locs : List Loc) (ls : Array Slot), va_P (dC, dI) vwCl (ogW cB cI cJ cZ h0 a0 M0) H → va_D A (ogW cB cI cJ cZ h0 a0 M0) → va_S A s.heap H locs → lv_has ls 3 [(0, .ref h0), (1, .int y1)] → B2 y1 M0 → W p l e (headSpec wsX4_arrange rmX4_arrange).room s m ([.ref h0] : List Value).toArray below meth c H locs 0 0 (MQ below (va_Qv (fun (u : gS) => Q u) (ogB dC dI cB cI cJ cZ h0 a0 A) A) ([.ref h0] : List Value).toArray s 0 0 A) (F0 m 2 ls [])) (y1 : Int32) (y2 : Int32) (M0 : gS) (H : Heap) (locs : List Loc) (ls : Array Slot), va_P (dC, dI) vwCl (ogW cB cI cJ cZ h0 a0 M0) H → va_D A (ogW cB cI cJ cZ h0 a0 M0) → va_S A s.heap H locs → lv_has ls 3 [(0, .ref h0), (1, .int y1), (2, .int y2)] → wX4_arrange_58 B2 Q y1 y2 M0 → W p l e (headSpec wsX4_arrange rmX4_arrange).room s m ([.ref h0] : List Value).toArray below meth c H locs 0 0 (MQ below (va_Qv (fun (u : gS) => Q u) (ogB dC dI cB cI cJ cZ h0 a0 A) A) ([.ref h0] : List Value).toArray s 0 0 A) (F0 m 58 ls []) := by
    intro B2 hB2 y1 y2 M0 H locs ls hP hD hS hl h
    unfold wX4_arrange_58 at h
    refine lv_aload_n hx hb dX4_arrange_58 rfl (lv_at hl 0 rfl) ?_
    refine va_get (D := (dC, dI)) (ci := 4) (v := .ref (a0 3)) (C := RX4) (T := TX4) (N := 4) hx hb hts hinX4 hown hK hP 0 rfl rfl 3 (by decide) f1 (fun _ h9 => h9) rfl dX4_arrange_59 ?_
    refine lv_iload_n hx hb dX4_arrange_62 rfl (lv_at hl 2 rfl) ?_
    refine lv_iload_n hx hb dX4_arrange_63 rfl (lv_at hl 1 rfl) ?_
    refine va_iast hx hb hK hP hD hS 3 1 (f := ma M0 3) rfl rfl h.1 dX4_arrange_64 (fun H locs hP hD hS => ?_)
    have h := h.2
    have hP := ogP_0_a3 hP
    have hD := ogD_0_a3 hD
    have h := h _ rfl
    generalize sa M0 3 (Int32.toNatClampNeg y2) y1 = N1 at hP hD h
    obtain ⟨x2, ex2⟩ : ∃ y : Int32, y = y1 + (1 : Int32) := ⟨_, rfl⟩
    have h := h x2 ex2
    refine lv_iinc (v := x2) (lv' := [(1, .int x2), (0, .ref h0), (2, .int y2)]) hx hb dX4_arrange_65 hl (k := 1) rfl (by rw [ex2]; rfl) (by decide) rfl (fun ls hl => ?_)
    refine lv_goto (tgt := 2) hx hb dX4_arrange_68 (by decide) ?_
    exact hB2 x2 N1 H locs ls hP hD hS (lv_sub hl [1, 0] rfl) h
  have b18 : ∀ (B2 : Int32 → gS → Prop) (hB2 : ∀ (y1 : Int32) (M0 : gS) (H : Heap) (locs : List Loc) (ls : Array Slot), va_P (dC, dI) vwCl (ogW cB cI cJ cZ h0 a0 M0) H → va_D A (ogW cB cI cJ cZ h0 a0 M0) → va_S A s.heap H locs → lv_has ls 3 [(0, .ref h0), (1, .int y1)] → B2 y1 M0 → W p l e (headSpec wsX4_arrange rmX4_arrange).room s m ([.ref h0] : List Value).toArray below meth c H locs 0 0 (MQ below (va_Qv (fun (u : gS) => Q u) (ogB dC dI cB cI cJ cZ h0 a0 A) A) ([.ref h0] : List Value).toArray s 0 0 A) (F0 m 2 ls [])) (n : Nat) (y1 : Int32) (y2 : Int32) (M0 : gS) (H : Heap) (locs : List Loc) (ls : Array Slot), va_P (dC, dI) vwCl (ogW cB cI cJ cZ h0 a0 M0) H → va_D A (ogW cB cI cJ cZ h0 a0 M0) → va_S A s.heap H locs → lv_has ls 3 [(0, .ref h0), (1, .int y1), (2, .int y2)] → wX4_arrange_18 B2 Q n y1 y2 M0 → W p l e (headSpec wsX4_arrange rmX4_arrange).room s m ([.ref h0] : List Value).toArray below meth c H locs 0 0 (MQ below (va_Qv (fun (u : gS) => Q u) (ogB dC dI cB cI cJ cZ h0 a0 A) A) ([.ref h0] : List Value).toArray s 0 0 A) (F0 m 18 ls []) := by
    intro B2 hB2 n
    induction n with
    | zero => intro y1 y2 M0 H locs ls hP hD hS hl h; exact absurd h (by simp [wX4_arrange_18])
    | succ n hB180 =>
      intro y1 y2 M0 H locs ls hP hD hS hl h
      have hB18 := hB180
      rw [wX4_arrange_18] at h
      refine lv_iload_n hx hb dX4_arrange_18 rfl (lv_at hl 2 rfl) ?_
      refine lv_if_le (tgt := 58) hx hb dX4_arrange_19 (by decide) (fun c1 => ?_) (fun c1 => ?_)
      · have h := h.1 c1
        exact b58 _ hB2 y1 y2 M0 H locs ls hP hD hS (lv_sub hl [0, 1, 2] rfl) h
      · have h := h.2 c1
        refine lv_aload_n hx hb dX4_arrange_22 rfl (lv_at hl 0 rfl) ?_
        refine lv_iload_n hx hb dX4_arrange_23 rfl (lv_at hl 1 rfl) ?_
        refine lv_aload_n hx hb dX4_arrange_24 rfl (lv_at hl 0 rfl) ?_
        refine va_get (D := (dC, dI)) (ci := 4) (v := .ref (a0 3)) (C := RX4) (T := TX4) (N := 4) hx hb hts hinX4 hown hK hP 0 rfl rfl 3 (by decide) f1 (fun _ h9 => h9) rfl dX4_arrange_25 ?_
        refine lv_iload_n hx hb dX4_arrange_28 rfl (lv_at hl 2 rfl) ?_
        refine lv_iconst (v := 1) hx hb dX4_arrange_29 (by decide) ?_
        refine lv_isub hx hb dX4_arrange_30 ?_
        refine va_iald hx hb hK hP 3 1 (f := ma M0 3) rfl rfl h.1 dX4_arrange_31 ?_
        have h := h.2
        have hFc := gs_free hD hS hA
        refine va_calli (va_runV (As := [.int y1, .int (ma M0 3 (Int32.toNatClampNeg (y2 - (1 : Int32))))]) (rest := []) ⟨hx, hb, hml, hown, hts⟩ (kX4_isDearer l dC dI cB cI cJ cZ h0 a0 H.size y1 (ma M0 3 (Int32.toNatClampNeg (y2 - (1 : Int32)))) M0 _ h) (cwV 2 hts gX4_arrange_X4_isDearer rfl rfl rfl (by decide +kernel) ⟨Nat.le_of_ble_eq_true rfl, Nat.le_of_ble_eq_true rfl⟩) (ogpV hK hP hD) rfl rfl hl.1 rfl (lv_room (Nat.le_of_ble_eq_true rfl)) dX4_arrange_32 ⟨Nat.le_of_ble_eq_true rfl, Nat.le_of_ble_eq_true rfl⟩) hS (fun q _ z => hFc q z) hFc (fun r2 u t H1 locs ht hvm hw hB hz1 hk1 hS => ?_)
        obtain ⟨N3, rfl⟩ : ∃ z, z = u := ⟨_, rfl⟩
        obtain ⟨hP, hD⟩ := gs_back ht hFc hB
        generalize H1 = H at hP hS ⊢
        obtain ⟨b4, rfl, h⟩ := hw
        try dsimp only at h
        refine lv_if_eq (tgt := 58) hx hb dX4_arrange_35 (by decide) (fun c5 => ?_) (fun c5 => ?_)
        · have h := h.1 c5
          exact b58 _ hB2 y1 y2 N3 H locs ls hP hD hS (lv_sub hl [0, 1, 2] rfl) h
        · have h := h.2 c5
          refine lv_aload_n hx hb dX4_arrange_38 rfl (lv_at hl 0 rfl) ?_
          refine va_get (D := (dC, dI)) (ci := 4) (v := .ref (a0 3)) (C := RX4) (T := TX4) (N := 4) hx hb hts hinX4 hown hK hP 0 rfl rfl 3 (by decide) f1 (fun _ h9 => h9) rfl dX4_arrange_39 ?_
          refine lv_iload_n hx hb dX4_arrange_42 rfl (lv_at hl 2 rfl) ?_
          refine lv_aload_n hx hb dX4_arrange_43 rfl (lv_at hl 0 rfl) ?_
          refine va_get (D := (dC, dI)) (ci := 4) (v := .ref (a0 3)) (C := RX4) (T := TX4) (N := 4) hx hb hts hinX4 hown hK hP 0 rfl rfl 3 (by decide) f1 (fun _ h9 => h9) rfl dX4_arrange_44 ?_
          refine lv_iload_n hx hb dX4_arrange_47 rfl (lv_at hl 2 rfl) ?_
          refine lv_iconst (v := 1) hx hb dX4_arrange_48 (by decide) ?_
          refine lv_isub hx hb dX4_arrange_49 ?_
          refine va_iald hx hb hK hP 3 1 (f := ma N3 3) rfl rfl h.1 dX4_arrange_50 ?_
          have h := h.2
          refine lv_topi (fun x6 ex6 => ?_)
          have h := h x6 ex6
          refine va_iast hx hb hK hP hD hS 3 1 (f := ma N3 3) rfl rfl h.1 dX4_arrange_51 (fun H locs hP hD hS => ?_)
          have h := h.2
          have hP := ogP_0_a3 hP
          have hD := ogD_0_a3 hD
          have h := h _ rfl
          generalize sa N3 3 (Int32.toNatClampNeg y2) x6 = N7 at hP hD h
          obtain ⟨x8, ex8⟩ : ∃ y : Int32, y = y2 + (-1 : Int32) := ⟨_, rfl⟩
          have h := h x8 ex8
          refine lv_iinc (v := x8) (lv' := [(2, .int x8), (0, .ref h0), (1, .int y1)]) hx hb dX4_arrange_52 hl (k := 2) rfl (by rw [ex8]; rfl) (by decide) rfl (fun ls hl => ?_)
          refine lv_goto (tgt := 18) hx hb dX4_arrange_55 (by decide) ?_
          exact hB18 y1 x8 N7 H locs ls hP hD hS (lv_sub hl [1, 2, 0] rfl) h
  have b2 : ∀ (n : Nat) (y1 : Int32) (M0 : gS) (H : Heap) (locs : List Loc) (ls : Array Slot), va_P (dC, dI) vwCl (ogW cB cI cJ cZ h0 a0 M0) H → va_D A (ogW cB cI cJ cZ h0 a0 M0) → va_S A s.heap H locs → lv_has ls 3 [(0, .ref h0), (1, .int y1)] → wX4_arrange_2  Q n y1 M0 → W p l e (headSpec wsX4_arrange rmX4_arrange).room s m ([.ref h0] : List Value).toArray below meth c H locs 0 0 (MQ below (va_Qv (fun (u : gS) => Q u) (ogB dC dI cB cI cJ cZ h0 a0 A) A) ([.ref h0] : List Value).toArray s 0 0 A) (F0 m 2 ls []) := by
    intro  n
    induction n with
    | zero => intro y1 M0 H locs ls hP hD hS hl h; exact absurd h (by simp [wX4_arrange_2])
    | succ n hB20 =>
      intro y1 M0 H locs ls hP hD hS hl h
      have hB2 := hB20
      rw [wX4_arrange_2] at h
      refine lv_iload_n hx hb dX4_arrange_2 rfl (lv_at hl 1 rfl) ?_
      refine lv_aload_n hx hb dX4_arrange_3 rfl (lv_at hl 0 rfl) ?_
      refine va_get (D := (dC, dI)) (ci := 4) (v := .int (mg M0 0)) (C := RX4) (T := TX4) (N := 4) hx hb hts hinX4 hown hK hP 0 rfl rfl 0 (by decide) f2 (fun _ h9 => h9) rfl dX4_arrange_4 ?_
      refine lv_icmp_ge (tgt := 71) hx hb dX4_arrange_7 (by decide) (fun c1 => ?_) (fun c1 => ?_)
      · have h := h.1 c1
        exact W.vret hx hb hr (fun t ht hW => ⟨⟨(M0), rfl, h, by rw [ht]; exact hP, va_K.moved hW.alike hK, hD⟩, hS.F ht⟩) hS.2.2 dX4_arrange_71
      · have h := h.2 c1
        refine lv_iload_n hx hb dX4_arrange_10 rfl (lv_at hl 1 rfl) ?_
        refine lv_bipush (v := (6)) hx hb dX4_arrange_11 (by decide) ?_
        refine lv_icmp_ge (tgt := 71) hx hb dX4_arrange_13 (by decide) (fun c2 => ?_) (fun c2 => ?_)
        · have h := h.1 c2
          exact W.vret hx hb hr (fun t ht hW => ⟨⟨(M0), rfl, h, by rw [ht]; exact hP, va_K.moved hW.alike hK, hD⟩, hS.F ht⟩) hS.2.2 dX4_arrange_71
        · have h := h.2 c2
          refine lv_iload_n hx hb dX4_arrange_16 rfl (lv_at hl 1 rfl) ?_
          refine lv_istore_n (lv' := [(2, .int y1), (0, .ref h0), (1, .int y1)]) hx hb dX4_arrange_17 rfl hl (by decide) rfl (fun ls hl => ?_)
          obtain ⟨n9, h⟩ := h
          exact b18 _ hB2 n9 y1 y1 M0 H locs ls hP hD hS (lv_sub hl [1, 2, 0] rfl) h
  have bE : ∀ (M0 : gS) (H : Heap) (locs : List Loc) (ls : Array Slot), va_P (dC, dI) vwCl (ogW cB cI cJ cZ h0 a0 M0) H → va_D A (ogW cB cI cJ cZ h0 a0 M0) → va_S A s.heap H locs → lv_has ls 3 [(0, .ref h0)] → wX4_arrange  M0 Q → W p l e (headSpec wsX4_arrange rmX4_arrange).room s m ([.ref h0] : List Value).toArray below meth c H locs 0 0 (MQ below (va_Qv (fun (u : gS) => Q u) (ogB dC dI cB cI cJ cZ h0 a0 A) A) ([.ref h0] : List Value).toArray s 0 0 A) (F0 m 0 ls []) := by
    intro M0 H locs ls hP hD hS hl h
    unfold wX4_arrange at h
    refine lv_iconst (v := 0) hx hb dX4_arrange_0 (by decide) ?_
    refine lv_istore_n (lv' := [(1, .int (0 : Int32)), (0, .ref h0)]) hx hb dX4_arrange_1 rfl hl (by decide) rfl (fun ls hl => ?_)
    obtain ⟨n9, h⟩ := h
    exact b2  n9 (0 : Int32) M0 H locs ls hP hD hS (lv_sub hl [1, 0] rfl) h
  have hl := lv_entry ([.ref h0]) (n := 3) (Nat.le_of_ble_eq_true rfl)
  rw [lg_entry_eq]
  generalize (lg_sl ([.ref h0]) ++ List.replicate (3 - (lg_sl ([.ref h0])).length) Slot.unset).toArray = ls at hl ⊢
  have hl : lv_has ls 3 [(0, .ref h0)] := hl
  exact bE M0 s.heap [] ls hP hD hS hl h
def wX4_leastSum_6  (Q : Int32 → gS → Prop) : Nat → Int32 → Int32 → Int32 → gS → Prop
 | 0, _, _, _, _ => False
 | n + 1, y1, y2, y3, M0 => (((mg M0 0) ≤ y3 → (Q y2 M0))
 ∧ (¬ (mg M0 0) ≤ y3 → (((6 : Int32) ≤ y3 → (Q y2 M0))
 ∧ (¬ (6 : Int32) ≤ y3 → (vp_in y3 6 ∧ (vp_in (ma M0 3 (Int32.toNatClampNeg y3)) 6 ∧ (∀ x3 : Int32, x3 = (y1 + (ma M0 1 (Int32.toNatClampNeg (ma M0 3 (Int32.toNatClampNeg y3))))) → (vp_in y3 6 ∧ (vp_in (ma M0 3 (Int32.toNatClampNeg y3)) 6 ∧ (∀ x4 : Int32, x4 = (y2 + ((ma M0 2 (Int32.toNatClampNeg (ma M0 3 (Int32.toNatClampNeg y3)))) * x3)) → (∀ x5 : Int32, x5 = y3 + (1 : Int32) → (wX4_leastSum_6  Q n x3 x4 x5 M0))))))))))))
def wX4_leastSum  (M0 : gS) (Q : Int32 → gS → Prop) : Prop :=
 (∃ k6 : Nat, wX4_leastSum_6  Q k6 (0 : Int32) (0 : Int32) (0 : Int32) M0)
def rmX4_leastSum : Room := { frames := 0, cells := 0, slots := 0, locals := 0 }
set_option maxHeartbeats 4000000 in
set_option maxRecDepth 100000 in
theorem kX4_leastSum (l : Launch) (dC : Nat → ClassId) (dI : Nat → Nat → Nat) (cB cI cJ cZ : ClassId) (h0 : Nat) (a0 : Nat → Nat) (sz : Nat)  (M0 : gS) (Q : Int32 → gS → Prop) (h : wX4_leastSum  M0 Q) : Met l yX4_leastSum wsX4_leastSum rmX4_leastSum (va_Pc [.ref h0] (ogI dC dI cB cI cJ cZ h0 a0 M0 sz)) (va_Qi (fun (r : Int32) (u : gS) => Q r u) (ogB dC dI cB cI cJ cZ h0 a0 (va_A (ogW cB cI cJ cZ h0 a0 M0) sz)) (va_A (ogW cB cI cJ cZ h0 a0 M0) sz)) 0 0 (va_A (ogW cB cI cJ cZ h0 a0 M0) sz) := by
  refine Met.ofW (cc := cX4_leastSum) (maxL := 4) (ret := (some .int)) (by decide) rfl ?_
  intro p e s m args below meth c s₁ B hml hv
  obtain ⟨rfl, hsz, hP, hK, hD0⟩ := hv
  have hx := B.exec
  have hb := B.bytes
  have hr := B.returns
  have hts := atoms_spec (ws := wsX4_leastSum) B.pre
  have hown : s.vm.findClass RX4 = some m.cls := findClass_of_methodNamed B.named
  have hlocks := B.notSynchronized
  subst hsz
  have hD := hD0.self (sz := s.heap.size)
  generalize hAe : va_A (ogW cB cI cJ cZ h0 a0 M0) s.heap.size = A at hD ⊢
  have hA : ∀ q : Nat, s.heap.size ≤ q → A q := fun q h => by rw [← hAe]; exact Or.inr h
  have hS : va_S A s.heap s.heap [] := va_S.rf
  have hinX4 : ∀ w ∈ wsX40, w ∈ wsX4_leastSum := by decide +kernel
  have f1 := hts (.fieldLink RX4 21 "LastWords$Organ" "waiting" "I") (by decide +kernel)
  have f2 := hts (.fieldLink RX4 9 "LastWords$Organ" "beats" "[I") (by decide +kernel)
  have f3 := hts (.fieldLink RX4 18 "LastWords$Organ" "places" "[I") (by decide +kernel)
  have f4 := hts (.fieldLink RX4 15 "LastWords$Organ" "worth" "[I") (by decide +kernel)
  have b6 : ∀ (n : Nat) (y1 : Int32) (y2 : Int32) (y3 : Int32) (M0 : gS) (H : Heap) (locs : List Loc) (ls : Array Slot), va_P (dC, dI) vwCl (ogW cB cI cJ cZ h0 a0 M0) H → va_D A (ogW cB cI cJ cZ h0 a0 M0) → va_S A s.heap H locs → lv_has ls 4 [(0, .ref h0), (1, .int y1), (2, .int y2), (3, .int y3)] → wX4_leastSum_6  Q n y1 y2 y3 M0 → W p l e (headSpec wsX4_leastSum rmX4_leastSum).room s m ([.ref h0] : List Value).toArray below meth c H locs 0 0 (MQ below (va_Qi (fun (r : Int32) (u : gS) => Q r u) (ogB dC dI cB cI cJ cZ h0 a0 A) A) ([.ref h0] : List Value).toArray s 0 0 A) (F0 m 6 ls []) := by
    intro  n
    induction n with
    | zero => intro y1 y2 y3 M0 H locs ls hP hD hS hl h; exact absurd h (by simp [wX4_leastSum_6])
    | succ n hB60 =>
      intro y1 y2 y3 M0 H locs ls hP hD hS hl h
      have hB6 := hB60
      rw [wX4_leastSum_6] at h
      refine lv_iload_n hx hb dX4_leastSum_6 rfl (lv_at hl 3 rfl) ?_
      refine lv_aload_n hx hb dX4_leastSum_7 rfl (lv_at hl 0 rfl) ?_
      refine va_get (D := (dC, dI)) (ci := 4) (v := .int (mg M0 0)) (C := RX4) (T := TX4) (N := 4) hx hb hts hinX4 hown hK hP 0 rfl rfl 0 (by decide) f1 (fun _ h9 => h9) rfl dX4_leastSum_8 ?_
      refine lv_icmp_ge (tgt := 56) hx hb dX4_leastSum_11 (by decide) (fun c1 => ?_) (fun c1 => ?_)
      · have h := h.1 c1
        refine lv_iload_n hx hb dX4_leastSum_56 rfl (lv_at hl 2 rfl) ?_
        exact W.iret (v := y2) hx hb hr (fun t ht hW => ⟨⟨_, (M0), rfl, h, by rw [ht]; exact hP, va_K.moved hW.alike hK, hD⟩, hS.F ht⟩) hS.2.2 dX4_leastSum_57
      · have h := h.2 c1
        refine lv_iload_n hx hb dX4_leastSum_14 rfl (lv_at hl 3 rfl) ?_
        refine lv_bipush (v := (6)) hx hb dX4_leastSum_15 (by decide) ?_
        refine lv_icmp_ge (tgt := 56) hx hb dX4_leastSum_17 (by decide) (fun c2 => ?_) (fun c2 => ?_)
        · have h := h.1 c2
          refine lv_iload_n hx hb dX4_leastSum_56 rfl (lv_at hl 2 rfl) ?_
          exact W.iret (v := y2) hx hb hr (fun t ht hW => ⟨⟨_, (M0), rfl, h, by rw [ht]; exact hP, va_K.moved hW.alike hK, hD⟩, hS.F ht⟩) hS.2.2 dX4_leastSum_57
        · have h := h.2 c2
          refine lv_iload_n hx hb dX4_leastSum_20 rfl (lv_at hl 1 rfl) ?_
          refine lv_aload_n hx hb dX4_leastSum_21 rfl (lv_at hl 0 rfl) ?_
          refine va_get (D := (dC, dI)) (ci := 4) (v := .ref (a0 1)) (C := RX4) (T := TX4) (N := 4) hx hb hts hinX4 hown hK hP 0 rfl rfl 1 (by decide) f2 (fun _ h9 => h9) rfl dX4_leastSum_22 ?_
          refine lv_aload_n hx hb dX4_leastSum_25 rfl (lv_at hl 0 rfl) ?_
          refine va_get (D := (dC, dI)) (ci := 4) (v := .ref (a0 3)) (C := RX4) (T := TX4) (N := 4) hx hb hts hinX4 hown hK hP 0 rfl rfl 3 (by decide) f3 (fun _ h9 => h9) rfl dX4_leastSum_26 ?_
          refine lv_iload_n hx hb dX4_leastSum_29 rfl (lv_at hl 3 rfl) ?_
          refine va_iald hx hb hK hP 3 1 (f := ma M0 3) rfl rfl h.1 dX4_leastSum_30 ?_
          have h := h.2
          refine va_iald hx hb hK hP 1 1 (f := ma M0 1) rfl rfl h.1 dX4_leastSum_31 ?_
          have h := h.2
          refine lv_iadd hx hb dX4_leastSum_32 ?_
          refine lv_topi (fun x3 ex3 => ?_)
          have h := h x3 ex3
          refine lv_istore_n (lv' := [(1, .int x3), (0, .ref h0), (2, .int y2), (3, .int y3)]) hx hb dX4_leastSum_33 rfl hl (by decide) rfl (fun ls hl => ?_)
          refine lv_iload_n hx hb dX4_leastSum_34 rfl (lv_at hl 2 rfl) ?_
          refine lv_aload_n hx hb dX4_leastSum_35 rfl (lv_at hl 1 rfl) ?_
          refine va_get (D := (dC, dI)) (ci := 4) (v := .ref (a0 2)) (C := RX4) (T := TX4) (N := 4) hx hb hts hinX4 hown hK hP 0 rfl rfl 2 (by decide) f4 (fun _ h9 => h9) rfl dX4_leastSum_36 ?_
          refine lv_aload_n hx hb dX4_leastSum_39 rfl (lv_at hl 1 rfl) ?_
          refine va_get (D := (dC, dI)) (ci := 4) (v := .ref (a0 3)) (C := RX4) (T := TX4) (N := 4) hx hb hts hinX4 hown hK hP 0 rfl rfl 3 (by decide) f3 (fun _ h9 => h9) rfl dX4_leastSum_40 ?_
          refine lv_iload_n hx hb dX4_leastSum_43 rfl (lv_at hl 3 rfl) ?_
          refine va_iald hx hb hK hP 3 1 (f := ma M0 3) rfl rfl h.1 dX4_leastSum_44 ?_
          have h := h.2
          refine va_iald hx hb hK hP 2 1 (f := ma M0 2) rfl rfl h.1 dX4_leastSum_45 ?_
          have h := h.2
          refine lv_iload_n hx hb dX4_leastSum_46 rfl (lv_at hl 0 rfl) ?_
          refine lv_imul hx hb dX4_leastSum_47 ?_
          refine lv_iadd hx hb dX4_leastSum_48 ?_
          refine lv_topi (fun x4 ex4 => ?_)
          have h := h x4 ex4
          refine lv_istore_n (lv' := [(2, .int x4), (1, .int x3), (0, .ref h0), (3, .int y3)]) hx hb dX4_leastSum_49 rfl hl (by decide) rfl (fun ls hl => ?_)
          obtain ⟨x5, ex5⟩ : ∃ y : Int32, y = y3 + (1 : Int32) := ⟨_, rfl⟩
          have h := h x5 ex5
          refine lv_iinc (v := x5) (lv' := [(3, .int x5), (2, .int x4), (1, .int x3), (0, .ref h0)]) hx hb dX4_leastSum_50 hl (k := 3) rfl (by rw [ex5]; rfl) (by decide) rfl (fun ls hl => ?_)
          refine lv_goto (tgt := 6) hx hb dX4_leastSum_53 (by decide) ?_
          exact hB6 x3 x4 x5 M0 H locs ls hP hD hS (lv_sub hl [3, 2, 1, 0] rfl) h
  have bE : ∀ (M0 : gS) (H : Heap) (locs : List Loc) (ls : Array Slot), va_P (dC, dI) vwCl (ogW cB cI cJ cZ h0 a0 M0) H → va_D A (ogW cB cI cJ cZ h0 a0 M0) → va_S A s.heap H locs → lv_has ls 4 [(0, .ref h0)] → wX4_leastSum  M0 Q → W p l e (headSpec wsX4_leastSum rmX4_leastSum).room s m ([.ref h0] : List Value).toArray below meth c H locs 0 0 (MQ below (va_Qi (fun (r : Int32) (u : gS) => Q r u) (ogB dC dI cB cI cJ cZ h0 a0 A) A) ([.ref h0] : List Value).toArray s 0 0 A) (F0 m 0 ls []) := by
    intro M0 H locs ls hP hD hS hl h
    unfold wX4_leastSum at h
    refine lv_iconst (v := 0) hx hb dX4_leastSum_0 (by decide) ?_
    refine lv_istore_n (lv' := [(1, .int (0 : Int32)), (0, .ref h0)]) hx hb dX4_leastSum_1 rfl hl (by decide) rfl (fun ls hl => ?_)
    refine lv_iconst (v := 0) hx hb dX4_leastSum_2 (by decide) ?_
    refine lv_istore_n (lv' := [(2, .int (0 : Int32)), (1, .int (0 : Int32)), (0, .ref h0)]) hx hb dX4_leastSum_3 rfl hl (by decide) rfl (fun ls hl => ?_)
    refine lv_iconst (v := 0) hx hb dX4_leastSum_4 (by decide) ?_
    refine lv_istore_n (lv' := [(3, .int (0 : Int32)), (2, .int (0 : Int32)), (1, .int (0 : Int32)), (0, .ref h0)]) hx hb dX4_leastSum_5 rfl hl (by decide) rfl (fun ls hl => ?_)
    obtain ⟨n9, h⟩ := h
    exact b6  n9 (0 : Int32) (0 : Int32) (0 : Int32) M0 H locs ls hP hD hS (lv_sub hl [3, 2, 1, 0] rfl) h
  have hl := lv_entry ([.ref h0]) (n := 4) (Nat.le_of_ble_eq_true rfl)
  rw [lg_entry_eq]
  generalize (lg_sl ([.ref h0]) ++ List.replicate (4 - (lg_sl ([.ref h0])).length) Slot.unset).toArray = ls at hl ⊢
  have hl : lv_has ls 4 [(0, .ref h0)] := hl
  exact bE M0 s.heap [] ls hP hD hS hl h
