abbrev rdIS (dC : Nat → ClassId) (dI : Nat → Nat → Nat) (cB cI cJ cZ : ClassId) (h0 : Nat) (a0 : Nat → Nat) (M0 : gS) (M1 : gS) (adK adV : Nat → Nat) (sz : Nat) : State → Prop := fun U => (U.heap.size = sz ∧ va_P (dC, dI) vwCl (rdW cB cI cJ cZ h0 a0 M0 M1) U.heap ∧ va_K (dC, dI) vwCl (gT cB cI cJ cZ) U ∧ va_D (fun _ => True) (rdW cB cI cJ cZ h0 a0 M0 M1)) ∧ sR adK U ∧ sE adK adV (va_A (rdW cB cI cJ cZ h0 a0 M0 M1) sz) U U.heap
theorem rdpVS {s : State} {dC : Nat → ClassId} {dI : Nat → Nat → Nat} {A A0 : Nat → Prop} {cB cI cJ cZ : ClassId} {h0 : Nat} {a0 : Nat → Nat} {M0 : gS} {M1 : gS} {adK adV : Nat → Nat} {H : Heap} {locs : List Loc} {As : List Value} (hK : va_K (dC, dI) vwCl (gT cB cI cJ cZ) s) (hP : va_P (dC, dI) vwCl (rdW cB cI cJ cZ h0 a0 M0 M1) H) (hD : va_D A (rdW cB cI cJ cZ h0 a0 M0 M1)) (hR : sR adK s) (hE : sE adK adV A0 s s.heap) (hS : va_S A0 s.heap H locs) (hF : ∀ q : Nat, va_A (rdW cB cI cJ cZ h0 a0 M0 M1) H.size q → A0 q) : PreV s H RX7 h0 (va_Pc (.ref h0 :: As) (rdIS dC dI cB cI cJ cZ h0 a0 M0 M1 adK adV H.size)) As := ⟨fun a U g mk q => by obtain ⟨q0, ⟨q1, qP, qK, qD⟩, qR, qE⟩ := q; exact ⟨q0, ⟨q1, qP, va_K.moved (u := U) (U := U.calling g mk a) (Vm.Alike.refl U.vm) qK, qD⟩, sR.same (u := U) (U := U.calling g mk a) rfl qR, sE.moved (u := U) (U := U.calling g mk a) (Vm.Alike.refl U.vm) qE⟩, va_recv hK hP (ci := 7) (q0 := 0) rfl rfl, fun U hU hW => ⟨rfl, ⟨by rw [hU], by rw [hU]; exact hP, va_K.moved hW.alike hK, hD.weaken (fun _ _ _ _ => trivial)⟩, hR.warm hW, by rw [hU]; exact sE.narrow (sE.kept (sE.moved hW.alike hE) hS.2.1) hF⟩⟩

abbrev crW (cB cI cJ cZ : ClassId) (h0 : Nat) (a0 : Nat → Nat) (a1 : Nat → Nat) (a3 : Nat → Nat) (M0 : gS) (M1 : gS) (M2 : gS) (M3 : gS) : va_W := [(h0, .inr (2, [.ref (a0 0), .ref (a0 1)])), (a0 0, .inr (7, [.ref (a1 0), .int (mg M1 1), .int (mg M1 2), .int (mg M1 3), .int (mg M1 4), .int (mg M1 5), .int (mg M1 6), .int (mg M1 7)])), (a1 0, .inl (cI, 400, .inl (ma M2 0))), (a0 1, .inr (1, [.int (mg M3 0), .ref (a3 1), .int (mg M3 2), .ref (a3 3), .int (mg M3 4), .ref (a3 5)])), (a3 1, .inl (cI, 4, .inl (ma M3 1))), (a3 3, .inl (cI, 4, .inl (ma M3 3))), (a3 5, .inl (cI, 2, .inl (ma M3 5)))]
abbrev crI (dC : Nat → ClassId) (dI : Nat → Nat → Nat) (cB cI cJ cZ : ClassId) (h0 : Nat) (a0 : Nat → Nat) (a1 : Nat → Nat) (a3 : Nat → Nat) (M0 : gS) (M1 : gS) (M2 : gS) (M3 : gS) (sz : Nat) : State → Prop := fun U => U.heap.size = sz ∧ va_P (dC, dI) vwCl (crW cB cI cJ cZ h0 a0 a1 a3 M0 M1 M2 M3) U.heap ∧ va_K (dC, dI) vwCl (gT cB cI cJ cZ) U ∧ va_D (fun _ => True) (crW cB cI cJ cZ h0 a0 a1 a3 M0 M1 M2 M3)
abbrev crB (dC : Nat → ClassId) (dI : Nat → Nat → Nat) (cB cI cJ cZ : ClassId) (h0 : Nat) (a0 : Nat → Nat) (a1 : Nat → Nat) (a3 : Nat → Nat) (A : Nat → Prop) (u : gS × gS × gS × gS) (t : State) : Prop := match u with
  | (M0, M1, M2, M3) => va_P (dC, dI) vwCl (crW cB cI cJ cZ h0 a0 a1 a3 M0 M1 M2 M3) t.heap ∧ va_K (dC, dI) vwCl (gT cB cI cJ cZ) t ∧ va_D A (crW cB cI cJ cZ h0 a0 a1 a3 M0 M1 M2 M3)
theorem crP_1_f1 {D : va_G} {H : Heap} {cB cI cJ cZ : ClassId} {h0 : Nat} {a0 : Nat → Nat} {a1 : Nat → Nat} {a3 : Nat → Nat} {M0 : gS} {M1 : gS} {M2 : gS} {M3 : gS} {v : Int32} (h : va_P D vwCl ((crW cB cI cJ cZ h0 a0 a1 a3 M0 M1 M2 M3).set 1 (a0 0, .inr (7, ([.ref (a1 0), .int (mg M1 1), .int (mg M1 2), .int (mg M1 3), .int (mg M1 4), .int (mg M1 5), .int (mg M1 6), .int (mg M1 7)]).set 1 (.int v)))) H) : va_P D vwCl (crW cB cI cJ cZ h0 a0 a1 a3 M0 (sg M1 1 v) M2 M3) H := h
theorem crD_1_f1 {A : Nat → Prop} {cB cI cJ cZ : ClassId} {h0 : Nat} {a0 : Nat → Nat} {a1 : Nat → Nat} {a3 : Nat → Nat} {M0 : gS} {M1 : gS} {M2 : gS} {M3 : gS} {v : Int32} (h : va_D A ((crW cB cI cJ cZ h0 a0 a1 a3 M0 M1 M2 M3).set 1 (a0 0, .inr (7, ([.ref (a1 0), .int (mg M1 1), .int (mg M1 2), .int (mg M1 3), .int (mg M1 4), .int (mg M1 5), .int (mg M1 6), .int (mg M1 7)]).set 1 (.int v))))) : va_D A (crW cB cI cJ cZ h0 a0 a1 a3 M0 (sg M1 1 v) M2 M3) := h
theorem crP_1_f2 {D : va_G} {H : Heap} {cB cI cJ cZ : ClassId} {h0 : Nat} {a0 : Nat → Nat} {a1 : Nat → Nat} {a3 : Nat → Nat} {M0 : gS} {M1 : gS} {M2 : gS} {M3 : gS} {v : Int32} (h : va_P D vwCl ((crW cB cI cJ cZ h0 a0 a1 a3 M0 M1 M2 M3).set 1 (a0 0, .inr (7, ([.ref (a1 0), .int (mg M1 1), .int (mg M1 2), .int (mg M1 3), .int (mg M1 4), .int (mg M1 5), .int (mg M1 6), .int (mg M1 7)]).set 2 (.int v)))) H) : va_P D vwCl (crW cB cI cJ cZ h0 a0 a1 a3 M0 (sg M1 2 v) M2 M3) H := h
theorem crD_1_f2 {A : Nat → Prop} {cB cI cJ cZ : ClassId} {h0 : Nat} {a0 : Nat → Nat} {a1 : Nat → Nat} {a3 : Nat → Nat} {M0 : gS} {M1 : gS} {M2 : gS} {M3 : gS} {v : Int32} (h : va_D A ((crW cB cI cJ cZ h0 a0 a1 a3 M0 M1 M2 M3).set 1 (a0 0, .inr (7, ([.ref (a1 0), .int (mg M1 1), .int (mg M1 2), .int (mg M1 3), .int (mg M1 4), .int (mg M1 5), .int (mg M1 6), .int (mg M1 7)]).set 2 (.int v))))) : va_D A (crW cB cI cJ cZ h0 a0 a1 a3 M0 (sg M1 2 v) M2 M3) := h
theorem crP_1_f3 {D : va_G} {H : Heap} {cB cI cJ cZ : ClassId} {h0 : Nat} {a0 : Nat → Nat} {a1 : Nat → Nat} {a3 : Nat → Nat} {M0 : gS} {M1 : gS} {M2 : gS} {M3 : gS} {v : Int32} (h : va_P D vwCl ((crW cB cI cJ cZ h0 a0 a1 a3 M0 M1 M2 M3).set 1 (a0 0, .inr (7, ([.ref (a1 0), .int (mg M1 1), .int (mg M1 2), .int (mg M1 3), .int (mg M1 4), .int (mg M1 5), .int (mg M1 6), .int (mg M1 7)]).set 3 (.int v)))) H) : va_P D vwCl (crW cB cI cJ cZ h0 a0 a1 a3 M0 (sg M1 3 v) M2 M3) H := h
theorem crD_1_f3 {A : Nat → Prop} {cB cI cJ cZ : ClassId} {h0 : Nat} {a0 : Nat → Nat} {a1 : Nat → Nat} {a3 : Nat → Nat} {M0 : gS} {M1 : gS} {M2 : gS} {M3 : gS} {v : Int32} (h : va_D A ((crW cB cI cJ cZ h0 a0 a1 a3 M0 M1 M2 M3).set 1 (a0 0, .inr (7, ([.ref (a1 0), .int (mg M1 1), .int (mg M1 2), .int (mg M1 3), .int (mg M1 4), .int (mg M1 5), .int (mg M1 6), .int (mg M1 7)]).set 3 (.int v))))) : va_D A (crW cB cI cJ cZ h0 a0 a1 a3 M0 (sg M1 3 v) M2 M3) := h
theorem crP_1_f4 {D : va_G} {H : Heap} {cB cI cJ cZ : ClassId} {h0 : Nat} {a0 : Nat → Nat} {a1 : Nat → Nat} {a3 : Nat → Nat} {M0 : gS} {M1 : gS} {M2 : gS} {M3 : gS} {v : Int32} (h : va_P D vwCl ((crW cB cI cJ cZ h0 a0 a1 a3 M0 M1 M2 M3).set 1 (a0 0, .inr (7, ([.ref (a1 0), .int (mg M1 1), .int (mg M1 2), .int (mg M1 3), .int (mg M1 4), .int (mg M1 5), .int (mg M1 6), .int (mg M1 7)]).set 4 (.int v)))) H) : va_P D vwCl (crW cB cI cJ cZ h0 a0 a1 a3 M0 (sg M1 4 v) M2 M3) H := h
theorem crD_1_f4 {A : Nat → Prop} {cB cI cJ cZ : ClassId} {h0 : Nat} {a0 : Nat → Nat} {a1 : Nat → Nat} {a3 : Nat → Nat} {M0 : gS} {M1 : gS} {M2 : gS} {M3 : gS} {v : Int32} (h : va_D A ((crW cB cI cJ cZ h0 a0 a1 a3 M0 M1 M2 M3).set 1 (a0 0, .inr (7, ([.ref (a1 0), .int (mg M1 1), .int (mg M1 2), .int (mg M1 3), .int (mg M1 4), .int (mg M1 5), .int (mg M1 6), .int (mg M1 7)]).set 4 (.int v))))) : va_D A (crW cB cI cJ cZ h0 a0 a1 a3 M0 (sg M1 4 v) M2 M3) := h
theorem crP_1_f5 {D : va_G} {H : Heap} {cB cI cJ cZ : ClassId} {h0 : Nat} {a0 : Nat → Nat} {a1 : Nat → Nat} {a3 : Nat → Nat} {M0 : gS} {M1 : gS} {M2 : gS} {M3 : gS} {v : Int32} (h : va_P D vwCl ((crW cB cI cJ cZ h0 a0 a1 a3 M0 M1 M2 M3).set 1 (a0 0, .inr (7, ([.ref (a1 0), .int (mg M1 1), .int (mg M1 2), .int (mg M1 3), .int (mg M1 4), .int (mg M1 5), .int (mg M1 6), .int (mg M1 7)]).set 5 (.int v)))) H) : va_P D vwCl (crW cB cI cJ cZ h0 a0 a1 a3 M0 (sg M1 5 v) M2 M3) H := h
theorem crD_1_f5 {A : Nat → Prop} {cB cI cJ cZ : ClassId} {h0 : Nat} {a0 : Nat → Nat} {a1 : Nat → Nat} {a3 : Nat → Nat} {M0 : gS} {M1 : gS} {M2 : gS} {M3 : gS} {v : Int32} (h : va_D A ((crW cB cI cJ cZ h0 a0 a1 a3 M0 M1 M2 M3).set 1 (a0 0, .inr (7, ([.ref (a1 0), .int (mg M1 1), .int (mg M1 2), .int (mg M1 3), .int (mg M1 4), .int (mg M1 5), .int (mg M1 6), .int (mg M1 7)]).set 5 (.int v))))) : va_D A (crW cB cI cJ cZ h0 a0 a1 a3 M0 (sg M1 5 v) M2 M3) := h
theorem crP_1_f6 {D : va_G} {H : Heap} {cB cI cJ cZ : ClassId} {h0 : Nat} {a0 : Nat → Nat} {a1 : Nat → Nat} {a3 : Nat → Nat} {M0 : gS} {M1 : gS} {M2 : gS} {M3 : gS} {v : Int32} (h : va_P D vwCl ((crW cB cI cJ cZ h0 a0 a1 a3 M0 M1 M2 M3).set 1 (a0 0, .inr (7, ([.ref (a1 0), .int (mg M1 1), .int (mg M1 2), .int (mg M1 3), .int (mg M1 4), .int (mg M1 5), .int (mg M1 6), .int (mg M1 7)]).set 6 (.int v)))) H) : va_P D vwCl (crW cB cI cJ cZ h0 a0 a1 a3 M0 (sg M1 6 v) M2 M3) H := h
theorem crD_1_f6 {A : Nat → Prop} {cB cI cJ cZ : ClassId} {h0 : Nat} {a0 : Nat → Nat} {a1 : Nat → Nat} {a3 : Nat → Nat} {M0 : gS} {M1 : gS} {M2 : gS} {M3 : gS} {v : Int32} (h : va_D A ((crW cB cI cJ cZ h0 a0 a1 a3 M0 M1 M2 M3).set 1 (a0 0, .inr (7, ([.ref (a1 0), .int (mg M1 1), .int (mg M1 2), .int (mg M1 3), .int (mg M1 4), .int (mg M1 5), .int (mg M1 6), .int (mg M1 7)]).set 6 (.int v))))) : va_D A (crW cB cI cJ cZ h0 a0 a1 a3 M0 (sg M1 6 v) M2 M3) := h
theorem crP_1_f7 {D : va_G} {H : Heap} {cB cI cJ cZ : ClassId} {h0 : Nat} {a0 : Nat → Nat} {a1 : Nat → Nat} {a3 : Nat → Nat} {M0 : gS} {M1 : gS} {M2 : gS} {M3 : gS} {v : Int32} (h : va_P D vwCl ((crW cB cI cJ cZ h0 a0 a1 a3 M0 M1 M2 M3).set 1 (a0 0, .inr (7, ([.ref (a1 0), .int (mg M1 1), .int (mg M1 2), .int (mg M1 3), .int (mg M1 4), .int (mg M1 5), .int (mg M1 6), .int (mg M1 7)]).set 7 (.int v)))) H) : va_P D vwCl (crW cB cI cJ cZ h0 a0 a1 a3 M0 (sg M1 7 v) M2 M3) H := h
theorem crD_1_f7 {A : Nat → Prop} {cB cI cJ cZ : ClassId} {h0 : Nat} {a0 : Nat → Nat} {a1 : Nat → Nat} {a3 : Nat → Nat} {M0 : gS} {M1 : gS} {M2 : gS} {M3 : gS} {v : Int32} (h : va_D A ((crW cB cI cJ cZ h0 a0 a1 a3 M0 M1 M2 M3).set 1 (a0 0, .inr (7, ([.ref (a1 0), .int (mg M1 1), .int (mg M1 2), .int (mg M1 3), .int (mg M1 4), .int (mg M1 5), .int (mg M1 6), .int (mg M1 7)]).set 7 (.int v))))) : va_D A (crW cB cI cJ cZ h0 a0 a1 a3 M0 (sg M1 7 v) M2 M3) := h
theorem crP_2_a0 {D : va_G} {H : Heap} {cB cI cJ cZ : ClassId} {h0 : Nat} {a0 : Nat → Nat} {a1 : Nat → Nat} {a3 : Nat → Nat} {M0 : gS} {M1 : gS} {M2 : gS} {M3 : gS} {j : Nat} {v : Int32} (h : va_P D vwCl ((crW cB cI cJ cZ h0 a0 a1 a3 M0 M1 M2 M3).set 2 (a1 0, .inl (cI, 400, .inl (upd (ma M2 0) j v)))) H) : va_P D vwCl (crW cB cI cJ cZ h0 a0 a1 a3 M0 M1 (sa M2 0 j v) M3) H := h
theorem crD_2_a0 {A : Nat → Prop} {cB cI cJ cZ : ClassId} {h0 : Nat} {a0 : Nat → Nat} {a1 : Nat → Nat} {a3 : Nat → Nat} {M0 : gS} {M1 : gS} {M2 : gS} {M3 : gS} {j : Nat} {v : Int32} (h : va_D A ((crW cB cI cJ cZ h0 a0 a1 a3 M0 M1 M2 M3).set 2 (a1 0, .inl (cI, 400, .inl (upd (ma M2 0) j v))))) : va_D A (crW cB cI cJ cZ h0 a0 a1 a3 M0 M1 (sa M2 0 j v) M3) := h
theorem crP_2_c0 {D : va_G} {H : Heap} {cB cI cJ cZ : ClassId} {h0 : Nat} {a0 : Nat → Nat} {a1 : Nat → Nat} {a3 : Nat → Nat} {M0 : gS} {M1 : gS} {M2 : gS} {M3 : gS} {f : Nat → Int32} (h : va_P D vwCl ((crW cB cI cJ cZ h0 a0 a1 a3 M0 M1 M2 M3).set 2 (a1 0, .inl (cI, 400, .inl f))) H) : va_P D vwCl (crW cB cI cJ cZ h0 a0 a1 a3 M0 M1 (sF M2 0 f) M3) H := h
theorem crD_2_c0 {A : Nat → Prop} {cB cI cJ cZ : ClassId} {h0 : Nat} {a0 : Nat → Nat} {a1 : Nat → Nat} {a3 : Nat → Nat} {M0 : gS} {M1 : gS} {M2 : gS} {M3 : gS} {f : Nat → Int32} (h : va_D A ((crW cB cI cJ cZ h0 a0 a1 a3 M0 M1 M2 M3).set 2 (a1 0, .inl (cI, 400, .inl f)))) : va_D A (crW cB cI cJ cZ h0 a0 a1 a3 M0 M1 (sF M2 0 f) M3) := h
theorem crP_3_f0 {D : va_G} {H : Heap} {cB cI cJ cZ : ClassId} {h0 : Nat} {a0 : Nat → Nat} {a1 : Nat → Nat} {a3 : Nat → Nat} {M0 : gS} {M1 : gS} {M2 : gS} {M3 : gS} {v : Int32} (h : va_P D vwCl ((crW cB cI cJ cZ h0 a0 a1 a3 M0 M1 M2 M3).set 3 (a0 1, .inr (1, ([.int (mg M3 0), .ref (a3 1), .int (mg M3 2), .ref (a3 3), .int (mg M3 4), .ref (a3 5)]).set 0 (.int v)))) H) : va_P D vwCl (crW cB cI cJ cZ h0 a0 a1 a3 M0 M1 M2 (sg M3 0 v)) H := h
theorem crD_3_f0 {A : Nat → Prop} {cB cI cJ cZ : ClassId} {h0 : Nat} {a0 : Nat → Nat} {a1 : Nat → Nat} {a3 : Nat → Nat} {M0 : gS} {M1 : gS} {M2 : gS} {M3 : gS} {v : Int32} (h : va_D A ((crW cB cI cJ cZ h0 a0 a1 a3 M0 M1 M2 M3).set 3 (a0 1, .inr (1, ([.int (mg M3 0), .ref (a3 1), .int (mg M3 2), .ref (a3 3), .int (mg M3 4), .ref (a3 5)]).set 0 (.int v))))) : va_D A (crW cB cI cJ cZ h0 a0 a1 a3 M0 M1 M2 (sg M3 0 v)) := h
theorem crP_3_f2 {D : va_G} {H : Heap} {cB cI cJ cZ : ClassId} {h0 : Nat} {a0 : Nat → Nat} {a1 : Nat → Nat} {a3 : Nat → Nat} {M0 : gS} {M1 : gS} {M2 : gS} {M3 : gS} {v : Int32} (h : va_P D vwCl ((crW cB cI cJ cZ h0 a0 a1 a3 M0 M1 M2 M3).set 3 (a0 1, .inr (1, ([.int (mg M3 0), .ref (a3 1), .int (mg M3 2), .ref (a3 3), .int (mg M3 4), .ref (a3 5)]).set 2 (.int v)))) H) : va_P D vwCl (crW cB cI cJ cZ h0 a0 a1 a3 M0 M1 M2 (sg M3 2 v)) H := h
theorem crD_3_f2 {A : Nat → Prop} {cB cI cJ cZ : ClassId} {h0 : Nat} {a0 : Nat → Nat} {a1 : Nat → Nat} {a3 : Nat → Nat} {M0 : gS} {M1 : gS} {M2 : gS} {M3 : gS} {v : Int32} (h : va_D A ((crW cB cI cJ cZ h0 a0 a1 a3 M0 M1 M2 M3).set 3 (a0 1, .inr (1, ([.int (mg M3 0), .ref (a3 1), .int (mg M3 2), .ref (a3 3), .int (mg M3 4), .ref (a3 5)]).set 2 (.int v))))) : va_D A (crW cB cI cJ cZ h0 a0 a1 a3 M0 M1 M2 (sg M3 2 v)) := h
theorem crP_3_f4 {D : va_G} {H : Heap} {cB cI cJ cZ : ClassId} {h0 : Nat} {a0 : Nat → Nat} {a1 : Nat → Nat} {a3 : Nat → Nat} {M0 : gS} {M1 : gS} {M2 : gS} {M3 : gS} {v : Int32} (h : va_P D vwCl ((crW cB cI cJ cZ h0 a0 a1 a3 M0 M1 M2 M3).set 3 (a0 1, .inr (1, ([.int (mg M3 0), .ref (a3 1), .int (mg M3 2), .ref (a3 3), .int (mg M3 4), .ref (a3 5)]).set 4 (.int v)))) H) : va_P D vwCl (crW cB cI cJ cZ h0 a0 a1 a3 M0 M1 M2 (sg M3 4 v)) H := h
theorem crD_3_f4 {A : Nat → Prop} {cB cI cJ cZ : ClassId} {h0 : Nat} {a0 : Nat → Nat} {a1 : Nat → Nat} {a3 : Nat → Nat} {M0 : gS} {M1 : gS} {M2 : gS} {M3 : gS} {v : Int32} (h : va_D A ((crW cB cI cJ cZ h0 a0 a1 a3 M0 M1 M2 M3).set 3 (a0 1, .inr (1, ([.int (mg M3 0), .ref (a3 1), .int (mg M3 2), .ref (a3 3), .int (mg M3 4), .ref (a3 5)]).set 4 (.int v))))) : va_D A (crW cB cI cJ cZ h0 a0 a1 a3 M0 M1 M2 (sg M3 4 v)) := h
theorem crP_3_a1 {D : va_G} {H : Heap} {cB cI cJ cZ : ClassId} {h0 : Nat} {a0 : Nat → Nat} {a1 : Nat → Nat} {a3 : Nat → Nat} {M0 : gS} {M1 : gS} {M2 : gS} {M3 : gS} {j : Nat} {v : Int32} (h : va_P D vwCl ((crW cB cI cJ cZ h0 a0 a1 a3 M0 M1 M2 M3).set 4 (a3 1, .inl (cI, 4, .inl (upd (ma M3 1) j v)))) H) : va_P D vwCl (crW cB cI cJ cZ h0 a0 a1 a3 M0 M1 M2 (sa M3 1 j v)) H := h
theorem crD_3_a1 {A : Nat → Prop} {cB cI cJ cZ : ClassId} {h0 : Nat} {a0 : Nat → Nat} {a1 : Nat → Nat} {a3 : Nat → Nat} {M0 : gS} {M1 : gS} {M2 : gS} {M3 : gS} {j : Nat} {v : Int32} (h : va_D A ((crW cB cI cJ cZ h0 a0 a1 a3 M0 M1 M2 M3).set 4 (a3 1, .inl (cI, 4, .inl (upd (ma M3 1) j v))))) : va_D A (crW cB cI cJ cZ h0 a0 a1 a3 M0 M1 M2 (sa M3 1 j v)) := h
theorem crP_3_c1 {D : va_G} {H : Heap} {cB cI cJ cZ : ClassId} {h0 : Nat} {a0 : Nat → Nat} {a1 : Nat → Nat} {a3 : Nat → Nat} {M0 : gS} {M1 : gS} {M2 : gS} {M3 : gS} {f : Nat → Int32} (h : va_P D vwCl ((crW cB cI cJ cZ h0 a0 a1 a3 M0 M1 M2 M3).set 4 (a3 1, .inl (cI, 4, .inl f))) H) : va_P D vwCl (crW cB cI cJ cZ h0 a0 a1 a3 M0 M1 M2 (sF M3 1 f)) H := h
theorem crD_3_c1 {A : Nat → Prop} {cB cI cJ cZ : ClassId} {h0 : Nat} {a0 : Nat → Nat} {a1 : Nat → Nat} {a3 : Nat → Nat} {M0 : gS} {M1 : gS} {M2 : gS} {M3 : gS} {f : Nat → Int32} (h : va_D A ((crW cB cI cJ cZ h0 a0 a1 a3 M0 M1 M2 M3).set 4 (a3 1, .inl (cI, 4, .inl f)))) : va_D A (crW cB cI cJ cZ h0 a0 a1 a3 M0 M1 M2 (sF M3 1 f)) := h
theorem crP_3_a3 {D : va_G} {H : Heap} {cB cI cJ cZ : ClassId} {h0 : Nat} {a0 : Nat → Nat} {a1 : Nat → Nat} {a3 : Nat → Nat} {M0 : gS} {M1 : gS} {M2 : gS} {M3 : gS} {j : Nat} {v : Int32} (h : va_P D vwCl ((crW cB cI cJ cZ h0 a0 a1 a3 M0 M1 M2 M3).set 5 (a3 3, .inl (cI, 4, .inl (upd (ma M3 3) j v)))) H) : va_P D vwCl (crW cB cI cJ cZ h0 a0 a1 a3 M0 M1 M2 (sa M3 3 j v)) H := h
theorem crD_3_a3 {A : Nat → Prop} {cB cI cJ cZ : ClassId} {h0 : Nat} {a0 : Nat → Nat} {a1 : Nat → Nat} {a3 : Nat → Nat} {M0 : gS} {M1 : gS} {M2 : gS} {M3 : gS} {j : Nat} {v : Int32} (h : va_D A ((crW cB cI cJ cZ h0 a0 a1 a3 M0 M1 M2 M3).set 5 (a3 3, .inl (cI, 4, .inl (upd (ma M3 3) j v))))) : va_D A (crW cB cI cJ cZ h0 a0 a1 a3 M0 M1 M2 (sa M3 3 j v)) := h
theorem crP_3_c3 {D : va_G} {H : Heap} {cB cI cJ cZ : ClassId} {h0 : Nat} {a0 : Nat → Nat} {a1 : Nat → Nat} {a3 : Nat → Nat} {M0 : gS} {M1 : gS} {M2 : gS} {M3 : gS} {f : Nat → Int32} (h : va_P D vwCl ((crW cB cI cJ cZ h0 a0 a1 a3 M0 M1 M2 M3).set 5 (a3 3, .inl (cI, 4, .inl f))) H) : va_P D vwCl (crW cB cI cJ cZ h0 a0 a1 a3 M0 M1 M2 (sF M3 3 f)) H := h
theorem crD_3_c3 {A : Nat → Prop} {cB cI cJ cZ : ClassId} {h0 : Nat} {a0 : Nat → Nat} {a1 : Nat → Nat} {a3 : Nat → Nat} {M0 : gS} {M1 : gS} {M2 : gS} {M3 : gS} {f : Nat → Int32} (h : va_D A ((crW cB cI cJ cZ h0 a0 a1 a3 M0 M1 M2 M3).set 5 (a3 3, .inl (cI, 4, .inl f)))) : va_D A (crW cB cI cJ cZ h0 a0 a1 a3 M0 M1 M2 (sF M3 3 f)) := h
theorem crP_3_a5 {D : va_G} {H : Heap} {cB cI cJ cZ : ClassId} {h0 : Nat} {a0 : Nat → Nat} {a1 : Nat → Nat} {a3 : Nat → Nat} {M0 : gS} {M1 : gS} {M2 : gS} {M3 : gS} {j : Nat} {v : Int32} (h : va_P D vwCl ((crW cB cI cJ cZ h0 a0 a1 a3 M0 M1 M2 M3).set 6 (a3 5, .inl (cI, 2, .inl (upd (ma M3 5) j v)))) H) : va_P D vwCl (crW cB cI cJ cZ h0 a0 a1 a3 M0 M1 M2 (sa M3 5 j v)) H := h
theorem crD_3_a5 {A : Nat → Prop} {cB cI cJ cZ : ClassId} {h0 : Nat} {a0 : Nat → Nat} {a1 : Nat → Nat} {a3 : Nat → Nat} {M0 : gS} {M1 : gS} {M2 : gS} {M3 : gS} {j : Nat} {v : Int32} (h : va_D A ((crW cB cI cJ cZ h0 a0 a1 a3 M0 M1 M2 M3).set 6 (a3 5, .inl (cI, 2, .inl (upd (ma M3 5) j v))))) : va_D A (crW cB cI cJ cZ h0 a0 a1 a3 M0 M1 M2 (sa M3 5 j v)) := h
theorem crP_3_c5 {D : va_G} {H : Heap} {cB cI cJ cZ : ClassId} {h0 : Nat} {a0 : Nat → Nat} {a1 : Nat → Nat} {a3 : Nat → Nat} {M0 : gS} {M1 : gS} {M2 : gS} {M3 : gS} {f : Nat → Int32} (h : va_P D vwCl ((crW cB cI cJ cZ h0 a0 a1 a3 M0 M1 M2 M3).set 6 (a3 5, .inl (cI, 2, .inl f))) H) : va_P D vwCl (crW cB cI cJ cZ h0 a0 a1 a3 M0 M1 M2 (sF M3 5 f)) H := h
theorem crD_3_c5 {A : Nat → Prop} {cB cI cJ cZ : ClassId} {h0 : Nat} {a0 : Nat → Nat} {a1 : Nat → Nat} {a3 : Nat → Nat} {M0 : gS} {M1 : gS} {M2 : gS} {M3 : gS} {f : Nat → Int32} (h : va_D A ((crW cB cI cJ cZ h0 a0 a1 a3 M0 M1 M2 M3).set 6 (a3 5, .inl (cI, 2, .inl f)))) : va_D A (crW cB cI cJ cZ h0 a0 a1 a3 M0 M1 M2 (sF M3 5 f)) := h
theorem crpV {s : State} {dC : Nat → ClassId} {dI : Nat → Nat → Nat} {A : Nat → Prop} {cB cI cJ cZ : ClassId} {h0 : Nat} {a0 : Nat → Nat} {a1 : Nat → Nat} {a3 : Nat → Nat} {M0 : gS} {M1 : gS} {M2 : gS} {M3 : gS} {H : Heap} {As : List Value} (hK : va_K (dC, dI) vwCl (gT cB cI cJ cZ) s) (hP : va_P (dC, dI) vwCl (crW cB cI cJ cZ h0 a0 a1 a3 M0 M1 M2 M3) H) (hD : va_D A (crW cB cI cJ cZ h0 a0 a1 a3 M0 M1 M2 M3)) : PreV s H RX2 h0 (va_Pc (.ref h0 :: As) (crI dC dI cB cI cJ cZ h0 a0 a1 a3 M0 M1 M2 M3 H.size)) As := ⟨fun a U g mk q => by obtain ⟨q0, q1, qP, qK, qD⟩ := q; exact ⟨q0, q1, qP, va_K.moved (u := U) (U := U.calling g mk a) (Vm.Alike.refl U.vm) qK, qD⟩, va_recv hK hP (ci := 2) (q0 := 0) rfl rfl, fun U hU hW => ⟨rfl, by rw [hU], by rw [hU]; exact hP, va_K.moved hW.alike hK, hD.weaken (fun _ _ _ _ => trivial)⟩⟩
theorem crpS {s : State} {dC : Nat → ClassId} {dI : Nat → Nat → Nat} {A : Nat → Prop} {cB cI cJ cZ : ClassId} {h0 : Nat} {a0 : Nat → Nat} {a1 : Nat → Nat} {a3 : Nat → Nat} {M0 : gS} {M1 : gS} {M2 : gS} {M3 : gS} {H : Heap} {As : List Value} (hK : va_K (dC, dI) vwCl (gT cB cI cJ cZ) s) (hP : va_P (dC, dI) vwCl (crW cB cI cJ cZ h0 a0 a1 a3 M0 M1 M2 M3) H) (hD : va_D A (crW cB cI cJ cZ h0 a0 a1 a3 M0 M1 M2 M3)) : PreS s H (va_Pc As (crI dC dI cB cI cJ cZ h0 a0 a1 a3 M0 M1 M2 M3 H.size)) As := ⟨fun a U g mk q => by obtain ⟨q0, q1, qP, qK, qD⟩ := q; exact ⟨q0, q1, qP, va_K.moved (u := U) (U := U.calling g mk a) (Vm.Alike.refl U.vm) qK, qD⟩, fun U hU hW => ⟨rfl, by rw [hU], by rw [hU]; exact hP, va_K.moved hW.alike hK, hD.weaken (fun _ _ _ _ => trivial)⟩⟩

abbrev crIS (dC : Nat → ClassId) (dI : Nat → Nat → Nat) (cB cI cJ cZ : ClassId) (h0 : Nat) (a0 : Nat → Nat) (a1 : Nat → Nat) (a3 : Nat → Nat) (M0 : gS) (M1 : gS) (M2 : gS) (M3 : gS) (adK adV : Nat → Nat) (sz : Nat) : State → Prop := fun U => (U.heap.size = sz ∧ va_P (dC, dI) vwCl (crW cB cI cJ cZ h0 a0 a1 a3 M0 M1 M2 M3) U.heap ∧ va_K (dC, dI) vwCl (gT cB cI cJ cZ) U ∧ va_D (fun _ => True) (crW cB cI cJ cZ h0 a0 a1 a3 M0 M1 M2 M3)) ∧ sR adK U ∧ sE adK adV (va_A (crW cB cI cJ cZ h0 a0 a1 a3 M0 M1 M2 M3) sz) U U.heap
theorem crpVS {s : State} {dC : Nat → ClassId} {dI : Nat → Nat → Nat} {A A0 : Nat → Prop} {cB cI cJ cZ : ClassId} {h0 : Nat} {a0 : Nat → Nat} {a1 : Nat → Nat} {a3 : Nat → Nat} {M0 : gS} {M1 : gS} {M2 : gS} {M3 : gS} {adK adV : Nat → Nat} {H : Heap} {locs : List Loc} {As : List Value} (hK : va_K (dC, dI) vwCl (gT cB cI cJ cZ) s) (hP : va_P (dC, dI) vwCl (crW cB cI cJ cZ h0 a0 a1 a3 M0 M1 M2 M3) H) (hD : va_D A (crW cB cI cJ cZ h0 a0 a1 a3 M0 M1 M2 M3)) (hR : sR adK s) (hE : sE adK adV A0 s s.heap) (hS : va_S A0 s.heap H locs) (hF : ∀ q : Nat, va_A (crW cB cI cJ cZ h0 a0 a1 a3 M0 M1 M2 M3) H.size q → A0 q) : PreV s H RX2 h0 (va_Pc (.ref h0 :: As) (crIS dC dI cB cI cJ cZ h0 a0 a1 a3 M0 M1 M2 M3 adK adV H.size)) As := ⟨fun a U g mk q => by obtain ⟨q0, ⟨q1, qP, qK, qD⟩, qR, qE⟩ := q; exact ⟨q0, ⟨q1, qP, va_K.moved (u := U) (U := U.calling g mk a) (Vm.Alike.refl U.vm) qK, qD⟩, sR.same (u := U) (U := U.calling g mk a) rfl qR, sE.moved (u := U) (U := U.calling g mk a) (Vm.Alike.refl U.vm) qE⟩, va_recv hK hP (ci := 2) (q0 := 0) rfl rfl, fun U hU hW => ⟨rfl, ⟨by rw [hU], by rw [hU]; exact hP, va_K.moved hW.alike hK, hD.weaken (fun _ _ _ _ => trivial)⟩, hR.warm hW, by rw [hU]; exact sE.narrow (sE.kept (sE.moved hW.alike hE) hS.2.1) hF⟩⟩

def wX11_isSide_9  (Q : Bool → Prop)   : Prop :=
 (Q true )
def wX11_isSide (p1 : Int32)  (Q : Bool → Prop) : Prop :=
 ((p1 = 0 → (wX11_isSide_9  Q ))
 ∧ (¬ p1 = 0 → ((p1 = (1 : Int32) → (wX11_isSide_9  Q ))
 ∧ (¬ p1 = (1 : Int32) → (Q false )))))
def rmX11_isSide : Room := { frames := 0, cells := 0, slots := 0, locals := 0 }
set_option maxHeartbeats 4000000 in
set_option maxRecDepth 100000 in
theorem kX11_isSide (l : Launch) (dC : Nat → ClassId) (dI : Nat → Nat → Nat) (cB cI cJ cZ : ClassId)  (sz : Nat) (p1 : Int32)  (Q : Bool → Prop) (h : wX11_isSide p1  Q) : Met l yX11_isSide wsX11_isSide rmX11_isSide (va_Pc [.int p1] (e0I dC dI cB cI cJ cZ   sz)) (va_Qi (fun (r : Int32) (u : Unit) => ∃ b : Bool, r = bI b ∧ Q b ) (e0B dC dI cB cI cJ cZ  (va_A (e0W cB cI cJ cZ  ) sz)) (va_A (e0W cB cI cJ cZ  ) sz)) 0 0 (va_A (e0W cB cI cJ cZ  ) sz) := by
  refine Met.ofW (cc := cX11_isSide) (maxL := 1) (ret := (some .boolean)) (by decide) rfl ?_
  intro p e s m args below meth c s₁ B hml hv
  obtain ⟨rfl, hsz, hP, hK, hD0⟩ := hv
  have hx := B.exec
  have hb := B.bytes
  have hr := B.returns
  have hts := atoms_spec (ws := wsX11_isSide) B.pre
  have hown : s.vm.findClass RX11 = some m.cls := findClass_of_methodNamed B.named
  have hlocks := B.notSynchronized
  subst hsz
  have hD := hD0.self (sz := s.heap.size)
  generalize hAe : va_A (e0W cB cI cJ cZ  ) s.heap.size = A at hD ⊢
  have hA : ∀ q : Nat, s.heap.size ≤ q → A q := fun q h => by rw [← hAe]; exact Or.inr h
  have hS : va_S A s.heap s.heap [] := va_S.rf
  have b9 : ∀   (H : Heap) (locs : List Loc) (ls : Array Slot), va_P (dC, dI) vwCl (e0W cB cI cJ cZ  ) H → va_D A (e0W cB cI cJ cZ  ) → va_S A s.heap H locs → lv_has ls 1 [] → wX11_isSide_9  Q  → W p l e (headSpec wsX11_isSide rmX11_isSide).room s m ([.int p1] : List Value).toArray below meth c H locs 0 0 (MQ below (va_Qi (fun (r : Int32) (u : Unit) => ∃ b : Bool, r = bI b ∧ Q b ) (e0B dC dI cB cI cJ cZ  A) A) ([.int p1] : List Value).toArray s 0 0 A) (F0 m 9 ls []) := by
    intro   H locs ls hP hD hS hl h
    unfold wX11_isSide_9 at h
    refine lv_iconst (v := 1) hx hb dX11_isSide_9 (by decide) ?_
    refine lv_goto (tgt := 14) hx hb dX11_isSide_10 (by decide) ?_
    exact W.zret (v := (bI true)) hx hb hr (nar_bI true) (fun t ht hW => ⟨⟨_, (), rfl, ⟨true, rfl, h⟩, by rw [ht]; exact hP, va_K.moved hW.alike hK, hD⟩, hS.F ht⟩) hS.2.2 dX11_isSide_14
  have bE : ∀  (H : Heap) (locs : List Loc) (ls : Array Slot), va_P (dC, dI) vwCl (e0W cB cI cJ cZ  ) H → va_D A (e0W cB cI cJ cZ  ) → va_S A s.heap H locs → lv_has ls 1 [(0, .int p1)] → wX11_isSide p1  Q → W p l e (headSpec wsX11_isSide rmX11_isSide).room s m ([.int p1] : List Value).toArray below meth c H locs 0 0 (MQ below (va_Qi (fun (r : Int32) (u : Unit) => ∃ b : Bool, r = bI b ∧ Q b ) (e0B dC dI cB cI cJ cZ  A) A) ([.int p1] : List Value).toArray s 0 0 A) (F0 m 0 ls []) := by
    intro  H locs ls hP hD hS hl h
    unfold wX11_isSide at h
    refine lv_iload_n hx hb dX11_isSide_0 rfl (lv_at hl 0 rfl) ?_
    refine lv_if_eq (tgt := 9) hx hb dX11_isSide_1 (by decide) (fun c1 => ?_) (fun c1 => ?_)
    · have h := h.1 c1
      exact b9   H locs ls hP hD hS (lv_sub hl [] rfl) h
    · have h := h.2 c1
      refine lv_iload_n hx hb dX11_isSide_4 rfl (lv_at hl 0 rfl) ?_
      refine lv_iconst (v := 1) hx hb dX11_isSide_5 (by decide) ?_
      refine lv_icmp_ne (tgt := 13) hx hb dX11_isSide_6 (by decide) (fun c2 => ?_) (fun c2 => ?_)
      · have h := h.2 c2
        refine lv_iconst (v := 0) hx hb dX11_isSide_13 (by decide) ?_
        exact W.zret (v := (bI false)) hx hb hr (nar_bI false) (fun t ht hW => ⟨⟨_, (), rfl, ⟨false, rfl, h⟩, by rw [ht]; exact hP, va_K.moved hW.alike hK, hD⟩, hS.F ht⟩) hS.2.2 dX11_isSide_14
      · have h := h.1 c2
        exact b9   H locs ls hP hD hS (lv_sub hl [] rfl) h
  have hl := lv_entry ([.int p1]) (n := 1) (Nat.le_of_ble_eq_true rfl)
  rw [lg_entry_eq]
  generalize (lg_sl ([.int p1]) ++ List.replicate (1 - (lg_sl ([.int p1])).length) Slot.unset).toArray = ls at hl ⊢
  have hl : lv_has ls 1 [(0, .int p1)] := hl
  exact bE  s.heap [] ls hP hD hS hl h
def wX11_isPurse (p1 : Int32)  (Q : Bool → Prop) : Prop :=
 ((p1 < 0 → (Q false ))
 ∧ (¬ p1 < 0 → (((7 : Int32) < p1 → (Q false ))
 ∧ (¬ (7 : Int32) < p1 → (Q true )))))
def rmX11_isPurse : Room := { frames := 0, cells := 0, slots := 0, locals := 0 }
set_option maxHeartbeats 4000000 in
set_option maxRecDepth 100000 in
theorem kX11_isPurse (l : Launch) (dC : Nat → ClassId) (dI : Nat → Nat → Nat) (cB cI cJ cZ : ClassId)  (sz : Nat) (p1 : Int32)  (Q : Bool → Prop) (h : wX11_isPurse p1  Q) : Met l yX11_isPurse wsX11_isPurse rmX11_isPurse (va_Pc [.int p1] (e0I dC dI cB cI cJ cZ   sz)) (va_Qi (fun (r : Int32) (u : Unit) => ∃ b : Bool, r = bI b ∧ Q b ) (e0B dC dI cB cI cJ cZ  (va_A (e0W cB cI cJ cZ  ) sz)) (va_A (e0W cB cI cJ cZ  ) sz)) 0 0 (va_A (e0W cB cI cJ cZ  ) sz) := by
  refine Met.ofW (cc := cX11_isPurse) (maxL := 1) (ret := (some .boolean)) (by decide) rfl ?_
  intro p e s m args below meth c s₁ B hml hv
  obtain ⟨rfl, hsz, hP, hK, hD0⟩ := hv
  have hx := B.exec
  have hb := B.bytes
  have hr := B.returns
  have hts := atoms_spec (ws := wsX11_isPurse) B.pre
  have hown : s.vm.findClass RX11 = some m.cls := findClass_of_methodNamed B.named
  have hlocks := B.notSynchronized
  subst hsz
  have hD := hD0.self (sz := s.heap.size)
  generalize hAe : va_A (e0W cB cI cJ cZ  ) s.heap.size = A at hD ⊢
  have hA : ∀ q : Nat, s.heap.size ≤ q → A q := fun q h => by rw [← hAe]; exact Or.inr h
  have hS : va_S A s.heap s.heap [] := va_S.rf
  have bE : ∀  (H : Heap) (locs : List Loc) (ls : Array Slot), va_P (dC, dI) vwCl (e0W cB cI cJ cZ  ) H → va_D A (e0W cB cI cJ cZ  ) → va_S A s.heap H locs → lv_has ls 1 [(0, .int p1)] → wX11_isPurse p1  Q → W p l e (headSpec wsX11_isPurse rmX11_isPurse).room s m ([.int p1] : List Value).toArray below meth c H locs 0 0 (MQ below (va_Qi (fun (r : Int32) (u : Unit) => ∃ b : Bool, r = bI b ∧ Q b ) (e0B dC dI cB cI cJ cZ  A) A) ([.int p1] : List Value).toArray s 0 0 A) (F0 m 0 ls []) := by
    intro  H locs ls hP hD hS hl h
    unfold wX11_isPurse at h
    refine lv_iload_n hx hb dX11_isPurse_0 rfl (lv_at hl 0 rfl) ?_
    refine lv_if_lt (tgt := 14) hx hb dX11_isPurse_1 (by decide) (fun c1 => ?_) (fun c1 => ?_)
    · have h := h.1 c1
      refine lv_iconst (v := 0) hx hb dX11_isPurse_14 (by decide) ?_
      exact W.zret (v := (bI false)) hx hb hr (nar_bI false) (fun t ht hW => ⟨⟨_, (), rfl, ⟨false, rfl, h⟩, by rw [ht]; exact hP, va_K.moved hW.alike hK, hD⟩, hS.F ht⟩) hS.2.2 dX11_isPurse_15
    · have h := h.2 c1
      refine lv_iload_n hx hb dX11_isPurse_4 rfl (lv_at hl 0 rfl) ?_
      refine lv_bipush (v := (7)) hx hb dX11_isPurse_5 (by decide) ?_
      refine lv_icmp_gt (tgt := 14) hx hb dX11_isPurse_7 (by decide) (fun c2 => ?_) (fun c2 => ?_)
      · have h := h.1 c2
        refine lv_iconst (v := 0) hx hb dX11_isPurse_14 (by decide) ?_
        exact W.zret (v := (bI false)) hx hb hr (nar_bI false) (fun t ht hW => ⟨⟨_, (), rfl, ⟨false, rfl, h⟩, by rw [ht]; exact hP, va_K.moved hW.alike hK, hD⟩, hS.F ht⟩) hS.2.2 dX11_isPurse_15
      · have h := h.2 c2
        refine lv_iconst (v := 1) hx hb dX11_isPurse_10 (by decide) ?_
        refine lv_goto (tgt := 15) hx hb dX11_isPurse_11 (by decide) ?_
        exact W.zret (v := (bI true)) hx hb hr (nar_bI true) (fun t ht hW => ⟨⟨_, (), rfl, ⟨true, rfl, h⟩, by rw [ht]; exact hP, va_K.moved hW.alike hK, hD⟩, hS.F ht⟩) hS.2.2 dX11_isPurse_15
  have hl := lv_entry ([.int p1]) (n := 1) (Nat.le_of_ble_eq_true rfl)
  rw [lg_entry_eq]
  generalize (lg_sl ([.int p1]) ++ List.replicate (1 - (lg_sl ([.int p1])).length) Slot.unset).toArray = ls at hl ⊢
  have hl : lv_has ls 1 [(0, .int p1)] := hl
  exact bE  s.heap [] ls hP hD hS hl h
def wX7_nameAmong_105 (B17 : Nat → Int32 → Int32 → Int32 → gS → gS → Prop) (Q : Int32 → gS → gS → Prop) (y1 : Nat) (y2 : Int32) (y3 : Int32) (y4 : Int32) (M0 : gS) (M1 : gS) : Prop :=
 (∀ x1 : Int32, x1 = y4 + (1 : Int32) → (B17 y1 y2 y3 x1 M0 M1))
def wX7_nameAmong_103 (B17 : Nat → Int32 → Int32 → Int32 → gS → gS → Prop) (Q : Int32 → gS → gS → Prop) (y1 : Nat) (y2 : Int32) (y4 : Int32) (M0 : gS) (M1 : gS) : Prop :=
 (wX7_nameAmong_105 B17 Q y1 y2 (-1 : Int32) y4 M0 M1)
def wX7_nameAmong_17  (Q : Int32 → gS → gS → Prop) : Nat → Nat → Int32 → Int32 → Int32 → gS → gS → Prop
 | 0, _, _, _, _, _, _ => False
 | n + 1, y1, y2, y3, y4, M0, M1 => (y1 < 6 ∧ (((nI (sLen.getD y1 0)) ≤ y4 → ((y3 = ((mg M0 3) - (mg M0 2)) → (Q y2 M0 M1))
 ∧ (¬ y3 = ((mg M0 3) - (mg M0 2)) → (Q (-1 : Int32) M0 M1))))
 ∧ (¬ (nI (sLen.getD y1 0)) ≤ y4 → (y1 < 6 ∧ ∃ k5 : Nat, k5 < sLen.getD y1 0 ∧ y4 = nI k5 ∧ (((sCh y1 k5) = (32 : Int32) → ((y3 = ((mg M0 3) - (mg M0 2)) → (Q y2 M0 M1))
 ∧ (¬ y3 = ((mg M0 3) - (mg M0 2)) → (∀ x14 : Int32, x14 = y2 + (1 : Int32) → (wX7_nameAmong_105 (fun (y1 : Nat) (y2 : Int32) (y3 : Int32) (y4 : Int32) (M0 : gS) (M1 : gS) => wX7_nameAmong_17  Q n y1 y2 y3 y4 M0 M1) Q y1 x14 (0 : Int32) y4 M0 M1)))))
 ∧ (¬ (sCh y1 k5) = (32 : Int32) → ((y3 < 0 → (wX7_nameAmong_103 (fun (y1 : Nat) (y2 : Int32) (y3 : Int32) (y4 : Int32) (M0 : gS) (M1 : gS) => wX7_nameAmong_17  Q n y1 y2 y3 y4 M0 M1) Q y1 y2 y4 M0 M1))
 ∧ (¬ y3 < 0 → (((mg M0 3) ≤ ((mg M0 2) + y3) → (wX7_nameAmong_103 (fun (y1 : Nat) (y2 : Int32) (y3 : Int32) (y4 : Int32) (M0 : gS) (M1 : gS) => wX7_nameAmong_17  Q n y1 y2 y3 y4 M0 M1) Q y1 y2 y4 M0 M1))
 ∧ (¬ (mg M0 3) ≤ ((mg M0 2) + y3) → (vp_in ((mg M0 2) + y3) 400 ∧ (y1 < 6 ∧ ∃ k10 : Nat, k10 < sLen.getD y1 0 ∧ y4 = nI k10 ∧ (((ma M1 0 (Int32.toNatClampNeg ((mg M0 2) + y3))) = (sCh y1 k10) → (∀ x12 : Int32, x12 = y3 + (1 : Int32) → (wX7_nameAmong_105 (fun (y1 : Nat) (y2 : Int32) (y3 : Int32) (y4 : Int32) (M0 : gS) (M1 : gS) => wX7_nameAmong_17  Q n y1 y2 y3 y4 M0 M1) Q y1 y2 x12 y4 M0 M1)))
 ∧ (¬ (ma M1 0 (Int32.toNatClampNeg ((mg M0 2) + y3))) = (sCh y1 k10) → (wX7_nameAmong_103 (fun (y1 : Nat) (y2 : Int32) (y3 : Int32) (y4 : Int32) (M0 : gS) (M1 : gS) => wX7_nameAmong_17  Q n y1 y2 y3 y4 M0 M1) Q y1 y2 y4 M0 M1)))))))))))))))
def wX7_nameAmong (p1 : Nat) (M0 : gS) (M1 : gS) (Q : Int32 → gS → gS → Prop) : Prop :=
 (((mg M0 4) = (1 : Int32) → (∃ k17 : Nat, wX7_nameAmong_17  Q k17 p1 (0 : Int32) (0 : Int32) (0 : Int32) M0 M1))
 ∧ (¬ (mg M0 4) = (1 : Int32) → (Q (-1 : Int32) M0 M1)))
def rmX7_nameAmong : Room := { frames := 4, cells := 0, slots := 0, locals := 85 }
set_option maxHeartbeats 4000000 in
set_option maxRecDepth 100000 in
theorem kX7_nameAmong (l : Launch) (dC : Nat → ClassId) (dI : Nat → Nat → Nat) (cB cI cJ cZ : ClassId) (adK adV : Nat → Nat) (h0 : Nat) (a0 : Nat → Nat) (sz : Nat) (p1 : Nat) (M0 : gS) (M1 : gS) (Q : Int32 → gS → gS → Prop) (h : wX7_nameAmong p1 M0 M1 Q) : Met l yX7_nameAmong wsX7_nameAmong rmX7_nameAmong (va_Pc [.ref h0, .ref (adK p1)] (rdIS dC dI cB cI cJ cZ h0 a0 M0 M1 adK adV sz)) (va_Qi (fun (r : Int32) (u : gS × gS) => Q r u.1 u.2) (rdB dC dI cB cI cJ cZ h0 a0 (va_A (rdW cB cI cJ cZ h0 a0 M0 M1) sz)) (va_A (rdW cB cI cJ cZ h0 a0 M0 M1) sz)) 0 0 (va_A (rdW cB cI cJ cZ h0 a0 M0 M1) sz) := by
  refine Met.ofW (cc := cX7_nameAmong) (maxL := 5) (ret := (some .int)) (by decide) rfl ?_
  intro p e s m args below meth c s₁ B hml hv
  obtain ⟨rfl, ⟨hsz, hP, hK, hD0⟩, hR, hE⟩ := hv
  have hx := B.exec
  have hb := B.bytes
  have hr := B.returns
  have hts := atoms_spec (ws := wsX7_nameAmong) B.pre
  have hown : s.vm.findClass RX7 = some m.cls := findClass_of_methodNamed B.named
  have hlocks := B.notSynchronized
  subst hsz
  have hD := hD0.self (sz := s.heap.size)
  generalize hAe : va_A (rdW cB cI cJ cZ h0 a0 M0 M1) s.heap.size = A at hD hE ⊢
  have hA : ∀ q : Nat, s.heap.size ≤ q → A q := fun q h => by rw [← hAe]; exact Or.inr h
  have hS : va_S A s.heap s.heap [] := va_S.rf
  have hinX7 : ∀ w ∈ wsX70, w ∈ wsX7_nameAmong := by decide +kernel
  have f1 := hts (.fieldLink RX7 25 "LastWords$Reader" "stop" "I") (by decide +kernel)
  have f2 := hts (.fieldLink RX7 28 "LastWords$Reader" "start" "I") (by decide +kernel)
  have f3 := hts (.fieldLink RX7 9 "LastWords$Reader" "text" "[I") (by decide +kernel)
  have f4 := hts (.fieldLink RX7 31 "LastWords$Reader" "kind" "I") (by decide +kernel)
  have b105 : ∀ (B17 : Nat → Int32 → Int32 → Int32 → gS → gS → Prop) (hB17 : ∀ (y1 : Nat) (y2 : Int32) (y3 : Int32) (y4 : Int32) (M0 : gS) (M1 : gS) (H : Heap) (locs : List Loc) (ls : Array Slot), va_P (dC, dI) vwCl (rdW cB cI cJ cZ h0 a0 M0 M1) H → va_D A (rdW cB cI cJ cZ h0 a0 M0 M1) → va_S A s.heap H locs → lv_has ls 5 [(0, .ref h0), (1, .ref (adK y1)), (2, .int y2), (3, .int y3), (4, .int y4)] → B17 y1 y2 y3 y4 M0 M1 → W p l e (headSpec wsX7_nameAmong rmX7_nameAmong).room s m ([.ref h0, .ref (adK p1)] : List Value).toArray below meth c H locs 0 0 (MQ below (va_Qi (fun (r : Int32) (u : gS × gS) => Q r u.1 u.2) (rdB dC dI cB cI cJ cZ h0 a0 A) A) ([.ref h0, .ref (adK p1)] : List Value).toArray s 0 0 A) (F0 m 17 ls [])) (y1 : Nat) (y2 : Int32) (y3 : Int32) (y4 : Int32) (M0 : gS) (M1 : gS) (H : Heap) (locs : List Loc) (ls : Array Slot), va_P (dC, dI) vwCl (rdW cB cI cJ cZ h0 a0 M0 M1) H → va_D A (rdW cB cI cJ cZ h0 a0 M0 M1) → va_S A s.heap H locs → lv_has ls 5 [(0, .ref h0), (1, .ref (adK y1)), (2, .int y2), (3, .int y3), (4, .int y4)] → wX7_nameAmong_105 B17 Q y1 y2 y3 y4 M0 M1 → W p l e (headSpec wsX7_nameAmong rmX7_nameAmong).room s m ([.ref h0, .ref (adK p1)] : List Value).toArray below meth c H locs 0 0 (MQ below (va_Qi (fun (r : Int32) (u : gS × gS) => Q r u.1 u.2) (rdB dC dI cB cI cJ cZ h0 a0 A) A) ([.ref h0, .ref (adK p1)] : List Value).toArray s 0 0 A) (F0 m 105 ls []) := by
    intro B17 hB17 y1 y2 y3 y4 M0 M1 H locs ls hP hD hS hl h
    unfold wX7_nameAmong_105 at h
    obtain ⟨x1, ex1⟩ : ∃ y : Int32, y = y4 + (1 : Int32) := ⟨_, rfl⟩
    have h := h x1 ex1
    refine lv_iinc (v := x1) (lv' := [(4, .int x1), (0, .ref h0), (1, .ref (adK y1)), (2, .int y2), (3, .int y3)]) hx hb dX7_nameAmong_105 hl (k := 4) rfl (by rw [ex1]; rfl) (by decide) rfl (fun ls hl => ?_)
    refine lv_goto (tgt := 17) hx hb dX7_nameAmong_108 (by decide) ?_
    exact hB17 y1 y2 y3 x1 M0 M1 H locs ls hP hD hS (lv_sub hl [1, 2, 3, 4, 0] rfl) h
  have b103 : ∀ (B17 : Nat → Int32 → Int32 → Int32 → gS → gS → Prop) (hB17 : ∀ (y1 : Nat) (y2 : Int32) (y3 : Int32) (y4 : Int32) (M0 : gS) (M1 : gS) (H : Heap) (locs : List Loc) (ls : Array Slot), va_P (dC, dI) vwCl (rdW cB cI cJ cZ h0 a0 M0 M1) H → va_D A (rdW cB cI cJ cZ h0 a0 M0 M1) → va_S A s.heap H locs → lv_has ls 5 [(0, .ref h0), (1, .ref (adK y1)), (2, .int y2), (3, .int y3), (4, .int y4)] → B17 y1 y2 y3 y4 M0 M1 → W p l e (headSpec wsX7_nameAmong rmX7_nameAmong).room s m ([.ref h0, .ref (adK p1)] : List Value).toArray below meth c H locs 0 0 (MQ below (va_Qi (fun (r : Int32) (u : gS × gS) => Q r u.1 u.2) (rdB dC dI cB cI cJ cZ h0 a0 A) A) ([.ref h0, .ref (adK p1)] : List Value).toArray s 0 0 A) (F0 m 17 ls [])) (y1 : Nat) (y2 : Int32) (y4 : Int32) (M0 : gS) (M1 : gS) (H : Heap) (locs : List Loc) (ls : Array Slot), va_P (dC, dI) vwCl (rdW cB cI cJ cZ h0 a0 M0 M1) H → va_D A (rdW cB cI cJ cZ h0 a0 M0 M1) → va_S A s.heap H locs → lv_has ls 5 [(0, .ref h0), (1, .ref (adK y1)), (2, .int y2), (4, .int y4)] → wX7_nameAmong_103 B17 Q y1 y2 y4 M0 M1 → W p l e (headSpec wsX7_nameAmong rmX7_nameAmong).room s m ([.ref h0, .ref (adK p1)] : List Value).toArray below meth c H locs 0 0 (MQ below (va_Qi (fun (r : Int32) (u : gS × gS) => Q r u.1 u.2) (rdB dC dI cB cI cJ cZ h0 a0 A) A) ([.ref h0, .ref (adK p1)] : List Value).toArray s 0 0 A) (F0 m 103 ls []) := by
    intro B17 hB17 y1 y2 y4 M0 M1 H locs ls hP hD hS hl h
    unfold wX7_nameAmong_103 at h
    refine lv_iconst (v := (-1)) hx hb dX7_nameAmong_103 (by decide) ?_
    refine lv_istore_n (lv' := [(3, .int (-1 : Int32)), (0, .ref h0), (1, .ref (adK y1)), (2, .int y2), (4, .int y4)]) hx hb dX7_nameAmong_104 rfl hl (by decide) rfl (fun ls hl => ?_)
    exact b105 _ hB17 y1 y2 (-1 : Int32) y4 M0 M1 H locs ls hP hD hS (lv_sub hl [1, 2, 3, 0, 4] rfl) h
  have b17 : ∀ (n : Nat) (y1 : Nat) (y2 : Int32) (y3 : Int32) (y4 : Int32) (M0 : gS) (M1 : gS) (H : Heap) (locs : List Loc) (ls : Array Slot), va_P (dC, dI) vwCl (rdW cB cI cJ cZ h0 a0 M0 M1) H → va_D A (rdW cB cI cJ cZ h0 a0 M0 M1) → va_S A s.heap H locs → lv_has ls 5 [(0, .ref h0), (1, .ref (adK y1)), (2, .int y2), (3, .int y3), (4, .int y4)] → wX7_nameAmong_17  Q n y1 y2 y3 y4 M0 M1 → W p l e (headSpec wsX7_nameAmong rmX7_nameAmong).room s m ([.ref h0, .ref (adK p1)] : List Value).toArray below meth c H locs 0 0 (MQ below (va_Qi (fun (r : Int32) (u : gS × gS) => Q r u.1 u.2) (rdB dC dI cB cI cJ cZ h0 a0 A) A) ([.ref h0, .ref (adK p1)] : List Value).toArray s 0 0 A) (F0 m 17 ls []) := by
    intro  n
    induction n with
    | zero => intro y1 y2 y3 y4 M0 M1 H locs ls hP hD hS hl h; exact absurd h (by simp [wX7_nameAmong_17])
    | succ n hB170 =>
      intro y1 y2 y3 y4 M0 M1 H locs ls hP hD hS hl h
      have hB17 := hB170
      rw [wX7_nameAmong_17] at h
      refine lv_iload hx hb dX7_nameAmong_17 (lv_at hl 4 rfl) ?_
      refine lv_aload_n hx hb dX7_nameAmong_19 rfl (lv_at hl 1 rfl) ?_
      obtain ⟨hi9, h⟩ := h
      have hFc := zFree (cB := cB) (cI := cI) (cJ := cJ) (cZ := cZ) hS hA
      refine va_calli (va_runV (As := []) (rest := [.int y4]) ⟨hx, hb, hml, hown, hts⟩ (kJ0_length l dC dI cB cI cJ cZ adK adV H.size y1 hi9) (cwV 0 hts gX7_nameAmong_J0_length_8abf5 rfl rfl rfl (by decide +kernel) ⟨Nat.le_of_ble_eq_true rfl, Nat.le_of_ble_eq_true rfl⟩) (zpV hi9 hK hE hS hA) rfl rfl hl.1 rfl (lv_room (Nat.le_of_ble_eq_true rfl)) dX7_nameAmong_20 ⟨Nat.le_of_ble_eq_true rfl, Nat.le_of_ble_eq_true rfl⟩) hS (fun q _ z => hFc q z) hFc (fun r1 u t H1 locs ht hvm hw hB hz1 hk1 hS => ?_)
      have hw : r1 = (nI (sLen.getD y1 0)) := hw
      subst hw
      obtain ⟨hP1, hK1, hD1⟩ := hB
      rw [ht] at hP1
      obtain ⟨hP, hD⟩ := va_join (wr := (rdW cB cI cJ cZ h0 a0 M0 M1)) (w1 := e0W cB cI cJ cZ) hP hD [] [0, 1] rfl rfl (by decide) (by decide) hk1 hFc hP1 hD1
      have hP := hP.sub (ws' := (rdW cB cI cJ cZ h0 a0 M0 M1)) [0, 1] rfl
      have hD := hD.sub (ws' := (rdW cB cI cJ cZ h0 a0 M0 M1)) [0, 1] (by decide) rfl
      generalize H1 = H at hP hS ⊢
      refine lv_icmp_ge (tgt := 111) hx hb dX7_nameAmong_23 (by decide) (fun c2 => ?_) (fun c2 => ?_)
      · have h := h.1 c2
        refine lv_iload_n hx hb dX7_nameAmong_111 rfl (lv_at hl 3 rfl) ?_
        refine lv_aload_n hx hb dX7_nameAmong_112 rfl (lv_at hl 0 rfl) ?_
        refine va_get (D := (dC, dI)) (ci := 7) (v := .int (mg M0 3)) (C := RX7) (T := TX7) (N := 8) hx hb hts hinX7 hown hK hP 0 rfl rfl 3 (by decide) f1 (fun _ h9 => h9) rfl dX7_nameAmong_113 ?_
        refine lv_aload_n hx hb dX7_nameAmong_116 rfl (lv_at hl 0 rfl) ?_
        refine va_get (D := (dC, dI)) (ci := 7) (v := .int (mg M0 2)) (C := RX7) (T := TX7) (N := 8) hx hb hts hinX7 hown hK hP 0 rfl rfl 2 (by decide) f2 (fun _ h9 => h9) rfl dX7_nameAmong_117 ?_
        refine lv_isub hx hb dX7_nameAmong_120 ?_
        refine lv_icmp_ne (tgt := 128) hx hb dX7_nameAmong_121 (by decide) (fun c3 => ?_) (fun c3 => ?_)
        · have h := h.2 c3
          refine lv_iconst (v := (-1)) hx hb dX7_nameAmong_128 (by decide) ?_
          exact W.iret (v := (-1 : Int32)) hx hb hr (fun t ht hW => ⟨⟨_, (M0, M1), rfl, h, by rw [ht]; exact hP, va_K.moved hW.alike hK, hD⟩, hS.F ht⟩) hS.2.2 dX7_nameAmong_129
        · have h := h.1 c3
          refine lv_iload_n hx hb dX7_nameAmong_124 rfl (lv_at hl 2 rfl) ?_
          refine lv_goto (tgt := 129) hx hb dX7_nameAmong_125 (by decide) ?_
          exact W.iret (v := y2) hx hb hr (fun t ht hW => ⟨⟨_, (M0, M1), rfl, h, by rw [ht]; exact hP, va_K.moved hW.alike hK, hD⟩, hS.F ht⟩) hS.2.2 dX7_nameAmong_129
      · have h := h.2 c2
        refine lv_aload_n hx hb dX7_nameAmong_26 rfl (lv_at hl 1 rfl) ?_
        refine lv_iload hx hb dX7_nameAmong_27 (lv_at hl 4 rfl) ?_
        obtain ⟨hi9, k5, hk9, ek9, h⟩ := h
        have hFc := zFree (cB := cB) (cI := cI) (cJ := cJ) (cZ := cZ) hS hA
        refine va_calli (va_runV (As := [.int y4]) (rest := []) ⟨hx, hb, hml, hown, hts⟩ (kJ0_charAtX l dC dI cB cI cJ cZ adK adV H.size y1 k5 y4 ek9 hi9 hk9) (cwV 1 hts gX7_nameAmong_J0_charAt_5068e rfl rfl rfl (by decide +kernel) ⟨Nat.le_of_ble_eq_true rfl, Nat.le_of_ble_eq_true rfl⟩) (zpV hi9 hK hE hS hA) rfl rfl hl.1 rfl (lv_room (Nat.le_of_ble_eq_true rfl)) dX7_nameAmong_29 ⟨Nat.le_of_ble_eq_true rfl, Nat.le_of_ble_eq_true rfl⟩) hS (fun q _ z => hFc q z) hFc (fun r4 u t H1 locs ht hvm hw hB hz1 hk1 hS => ?_)
        have hw : r4 = (sCh y1 k5) := hw
        subst hw
        obtain ⟨hP1, hK1, hD1⟩ := hB
        rw [ht] at hP1
        obtain ⟨hP, hD⟩ := va_join (wr := (rdW cB cI cJ cZ h0 a0 M0 M1)) (w1 := e0W cB cI cJ cZ) hP hD [] [0, 1] rfl rfl (by decide) (by decide) hk1 hFc hP1 hD1
        have hP := hP.sub (ws' := (rdW cB cI cJ cZ h0 a0 M0 M1)) [0, 1] rfl
        have hD := hD.sub (ws' := (rdW cB cI cJ cZ h0 a0 M0 M1)) [0, 1] (by decide) rfl
        generalize H1 = H at hP hS ⊢
        refine lv_bipush (v := (32)) hx hb dX7_nameAmong_32 (by decide) ?_
        refine lv_icmp_ne (tgt := 60) hx hb dX7_nameAmong_34 (by decide) (fun c6 => ?_) (fun c6 => ?_)
        · have h := h.2 c6
          refine lv_iload_n hx hb dX7_nameAmong_60 rfl (lv_at hl 3 rfl) ?_
          refine lv_if_lt (tgt := 103) hx hb dX7_nameAmong_61 (by decide) (fun c7 => ?_) (fun c7 => ?_)
          · have h := h.1 c7
            exact b103 _ hB17 y1 y2 y4 M0 M1 H locs ls hP hD hS (lv_sub hl [0, 1, 2, 4] rfl) h
          · have h := h.2 c7
            refine lv_aload_n hx hb dX7_nameAmong_64 rfl (lv_at hl 0 rfl) ?_
            refine va_get (D := (dC, dI)) (ci := 7) (v := .int (mg M0 2)) (C := RX7) (T := TX7) (N := 8) hx hb hts hinX7 hown hK hP 0 rfl rfl 2 (by decide) f2 (fun _ h9 => h9) rfl dX7_nameAmong_65 ?_
            refine lv_iload_n hx hb dX7_nameAmong_68 rfl (lv_at hl 3 rfl) ?_
            refine lv_iadd hx hb dX7_nameAmong_69 ?_
            refine lv_aload_n hx hb dX7_nameAmong_70 rfl (lv_at hl 0 rfl) ?_
            refine va_get (D := (dC, dI)) (ci := 7) (v := .int (mg M0 3)) (C := RX7) (T := TX7) (N := 8) hx hb hts hinX7 hown hK hP 0 rfl rfl 3 (by decide) f1 (fun _ h9 => h9) rfl dX7_nameAmong_71 ?_
            refine lv_icmp_ge (tgt := 103) hx hb dX7_nameAmong_74 (by decide) (fun c8 => ?_) (fun c8 => ?_)
            · have h := h.1 c8
              exact b103 _ hB17 y1 y2 y4 M0 M1 H locs ls hP hD hS (lv_sub hl [0, 1, 2, 4] rfl) h
            · have h := h.2 c8
              refine lv_aload_n hx hb dX7_nameAmong_77 rfl (lv_at hl 0 rfl) ?_
              refine va_get (D := (dC, dI)) (ci := 7) (v := .ref (a0 0)) (C := RX7) (T := TX7) (N := 8) hx hb hts hinX7 hown hK hP 0 rfl rfl 0 (by decide) f3 (fun _ h9 => h9) rfl dX7_nameAmong_78 ?_
              refine lv_aload_n hx hb dX7_nameAmong_81 rfl (lv_at hl 0 rfl) ?_
              refine va_get (D := (dC, dI)) (ci := 7) (v := .int (mg M0 2)) (C := RX7) (T := TX7) (N := 8) hx hb hts hinX7 hown hK hP 0 rfl rfl 2 (by decide) f2 (fun _ h9 => h9) rfl dX7_nameAmong_82 ?_
              refine lv_iload_n hx hb dX7_nameAmong_85 rfl (lv_at hl 3 rfl) ?_
              refine lv_iadd hx hb dX7_nameAmong_86 ?_
              refine va_iald hx hb hK hP 1 1 (f := ma M1 0) rfl rfl h.1 dX7_nameAmong_87 ?_
              have h := h.2
              refine lv_aload_n hx hb dX7_nameAmong_88 rfl (lv_at hl 1 rfl) ?_
              refine lv_iload hx hb dX7_nameAmong_89 (lv_at hl 4 rfl) ?_
              obtain ⟨hi9, k10, hk9, ek9, h⟩ := h
              have hFc := zFree (cB := cB) (cI := cI) (cJ := cJ) (cZ := cZ) hS hA
              refine va_calli (va_runV (As := [.int y4]) (rest := [.int (ma M1 0 (Int32.toNatClampNeg ((mg M0 2) + y3)))]) ⟨hx, hb, hml, hown, hts⟩ (kJ0_charAtX l dC dI cB cI cJ cZ adK adV H.size y1 k10 y4 ek9 hi9 hk9) (cwV 1 hts gX7_nameAmong_J0_charAt_5068e rfl rfl rfl (by decide +kernel) ⟨Nat.le_of_ble_eq_true rfl, Nat.le_of_ble_eq_true rfl⟩) (zpV hi9 hK hE hS hA) rfl rfl hl.1 rfl (lv_room (Nat.le_of_ble_eq_true rfl)) dX7_nameAmong_91 ⟨Nat.le_of_ble_eq_true rfl, Nat.le_of_ble_eq_true rfl⟩) hS (fun q _ z => hFc q z) hFc (fun r9 u t H1 locs ht hvm hw hB hz1 hk1 hS => ?_)
              have hw : r9 = (sCh y1 k10) := hw
              subst hw
              obtain ⟨hP1, hK1, hD1⟩ := hB
              rw [ht] at hP1
              obtain ⟨hP, hD⟩ := va_join (wr := (rdW cB cI cJ cZ h0 a0 M0 M1)) (w1 := e0W cB cI cJ cZ) hP hD [] [0, 1] rfl rfl (by decide) (by decide) hk1 hFc hP1 hD1
              have hP := hP.sub (ws' := (rdW cB cI cJ cZ h0 a0 M0 M1)) [0, 1] rfl
              have hD := hD.sub (ws' := (rdW cB cI cJ cZ h0 a0 M0 M1)) [0, 1] (by decide) rfl
              generalize H1 = H at hP hS ⊢
              refine lv_icmp_ne (tgt := 103) hx hb dX7_nameAmong_94 (by decide) (fun c11 => ?_) (fun c11 => ?_)
              · have h := h.2 c11
                exact b103 _ hB17 y1 y2 y4 M0 M1 H locs ls hP hD hS (lv_sub hl [0, 1, 2, 4] rfl) h
              · have h := h.1 c11
                obtain ⟨x12, ex12⟩ : ∃ y : Int32, y = y3 + (1 : Int32) := ⟨_, rfl⟩
                have h := h x12 ex12
                refine lv_iinc (v := x12) (lv' := [(3, .int x12), (0, .ref h0), (1, .ref (adK y1)), (2, .int y2), (4, .int y4)]) hx hb dX7_nameAmong_97 hl (k := 3) rfl (by rw [ex12]; rfl) (by decide) rfl (fun ls hl => ?_)
                refine lv_goto (tgt := 105) hx hb dX7_nameAmong_100 (by decide) ?_
                exact b105 _ hB17 y1 y2 x12 y4 M0 M1 H locs ls hP hD hS (lv_sub hl [1, 2, 3, 0, 4] rfl) h
        · have h := h.1 c6
          refine lv_iload_n hx hb dX7_nameAmong_37 rfl (lv_at hl 3 rfl) ?_
          refine lv_aload_n hx hb dX7_nameAmong_38 rfl (lv_at hl 0 rfl) ?_
          refine va_get (D := (dC, dI)) (ci := 7) (v := .int (mg M0 3)) (C := RX7) (T := TX7) (N := 8) hx hb hts hinX7 hown hK hP 0 rfl rfl 3 (by decide) f1 (fun _ h9 => h9) rfl dX7_nameAmong_39 ?_
          refine lv_aload_n hx hb dX7_nameAmong_42 rfl (lv_at hl 0 rfl) ?_
          refine va_get (D := (dC, dI)) (ci := 7) (v := .int (mg M0 2)) (C := RX7) (T := TX7) (N := 8) hx hb hts hinX7 hown hK hP 0 rfl rfl 2 (by decide) f2 (fun _ h9 => h9) rfl dX7_nameAmong_43 ?_
          refine lv_isub hx hb dX7_nameAmong_46 ?_
          refine lv_icmp_ne (tgt := 52) hx hb dX7_nameAmong_47 (by decide) (fun c13 => ?_) (fun c13 => ?_)
          · have h := h.2 c13
            obtain ⟨x14, ex14⟩ : ∃ y : Int32, y = y2 + (1 : Int32) := ⟨_, rfl⟩
            have h := h x14 ex14
            refine lv_iinc (v := x14) (lv' := [(2, .int x14), (0, .ref h0), (1, .ref (adK y1)), (3, .int y3), (4, .int y4)]) hx hb dX7_nameAmong_52 hl (k := 2) rfl (by rw [ex14]; rfl) (by decide) rfl (fun ls hl => ?_)
            refine lv_iconst (v := 0) hx hb dX7_nameAmong_55 (by decide) ?_
            refine lv_istore_n (lv' := [(3, .int (0 : Int32)), (2, .int x14), (0, .ref h0), (1, .ref (adK y1)), (4, .int y4)]) hx hb dX7_nameAmong_56 rfl hl (by decide) rfl (fun ls hl => ?_)
            refine lv_goto (tgt := 105) hx hb dX7_nameAmong_57 (by decide) ?_
            exact b105 _ hB17 y1 x14 (0 : Int32) y4 M0 M1 H locs ls hP hD hS (lv_sub hl [2, 3, 1, 0, 4] rfl) h
          · have h := h.1 c13
            refine lv_iload_n hx hb dX7_nameAmong_50 rfl (lv_at hl 2 rfl) ?_
            exact W.iret (v := y2) hx hb hr (fun t ht hW => ⟨⟨_, (M0, M1), rfl, h, by rw [ht]; exact hP, va_K.moved hW.alike hK, hD⟩, hS.F ht⟩) hS.2.2 dX7_nameAmong_51
  have bE : ∀ (M0 : gS) (M1 : gS) (H : Heap) (locs : List Loc) (ls : Array Slot), va_P (dC, dI) vwCl (rdW cB cI cJ cZ h0 a0 M0 M1) H → va_D A (rdW cB cI cJ cZ h0 a0 M0 M1) → va_S A s.heap H locs → lv_has ls 5 [(0, .ref h0), (1, .ref (adK p1))] → wX7_nameAmong p1 M0 M1 Q → W p l e (headSpec wsX7_nameAmong rmX7_nameAmong).room s m ([.ref h0, .ref (adK p1)] : List Value).toArray below meth c H locs 0 0 (MQ below (va_Qi (fun (r : Int32) (u : gS × gS) => Q r u.1 u.2) (rdB dC dI cB cI cJ cZ h0 a0 A) A) ([.ref h0, .ref (adK p1)] : List Value).toArray s 0 0 A) (F0 m 0 ls []) := by
    intro M0 M1 H locs ls hP hD hS hl h
    unfold wX7_nameAmong at h
    refine lv_aload_n hx hb dX7_nameAmong_0 rfl (lv_at hl 0 rfl) ?_
    refine va_get (D := (dC, dI)) (ci := 7) (v := .int (mg M0 4)) (C := RX7) (T := TX7) (N := 8) hx hb hts hinX7 hown hK hP 0 rfl rfl 4 (by decide) f4 (fun _ h9 => h9) rfl dX7_nameAmong_1 ?_
    refine lv_iconst (v := 1) hx hb dX7_nameAmong_4 (by decide) ?_
    refine lv_icmp_eq (tgt := 10) hx hb dX7_nameAmong_5 (by decide) (fun c1 => ?_) (fun c1 => ?_)
    · have h := h.1 c1
      refine lv_iconst (v := 0) hx hb dX7_nameAmong_10 (by decide) ?_
      refine lv_istore_n (lv' := [(2, .int (0 : Int32)), (0, .ref h0), (1, .ref (adK p1))]) hx hb dX7_nameAmong_11 rfl hl (by decide) rfl (fun ls hl => ?_)
      refine lv_iconst (v := 0) hx hb dX7_nameAmong_12 (by decide) ?_
      refine lv_istore_n (lv' := [(3, .int (0 : Int32)), (2, .int (0 : Int32)), (0, .ref h0), (1, .ref (adK p1))]) hx hb dX7_nameAmong_13 rfl hl (by decide) rfl (fun ls hl => ?_)
      refine lv_iconst (v := 0) hx hb dX7_nameAmong_14 (by decide) ?_
      refine lv_istore (lv' := [(4, .int (0 : Int32)), (3, .int (0 : Int32)), (2, .int (0 : Int32)), (0, .ref h0), (1, .ref (adK p1))]) hx hb dX7_nameAmong_15 hl (by decide) rfl (fun ls hl => ?_)
      obtain ⟨n9, h⟩ := h
      exact b17  n9 p1 (0 : Int32) (0 : Int32) (0 : Int32) M0 M1 H locs ls hP hD hS (lv_sub hl [3, 4, 2, 1, 0] rfl) h
    · have h := h.2 c1
      refine lv_iconst (v := (-1)) hx hb dX7_nameAmong_8 (by decide) ?_
      exact W.iret (v := (-1 : Int32)) hx hb hr (fun t ht hW => ⟨⟨_, (M0, M1), rfl, h, by rw [ht]; exact hP, va_K.moved hW.alike hK, hD⟩, hS.F ht⟩) hS.2.2 dX7_nameAmong_9
  have hl := lv_entry ([.ref h0, .ref (adK p1)]) (n := 5) (Nat.le_of_ble_eq_true rfl)
  rw [lg_entry_eq]
  generalize (lg_sl ([.ref h0, .ref (adK p1)]) ++ List.replicate (5 - (lg_sl ([.ref h0, .ref (adK p1)])).length) Slot.unset).toArray = ls at hl ⊢
  have hl : lv_has ls 5 [(0, .ref h0), (1, .ref (adK p1))] := hl
  exact bE M0 M1 s.heap [] ls hP hD hS hl h
def wX2_readTune_15  (Q : gS → gS → gS → gS → Prop)  (M0 : gS) (M1 : gS) (M2 : gS) (M3 : gS) : Prop :=
 (wX7_fail (4 : Int32) M1 M2 (fun (N2 : gS) (N3 : gS) => (Q M0 N2 N3 M3)))
def wX2_readTune (p1 : Int32) (M0 : gS) (M1 : gS) (M2 : gS) (M3 : gS) (Q : gS → gS → gS → gS → Prop) : Prop :=
 ((p1 = 0 → (((mg M3 0) < (4 : Int32) → (wX7_advance  M1 M2 (fun (N4 : gS) (N5 : gS) => (wX7_takeNumber (1 : Int32) (9 : Int32) N4 N5 (fun (r6 : Int32) (N7 : gS) (N8 : gS) => (wX7_takeNumber (1 : Int32) (8 : Int32) N7 N8 (fun (r9 : Int32) (N10 : gS) (N11 : gS) => (((mg N10 7) = 0 → (∀ x13 : Int32, x13 = (r6 * r9) → (vp_in (mg M3 0) 4 ∧ (∀ N14 : gS, N14 = sa M3 1 (Int32.toNatClampNeg (mg M3 0)) x13 → (∀ x15 : Int32, x15 = ((mg N14 0) + (1 : Int32)) → (∀ N16 : gS, N16 = sg N14 0 x15 → (Q M0 N10 N11 N16)))))))
 ∧ (¬ (mg N10 7) = 0 → (Q M0 N10 N11 M3))))))))))
 ∧ (¬ (mg M3 0) < (4 : Int32) → (wX2_readTune_15  Q M0 M1 M2 M3))))
 ∧ (¬ p1 = 0 → (wX2_readTune_15  Q M0 M1 M2 M3)))
def rmX2_readTune : Room := { frames := 4, cells := 0, slots := 0, locals := 83 }
set_option maxHeartbeats 4000000 in
set_option maxRecDepth 100000 in
theorem kX2_readTune (l : Launch) (dC : Nat → ClassId) (dI : Nat → Nat → Nat) (cB cI cJ cZ : ClassId) (h0 : Nat) (a0 : Nat → Nat) (a1 : Nat → Nat) (a3 : Nat → Nat) (sz : Nat) (p1 : Int32) (M0 : gS) (M1 : gS) (M2 : gS) (M3 : gS) (Q : gS → gS → gS → gS → Prop) (h : wX2_readTune p1 M0 M1 M2 M3 Q) : Met l yX2_readTune wsX2_readTune rmX2_readTune (va_Pc [.ref h0, .int p1] (crI dC dI cB cI cJ cZ h0 a0 a1 a3 M0 M1 M2 M3 sz)) (va_Qv (fun (u : gS × gS × gS × gS) => Q u.1 u.2.1 u.2.2.1 u.2.2.2) (crB dC dI cB cI cJ cZ h0 a0 a1 a3 (va_A (crW cB cI cJ cZ h0 a0 a1 a3 M0 M1 M2 M3) sz)) (va_A (crW cB cI cJ cZ h0 a0 a1 a3 M0 M1 M2 M3) sz)) 0 0 (va_A (crW cB cI cJ cZ h0 a0 a1 a3 M0 M1 M2 M3) sz) := by
  refine Met.ofW (cc := cX2_readTune) (maxL := 4) (ret := none) (by decide) rfl ?_
  intro p e s m args below meth c s₁ B hml hv
  obtain ⟨rfl, hsz, hP, hK, hD0⟩ := hv
  have hx := B.exec
  have hb := B.bytes
  have hr := B.returns
  have hts := atoms_spec (ws := wsX2_readTune) B.pre
  have hown : s.vm.findClass RX2 = some m.cls := findClass_of_methodNamed B.named
  have hlocks := B.notSynchronized
  subst hsz
  have hD := hD0.self (sz := s.heap.size)
  generalize hAe : va_A (crW cB cI cJ cZ h0 a0 a1 a3 M0 M1 M2 M3) s.heap.size = A at hD ⊢
  have hA : ∀ q : Nat, s.heap.size ≤ q → A q := fun q h => by rw [← hAe]; exact Or.inr h
  have hS : va_S A s.heap s.heap [] := va_S.rf
  have hinX1 : ∀ w ∈ wsX10, w ∈ wsX2_readTune := by decide +kernel
  have hinX2 : ∀ w ∈ wsX20, w ∈ wsX2_readTune := by decide +kernel
  have hinX7 : ∀ w ∈ wsX70, w ∈ wsX2_readTune := by decide +kernel
  have f1 := hts (.fieldLink RX2 9 "LastWords$CornerReader" "in" "LLastWords$Reader;") (by decide +kernel)
  have f2 := hts (.fieldLink RX2 15 "LastWords$CornerReader" "corner" "LLastWords$Corner;") (by decide +kernel)
  have f3 := hts (.fieldLink RX2 19 "LastWords$Corner" "tunes" "I") (by decide +kernel)
  have f4 := hts (.fieldLink RX2 58 "LastWords$Reader" "fault" "I") (by decide +kernel)
  have f5 := hts (.fieldLink RX2 82 "LastWords$Corner" "verses" "[I") (by decide +kernel)
  have b15 : ∀  (M0 : gS) (M1 : gS) (M2 : gS) (M3 : gS) (H : Heap) (locs : List Loc) (ls : Array Slot), va_P (dC, dI) vwCl (crW cB cI cJ cZ h0 a0 a1 a3 M0 M1 M2 M3) H → va_D A (crW cB cI cJ cZ h0 a0 a1 a3 M0 M1 M2 M3) → va_S A s.heap H locs → lv_has ls 4 [(0, .ref h0)] → wX2_readTune_15  Q M0 M1 M2 M3 → W p l e (headSpec wsX2_readTune rmX2_readTune).room s m ([.ref h0, .int p1] : List Value).toArray below meth c H locs 0 0 (MQ below (va_Qv (fun (u : gS × gS × gS × gS) => Q u.1 u.2.1 u.2.2.1 u.2.2.2) (crB dC dI cB cI cJ cZ h0 a0 a1 a3 A) A) ([.ref h0, .int p1] : List Value).toArray s 0 0 A) (F0 m 15 ls []) := by
    intro  M0 M1 M2 M3 H locs ls hP hD hS hl h
    unfold wX2_readTune_15 at h
    refine lv_aload_n hx hb dX2_readTune_15 rfl (lv_at hl 0 rfl) ?_
    refine va_get (D := (dC, dI)) (ci := 2) (v := .ref (a0 0)) (C := RX2) (T := TX2) (N := 2) hx hb hts hinX2 hown hK hP 0 rfl rfl 0 (by decide) f1 (fun _ h9 => h9) rfl dX2_readTune_16 ?_
    refine lv_iconst (v := 4) hx hb dX2_readTune_19 (by decide) ?_
    have hPc := hP.sub (ws' := (rdW cB cI cJ cZ (a0 0) a1 M1 M2)) [1, 2] rfl
    have hDc := hD.sub (ws' := (rdW cB cI cJ cZ (a0 0) a1 M1 M2)) [1, 2] (by decide) rfl
    have hFc := va_free (wc := (rdW cB cI cJ cZ (a0 0) a1 M1 M2)) hD hS hA [1, 2] rfl
    refine va_callv (va_runV (As := [.int (4 : Int32)]) (rest := []) ⟨hx, hb, hml, hown, hts⟩ (kX7_fail l dC dI cB cI cJ cZ (a0 0) a1 H.size (4 : Int32) M1 M2 _ h) (cwV 1 hts gX2_readTune_X7_fail rfl rfl rfl (by decide +kernel) ⟨Nat.le_of_ble_eq_true rfl, Nat.le_of_ble_eq_true rfl⟩) (rdpV hK hPc hDc) rfl rfl hl.1 rfl (lv_room (Nat.le_of_ble_eq_true rfl)) dX2_readTune_20 ⟨Nat.le_of_ble_eq_true rfl, Nat.le_of_ble_eq_true rfl⟩) hS (fun q _ z => hFc q z) hFc (fun u t H1 locs ht hvm hw hB hz1 hk1 hS => ?_)
    obtain ⟨N2, N3⟩ := u
    obtain ⟨hP1, hK1, hD1⟩ := hB
    rw [ht] at hP1
    obtain ⟨hP, hD⟩ := va_join (wr := [(h0, .inr (2, [.ref (a0 0), .ref (a0 1)])), (a0 1, .inr (1, [.int (mg M3 0), .ref (a3 1), .int (mg M3 2), .ref (a3 3), .int (mg M3 4), .ref (a3 5)])), (a3 1, .inl (cI, 4, .inl (ma M3 1))), (a3 3, .inl (cI, 4, .inl (ma M3 3))), (a3 5, .inl (cI, 2, .inl (ma M3 5)))]) (w1 := (rdW cB cI cJ cZ (a0 0) a1 N2 N3)) hP hD [1, 2] [0, 3, 4, 5, 6] rfl rfl (by decide) (by decide) hk1 hFc hP1 hD1
    have hP := hP.sub (ws' := (crW cB cI cJ cZ h0 a0 a1 a3 M0 N2 N3 M3)) [0, 5, 6, 1, 2, 3, 4] rfl
    have hD := hD.sub (ws' := (crW cB cI cJ cZ h0 a0 a1 a3 M0 N2 N3 M3)) [0, 5, 6, 1, 2, 3, 4] (by decide) rfl
    generalize H1 = H at hP hS ⊢
    have h := hw
    try dsimp only at h
    exact W.vret hx hb hr (fun t ht hW => ⟨⟨(M0, N2, N3, M3), rfl, h, by rw [ht]; exact hP, va_K.moved hW.alike hK, hD⟩, hS.F ht⟩) hS.2.2 dX2_readTune_23
  have bE : ∀ (M0 : gS) (M1 : gS) (M2 : gS) (M3 : gS) (H : Heap) (locs : List Loc) (ls : Array Slot), va_P (dC, dI) vwCl (crW cB cI cJ cZ h0 a0 a1 a3 M0 M1 M2 M3) H → va_D A (crW cB cI cJ cZ h0 a0 a1 a3 M0 M1 M2 M3) → va_S A s.heap H locs → lv_has ls 4 [(0, .ref h0), (1, .int p1)] → wX2_readTune p1 M0 M1 M2 M3 Q → W p l e (headSpec wsX2_readTune rmX2_readTune).room s m ([.ref h0, .int p1] : List Value).toArray below meth c H locs 0 0 (MQ below (va_Qv (fun (u : gS × gS × gS × gS) => Q u.1 u.2.1 u.2.2.1 u.2.2.2) (crB dC dI cB cI cJ cZ h0 a0 a1 a3 A) A) ([.ref h0, .int p1] : List Value).toArray s 0 0 A) (F0 m 0 ls []) := by
    intro M0 M1 M2 M3 H locs ls hP hD hS hl h
    unfold wX2_readTune at h
    refine lv_iload_n hx hb dX2_readTune_0 rfl (lv_at hl 1 rfl) ?_
    refine lv_if_ne (tgt := 15) hx hb dX2_readTune_1 (by decide) (fun c1 => ?_) (fun c1 => ?_)
    · have h := h.2 c1
      exact b15  M0 M1 M2 M3 H locs ls hP hD hS (lv_sub hl [0] rfl) h
    · have h := h.1 c1
      refine lv_aload_n hx hb dX2_readTune_4 rfl (lv_at hl 0 rfl) ?_
      refine va_get (D := (dC, dI)) (ci := 2) (v := .ref (a0 1)) (C := RX2) (T := TX2) (N := 2) hx hb hts hinX2 hown hK hP 0 rfl rfl 1 (by decide) f2 (fun _ h9 => h9) rfl dX2_readTune_5 ?_
      refine va_get (D := (dC, dI)) (ci := 1) (v := .int (mg M3 0)) (C := RX1) (T := TX1) (N := 6) hx hb hts hinX1 hown hK hP 3 rfl rfl 0 (by decide) f3 (fun _ h9 => h9) rfl dX2_readTune_8 ?_
      refine lv_iconst (v := 4) hx hb dX2_readTune_11 (by decide) ?_
      refine lv_icmp_lt (tgt := 24) hx hb dX2_readTune_12 (by decide) (fun c2 => ?_) (fun c2 => ?_)
      · have h := h.1 c2
        refine lv_aload_n hx hb dX2_readTune_24 rfl (lv_at hl 0 rfl) ?_
        refine va_get (D := (dC, dI)) (ci := 2) (v := .ref (a0 0)) (C := RX2) (T := TX2) (N := 2) hx hb hts hinX2 hown hK hP 0 rfl rfl 0 (by decide) f1 (fun _ h9 => h9) rfl dX2_readTune_25 ?_
        have hPc := hP.sub (ws' := (rdW cB cI cJ cZ (a0 0) a1 M1 M2)) [1, 2] rfl
        have hDc := hD.sub (ws' := (rdW cB cI cJ cZ (a0 0) a1 M1 M2)) [1, 2] (by decide) rfl
        have hFc := va_free (wc := (rdW cB cI cJ cZ (a0 0) a1 M1 M2)) hD hS hA [1, 2] rfl
        refine va_callv (va_runV (As := []) (rest := []) ⟨hx, hb, hml, hown, hts⟩ (kX7_advance l dC dI cB cI cJ cZ (a0 0) a1 H.size  M1 M2 _ h) (cwV 0 hts gX2_readTune_X7_advance rfl rfl rfl (by decide +kernel) ⟨Nat.le_of_ble_eq_true rfl, Nat.le_of_ble_eq_true rfl⟩) (rdpV hK hPc hDc) rfl rfl hl.1 rfl (lv_room (Nat.le_of_ble_eq_true rfl)) dX2_readTune_28 ⟨Nat.le_of_ble_eq_true rfl, Nat.le_of_ble_eq_true rfl⟩) hS (fun q _ z => hFc q z) hFc (fun u t H1 locs ht hvm hw hB hz1 hk1 hS => ?_)
        obtain ⟨N4, N5⟩ := u
        obtain ⟨hP1, hK1, hD1⟩ := hB
        rw [ht] at hP1
        obtain ⟨hP, hD⟩ := va_join (wr := [(h0, .inr (2, [.ref (a0 0), .ref (a0 1)])), (a0 1, .inr (1, [.int (mg M3 0), .ref (a3 1), .int (mg M3 2), .ref (a3 3), .int (mg M3 4), .ref (a3 5)])), (a3 1, .inl (cI, 4, .inl (ma M3 1))), (a3 3, .inl (cI, 4, .inl (ma M3 3))), (a3 5, .inl (cI, 2, .inl (ma M3 5)))]) (w1 := (rdW cB cI cJ cZ (a0 0) a1 N4 N5)) hP hD [1, 2] [0, 3, 4, 5, 6] rfl rfl (by decide) (by decide) hk1 hFc hP1 hD1
        have hP := hP.sub (ws' := (crW cB cI cJ cZ h0 a0 a1 a3 M0 N4 N5 M3)) [0, 5, 6, 1, 2, 3, 4] rfl
        have hD := hD.sub (ws' := (crW cB cI cJ cZ h0 a0 a1 a3 M0 N4 N5 M3)) [0, 5, 6, 1, 2, 3, 4] (by decide) rfl
        generalize H1 = H at hP hS ⊢
        have h := hw
        try dsimp only at h
        refine lv_aload_n hx hb dX2_readTune_31 rfl (lv_at hl 0 rfl) ?_
        refine va_get (D := (dC, dI)) (ci := 2) (v := .ref (a0 0)) (C := RX2) (T := TX2) (N := 2) hx hb hts hinX2 hown hK hP 0 rfl rfl 0 (by decide) f1 (fun _ h9 => h9) rfl dX2_readTune_32 ?_
        refine lv_iconst (v := 1) hx hb dX2_readTune_35 (by decide) ?_
        refine lv_bipush (v := (9)) hx hb dX2_readTune_36 (by decide) ?_
        have hPc := hP.sub (ws' := (rdW cB cI cJ cZ (a0 0) a1 N4 N5)) [1, 2] rfl
        have hDc := hD.sub (ws' := (rdW cB cI cJ cZ (a0 0) a1 N4 N5)) [1, 2] (by decide) rfl
        have hFc := va_free (wc := (rdW cB cI cJ cZ (a0 0) a1 N4 N5)) hD hS hA [1, 2] rfl
        refine va_calli (va_runV (As := [.int (1 : Int32), .int (9 : Int32)]) (rest := []) ⟨hx, hb, hml, hown, hts⟩ (kX7_takeNumber l dC dI cB cI cJ cZ (a0 0) a1 H.size (1 : Int32) (9 : Int32) N4 N5 _ h) (cwV 2 hts gX2_readTune_X7_takeNumber rfl rfl rfl (by decide +kernel) ⟨Nat.le_of_ble_eq_true rfl, Nat.le_of_ble_eq_true rfl⟩) (rdpV hK hPc hDc) rfl rfl hl.1 rfl (lv_room (Nat.le_of_ble_eq_true rfl)) dX2_readTune_38 ⟨Nat.le_of_ble_eq_true rfl, Nat.le_of_ble_eq_true rfl⟩) hS (fun q _ z => hFc q z) hFc (fun r6 u t H1 locs ht hvm hw hB hz1 hk1 hS => ?_)
        obtain ⟨N7, N8⟩ := u
        obtain ⟨hP1, hK1, hD1⟩ := hB
        rw [ht] at hP1
        obtain ⟨hP, hD⟩ := va_join (wr := [(h0, .inr (2, [.ref (a0 0), .ref (a0 1)])), (a0 1, .inr (1, [.int (mg M3 0), .ref (a3 1), .int (mg M3 2), .ref (a3 3), .int (mg M3 4), .ref (a3 5)])), (a3 1, .inl (cI, 4, .inl (ma M3 1))), (a3 3, .inl (cI, 4, .inl (ma M3 3))), (a3 5, .inl (cI, 2, .inl (ma M3 5)))]) (w1 := (rdW cB cI cJ cZ (a0 0) a1 N7 N8)) hP hD [1, 2] [0, 3, 4, 5, 6] rfl rfl (by decide) (by decide) hk1 hFc hP1 hD1
        have hP := hP.sub (ws' := (crW cB cI cJ cZ h0 a0 a1 a3 M0 N7 N8 M3)) [0, 5, 6, 1, 2, 3, 4] rfl
        have hD := hD.sub (ws' := (crW cB cI cJ cZ h0 a0 a1 a3 M0 N7 N8 M3)) [0, 5, 6, 1, 2, 3, 4] (by decide) rfl
        generalize H1 = H at hP hS ⊢
        have h := hw
        try dsimp only at h
        refine lv_istore_n (lv' := [(2, .int r6), (0, .ref h0), (1, .int p1)]) hx hb dX2_readTune_41 rfl hl (by decide) rfl (fun ls hl => ?_)
        refine lv_aload_n hx hb dX2_readTune_42 rfl (lv_at hl 1 rfl) ?_
        refine va_get (D := (dC, dI)) (ci := 2) (v := .ref (a0 0)) (C := RX2) (T := TX2) (N := 2) hx hb hts hinX2 hown hK hP 0 rfl rfl 0 (by decide) f1 (fun _ h9 => h9) rfl dX2_readTune_43 ?_
        refine lv_iconst (v := 1) hx hb dX2_readTune_46 (by decide) ?_
        refine lv_bipush (v := (8)) hx hb dX2_readTune_47 (by decide) ?_
        have hPc := hP.sub (ws' := (rdW cB cI cJ cZ (a0 0) a1 N7 N8)) [1, 2] rfl
        have hDc := hD.sub (ws' := (rdW cB cI cJ cZ (a0 0) a1 N7 N8)) [1, 2] (by decide) rfl
        have hFc := va_free (wc := (rdW cB cI cJ cZ (a0 0) a1 N7 N8)) hD hS hA [1, 2] rfl
        refine va_calli (va_runV (As := [.int (1 : Int32), .int (8 : Int32)]) (rest := []) ⟨hx, hb, hml, hown, hts⟩ (kX7_takeNumber l dC dI cB cI cJ cZ (a0 0) a1 H.size (1 : Int32) (8 : Int32) N7 N8 _ h) (cwV 2 hts gX2_readTune_X7_takeNumber rfl rfl rfl (by decide +kernel) ⟨Nat.le_of_ble_eq_true rfl, Nat.le_of_ble_eq_true rfl⟩) (rdpV hK hPc hDc) rfl rfl hl.1 rfl (lv_room (Nat.le_of_ble_eq_true rfl)) dX2_readTune_49 ⟨Nat.le_of_ble_eq_true rfl, Nat.le_of_ble_eq_true rfl⟩) hS (fun q _ z => hFc q z) hFc (fun r9 u t H1 locs ht hvm hw hB hz1 hk1 hS => ?_)
        obtain ⟨N10, N11⟩ := u
        obtain ⟨hP1, hK1, hD1⟩ := hB
        rw [ht] at hP1
        obtain ⟨hP, hD⟩ := va_join (wr := [(h0, .inr (2, [.ref (a0 0), .ref (a0 1)])), (a0 1, .inr (1, [.int (mg M3 0), .ref (a3 1), .int (mg M3 2), .ref (a3 3), .int (mg M3 4), .ref (a3 5)])), (a3 1, .inl (cI, 4, .inl (ma M3 1))), (a3 3, .inl (cI, 4, .inl (ma M3 3))), (a3 5, .inl (cI, 2, .inl (ma M3 5)))]) (w1 := (rdW cB cI cJ cZ (a0 0) a1 N10 N11)) hP hD [1, 2] [0, 3, 4, 5, 6] rfl rfl (by decide) (by decide) hk1 hFc hP1 hD1
        have hP := hP.sub (ws' := (crW cB cI cJ cZ h0 a0 a1 a3 M0 N10 N11 M3)) [0, 5, 6, 1, 2, 3, 4] rfl
        have hD := hD.sub (ws' := (crW cB cI cJ cZ h0 a0 a1 a3 M0 N10 N11 M3)) [0, 5, 6, 1, 2, 3, 4] (by decide) rfl
        generalize H1 = H at hP hS ⊢
        have h := hw
        try dsimp only at h
        refine lv_istore_n (lv' := [(3, .int r9), (2, .int r6), (0, .ref h0), (1, .int p1)]) hx hb dX2_readTune_52 rfl hl (by decide) rfl (fun ls hl => ?_)
        refine lv_aload_n hx hb dX2_readTune_53 rfl (lv_at hl 2 rfl) ?_
        refine va_get (D := (dC, dI)) (ci := 2) (v := .ref (a0 0)) (C := RX2) (T := TX2) (N := 2) hx hb hts hinX2 hown hK hP 0 rfl rfl 0 (by decide) f1 (fun _ h9 => h9) rfl dX2_readTune_54 ?_
        refine va_get (D := (dC, dI)) (ci := 7) (v := .int (mg N10 7)) (C := RX7) (T := TX7) (N := 8) hx hb hts hinX7 hown hK hP 1 rfl rfl 7 (by decide) f4 (fun _ h9 => h9) rfl dX2_readTune_57 ?_
        refine lv_if_ne (tgt := 94) hx hb dX2_readTune_60 (by decide) (fun c12 => ?_) (fun c12 => ?_)
        · have h := h.2 c12
          exact W.vret hx hb hr (fun t ht hW => ⟨⟨(M0, N10, N11, M3), rfl, h, by rw [ht]; exact hP, va_K.moved hW.alike hK, hD⟩, hS.F ht⟩) hS.2.2 dX2_readTune_94
        · have h := h.1 c12
          refine lv_aload_n hx hb dX2_readTune_63 rfl (lv_at hl 2 rfl) ?_
          refine va_get (D := (dC, dI)) (ci := 2) (v := .ref (a0 1)) (C := RX2) (T := TX2) (N := 2) hx hb hts hinX2 hown hK hP 0 rfl rfl 1 (by decide) f2 (fun _ h9 => h9) rfl dX2_readTune_64 ?_
          refine va_get (D := (dC, dI)) (ci := 1) (v := .ref (a3 1)) (C := RX1) (T := TX1) (N := 6) hx hb hts hinX1 hown hK hP 3 rfl rfl 1 (by decide) f5 (fun _ h9 => h9) rfl dX2_readTune_67 ?_
          refine lv_aload_n hx hb dX2_readTune_70 rfl (lv_at hl 2 rfl) ?_
          refine va_get (D := (dC, dI)) (ci := 2) (v := .ref (a0 1)) (C := RX2) (T := TX2) (N := 2) hx hb hts hinX2 hown hK hP 0 rfl rfl 1 (by decide) f2 (fun _ h9 => h9) rfl dX2_readTune_71 ?_
          refine va_get (D := (dC, dI)) (ci := 1) (v := .int (mg M3 0)) (C := RX1) (T := TX1) (N := 6) hx hb hts hinX1 hown hK hP 3 rfl rfl 0 (by decide) f3 (fun _ h9 => h9) rfl dX2_readTune_74 ?_
          refine lv_iload_n hx hb dX2_readTune_77 rfl (lv_at hl 1 rfl) ?_
          refine lv_iload_n hx hb dX2_readTune_78 rfl (lv_at hl 0 rfl) ?_
          refine lv_imul hx hb dX2_readTune_79 ?_
          refine lv_topi (fun x13 ex13 => ?_)
          have h := h x13 ex13
          refine va_iast hx hb hK hP hD hS 4 1 (f := ma M3 1) rfl rfl h.1 dX2_readTune_80 (fun H locs hP hD hS => ?_)
          have h := h.2
          have hP := crP_3_a1 hP
          have hD := crD_3_a1 hD
          have h := h _ rfl
          generalize sa M3 1 (Int32.toNatClampNeg (mg M3 0)) x13 = N14 at hP hD h
          refine lv_aload_n hx hb dX2_readTune_81 rfl (lv_at hl 2 rfl) ?_
          refine va_get (D := (dC, dI)) (ci := 2) (v := .ref (a0 1)) (C := RX2) (T := TX2) (N := 2) hx hb hts hinX2 hown hK hP 0 rfl rfl 1 (by decide) f2 (fun _ h9 => h9) rfl dX2_readTune_82 ?_
          refine lv_dup hx hb dX2_readTune_85 rfl ?_
          refine va_get (D := (dC, dI)) (ci := 1) (v := .int (mg N14 0)) (C := RX1) (T := TX1) (N := 6) hx hb hts hinX1 hown hK hP 3 rfl rfl 0 (by decide) f3 (fun _ h9 => h9) rfl dX2_readTune_86 ?_
          refine lv_iconst (v := 1) hx hb dX2_readTune_89 (by decide) ?_
          refine lv_iadd hx hb dX2_readTune_90 ?_
          refine lv_topi (fun x15 ex15 => ?_)
          have h := h x15 ex15
          refine va_put (D := (dC, dI)) (ci := 1) (v := .int x15) (ty := .int) (C := RX1) (T := TX1) (N := 6) hx hb hts hinX1 tyX1 tyX1_ok nmX1 hown hK hP hD hS 3 rfl rfl 0 (by decide) f3 (fun _ h9 => h9) rfl (by decide +kernel) rfl rfl (Nat.le_of_ble_eq_true rfl) dX2_readTune_91 (fun H locs hP hD hS => ?_)
          have hP := crP_3_f0 hP
          have hD := crD_3_f0 hD
          have h := h _ rfl
          generalize sg N14 0 x15 = N16 at hP hD h
          exact W.vret hx hb hr (fun t ht hW => ⟨⟨(M0, N10, N11, N16), rfl, h, by rw [ht]; exact hP, va_K.moved hW.alike hK, hD⟩, hS.F ht⟩) hS.2.2 dX2_readTune_94
      · have h := h.2 c2
        exact b15  M0 M1 M2 M3 H locs ls hP hD hS (lv_sub hl [0] rfl) h
  have hl := lv_entry ([.ref h0, .int p1]) (n := 4) (Nat.le_of_ble_eq_true rfl)
  rw [lg_entry_eq]
  generalize (lg_sl ([.ref h0, .int p1]) ++ List.replicate (4 - (lg_sl ([.ref h0, .int p1])).length) Slot.unset).toArray = ls at hl ⊢
  have hl : lv_has ls 4 [(0, .ref h0), (1, .int p1)] := hl
  exact bE M0 M1 M2 M3 s.heap [] ls hP hD hS hl h
def wX2_readWord_15  (Q : gS → gS → gS → gS → Prop)  (M0 : gS) (M1 : gS) (M2 : gS) (M3 : gS) : Prop :=
 (wX7_fail (4 : Int32) M1 M2 (fun (N2 : gS) (N3 : gS) => (Q M0 N2 N3 M3)))
def wX2_readWord (p1 : Int32) (M0 : gS) (M1 : gS) (M2 : gS) (M3 : gS) (Q : gS → gS → gS → gS → Prop) : Prop :=
 ((p1 = 0 → (((mg M3 2) < (4 : Int32) → (wX7_advance  M1 M2 (fun (N4 : gS) (N5 : gS) => (wX7_takeNumber (1 : Int32) (9 : Int32) N4 N5 (fun (r6 : Int32) (N7 : gS) (N8 : gS) => (((mg N7 7) = 0 → (vp_in (mg M3 2) 4 ∧ (∀ N10 : gS, N10 = sa M3 3 (Int32.toNatClampNeg (mg M3 2)) r6 → (∀ x11 : Int32, x11 = ((mg N10 2) + (1 : Int32)) → (∀ N12 : gS, N12 = sg N10 2 x11 → (Q M0 N7 N8 N12))))))
 ∧ (¬ (mg N7 7) = 0 → (Q M0 N7 N8 M3))))))))
 ∧ (¬ (mg M3 2) < (4 : Int32) → (wX2_readWord_15  Q M0 M1 M2 M3))))
 ∧ (¬ p1 = 0 → (wX2_readWord_15  Q M0 M1 M2 M3)))
def rmX2_readWord : Room := { frames := 4, cells := 0, slots := 0, locals := 83 }
set_option maxHeartbeats 4000000 in
set_option maxRecDepth 100000 in
theorem kX2_readWord (l : Launch) (dC : Nat → ClassId) (dI : Nat → Nat → Nat) (cB cI cJ cZ : ClassId) (h0 : Nat) (a0 : Nat → Nat) (a1 : Nat → Nat) (a3 : Nat → Nat) (sz : Nat) (p1 : Int32) (M0 : gS) (M1 : gS) (M2 : gS) (M3 : gS) (Q : gS → gS → gS → gS → Prop) (h : wX2_readWord p1 M0 M1 M2 M3 Q) : Met l yX2_readWord wsX2_readWord rmX2_readWord (va_Pc [.ref h0, .int p1] (crI dC dI cB cI cJ cZ h0 a0 a1 a3 M0 M1 M2 M3 sz)) (va_Qv (fun (u : gS × gS × gS × gS) => Q u.1 u.2.1 u.2.2.1 u.2.2.2) (crB dC dI cB cI cJ cZ h0 a0 a1 a3 (va_A (crW cB cI cJ cZ h0 a0 a1 a3 M0 M1 M2 M3) sz)) (va_A (crW cB cI cJ cZ h0 a0 a1 a3 M0 M1 M2 M3) sz)) 0 0 (va_A (crW cB cI cJ cZ h0 a0 a1 a3 M0 M1 M2 M3) sz) := by
  refine Met.ofW (cc := cX2_readWord) (maxL := 3) (ret := none) (by decide) rfl ?_
  intro p e s m args below meth c s₁ B hml hv
  obtain ⟨rfl, hsz, hP, hK, hD0⟩ := hv
  have hx := B.exec
  have hb := B.bytes
  have hr := B.returns
  have hts := atoms_spec (ws := wsX2_readWord) B.pre
  have hown : s.vm.findClass RX2 = some m.cls := findClass_of_methodNamed B.named
  have hlocks := B.notSynchronized
  subst hsz
  have hD := hD0.self (sz := s.heap.size)
  generalize hAe : va_A (crW cB cI cJ cZ h0 a0 a1 a3 M0 M1 M2 M3) s.heap.size = A at hD ⊢
  have hA : ∀ q : Nat, s.heap.size ≤ q → A q := fun q h => by rw [← hAe]; exact Or.inr h
  have hS : va_S A s.heap s.heap [] := va_S.rf
  have hinX1 : ∀ w ∈ wsX10, w ∈ wsX2_readWord := by decide +kernel
  have hinX2 : ∀ w ∈ wsX20, w ∈ wsX2_readWord := by decide +kernel
  have hinX7 : ∀ w ∈ wsX70, w ∈ wsX2_readWord := by decide +kernel
  have f1 := hts (.fieldLink RX2 9 "LastWords$CornerReader" "in" "LLastWords$Reader;") (by decide +kernel)
  have f2 := hts (.fieldLink RX2 15 "LastWords$CornerReader" "corner" "LLastWords$Corner;") (by decide +kernel)
  have f3 := hts (.fieldLink RX2 25 "LastWords$Corner" "words" "I") (by decide +kernel)
  have f4 := hts (.fieldLink RX2 58 "LastWords$Reader" "fault" "I") (by decide +kernel)
  have f5 := hts (.fieldLink RX2 85 "LastWords$Corner" "beats" "[I") (by decide +kernel)
  have b15 : ∀  (M0 : gS) (M1 : gS) (M2 : gS) (M3 : gS) (H : Heap) (locs : List Loc) (ls : Array Slot), va_P (dC, dI) vwCl (crW cB cI cJ cZ h0 a0 a1 a3 M0 M1 M2 M3) H → va_D A (crW cB cI cJ cZ h0 a0 a1 a3 M0 M1 M2 M3) → va_S A s.heap H locs → lv_has ls 3 [(0, .ref h0)] → wX2_readWord_15  Q M0 M1 M2 M3 → W p l e (headSpec wsX2_readWord rmX2_readWord).room s m ([.ref h0, .int p1] : List Value).toArray below meth c H locs 0 0 (MQ below (va_Qv (fun (u : gS × gS × gS × gS) => Q u.1 u.2.1 u.2.2.1 u.2.2.2) (crB dC dI cB cI cJ cZ h0 a0 a1 a3 A) A) ([.ref h0, .int p1] : List Value).toArray s 0 0 A) (F0 m 15 ls []) := by
    intro  M0 M1 M2 M3 H locs ls hP hD hS hl h
    unfold wX2_readWord_15 at h
    refine lv_aload_n hx hb dX2_readWord_15 rfl (lv_at hl 0 rfl) ?_
    refine va_get (D := (dC, dI)) (ci := 2) (v := .ref (a0 0)) (C := RX2) (T := TX2) (N := 2) hx hb hts hinX2 hown hK hP 0 rfl rfl 0 (by decide) f1 (fun _ h9 => h9) rfl dX2_readWord_16 ?_
    refine lv_iconst (v := 4) hx hb dX2_readWord_19 (by decide) ?_
    have hPc := hP.sub (ws' := (rdW cB cI cJ cZ (a0 0) a1 M1 M2)) [1, 2] rfl
    have hDc := hD.sub (ws' := (rdW cB cI cJ cZ (a0 0) a1 M1 M2)) [1, 2] (by decide) rfl
    have hFc := va_free (wc := (rdW cB cI cJ cZ (a0 0) a1 M1 M2)) hD hS hA [1, 2] rfl
    refine va_callv (va_runV (As := [.int (4 : Int32)]) (rest := []) ⟨hx, hb, hml, hown, hts⟩ (kX7_fail l dC dI cB cI cJ cZ (a0 0) a1 H.size (4 : Int32) M1 M2 _ h) (cwV 1 hts gX2_readWord_X7_fail rfl rfl rfl (by decide +kernel) ⟨Nat.le_of_ble_eq_true rfl, Nat.le_of_ble_eq_true rfl⟩) (rdpV hK hPc hDc) rfl rfl hl.1 rfl (lv_room (Nat.le_of_ble_eq_true rfl)) dX2_readWord_20 ⟨Nat.le_of_ble_eq_true rfl, Nat.le_of_ble_eq_true rfl⟩) hS (fun q _ z => hFc q z) hFc (fun u t H1 locs ht hvm hw hB hz1 hk1 hS => ?_)
    obtain ⟨N2, N3⟩ := u
    obtain ⟨hP1, hK1, hD1⟩ := hB
    rw [ht] at hP1
    obtain ⟨hP, hD⟩ := va_join (wr := [(h0, .inr (2, [.ref (a0 0), .ref (a0 1)])), (a0 1, .inr (1, [.int (mg M3 0), .ref (a3 1), .int (mg M3 2), .ref (a3 3), .int (mg M3 4), .ref (a3 5)])), (a3 1, .inl (cI, 4, .inl (ma M3 1))), (a3 3, .inl (cI, 4, .inl (ma M3 3))), (a3 5, .inl (cI, 2, .inl (ma M3 5)))]) (w1 := (rdW cB cI cJ cZ (a0 0) a1 N2 N3)) hP hD [1, 2] [0, 3, 4, 5, 6] rfl rfl (by decide) (by decide) hk1 hFc hP1 hD1
    have hP := hP.sub (ws' := (crW cB cI cJ cZ h0 a0 a1 a3 M0 N2 N3 M3)) [0, 5, 6, 1, 2, 3, 4] rfl
    have hD := hD.sub (ws' := (crW cB cI cJ cZ h0 a0 a1 a3 M0 N2 N3 M3)) [0, 5, 6, 1, 2, 3, 4] (by decide) rfl
    generalize H1 = H at hP hS ⊢
    have h := hw
    try dsimp only at h
    exact W.vret hx hb hr (fun t ht hW => ⟨⟨(M0, N2, N3, M3), rfl, h, by rw [ht]; exact hP, va_K.moved hW.alike hK, hD⟩, hS.F ht⟩) hS.2.2 dX2_readWord_23
  have bE : ∀ (M0 : gS) (M1 : gS) (M2 : gS) (M3 : gS) (H : Heap) (locs : List Loc) (ls : Array Slot), va_P (dC, dI) vwCl (crW cB cI cJ cZ h0 a0 a1 a3 M0 M1 M2 M3) H → va_D A (crW cB cI cJ cZ h0 a0 a1 a3 M0 M1 M2 M3) → va_S A s.heap H locs → lv_has ls 3 [(0, .ref h0), (1, .int p1)] → wX2_readWord p1 M0 M1 M2 M3 Q → W p l e (headSpec wsX2_readWord rmX2_readWord).room s m ([.ref h0, .int p1] : List Value).toArray below meth c H locs 0 0 (MQ below (va_Qv (fun (u : gS × gS × gS × gS) => Q u.1 u.2.1 u.2.2.1 u.2.2.2) (crB dC dI cB cI cJ cZ h0 a0 a1 a3 A) A) ([.ref h0, .int p1] : List Value).toArray s 0 0 A) (F0 m 0 ls []) := by
    intro M0 M1 M2 M3 H locs ls hP hD hS hl h
    unfold wX2_readWord at h
    refine lv_iload_n hx hb dX2_readWord_0 rfl (lv_at hl 1 rfl) ?_
    refine lv_if_ne (tgt := 15) hx hb dX2_readWord_1 (by decide) (fun c1 => ?_) (fun c1 => ?_)
    · have h := h.2 c1
      exact b15  M0 M1 M2 M3 H locs ls hP hD hS (lv_sub hl [0] rfl) h
    · have h := h.1 c1
      refine lv_aload_n hx hb dX2_readWord_4 rfl (lv_at hl 0 rfl) ?_
      refine va_get (D := (dC, dI)) (ci := 2) (v := .ref (a0 1)) (C := RX2) (T := TX2) (N := 2) hx hb hts hinX2 hown hK hP 0 rfl rfl 1 (by decide) f2 (fun _ h9 => h9) rfl dX2_readWord_5 ?_
      refine va_get (D := (dC, dI)) (ci := 1) (v := .int (mg M3 2)) (C := RX1) (T := TX1) (N := 6) hx hb hts hinX1 hown hK hP 3 rfl rfl 2 (by decide) f3 (fun _ h9 => h9) rfl dX2_readWord_8 ?_
      refine lv_iconst (v := 4) hx hb dX2_readWord_11 (by decide) ?_
      refine lv_icmp_lt (tgt := 24) hx hb dX2_readWord_12 (by decide) (fun c2 => ?_) (fun c2 => ?_)
      · have h := h.1 c2
        refine lv_aload_n hx hb dX2_readWord_24 rfl (lv_at hl 0 rfl) ?_
        refine va_get (D := (dC, dI)) (ci := 2) (v := .ref (a0 0)) (C := RX2) (T := TX2) (N := 2) hx hb hts hinX2 hown hK hP 0 rfl rfl 0 (by decide) f1 (fun _ h9 => h9) rfl dX2_readWord_25 ?_
        have hPc := hP.sub (ws' := (rdW cB cI cJ cZ (a0 0) a1 M1 M2)) [1, 2] rfl
        have hDc := hD.sub (ws' := (rdW cB cI cJ cZ (a0 0) a1 M1 M2)) [1, 2] (by decide) rfl
        have hFc := va_free (wc := (rdW cB cI cJ cZ (a0 0) a1 M1 M2)) hD hS hA [1, 2] rfl
        refine va_callv (va_runV (As := []) (rest := []) ⟨hx, hb, hml, hown, hts⟩ (kX7_advance l dC dI cB cI cJ cZ (a0 0) a1 H.size  M1 M2 _ h) (cwV 0 hts gX2_readWord_X7_advance rfl rfl rfl (by decide +kernel) ⟨Nat.le_of_ble_eq_true rfl, Nat.le_of_ble_eq_true rfl⟩) (rdpV hK hPc hDc) rfl rfl hl.1 rfl (lv_room (Nat.le_of_ble_eq_true rfl)) dX2_readWord_28 ⟨Nat.le_of_ble_eq_true rfl, Nat.le_of_ble_eq_true rfl⟩) hS (fun q _ z => hFc q z) hFc (fun u t H1 locs ht hvm hw hB hz1 hk1 hS => ?_)
        obtain ⟨N4, N5⟩ := u
        obtain ⟨hP1, hK1, hD1⟩ := hB
        rw [ht] at hP1
        obtain ⟨hP, hD⟩ := va_join (wr := [(h0, .inr (2, [.ref (a0 0), .ref (a0 1)])), (a0 1, .inr (1, [.int (mg M3 0), .ref (a3 1), .int (mg M3 2), .ref (a3 3), .int (mg M3 4), .ref (a3 5)])), (a3 1, .inl (cI, 4, .inl (ma M3 1))), (a3 3, .inl (cI, 4, .inl (ma M3 3))), (a3 5, .inl (cI, 2, .inl (ma M3 5)))]) (w1 := (rdW cB cI cJ cZ (a0 0) a1 N4 N5)) hP hD [1, 2] [0, 3, 4, 5, 6] rfl rfl (by decide) (by decide) hk1 hFc hP1 hD1
        have hP := hP.sub (ws' := (crW cB cI cJ cZ h0 a0 a1 a3 M0 N4 N5 M3)) [0, 5, 6, 1, 2, 3, 4] rfl
        have hD := hD.sub (ws' := (crW cB cI cJ cZ h0 a0 a1 a3 M0 N4 N5 M3)) [0, 5, 6, 1, 2, 3, 4] (by decide) rfl
        generalize H1 = H at hP hS ⊢
        have h := hw
        try dsimp only at h
        refine lv_aload_n hx hb dX2_readWord_31 rfl (lv_at hl 0 rfl) ?_
        refine va_get (D := (dC, dI)) (ci := 2) (v := .ref (a0 0)) (C := RX2) (T := TX2) (N := 2) hx hb hts hinX2 hown hK hP 0 rfl rfl 0 (by decide) f1 (fun _ h9 => h9) rfl dX2_readWord_32 ?_
        refine lv_iconst (v := 1) hx hb dX2_readWord_35 (by decide) ?_
        refine lv_bipush (v := (9)) hx hb dX2_readWord_36 (by decide) ?_
        have hPc := hP.sub (ws' := (rdW cB cI cJ cZ (a0 0) a1 N4 N5)) [1, 2] rfl
        have hDc := hD.sub (ws' := (rdW cB cI cJ cZ (a0 0) a1 N4 N5)) [1, 2] (by decide) rfl
        have hFc := va_free (wc := (rdW cB cI cJ cZ (a0 0) a1 N4 N5)) hD hS hA [1, 2] rfl
        refine va_calli (va_runV (As := [.int (1 : Int32), .int (9 : Int32)]) (rest := []) ⟨hx, hb, hml, hown, hts⟩ (kX7_takeNumber l dC dI cB cI cJ cZ (a0 0) a1 H.size (1 : Int32) (9 : Int32) N4 N5 _ h) (cwV 2 hts gX2_readWord_X7_takeNumber rfl rfl rfl (by decide +kernel) ⟨Nat.le_of_ble_eq_true rfl, Nat.le_of_ble_eq_true rfl⟩) (rdpV hK hPc hDc) rfl rfl hl.1 rfl (lv_room (Nat.le_of_ble_eq_true rfl)) dX2_readWord_38 ⟨Nat.le_of_ble_eq_true rfl, Nat.le_of_ble_eq_true rfl⟩) hS (fun q _ z => hFc q z) hFc (fun r6 u t H1 locs ht hvm hw hB hz1 hk1 hS => ?_)
        obtain ⟨N7, N8⟩ := u
        obtain ⟨hP1, hK1, hD1⟩ := hB
        rw [ht] at hP1
        obtain ⟨hP, hD⟩ := va_join (wr := [(h0, .inr (2, [.ref (a0 0), .ref (a0 1)])), (a0 1, .inr (1, [.int (mg M3 0), .ref (a3 1), .int (mg M3 2), .ref (a3 3), .int (mg M3 4), .ref (a3 5)])), (a3 1, .inl (cI, 4, .inl (ma M3 1))), (a3 3, .inl (cI, 4, .inl (ma M3 3))), (a3 5, .inl (cI, 2, .inl (ma M3 5)))]) (w1 := (rdW cB cI cJ cZ (a0 0) a1 N7 N8)) hP hD [1, 2] [0, 3, 4, 5, 6] rfl rfl (by decide) (by decide) hk1 hFc hP1 hD1
        have hP := hP.sub (ws' := (crW cB cI cJ cZ h0 a0 a1 a3 M0 N7 N8 M3)) [0, 5, 6, 1, 2, 3, 4] rfl
        have hD := hD.sub (ws' := (crW cB cI cJ cZ h0 a0 a1 a3 M0 N7 N8 M3)) [0, 5, 6, 1, 2, 3, 4] (by decide) rfl
        generalize H1 = H at hP hS ⊢
        have h := hw
        try dsimp only at h
        refine lv_istore_n (lv' := [(2, .int r6), (0, .ref h0), (1, .int p1)]) hx hb dX2_readWord_41 rfl hl (by decide) rfl (fun ls hl => ?_)
        refine lv_aload_n hx hb dX2_readWord_42 rfl (lv_at hl 1 rfl) ?_
        refine va_get (D := (dC, dI)) (ci := 2) (v := .ref (a0 0)) (C := RX2) (T := TX2) (N := 2) hx hb hts hinX2 hown hK hP 0 rfl rfl 0 (by decide) f1 (fun _ h9 => h9) rfl dX2_readWord_43 ?_
        refine va_get (D := (dC, dI)) (ci := 7) (v := .int (mg N7 7)) (C := RX7) (T := TX7) (N := 8) hx hb hts hinX7 hown hK hP 1 rfl rfl 7 (by decide) f4 (fun _ h9 => h9) rfl dX2_readWord_46 ?_
        refine lv_if_ne (tgt := 81) hx hb dX2_readWord_49 (by decide) (fun c9 => ?_) (fun c9 => ?_)
        · have h := h.2 c9
          exact W.vret hx hb hr (fun t ht hW => ⟨⟨(M0, N7, N8, M3), rfl, h, by rw [ht]; exact hP, va_K.moved hW.alike hK, hD⟩, hS.F ht⟩) hS.2.2 dX2_readWord_81
        · have h := h.1 c9
          refine lv_aload_n hx hb dX2_readWord_52 rfl (lv_at hl 1 rfl) ?_
          refine va_get (D := (dC, dI)) (ci := 2) (v := .ref (a0 1)) (C := RX2) (T := TX2) (N := 2) hx hb hts hinX2 hown hK hP 0 rfl rfl 1 (by decide) f2 (fun _ h9 => h9) rfl dX2_readWord_53 ?_
          refine va_get (D := (dC, dI)) (ci := 1) (v := .ref (a3 3)) (C := RX1) (T := TX1) (N := 6) hx hb hts hinX1 hown hK hP 3 rfl rfl 3 (by decide) f5 (fun _ h9 => h9) rfl dX2_readWord_56 ?_
          refine lv_aload_n hx hb dX2_readWord_59 rfl (lv_at hl 1 rfl) ?_
          refine va_get (D := (dC, dI)) (ci := 2) (v := .ref (a0 1)) (C := RX2) (T := TX2) (N := 2) hx hb hts hinX2 hown hK hP 0 rfl rfl 1 (by decide) f2 (fun _ h9 => h9) rfl dX2_readWord_60 ?_
          refine va_get (D := (dC, dI)) (ci := 1) (v := .int (mg M3 2)) (C := RX1) (T := TX1) (N := 6) hx hb hts hinX1 hown hK hP 3 rfl rfl 2 (by decide) f3 (fun _ h9 => h9) rfl dX2_readWord_63 ?_
          refine lv_iload_n hx hb dX2_readWord_66 rfl (lv_at hl 0 rfl) ?_
          refine va_iast hx hb hK hP hD hS 5 1 (f := ma M3 3) rfl rfl h.1 dX2_readWord_67 (fun H locs hP hD hS => ?_)
          have h := h.2
          have hP := crP_3_a3 hP
          have hD := crD_3_a3 hD
          have h := h _ rfl
          generalize sa M3 3 (Int32.toNatClampNeg (mg M3 2)) r6 = N10 at hP hD h
          refine lv_aload_n hx hb dX2_readWord_68 rfl (lv_at hl 1 rfl) ?_
          refine va_get (D := (dC, dI)) (ci := 2) (v := .ref (a0 1)) (C := RX2) (T := TX2) (N := 2) hx hb hts hinX2 hown hK hP 0 rfl rfl 1 (by decide) f2 (fun _ h9 => h9) rfl dX2_readWord_69 ?_
          refine lv_dup hx hb dX2_readWord_72 rfl ?_
          refine va_get (D := (dC, dI)) (ci := 1) (v := .int (mg N10 2)) (C := RX1) (T := TX1) (N := 6) hx hb hts hinX1 hown hK hP 3 rfl rfl 2 (by decide) f3 (fun _ h9 => h9) rfl dX2_readWord_73 ?_
          refine lv_iconst (v := 1) hx hb dX2_readWord_76 (by decide) ?_
          refine lv_iadd hx hb dX2_readWord_77 ?_
          refine lv_topi (fun x11 ex11 => ?_)
          have h := h x11 ex11
          refine va_put (D := (dC, dI)) (ci := 1) (v := .int x11) (ty := .int) (C := RX1) (T := TX1) (N := 6) hx hb hts hinX1 tyX1 tyX1_ok nmX1 hown hK hP hD hS 3 rfl rfl 2 (by decide) f3 (fun _ h9 => h9) rfl (by decide +kernel) rfl rfl (Nat.le_of_ble_eq_true rfl) dX2_readWord_78 (fun H locs hP hD hS => ?_)
          have hP := crP_3_f2 hP
          have hD := crD_3_f2 hD
          have h := h _ rfl
          generalize sg N10 2 x11 = N12 at hP hD h
          exact W.vret hx hb hr (fun t ht hW => ⟨⟨(M0, N7, N8, N12), rfl, h, by rw [ht]; exact hP, va_K.moved hW.alike hK, hD⟩, hS.F ht⟩) hS.2.2 dX2_readWord_81
      · have h := h.2 c2
        exact b15  M0 M1 M2 M3 H locs ls hP hD hS (lv_sub hl [0] rfl) h
  have hl := lv_entry ([.ref h0, .int p1]) (n := 3) (Nat.le_of_ble_eq_true rfl)
  rw [lg_entry_eq]
  generalize (lg_sl ([.ref h0, .int p1]) ++ List.replicate (3 - (lg_sl ([.ref h0, .int p1])).length) Slot.unset).toArray = ls at hl ⊢
  have hl : lv_has ls 3 [(0, .ref h0), (1, .int p1)] := hl
  exact bE M0 M1 M2 M3 s.heap [] ls hP hD hS hl h
def wX2_readPurse (p1 : Int32) (M0 : gS) (M1 : gS) (M2 : gS) (M3 : gS) (Q : gS → gS → gS → gS → Prop) : Prop :=
 ((p1 = 0 → (wX7_advance  M1 M2 (fun (N3 : gS) (N4 : gS) => (wX7_takeNumber (0 : Int32) (1 : Int32) N3 N4 (fun (r5 : Int32) (N6 : gS) (N7 : gS) => (wX7_takeNumber (0 : Int32) (7 : Int32) N6 N7 (fun (r8 : Int32) (N9 : gS) (N10 : gS) => (((mg N9 7) = 0 → (wX11_isSide r5  (fun (b13 : Bool)  => (((bI b13) = 0 → (Q M0 N9 N10 M3))
 ∧ (¬ (bI b13) = 0 → (vp_in r5 2 ∧ (∀ N15 : gS, N15 = sa M3 5 (Int32.toNatClampNeg r5) r8 → (Q M0 N9 N10 N15))))))))
 ∧ (¬ (mg N9 7) = 0 → (Q M0 N9 N10 M3))))))))))
 ∧ (¬ p1 = 0 → (wX7_fail (4 : Int32) M1 M2 (fun (N17 : gS) (N18 : gS) => (Q M0 N17 N18 M3)))))
def rmX2_readPurse : Room := { frames := 4, cells := 0, slots := 0, locals := 83 }
set_option maxHeartbeats 4000000 in
set_option maxRecDepth 100000 in
theorem kX2_readPurse (l : Launch) (dC : Nat → ClassId) (dI : Nat → Nat → Nat) (cB cI cJ cZ : ClassId) (adK adV : Nat → Nat) (h0 : Nat) (a0 : Nat → Nat) (a1 : Nat → Nat) (a3 : Nat → Nat) (sz : Nat) (p1 : Int32) (M0 : gS) (M1 : gS) (M2 : gS) (M3 : gS) (Q : gS → gS → gS → gS → Prop) (h : wX2_readPurse p1 M0 M1 M2 M3 Q) : Met l yX2_readPurse wsX2_readPurse rmX2_readPurse (va_Pc [.ref h0, .int p1] (crIS dC dI cB cI cJ cZ h0 a0 a1 a3 M0 M1 M2 M3 adK adV sz)) (va_Qv (fun (u : gS × gS × gS × gS) => Q u.1 u.2.1 u.2.2.1 u.2.2.2) (crB dC dI cB cI cJ cZ h0 a0 a1 a3 (va_A (crW cB cI cJ cZ h0 a0 a1 a3 M0 M1 M2 M3) sz)) (va_A (crW cB cI cJ cZ h0 a0 a1 a3 M0 M1 M2 M3) sz)) 0 0 (va_A (crW cB cI cJ cZ h0 a0 a1 a3 M0 M1 M2 M3) sz) := by
  refine Met.ofW (cc := cX2_readPurse) (maxL := 4) (ret := none) (by decide) rfl ?_
  intro p e s m args below meth c s₁ B hml hv
  obtain ⟨rfl, ⟨hsz, hP, hK, hD0⟩, hR, hE⟩ := hv
  have hx := B.exec
  have hb := B.bytes
  have hr := B.returns
  have hts := atoms_spec (ws := wsX2_readPurse) B.pre
  have hown : s.vm.findClass RX2 = some m.cls := findClass_of_methodNamed B.named
  have hlocks := B.notSynchronized
  subst hsz
  have hD := hD0.self (sz := s.heap.size)
  generalize hAe : va_A (crW cB cI cJ cZ h0 a0 a1 a3 M0 M1 M2 M3) s.heap.size = A at hD hE ⊢
  have hA : ∀ q : Nat, s.heap.size ≤ q → A q := fun q h => by rw [← hAe]; exact Or.inr h
  have hS : va_S A s.heap s.heap [] := va_S.rf
  have hinX1 : ∀ w ∈ wsX10, w ∈ wsX2_readPurse := by decide +kernel
  have hinX2 : ∀ w ∈ wsX20, w ∈ wsX2_readPurse := by decide +kernel
  have hinX7 : ∀ w ∈ wsX70, w ∈ wsX2_readPurse := by decide +kernel
  have f1 := hts (.fieldLink RX2 9 "LastWords$CornerReader" "in" "LLastWords$Reader;") (by decide +kernel)
  have f2 := hts (.fieldLink RX2 58 "LastWords$Reader" "fault" "I") (by decide +kernel)
  have f3 := hts (.initialized RX11) (by decide +kernel)
  have f4 := hts (.static yX11_isSide) (by decide +kernel)
  have f5 := hts (.fieldLink RX2 15 "LastWords$CornerReader" "corner" "LLastWords$Corner;") (by decide +kernel)
  have f6 := hts (.fieldLink RX2 31 "LastWords$Corner" "purses" "[I") (by decide +kernel)
  have bE : ∀ (M0 : gS) (M1 : gS) (M2 : gS) (M3 : gS) (H : Heap) (locs : List Loc) (ls : Array Slot), va_P (dC, dI) vwCl (crW cB cI cJ cZ h0 a0 a1 a3 M0 M1 M2 M3) H → va_D A (crW cB cI cJ cZ h0 a0 a1 a3 M0 M1 M2 M3) → va_S A s.heap H locs → lv_has ls 4 [(0, .ref h0), (1, .int p1)] → wX2_readPurse p1 M0 M1 M2 M3 Q → W p l e (headSpec wsX2_readPurse rmX2_readPurse).room s m ([.ref h0, .int p1] : List Value).toArray below meth c H locs 0 0 (MQ below (va_Qv (fun (u : gS × gS × gS × gS) => Q u.1 u.2.1 u.2.2.1 u.2.2.2) (crB dC dI cB cI cJ cZ h0 a0 a1 a3 A) A) ([.ref h0, .int p1] : List Value).toArray s 0 0 A) (F0 m 0 ls []) := by
    intro M0 M1 M2 M3 H locs ls hP hD hS hl h
    unfold wX2_readPurse at h
    refine lv_iload_n hx hb dX2_readPurse_0 rfl (lv_at hl 1 rfl) ?_
    refine lv_if_eq (tgt := 13) hx hb dX2_readPurse_1 (by decide) (fun c1 => ?_) (fun c1 => ?_)
    · have h := h.1 c1
      refine lv_aload_n hx hb dX2_readPurse_13 rfl (lv_at hl 0 rfl) ?_
      refine va_get (D := (dC, dI)) (ci := 2) (v := .ref (a0 0)) (C := RX2) (T := TX2) (N := 2) hx hb hts hinX2 hown hK hP 0 rfl rfl 0 (by decide) f1 (fun _ h9 => h9) rfl dX2_readPurse_14 ?_
      have hPc := hP.sub (ws' := (rdW cB cI cJ cZ (a0 0) a1 M1 M2)) [1, 2] rfl
      have hDc := hD.sub (ws' := (rdW cB cI cJ cZ (a0 0) a1 M1 M2)) [1, 2] (by decide) rfl
      have hFc := va_free (wc := (rdW cB cI cJ cZ (a0 0) a1 M1 M2)) hD hS hA [1, 2] rfl
      refine va_callv (va_runV (As := []) (rest := []) ⟨hx, hb, hml, hown, hts⟩ (kX7_advance l dC dI cB cI cJ cZ (a0 0) a1 H.size  M1 M2 _ h) (cwV 0 hts gX2_readPurse_X7_advance rfl rfl rfl (by decide +kernel) ⟨Nat.le_of_ble_eq_true rfl, Nat.le_of_ble_eq_true rfl⟩) (rdpV hK hPc hDc) rfl rfl hl.1 rfl (lv_room (Nat.le_of_ble_eq_true rfl)) dX2_readPurse_17 ⟨Nat.le_of_ble_eq_true rfl, Nat.le_of_ble_eq_true rfl⟩) hS (fun q _ z => hFc q z) hFc (fun u t H1 locs ht hvm hw hB hz1 hk1 hS => ?_)
      obtain ⟨N3, N4⟩ := u
      obtain ⟨hP1, hK1, hD1⟩ := hB
      rw [ht] at hP1
      obtain ⟨hP, hD⟩ := va_join (wr := [(h0, .inr (2, [.ref (a0 0), .ref (a0 1)])), (a0 1, .inr (1, [.int (mg M3 0), .ref (a3 1), .int (mg M3 2), .ref (a3 3), .int (mg M3 4), .ref (a3 5)])), (a3 1, .inl (cI, 4, .inl (ma M3 1))), (a3 3, .inl (cI, 4, .inl (ma M3 3))), (a3 5, .inl (cI, 2, .inl (ma M3 5)))]) (w1 := (rdW cB cI cJ cZ (a0 0) a1 N3 N4)) hP hD [1, 2] [0, 3, 4, 5, 6] rfl rfl (by decide) (by decide) hk1 hFc hP1 hD1
      have hP := hP.sub (ws' := (crW cB cI cJ cZ h0 a0 a1 a3 M0 N3 N4 M3)) [0, 5, 6, 1, 2, 3, 4] rfl
      have hD := hD.sub (ws' := (crW cB cI cJ cZ h0 a0 a1 a3 M0 N3 N4 M3)) [0, 5, 6, 1, 2, 3, 4] (by decide) rfl
      generalize H1 = H at hP hS ⊢
      have h := hw
      try dsimp only at h
      refine lv_aload_n hx hb dX2_readPurse_20 rfl (lv_at hl 0 rfl) ?_
      refine va_get (D := (dC, dI)) (ci := 2) (v := .ref (a0 0)) (C := RX2) (T := TX2) (N := 2) hx hb hts hinX2 hown hK hP 0 rfl rfl 0 (by decide) f1 (fun _ h9 => h9) rfl dX2_readPurse_21 ?_
      refine lv_iconst (v := 0) hx hb dX2_readPurse_24 (by decide) ?_
      refine lv_iconst (v := 1) hx hb dX2_readPurse_25 (by decide) ?_
      have hPc := hP.sub (ws' := (rdW cB cI cJ cZ (a0 0) a1 N3 N4)) [1, 2] rfl
      have hDc := hD.sub (ws' := (rdW cB cI cJ cZ (a0 0) a1 N3 N4)) [1, 2] (by decide) rfl
      have hFc := va_free (wc := (rdW cB cI cJ cZ (a0 0) a1 N3 N4)) hD hS hA [1, 2] rfl
      refine va_calli (va_runV (As := [.int (0 : Int32), .int (1 : Int32)]) (rest := []) ⟨hx, hb, hml, hown, hts⟩ (kX7_takeNumber l dC dI cB cI cJ cZ (a0 0) a1 H.size (0 : Int32) (1 : Int32) N3 N4 _ h) (cwV 2 hts gX2_readPurse_X7_takeNumber rfl rfl rfl (by decide +kernel) ⟨Nat.le_of_ble_eq_true rfl, Nat.le_of_ble_eq_true rfl⟩) (rdpV hK hPc hDc) rfl rfl hl.1 rfl (lv_room (Nat.le_of_ble_eq_true rfl)) dX2_readPurse_26 ⟨Nat.le_of_ble_eq_true rfl, Nat.le_of_ble_eq_true rfl⟩) hS (fun q _ z => hFc q z) hFc (fun r5 u t H1 locs ht hvm hw hB hz1 hk1 hS => ?_)
      obtain ⟨N6, N7⟩ := u
      obtain ⟨hP1, hK1, hD1⟩ := hB
      rw [ht] at hP1
      obtain ⟨hP, hD⟩ := va_join (wr := [(h0, .inr (2, [.ref (a0 0), .ref (a0 1)])), (a0 1, .inr (1, [.int (mg M3 0), .ref (a3 1), .int (mg M3 2), .ref (a3 3), .int (mg M3 4), .ref (a3 5)])), (a3 1, .inl (cI, 4, .inl (ma M3 1))), (a3 3, .inl (cI, 4, .inl (ma M3 3))), (a3 5, .inl (cI, 2, .inl (ma M3 5)))]) (w1 := (rdW cB cI cJ cZ (a0 0) a1 N6 N7)) hP hD [1, 2] [0, 3, 4, 5, 6] rfl rfl (by decide) (by decide) hk1 hFc hP1 hD1
      have hP := hP.sub (ws' := (crW cB cI cJ cZ h0 a0 a1 a3 M0 N6 N7 M3)) [0, 5, 6, 1, 2, 3, 4] rfl
      have hD := hD.sub (ws' := (crW cB cI cJ cZ h0 a0 a1 a3 M0 N6 N7 M3)) [0, 5, 6, 1, 2, 3, 4] (by decide) rfl
      generalize H1 = H at hP hS ⊢
      have h := hw
      try dsimp only at h
      refine lv_istore_n (lv' := [(2, .int r5), (0, .ref h0), (1, .int p1)]) hx hb dX2_readPurse_29 rfl hl (by decide) rfl (fun ls hl => ?_)
      refine lv_aload_n hx hb dX2_readPurse_30 rfl (lv_at hl 1 rfl) ?_
      refine va_get (D := (dC, dI)) (ci := 2) (v := .ref (a0 0)) (C := RX2) (T := TX2) (N := 2) hx hb hts hinX2 hown hK hP 0 rfl rfl 0 (by decide) f1 (fun _ h9 => h9) rfl dX2_readPurse_31 ?_
      refine lv_iconst (v := 0) hx hb dX2_readPurse_34 (by decide) ?_
      refine lv_bipush (v := (7)) hx hb dX2_readPurse_35 (by decide) ?_
      have hPc := hP.sub (ws' := (rdW cB cI cJ cZ (a0 0) a1 N6 N7)) [1, 2] rfl
      have hDc := hD.sub (ws' := (rdW cB cI cJ cZ (a0 0) a1 N6 N7)) [1, 2] (by decide) rfl
      have hFc := va_free (wc := (rdW cB cI cJ cZ (a0 0) a1 N6 N7)) hD hS hA [1, 2] rfl
      refine va_calli (va_runV (As := [.int (0 : Int32), .int (7 : Int32)]) (rest := []) ⟨hx, hb, hml, hown, hts⟩ (kX7_takeNumber l dC dI cB cI cJ cZ (a0 0) a1 H.size (0 : Int32) (7 : Int32) N6 N7 _ h) (cwV 2 hts gX2_readPurse_X7_takeNumber rfl rfl rfl (by decide +kernel) ⟨Nat.le_of_ble_eq_true rfl, Nat.le_of_ble_eq_true rfl⟩) (rdpV hK hPc hDc) rfl rfl hl.1 rfl (lv_room (Nat.le_of_ble_eq_true rfl)) dX2_readPurse_37 ⟨Nat.le_of_ble_eq_true rfl, Nat.le_of_ble_eq_true rfl⟩) hS (fun q _ z => hFc q z) hFc (fun r8 u t H1 locs ht hvm hw hB hz1 hk1 hS => ?_)
      obtain ⟨N9, N10⟩ := u
      obtain ⟨hP1, hK1, hD1⟩ := hB
      rw [ht] at hP1
      obtain ⟨hP, hD⟩ := va_join (wr := [(h0, .inr (2, [.ref (a0 0), .ref (a0 1)])), (a0 1, .inr (1, [.int (mg M3 0), .ref (a3 1), .int (mg M3 2), .ref (a3 3), .int (mg M3 4), .ref (a3 5)])), (a3 1, .inl (cI, 4, .inl (ma M3 1))), (a3 3, .inl (cI, 4, .inl (ma M3 3))), (a3 5, .inl (cI, 2, .inl (ma M3 5)))]) (w1 := (rdW cB cI cJ cZ (a0 0) a1 N9 N10)) hP hD [1, 2] [0, 3, 4, 5, 6] rfl rfl (by decide) (by decide) hk1 hFc hP1 hD1
      have hP := hP.sub (ws' := (crW cB cI cJ cZ h0 a0 a1 a3 M0 N9 N10 M3)) [0, 5, 6, 1, 2, 3, 4] rfl
      have hD := hD.sub (ws' := (crW cB cI cJ cZ h0 a0 a1 a3 M0 N9 N10 M3)) [0, 5, 6, 1, 2, 3, 4] (by decide) rfl
      generalize H1 = H at hP hS ⊢
      have h := hw
      try dsimp only at h
      refine lv_istore_n (lv' := [(3, .int r8), (2, .int r5), (0, .ref h0), (1, .int p1)]) hx hb dX2_readPurse_40 rfl hl (by decide) rfl (fun ls hl => ?_)
      refine lv_aload_n hx hb dX2_readPurse_41 rfl (lv_at hl 2 rfl) ?_
      refine va_get (D := (dC, dI)) (ci := 2) (v := .ref (a0 0)) (C := RX2) (T := TX2) (N := 2) hx hb hts hinX2 hown hK hP 0 rfl rfl 0 (by decide) f1 (fun _ h9 => h9) rfl dX2_readPurse_42 ?_
      refine va_get (D := (dC, dI)) (ci := 7) (v := .int (mg N9 7)) (C := RX7) (T := TX7) (N := 8) hx hb hts hinX7 hown hK hP 1 rfl rfl 7 (by decide) f2 (fun _ h9 => h9) rfl dX2_readPurse_45 ?_
      refine lv_if_ne (tgt := 68) hx hb dX2_readPurse_48 (by decide) (fun c11 => ?_) (fun c11 => ?_)
      · have h := h.2 c11
        exact W.vret hx hb hr (fun t ht hW => ⟨⟨(M0, N9, N10, M3), rfl, h, by rw [ht]; exact hP, va_K.moved hW.alike hK, hD⟩, hS.F ht⟩) hS.2.2 dX2_readPurse_68
      · have h := h.1 c11
        refine lv_iload_n hx hb dX2_readPurse_51 rfl (lv_at hl 1 rfl) ?_
        have hPc := hP.sub (ws' := (e0W cB cI cJ cZ  )) [] rfl
        have hDc := hD.sub (ws' := (e0W cB cI cJ cZ  )) [] (by decide) rfl
        have hFc := va_free (wc := (e0W cB cI cJ cZ  )) hD hS hA [] rfl
        refine va_calli (va_runSN (As := [.int r5]) (rest := []) ⟨hx, hb, hml, hown, hts⟩ (kX11_isSide l dC dI cB cI cJ cZ  H.size r5  _ h) ⟨va_cnB 1 hts gX2_readPurse_X11_isSide_n88 rfl rfl rfl hR.n_RX2_88 f3 (by decide +kernel) ⟨Nat.le_of_ble_eq_true rfl, Nat.le_of_ble_eq_true rfl⟩, f4, trivial⟩ (e0pS hK hPc hDc) rfl rfl hl.1 rfl (lv_room (Nat.le_of_ble_eq_true rfl)) dX2_readPurse_52 ⟨Nat.le_of_ble_eq_true rfl, Nat.le_of_ble_eq_true rfl⟩) hS (fun q _ z => hFc q z) hFc (fun r12 u t H1 locs ht hvm hw hB hz1 hk1 hS => ?_)
        obtain ⟨hP1, hK1, hD1⟩ := hB
        rw [ht] at hP1
        obtain ⟨hP, hD⟩ := va_join (wr := [(h0, .inr (2, [.ref (a0 0), .ref (a0 1)])), (a0 0, .inr (7, [.ref (a1 0), .int (mg N9 1), .int (mg N9 2), .int (mg N9 3), .int (mg N9 4), .int (mg N9 5), .int (mg N9 6), .int (mg N9 7)])), (a1 0, .inl (cI, 400, .inl (ma N10 0))), (a0 1, .inr (1, [.int (mg M3 0), .ref (a3 1), .int (mg M3 2), .ref (a3 3), .int (mg M3 4), .ref (a3 5)])), (a3 1, .inl (cI, 4, .inl (ma M3 1))), (a3 3, .inl (cI, 4, .inl (ma M3 3))), (a3 5, .inl (cI, 2, .inl (ma M3 5)))]) (w1 := (e0W cB cI cJ cZ  )) hP hD [] [0, 1, 2, 3, 4, 5, 6] rfl rfl (by decide) (by decide) hk1 hFc hP1 hD1
        have hP := hP.sub (ws' := (crW cB cI cJ cZ h0 a0 a1 a3 M0 N9 N10 M3)) [0, 1, 2, 3, 4, 5, 6] rfl
        have hD := hD.sub (ws' := (crW cB cI cJ cZ h0 a0 a1 a3 M0 N9 N10 M3)) [0, 1, 2, 3, 4, 5, 6] (by decide) rfl
        generalize H1 = H at hP hS ⊢
        obtain ⟨b13, rfl, h⟩ := hw
        try dsimp only at h
        refine lv_if_eq (tgt := 68) hx hb dX2_readPurse_55 (by decide) (fun c14 => ?_) (fun c14 => ?_)
        · have h := h.1 c14
          exact W.vret hx hb hr (fun t ht hW => ⟨⟨(M0, N9, N10, M3), rfl, h, by rw [ht]; exact hP, va_K.moved hW.alike hK, hD⟩, hS.F ht⟩) hS.2.2 dX2_readPurse_68
        · have h := h.2 c14
          refine lv_aload_n hx hb dX2_readPurse_58 rfl (lv_at hl 2 rfl) ?_
          refine va_get (D := (dC, dI)) (ci := 2) (v := .ref (a0 1)) (C := RX2) (T := TX2) (N := 2) hx hb hts hinX2 hown hK hP 0 rfl rfl 1 (by decide) f5 (fun _ h9 => h9) rfl dX2_readPurse_59 ?_
          refine va_get (D := (dC, dI)) (ci := 1) (v := .ref (a3 5)) (C := RX1) (T := TX1) (N := 6) hx hb hts hinX1 hown hK hP 3 rfl rfl 5 (by decide) f6 (fun _ h9 => h9) rfl dX2_readPurse_62 ?_
          refine lv_iload_n hx hb dX2_readPurse_65 rfl (lv_at hl 1 rfl) ?_
          refine lv_iload_n hx hb dX2_readPurse_66 rfl (lv_at hl 0 rfl) ?_
          refine va_iast hx hb hK hP hD hS 6 1 (f := ma M3 5) rfl rfl h.1 dX2_readPurse_67 (fun H locs hP hD hS => ?_)
          have h := h.2
          have hP := crP_3_a5 hP
          have hD := crD_3_a5 hD
          have h := h _ rfl
          generalize sa M3 5 (Int32.toNatClampNeg r5) r8 = N15 at hP hD h
          exact W.vret hx hb hr (fun t ht hW => ⟨⟨(M0, N9, N10, N15), rfl, h, by rw [ht]; exact hP, va_K.moved hW.alike hK, hD⟩, hS.F ht⟩) hS.2.2 dX2_readPurse_68
    · have h := h.2 c1
      refine lv_aload_n hx hb dX2_readPurse_4 rfl (lv_at hl 0 rfl) ?_
      refine va_get (D := (dC, dI)) (ci := 2) (v := .ref (a0 0)) (C := RX2) (T := TX2) (N := 2) hx hb hts hinX2 hown hK hP 0 rfl rfl 0 (by decide) f1 (fun _ h9 => h9) rfl dX2_readPurse_5 ?_
      refine lv_iconst (v := 4) hx hb dX2_readPurse_8 (by decide) ?_
      have hPc := hP.sub (ws' := (rdW cB cI cJ cZ (a0 0) a1 M1 M2)) [1, 2] rfl
      have hDc := hD.sub (ws' := (rdW cB cI cJ cZ (a0 0) a1 M1 M2)) [1, 2] (by decide) rfl
      have hFc := va_free (wc := (rdW cB cI cJ cZ (a0 0) a1 M1 M2)) hD hS hA [1, 2] rfl
      refine va_callv (va_runV (As := [.int (4 : Int32)]) (rest := []) ⟨hx, hb, hml, hown, hts⟩ (kX7_fail l dC dI cB cI cJ cZ (a0 0) a1 H.size (4 : Int32) M1 M2 _ h) (cwV 1 hts gX2_readPurse_X7_fail rfl rfl rfl (by decide +kernel) ⟨Nat.le_of_ble_eq_true rfl, Nat.le_of_ble_eq_true rfl⟩) (rdpV hK hPc hDc) rfl rfl hl.1 rfl (lv_room (Nat.le_of_ble_eq_true rfl)) dX2_readPurse_9 ⟨Nat.le_of_ble_eq_true rfl, Nat.le_of_ble_eq_true rfl⟩) hS (fun q _ z => hFc q z) hFc (fun u t H1 locs ht hvm hw hB hz1 hk1 hS => ?_)
      obtain ⟨N17, N18⟩ := u
      obtain ⟨hP1, hK1, hD1⟩ := hB
      rw [ht] at hP1
      obtain ⟨hP, hD⟩ := va_join (wr := [(h0, .inr (2, [.ref (a0 0), .ref (a0 1)])), (a0 1, .inr (1, [.int (mg M3 0), .ref (a3 1), .int (mg M3 2), .ref (a3 3), .int (mg M3 4), .ref (a3 5)])), (a3 1, .inl (cI, 4, .inl (ma M3 1))), (a3 3, .inl (cI, 4, .inl (ma M3 3))), (a3 5, .inl (cI, 2, .inl (ma M3 5)))]) (w1 := (rdW cB cI cJ cZ (a0 0) a1 N17 N18)) hP hD [1, 2] [0, 3, 4, 5, 6] rfl rfl (by decide) (by decide) hk1 hFc hP1 hD1
      have hP := hP.sub (ws' := (crW cB cI cJ cZ h0 a0 a1 a3 M0 N17 N18 M3)) [0, 5, 6, 1, 2, 3, 4] rfl
      have hD := hD.sub (ws' := (crW cB cI cJ cZ h0 a0 a1 a3 M0 N17 N18 M3)) [0, 5, 6, 1, 2, 3, 4] (by decide) rfl
      generalize H1 = H at hP hS ⊢
      have h := hw
      try dsimp only at h
      exact W.vret hx hb hr (fun t ht hW => ⟨⟨(M0, N17, N18, M3), rfl, h, by rw [ht]; exact hP, va_K.moved hW.alike hK, hD⟩, hS.F ht⟩) hS.2.2 dX2_readPurse_12
  have hl := lv_entry ([.ref h0, .int p1]) (n := 4) (Nat.le_of_ble_eq_true rfl)
  rw [lg_entry_eq]
  generalize (lg_sl ([.ref h0, .int p1]) ++ List.replicate (4 - (lg_sl ([.ref h0, .int p1])).length) Slot.unset).toArray = ls at hl ⊢
  have hl : lv_has ls 4 [(0, .ref h0), (1, .int p1)] := hl
  exact bE M0 M1 M2 M3 s.heap [] ls hP hD hS hl h
def wX2_readAgain_15  (Q : gS → gS → gS → gS → Prop)  (M0 : gS) (M1 : gS) (M2 : gS) (M3 : gS) : Prop :=
 (wX7_fail (4 : Int32) M1 M2 (fun (N2 : gS) (N3 : gS) => (Q M0 N2 N3 M3)))
def wX2_readAgain (p1 : Int32) (M0 : gS) (M1 : gS) (M2 : gS) (M3 : gS) (Q : gS → gS → gS → gS → Prop) : Prop :=
 ((p1 = 0 → (((mg M3 4) = (-1 : Int32) → (wX7_advance  M1 M2 (fun (N4 : gS) (N5 : gS) => (wX7_takeNumber (0 : Int32) (9 : Int32) N4 N5 (fun (r6 : Int32) (N7 : gS) (N8 : gS) => (∀ N9 : gS, N9 = sg M3 4 r6 → (Q M0 N7 N8 N9)))))))
 ∧ (¬ (mg M3 4) = (-1 : Int32) → (wX2_readAgain_15  Q M0 M1 M2 M3))))
 ∧ (¬ p1 = 0 → (wX2_readAgain_15  Q M0 M1 M2 M3)))
def rmX2_readAgain : Room := { frames := 4, cells := 0, slots := 0, locals := 83 }
set_option maxHeartbeats 4000000 in
set_option maxRecDepth 100000 in
theorem kX2_readAgain (l : Launch) (dC : Nat → ClassId) (dI : Nat → Nat → Nat) (cB cI cJ cZ : ClassId) (h0 : Nat) (a0 : Nat → Nat) (a1 : Nat → Nat) (a3 : Nat → Nat) (sz : Nat) (p1 : Int32) (M0 : gS) (M1 : gS) (M2 : gS) (M3 : gS) (Q : gS → gS → gS → gS → Prop) (h : wX2_readAgain p1 M0 M1 M2 M3 Q) : Met l yX2_readAgain wsX2_readAgain rmX2_readAgain (va_Pc [.ref h0, .int p1] (crI dC dI cB cI cJ cZ h0 a0 a1 a3 M0 M1 M2 M3 sz)) (va_Qv (fun (u : gS × gS × gS × gS) => Q u.1 u.2.1 u.2.2.1 u.2.2.2) (crB dC dI cB cI cJ cZ h0 a0 a1 a3 (va_A (crW cB cI cJ cZ h0 a0 a1 a3 M0 M1 M2 M3) sz)) (va_A (crW cB cI cJ cZ h0 a0 a1 a3 M0 M1 M2 M3) sz)) 0 0 (va_A (crW cB cI cJ cZ h0 a0 a1 a3 M0 M1 M2 M3) sz) := by
  refine Met.ofW (cc := cX2_readAgain) (maxL := 2) (ret := none) (by decide) rfl ?_
  intro p e s m args below meth c s₁ B hml hv
  obtain ⟨rfl, hsz, hP, hK, hD0⟩ := hv
  have hx := B.exec
  have hb := B.bytes
  have hr := B.returns
  have hts := atoms_spec (ws := wsX2_readAgain) B.pre
  have hown : s.vm.findClass RX2 = some m.cls := findClass_of_methodNamed B.named
  have hlocks := B.notSynchronized
  subst hsz
  have hD := hD0.self (sz := s.heap.size)
  generalize hAe : va_A (crW cB cI cJ cZ h0 a0 a1 a3 M0 M1 M2 M3) s.heap.size = A at hD ⊢
  have hA : ∀ q : Nat, s.heap.size ≤ q → A q := fun q h => by rw [← hAe]; exact Or.inr h
  have hS : va_S A s.heap s.heap [] := va_S.rf
  have hinX1 : ∀ w ∈ wsX10, w ∈ wsX2_readAgain := by decide +kernel
  have hinX2 : ∀ w ∈ wsX20, w ∈ wsX2_readAgain := by decide +kernel
  have f1 := hts (.fieldLink RX2 9 "LastWords$CornerReader" "in" "LLastWords$Reader;") (by decide +kernel)
  have f2 := hts (.fieldLink RX2 15 "LastWords$CornerReader" "corner" "LLastWords$Corner;") (by decide +kernel)
  have f3 := hts (.fieldLink RX2 28 "LastWords$Corner" "again" "I") (by decide +kernel)
  have b15 : ∀  (M0 : gS) (M1 : gS) (M2 : gS) (M3 : gS) (H : Heap) (locs : List Loc) (ls : Array Slot), va_P (dC, dI) vwCl (crW cB cI cJ cZ h0 a0 a1 a3 M0 M1 M2 M3) H → va_D A (crW cB cI cJ cZ h0 a0 a1 a3 M0 M1 M2 M3) → va_S A s.heap H locs → lv_has ls 2 [(0, .ref h0)] → wX2_readAgain_15  Q M0 M1 M2 M3 → W p l e (headSpec wsX2_readAgain rmX2_readAgain).room s m ([.ref h0, .int p1] : List Value).toArray below meth c H locs 0 0 (MQ below (va_Qv (fun (u : gS × gS × gS × gS) => Q u.1 u.2.1 u.2.2.1 u.2.2.2) (crB dC dI cB cI cJ cZ h0 a0 a1 a3 A) A) ([.ref h0, .int p1] : List Value).toArray s 0 0 A) (F0 m 15 ls []) := by
    intro  M0 M1 M2 M3 H locs ls hP hD hS hl h
    unfold wX2_readAgain_15 at h
    refine lv_aload_n hx hb dX2_readAgain_15 rfl (lv_at hl 0 rfl) ?_
    refine va_get (D := (dC, dI)) (ci := 2) (v := .ref (a0 0)) (C := RX2) (T := TX2) (N := 2) hx hb hts hinX2 hown hK hP 0 rfl rfl 0 (by decide) f1 (fun _ h9 => h9) rfl dX2_readAgain_16 ?_
    refine lv_iconst (v := 4) hx hb dX2_readAgain_19 (by decide) ?_
    have hPc := hP.sub (ws' := (rdW cB cI cJ cZ (a0 0) a1 M1 M2)) [1, 2] rfl
    have hDc := hD.sub (ws' := (rdW cB cI cJ cZ (a0 0) a1 M1 M2)) [1, 2] (by decide) rfl
    have hFc := va_free (wc := (rdW cB cI cJ cZ (a0 0) a1 M1 M2)) hD hS hA [1, 2] rfl
    refine va_callv (va_runV (As := [.int (4 : Int32)]) (rest := []) ⟨hx, hb, hml, hown, hts⟩ (kX7_fail l dC dI cB cI cJ cZ (a0 0) a1 H.size (4 : Int32) M1 M2 _ h) (cwV 1 hts gX2_readAgain_X7_fail rfl rfl rfl (by decide +kernel) ⟨Nat.le_of_ble_eq_true rfl, Nat.le_of_ble_eq_true rfl⟩) (rdpV hK hPc hDc) rfl rfl hl.1 rfl (lv_room (Nat.le_of_ble_eq_true rfl)) dX2_readAgain_20 ⟨Nat.le_of_ble_eq_true rfl, Nat.le_of_ble_eq_true rfl⟩) hS (fun q _ z => hFc q z) hFc (fun u t H1 locs ht hvm hw hB hz1 hk1 hS => ?_)
    obtain ⟨N2, N3⟩ := u
    obtain ⟨hP1, hK1, hD1⟩ := hB
    rw [ht] at hP1
    obtain ⟨hP, hD⟩ := va_join (wr := [(h0, .inr (2, [.ref (a0 0), .ref (a0 1)])), (a0 1, .inr (1, [.int (mg M3 0), .ref (a3 1), .int (mg M3 2), .ref (a3 3), .int (mg M3 4), .ref (a3 5)])), (a3 1, .inl (cI, 4, .inl (ma M3 1))), (a3 3, .inl (cI, 4, .inl (ma M3 3))), (a3 5, .inl (cI, 2, .inl (ma M3 5)))]) (w1 := (rdW cB cI cJ cZ (a0 0) a1 N2 N3)) hP hD [1, 2] [0, 3, 4, 5, 6] rfl rfl (by decide) (by decide) hk1 hFc hP1 hD1
    have hP := hP.sub (ws' := (crW cB cI cJ cZ h0 a0 a1 a3 M0 N2 N3 M3)) [0, 5, 6, 1, 2, 3, 4] rfl
    have hD := hD.sub (ws' := (crW cB cI cJ cZ h0 a0 a1 a3 M0 N2 N3 M3)) [0, 5, 6, 1, 2, 3, 4] (by decide) rfl
    generalize H1 = H at hP hS ⊢
    have h := hw
    try dsimp only at h
    exact W.vret hx hb hr (fun t ht hW => ⟨⟨(M0, N2, N3, M3), rfl, h, by rw [ht]; exact hP, va_K.moved hW.alike hK, hD⟩, hS.F ht⟩) hS.2.2 dX2_readAgain_23
  have bE : ∀ (M0 : gS) (M1 : gS) (M2 : gS) (M3 : gS) (H : Heap) (locs : List Loc) (ls : Array Slot), va_P (dC, dI) vwCl (crW cB cI cJ cZ h0 a0 a1 a3 M0 M1 M2 M3) H → va_D A (crW cB cI cJ cZ h0 a0 a1 a3 M0 M1 M2 M3) → va_S A s.heap H locs → lv_has ls 2 [(0, .ref h0), (1, .int p1)] → wX2_readAgain p1 M0 M1 M2 M3 Q → W p l e (headSpec wsX2_readAgain rmX2_readAgain).room s m ([.ref h0, .int p1] : List Value).toArray below meth c H locs 0 0 (MQ below (va_Qv (fun (u : gS × gS × gS × gS) => Q u.1 u.2.1 u.2.2.1 u.2.2.2) (crB dC dI cB cI cJ cZ h0 a0 a1 a3 A) A) ([.ref h0, .int p1] : List Value).toArray s 0 0 A) (F0 m 0 ls []) := by
    intro M0 M1 M2 M3 H locs ls hP hD hS hl h
    unfold wX2_readAgain at h
    refine lv_iload_n hx hb dX2_readAgain_0 rfl (lv_at hl 1 rfl) ?_
    refine lv_if_ne (tgt := 15) hx hb dX2_readAgain_1 (by decide) (fun c1 => ?_) (fun c1 => ?_)
    · have h := h.2 c1
      exact b15  M0 M1 M2 M3 H locs ls hP hD hS (lv_sub hl [0] rfl) h
    · have h := h.1 c1
      refine lv_aload_n hx hb dX2_readAgain_4 rfl (lv_at hl 0 rfl) ?_
      refine va_get (D := (dC, dI)) (ci := 2) (v := .ref (a0 1)) (C := RX2) (T := TX2) (N := 2) hx hb hts hinX2 hown hK hP 0 rfl rfl 1 (by decide) f2 (fun _ h9 => h9) rfl dX2_readAgain_5 ?_
      refine va_get (D := (dC, dI)) (ci := 1) (v := .int (mg M3 4)) (C := RX1) (T := TX1) (N := 6) hx hb hts hinX1 hown hK hP 3 rfl rfl 4 (by decide) f3 (fun _ h9 => h9) rfl dX2_readAgain_8 ?_
      refine lv_iconst (v := (-1)) hx hb dX2_readAgain_11 (by decide) ?_
      refine lv_icmp_eq (tgt := 24) hx hb dX2_readAgain_12 (by decide) (fun c2 => ?_) (fun c2 => ?_)
      · have h := h.1 c2
        refine lv_aload_n hx hb dX2_readAgain_24 rfl (lv_at hl 0 rfl) ?_
        refine va_get (D := (dC, dI)) (ci := 2) (v := .ref (a0 0)) (C := RX2) (T := TX2) (N := 2) hx hb hts hinX2 hown hK hP 0 rfl rfl 0 (by decide) f1 (fun _ h9 => h9) rfl dX2_readAgain_25 ?_
        have hPc := hP.sub (ws' := (rdW cB cI cJ cZ (a0 0) a1 M1 M2)) [1, 2] rfl
        have hDc := hD.sub (ws' := (rdW cB cI cJ cZ (a0 0) a1 M1 M2)) [1, 2] (by decide) rfl
        have hFc := va_free (wc := (rdW cB cI cJ cZ (a0 0) a1 M1 M2)) hD hS hA [1, 2] rfl
        refine va_callv (va_runV (As := []) (rest := []) ⟨hx, hb, hml, hown, hts⟩ (kX7_advance l dC dI cB cI cJ cZ (a0 0) a1 H.size  M1 M2 _ h) (cwV 0 hts gX2_readAgain_X7_advance rfl rfl rfl (by decide +kernel) ⟨Nat.le_of_ble_eq_true rfl, Nat.le_of_ble_eq_true rfl⟩) (rdpV hK hPc hDc) rfl rfl hl.1 rfl (lv_room (Nat.le_of_ble_eq_true rfl)) dX2_readAgain_28 ⟨Nat.le_of_ble_eq_true rfl, Nat.le_of_ble_eq_true rfl⟩) hS (fun q _ z => hFc q z) hFc (fun u t H1 locs ht hvm hw hB hz1 hk1 hS => ?_)
        obtain ⟨N4, N5⟩ := u
        obtain ⟨hP1, hK1, hD1⟩ := hB
        rw [ht] at hP1
        obtain ⟨hP, hD⟩ := va_join (wr := [(h0, .inr (2, [.ref (a0 0), .ref (a0 1)])), (a0 1, .inr (1, [.int (mg M3 0), .ref (a3 1), .int (mg M3 2), .ref (a3 3), .int (mg M3 4), .ref (a3 5)])), (a3 1, .inl (cI, 4, .inl (ma M3 1))), (a3 3, .inl (cI, 4, .inl (ma M3 3))), (a3 5, .inl (cI, 2, .inl (ma M3 5)))]) (w1 := (rdW cB cI cJ cZ (a0 0) a1 N4 N5)) hP hD [1, 2] [0, 3, 4, 5, 6] rfl rfl (by decide) (by decide) hk1 hFc hP1 hD1
        have hP := hP.sub (ws' := (crW cB cI cJ cZ h0 a0 a1 a3 M0 N4 N5 M3)) [0, 5, 6, 1, 2, 3, 4] rfl
        have hD := hD.sub (ws' := (crW cB cI cJ cZ h0 a0 a1 a3 M0 N4 N5 M3)) [0, 5, 6, 1, 2, 3, 4] (by decide) rfl
        generalize H1 = H at hP hS ⊢
        have h := hw
        try dsimp only at h
        refine lv_aload_n hx hb dX2_readAgain_31 rfl (lv_at hl 0 rfl) ?_
        refine va_get (D := (dC, dI)) (ci := 2) (v := .ref (a0 1)) (C := RX2) (T := TX2) (N := 2) hx hb hts hinX2 hown hK hP 0 rfl rfl 1 (by decide) f2 (fun _ h9 => h9) rfl dX2_readAgain_32 ?_
        refine lv_aload_n hx hb dX2_readAgain_35 rfl (lv_at hl 0 rfl) ?_
        refine va_get (D := (dC, dI)) (ci := 2) (v := .ref (a0 0)) (C := RX2) (T := TX2) (N := 2) hx hb hts hinX2 hown hK hP 0 rfl rfl 0 (by decide) f1 (fun _ h9 => h9) rfl dX2_readAgain_36 ?_
        refine lv_iconst (v := 0) hx hb dX2_readAgain_39 (by decide) ?_
        refine lv_bipush (v := (9)) hx hb dX2_readAgain_40 (by decide) ?_
        have hPc := hP.sub (ws' := (rdW cB cI cJ cZ (a0 0) a1 N4 N5)) [1, 2] rfl
        have hDc := hD.sub (ws' := (rdW cB cI cJ cZ (a0 0) a1 N4 N5)) [1, 2] (by decide) rfl
        have hFc := va_free (wc := (rdW cB cI cJ cZ (a0 0) a1 N4 N5)) hD hS hA [1, 2] rfl
        refine va_calli (va_runV (As := [.int (0 : Int32), .int (9 : Int32)]) (rest := [.ref (a0 1)]) ⟨hx, hb, hml, hown, hts⟩ (kX7_takeNumber l dC dI cB cI cJ cZ (a0 0) a1 H.size (0 : Int32) (9 : Int32) N4 N5 _ h) (cwV 2 hts gX2_readAgain_X7_takeNumber rfl rfl rfl (by decide +kernel) ⟨Nat.le_of_ble_eq_true rfl, Nat.le_of_ble_eq_true rfl⟩) (rdpV hK hPc hDc) rfl rfl hl.1 rfl (lv_room (Nat.le_of_ble_eq_true rfl)) dX2_readAgain_42 ⟨Nat.le_of_ble_eq_true rfl, Nat.le_of_ble_eq_true rfl⟩) hS (fun q _ z => hFc q z) hFc (fun r6 u t H1 locs ht hvm hw hB hz1 hk1 hS => ?_)
        obtain ⟨N7, N8⟩ := u
        obtain ⟨hP1, hK1, hD1⟩ := hB
        rw [ht] at hP1
        obtain ⟨hP, hD⟩ := va_join (wr := [(h0, .inr (2, [.ref (a0 0), .ref (a0 1)])), (a0 1, .inr (1, [.int (mg M3 0), .ref (a3 1), .int (mg M3 2), .ref (a3 3), .int (mg M3 4), .ref (a3 5)])), (a3 1, .inl (cI, 4, .inl (ma M3 1))), (a3 3, .inl (cI, 4, .inl (ma M3 3))), (a3 5, .inl (cI, 2, .inl (ma M3 5)))]) (w1 := (rdW cB cI cJ cZ (a0 0) a1 N7 N8)) hP hD [1, 2] [0, 3, 4, 5, 6] rfl rfl (by decide) (by decide) hk1 hFc hP1 hD1
        have hP := hP.sub (ws' := (crW cB cI cJ cZ h0 a0 a1 a3 M0 N7 N8 M3)) [0, 5, 6, 1, 2, 3, 4] rfl
        have hD := hD.sub (ws' := (crW cB cI cJ cZ h0 a0 a1 a3 M0 N7 N8 M3)) [0, 5, 6, 1, 2, 3, 4] (by decide) rfl
        generalize H1 = H at hP hS ⊢
        have h := hw
        try dsimp only at h
        refine va_put (D := (dC, dI)) (ci := 1) (v := .int r6) (ty := .int) (C := RX1) (T := TX1) (N := 6) hx hb hts hinX1 tyX1 tyX1_ok nmX1 hown hK hP hD hS 3 rfl rfl 4 (by decide) f3 (fun _ h9 => h9) rfl (by decide +kernel) rfl rfl (Nat.le_of_ble_eq_true rfl) dX2_readAgain_45 (fun H locs hP hD hS => ?_)
        have hP := crP_3_f4 hP
        have hD := crD_3_f4 hD
        have h := h _ rfl
        generalize sg M3 4 r6 = N9 at hP hD h
        exact W.vret hx hb hr (fun t ht hW => ⟨⟨(M0, N7, N8, N9), rfl, h, by rw [ht]; exact hP, va_K.moved hW.alike hK, hD⟩, hS.F ht⟩) hS.2.2 dX2_readAgain_48
      · have h := h.2 c2
        exact b15  M0 M1 M2 M3 H locs ls hP hD hS (lv_sub hl [0] rfl) h
  have hl := lv_entry ([.ref h0, .int p1]) (n := 2) (Nat.le_of_ble_eq_true rfl)
  rw [lg_entry_eq]
  generalize (lg_sl ([.ref h0, .int p1]) ++ List.replicate (2 - (lg_sl ([.ref h0, .int p1])).length) Slot.unset).toArray = ls at hl ⊢
  have hl : lv_has ls 2 [(0, .ref h0), (1, .int p1)] := hl
  exact bE M0 M1 M2 M3 s.heap [] ls hP hD hS hl h
def wX2_readClause (p1 : Int32) (M0 : gS) (M1 : gS) (M2 : gS) (M3 : gS) (Q : gS → gS → gS → gS → Prop) : Prop :=
 (wX7_nameAmong 0 M1 M2 (fun (r1 : Int32) (N2 : gS) (N3 : gS) => ((r1 = (0 : Int32) → (wX2_readTune p1 M0 N2 N3 M3 (fun (N6 : gS) (N7 : gS) (N8 : gS) (N9 : gS) => (Q N6 N7 N8 N9))))
 ∧ (¬ r1 = (0 : Int32) → ((r1 = (1 : Int32) → (wX2_readWord p1 M0 N2 N3 M3 (fun (N12 : gS) (N13 : gS) (N14 : gS) (N15 : gS) => (Q N12 N13 N14 N15))))
 ∧ (¬ r1 = (1 : Int32) → ((r1 = (2 : Int32) → (wX2_readPurse p1 M0 N2 N3 M3 (fun (N18 : gS) (N19 : gS) (N20 : gS) (N21 : gS) => (Q N18 N19 N20 N21))))
 ∧ (¬ r1 = (2 : Int32) → ((r1 = (3 : Int32) → (wX2_readAgain p1 M0 N2 N3 M3 (fun (N24 : gS) (N25 : gS) (N26 : gS) (N27 : gS) => (Q N24 N25 N26 N27))))
 ∧ (¬ r1 = (3 : Int32) → (wX7_fail (0 : Int32) N2 N3 (fun (N29 : gS) (N30 : gS) => (Q M0 N29 N30 M3)))))))))))))
def rmX2_readClause : Room := { frames := 5, cells := 0, slots := 0, locals := 109 }
set_option maxHeartbeats 4000000 in
set_option maxRecDepth 100000 in
theorem kX2_readClause (l : Launch) (dC : Nat → ClassId) (dI : Nat → Nat → Nat) (cB cI cJ cZ : ClassId) (adK adV : Nat → Nat) (h0 : Nat) (a0 : Nat → Nat) (a1 : Nat → Nat) (a3 : Nat → Nat) (sz : Nat) (p1 : Int32) (M0 : gS) (M1 : gS) (M2 : gS) (M3 : gS) (Q : gS → gS → gS → gS → Prop) (h : wX2_readClause p1 M0 M1 M2 M3 Q) : Met l yX2_readClause wsX2_readClause rmX2_readClause (va_Pc [.ref h0, .int p1] (crIS dC dI cB cI cJ cZ h0 a0 a1 a3 M0 M1 M2 M3 adK adV sz)) (va_Qv (fun (u : gS × gS × gS × gS) => Q u.1 u.2.1 u.2.2.1 u.2.2.2) (crB dC dI cB cI cJ cZ h0 a0 a1 a3 (va_A (crW cB cI cJ cZ h0 a0 a1 a3 M0 M1 M2 M3) sz)) (va_A (crW cB cI cJ cZ h0 a0 a1 a3 M0 M1 M2 M3) sz)) 0 0 (va_A (crW cB cI cJ cZ h0 a0 a1 a3 M0 M1 M2 M3) sz) := by
  refine Met.ofW (cc := cX2_readClause) (maxL := 2) (ret := none) (by decide) rfl ?_
  intro p e s m args below meth c s₁ B hml hv
  obtain ⟨rfl, ⟨hsz, hP, hK, hD0⟩, hR, hE⟩ := hv
  have hx := B.exec
  have hb := B.bytes
  have hr := B.returns
  have hts := atoms_spec (ws := wsX2_readClause) B.pre
  have hown : s.vm.findClass RX2 = some m.cls := findClass_of_methodNamed B.named
  have hlocks := B.notSynchronized
  subst hsz
  have hD := hD0.self (sz := s.heap.size)
  generalize hAe : va_A (crW cB cI cJ cZ h0 a0 a1 a3 M0 M1 M2 M3) s.heap.size = A at hD hE ⊢
  have hA : ∀ q : Nat, s.heap.size ≤ q → A q := fun q h => by rw [← hAe]; exact Or.inr h
  have hS : va_S A s.heap s.heap [] := va_S.rf
  have hinX2 : ∀ w ∈ wsX20, w ∈ wsX2_readClause := by decide +kernel
  have f1 := hts (.fieldLink RX2 9 "LastWords$CornerReader" "in" "LLastWords$Reader;") (by decide +kernel)
  have bE : ∀ (M0 : gS) (M1 : gS) (M2 : gS) (M3 : gS) (H : Heap) (locs : List Loc) (ls : Array Slot), va_P (dC, dI) vwCl (crW cB cI cJ cZ h0 a0 a1 a3 M0 M1 M2 M3) H → va_D A (crW cB cI cJ cZ h0 a0 a1 a3 M0 M1 M2 M3) → va_S A s.heap H locs → lv_has ls 2 [(0, .ref h0), (1, .int p1)] → wX2_readClause p1 M0 M1 M2 M3 Q → W p l e (headSpec wsX2_readClause rmX2_readClause).room s m ([.ref h0, .int p1] : List Value).toArray below meth c H locs 0 0 (MQ below (va_Qv (fun (u : gS × gS × gS × gS) => Q u.1 u.2.1 u.2.2.1 u.2.2.2) (crB dC dI cB cI cJ cZ h0 a0 a1 a3 A) A) ([.ref h0, .int p1] : List Value).toArray s 0 0 A) (F0 m 0 ls []) := by
    intro M0 M1 M2 M3 H locs ls hP hD hS hl h
    unfold wX2_readClause at h
    refine lv_aload_n hx hb dX2_readClause_0 rfl (lv_at hl 0 rfl) ?_
    refine va_get (D := (dC, dI)) (ci := 2) (v := .ref (a0 0)) (C := RX2) (T := TX2) (N := 2) hx hb hts hinX2 hown hK hP 0 rfl rfl 0 (by decide) f1 (fun _ h9 => h9) rfl dX2_readClause_1 ?_
    refine va_ldcS hx hb hown hR.l0 dX2_readClause_4 ?_
    have hPc := hP.sub (ws' := (rdW cB cI cJ cZ (a0 0) a1 M1 M2)) [1, 2] rfl
    have hDc := hD.sub (ws' := (rdW cB cI cJ cZ (a0 0) a1 M1 M2)) [1, 2] (by decide) rfl
    have hFc := va_free (wc := (rdW cB cI cJ cZ (a0 0) a1 M1 M2)) hD hS hA [1, 2] rfl
    refine va_calli (va_runV (As := [.ref (adK 0)]) (rest := []) ⟨hx, hb, hml, hown, hts⟩ (kX7_nameAmong l dC dI cB cI cJ cZ adK adV (a0 0) a1 H.size 0 M1 M2 _ h) (cwV 1 hts gX2_readClause_X7_nameAmong rfl rfl rfl (by decide +kernel) ⟨Nat.le_of_ble_eq_true rfl, Nat.le_of_ble_eq_true rfl⟩) (rdpVS hK hPc hDc hR hE hS hFc) rfl rfl hl.1 rfl (lv_room (Nat.le_of_ble_eq_true rfl)) dX2_readClause_6 ⟨Nat.le_of_ble_eq_true rfl, Nat.le_of_ble_eq_true rfl⟩) hS (fun q _ z => hFc q z) hFc (fun r1 u t H1 locs ht hvm hw hB hz1 hk1 hS => ?_)
    obtain ⟨N2, N3⟩ := u
    obtain ⟨hP1, hK1, hD1⟩ := hB
    rw [ht] at hP1
    obtain ⟨hP, hD⟩ := va_join (wr := [(h0, .inr (2, [.ref (a0 0), .ref (a0 1)])), (a0 1, .inr (1, [.int (mg M3 0), .ref (a3 1), .int (mg M3 2), .ref (a3 3), .int (mg M3 4), .ref (a3 5)])), (a3 1, .inl (cI, 4, .inl (ma M3 1))), (a3 3, .inl (cI, 4, .inl (ma M3 3))), (a3 5, .inl (cI, 2, .inl (ma M3 5)))]) (w1 := (rdW cB cI cJ cZ (a0 0) a1 N2 N3)) hP hD [1, 2] [0, 3, 4, 5, 6] rfl rfl (by decide) (by decide) hk1 hFc hP1 hD1
    have hP := hP.sub (ws' := (crW cB cI cJ cZ h0 a0 a1 a3 M0 N2 N3 M3)) [0, 5, 6, 1, 2, 3, 4] rfl
    have hD := hD.sub (ws' := (crW cB cI cJ cZ h0 a0 a1 a3 M0 N2 N3 M3)) [0, 5, 6, 1, 2, 3, 4] (by decide) rfl
    generalize H1 = H at hP hS ⊢
    have h := hw
    try dsimp only at h
    by_cases c4 : r1 = (0 : Int32)
    · have h := h.1 c4
      refine lv_tableIn (tgt := 40) hx hb dX2_readClause_9 (by rw [c4]; decide) (by rw [c4]; decide) (by rw [c4]; rfl) (by decide) ?_
      refine lv_aload_n hx hb dX2_readClause_40 rfl (lv_at hl 0 rfl) ?_
      refine lv_iload_n hx hb dX2_readClause_41 rfl (lv_at hl 1 rfl) ?_
      have hFc := gs_free hD hS hA
      refine va_callv (va_runV (As := [.int p1]) (rest := []) ⟨hx, hb, hml, hown, hts⟩ (kX2_readTune l dC dI cB cI cJ cZ h0 a0 a1 a3 H.size p1 M0 N2 N3 M3 _ h) (cwV 1 hts gX2_readClause_X2_readTune rfl rfl rfl (by decide +kernel) ⟨Nat.le_of_ble_eq_true rfl, Nat.le_of_ble_eq_true rfl⟩) (crpV hK hP hD) rfl rfl hl.1 rfl (lv_room (Nat.le_of_ble_eq_true rfl)) dX2_readClause_42 ⟨Nat.le_of_ble_eq_true rfl, Nat.le_of_ble_eq_true rfl⟩) hS (fun q _ z => hFc q z) hFc (fun u t H1 locs ht hvm hw hB hz1 hk1 hS => ?_)
      obtain ⟨N6, N7, N8, N9⟩ := u
      obtain ⟨hP, hD⟩ := gs_back ht hFc hB
      generalize H1 = H at hP hS ⊢
      have h := hw
      try dsimp only at h
      refine lv_goto (tgt := 80) hx hb dX2_readClause_45 (by decide) ?_
      exact W.vret hx hb hr (fun t ht hW => ⟨⟨(N6, N7, N8, N9), rfl, h, by rw [ht]; exact hP, va_K.moved hW.alike hK, hD⟩, hS.F ht⟩) hS.2.2 dX2_readClause_80
    have h := h.2 c4
    by_cases c10 : r1 = (1 : Int32)
    · have h := h.1 c10
      refine lv_tableIn (tgt := 48) hx hb dX2_readClause_9 (by rw [c10]; decide) (by rw [c10]; decide) (by rw [c10]; rfl) (by decide) ?_
      refine lv_aload_n hx hb dX2_readClause_48 rfl (lv_at hl 0 rfl) ?_
      refine lv_iload_n hx hb dX2_readClause_49 rfl (lv_at hl 1 rfl) ?_
      have hFc := gs_free hD hS hA
      refine va_callv (va_runV (As := [.int p1]) (rest := []) ⟨hx, hb, hml, hown, hts⟩ (kX2_readWord l dC dI cB cI cJ cZ h0 a0 a1 a3 H.size p1 M0 N2 N3 M3 _ h) (cwV 1 hts gX2_readClause_X2_readWord rfl rfl rfl (by decide +kernel) ⟨Nat.le_of_ble_eq_true rfl, Nat.le_of_ble_eq_true rfl⟩) (crpV hK hP hD) rfl rfl hl.1 rfl (lv_room (Nat.le_of_ble_eq_true rfl)) dX2_readClause_50 ⟨Nat.le_of_ble_eq_true rfl, Nat.le_of_ble_eq_true rfl⟩) hS (fun q _ z => hFc q z) hFc (fun u t H1 locs ht hvm hw hB hz1 hk1 hS => ?_)
      obtain ⟨N12, N13, N14, N15⟩ := u
      obtain ⟨hP, hD⟩ := gs_back ht hFc hB
      generalize H1 = H at hP hS ⊢
      have h := hw
      try dsimp only at h
      refine lv_goto (tgt := 80) hx hb dX2_readClause_53 (by decide) ?_
      exact W.vret hx hb hr (fun t ht hW => ⟨⟨(N12, N13, N14, N15), rfl, h, by rw [ht]; exact hP, va_K.moved hW.alike hK, hD⟩, hS.F ht⟩) hS.2.2 dX2_readClause_80
    have h := h.2 c10
    by_cases c16 : r1 = (2 : Int32)
    · have h := h.1 c16
      refine lv_tableIn (tgt := 56) hx hb dX2_readClause_9 (by rw [c16]; decide) (by rw [c16]; decide) (by rw [c16]; rfl) (by decide) ?_
      refine lv_aload_n hx hb dX2_readClause_56 rfl (lv_at hl 0 rfl) ?_
      refine lv_iload_n hx hb dX2_readClause_57 rfl (lv_at hl 1 rfl) ?_
      have hFc := gs_free hD hS hA
      refine va_callv (va_runV (As := [.int p1]) (rest := []) ⟨hx, hb, hml, hown, hts⟩ (kX2_readPurse l dC dI cB cI cJ cZ adK adV h0 a0 a1 a3 H.size p1 M0 N2 N3 M3 _ h) (cwV 1 hts gX2_readClause_X2_readPurse rfl rfl rfl (by decide +kernel) ⟨Nat.le_of_ble_eq_true rfl, Nat.le_of_ble_eq_true rfl⟩) (crpVS hK hP hD hR hE hS hFc) rfl rfl hl.1 rfl (lv_room (Nat.le_of_ble_eq_true rfl)) dX2_readClause_58 ⟨Nat.le_of_ble_eq_true rfl, Nat.le_of_ble_eq_true rfl⟩) hS (fun q _ z => hFc q z) hFc (fun u t H1 locs ht hvm hw hB hz1 hk1 hS => ?_)
      obtain ⟨N18, N19, N20, N21⟩ := u
      obtain ⟨hP, hD⟩ := gs_back ht hFc hB
      generalize H1 = H at hP hS ⊢
      have h := hw
      try dsimp only at h
      refine lv_goto (tgt := 80) hx hb dX2_readClause_61 (by decide) ?_
      exact W.vret hx hb hr (fun t ht hW => ⟨⟨(N18, N19, N20, N21), rfl, h, by rw [ht]; exact hP, va_K.moved hW.alike hK, hD⟩, hS.F ht⟩) hS.2.2 dX2_readClause_80
    have h := h.2 c16
    by_cases c22 : r1 = (3 : Int32)
    · have h := h.1 c22
      refine lv_tableIn (tgt := 64) hx hb dX2_readClause_9 (by rw [c22]; decide) (by rw [c22]; decide) (by rw [c22]; rfl) (by decide) ?_
      refine lv_aload_n hx hb dX2_readClause_64 rfl (lv_at hl 0 rfl) ?_
      refine lv_iload_n hx hb dX2_readClause_65 rfl (lv_at hl 1 rfl) ?_
      have hFc := gs_free hD hS hA
      refine va_callv (va_runV (As := [.int p1]) (rest := []) ⟨hx, hb, hml, hown, hts⟩ (kX2_readAgain l dC dI cB cI cJ cZ h0 a0 a1 a3 H.size p1 M0 N2 N3 M3 _ h) (cwV 1 hts gX2_readClause_X2_readAgain rfl rfl rfl (by decide +kernel) ⟨Nat.le_of_ble_eq_true rfl, Nat.le_of_ble_eq_true rfl⟩) (crpV hK hP hD) rfl rfl hl.1 rfl (lv_room (Nat.le_of_ble_eq_true rfl)) dX2_readClause_66 ⟨Nat.le_of_ble_eq_true rfl, Nat.le_of_ble_eq_true rfl⟩) hS (fun q _ z => hFc q z) hFc (fun u t H1 locs ht hvm hw hB hz1 hk1 hS => ?_)
      obtain ⟨N24, N25, N26, N27⟩ := u
      obtain ⟨hP, hD⟩ := gs_back ht hFc hB
      generalize H1 = H at hP hS ⊢
      have h := hw
      try dsimp only at h
      refine lv_goto (tgt := 80) hx hb dX2_readClause_69 (by decide) ?_
      exact W.vret hx hb hr (fun t ht hW => ⟨⟨(N24, N25, N26, N27), rfl, h, by rw [ht]; exact hP, va_K.moved hW.alike hK, hD⟩, hS.F ht⟩) hS.2.2 dX2_readClause_80
    have h := h.2 c22
    refine lv_tableOut (tgt := 72) hx hb dX2_readClause_9 (by have qc4 : r1.toInt ≠ 0 := fun q => c4 (Int32.toInt_inj.mp (q.trans (by decide))); have qc10 : r1.toInt ≠ 1 := fun q => c10 (Int32.toInt_inj.mp (q.trans (by decide))); have qc16 : r1.toInt ≠ 2 := fun q => c16 (Int32.toInt_inj.mp (q.trans (by decide))); have qc22 : r1.toInt ≠ 3 := fun q => c22 (Int32.toInt_inj.mp (q.trans (by decide))); omega) (by decide) ?_
    refine lv_aload_n hx hb dX2_readClause_72 rfl (lv_at hl 0 rfl) ?_
    refine va_get (D := (dC, dI)) (ci := 2) (v := .ref (a0 0)) (C := RX2) (T := TX2) (N := 2) hx hb hts hinX2 hown hK hP 0 rfl rfl 0 (by decide) f1 (fun _ h9 => h9) rfl dX2_readClause_73 ?_
    refine lv_iconst (v := 0) hx hb dX2_readClause_76 (by decide) ?_
    have hPc := hP.sub (ws' := (rdW cB cI cJ cZ (a0 0) a1 N2 N3)) [1, 2] rfl
    have hDc := hD.sub (ws' := (rdW cB cI cJ cZ (a0 0) a1 N2 N3)) [1, 2] (by decide) rfl
    have hFc := va_free (wc := (rdW cB cI cJ cZ (a0 0) a1 N2 N3)) hD hS hA [1, 2] rfl
    refine va_callv (va_runV (As := [.int (0 : Int32)]) (rest := []) ⟨hx, hb, hml, hown, hts⟩ (kX7_fail l dC dI cB cI cJ cZ (a0 0) a1 H.size (0 : Int32) N2 N3 _ h) (cwV 1 hts gX2_readClause_X7_fail rfl rfl rfl (by decide +kernel) ⟨Nat.le_of_ble_eq_true rfl, Nat.le_of_ble_eq_true rfl⟩) (rdpV hK hPc hDc) rfl rfl hl.1 rfl (lv_room (Nat.le_of_ble_eq_true rfl)) dX2_readClause_77 ⟨Nat.le_of_ble_eq_true rfl, Nat.le_of_ble_eq_true rfl⟩) hS (fun q _ z => hFc q z) hFc (fun u t H1 locs ht hvm hw hB hz1 hk1 hS => ?_)
    obtain ⟨N29, N30⟩ := u
    obtain ⟨hP1, hK1, hD1⟩ := hB
    rw [ht] at hP1
    obtain ⟨hP, hD⟩ := va_join (wr := [(h0, .inr (2, [.ref (a0 0), .ref (a0 1)])), (a0 1, .inr (1, [.int (mg M3 0), .ref (a3 1), .int (mg M3 2), .ref (a3 3), .int (mg M3 4), .ref (a3 5)])), (a3 1, .inl (cI, 4, .inl (ma M3 1))), (a3 3, .inl (cI, 4, .inl (ma M3 3))), (a3 5, .inl (cI, 2, .inl (ma M3 5)))]) (w1 := (rdW cB cI cJ cZ (a0 0) a1 N29 N30)) hP hD [1, 2] [0, 3, 4, 5, 6] rfl rfl (by decide) (by decide) hk1 hFc hP1 hD1
    have hP := hP.sub (ws' := (crW cB cI cJ cZ h0 a0 a1 a3 M0 N29 N30 M3)) [0, 5, 6, 1, 2, 3, 4] rfl
    have hD := hD.sub (ws' := (crW cB cI cJ cZ h0 a0 a1 a3 M0 N29 N30 M3)) [0, 5, 6, 1, 2, 3, 4] (by decide) rfl
    generalize H1 = H at hP hS ⊢
    have h := hw
    try dsimp only at h
    exact W.vret hx hb hr (fun t ht hW => ⟨⟨(M0, N29, N30, M3), rfl, h, by rw [ht]; exact hP, va_K.moved hW.alike hK, hD⟩, hS.F ht⟩) hS.2.2 dX2_readClause_80
  have hl := lv_entry ([.ref h0, .int p1]) (n := 2) (Nat.le_of_ble_eq_true rfl)
  rw [lg_entry_eq]
  generalize (lg_sl ([.ref h0, .int p1]) ++ List.replicate (2 - (lg_sl ([.ref h0, .int p1])).length) Slot.unset).toArray = ls at hl ⊢
  have hl : lv_has ls 2 [(0, .ref h0), (1, .int p1)] := hl
  exact bE M0 M1 M2 M3 s.heap [] ls hP hD hS hl h
def wX2_read_122  (Q : Int32 → gS → gS → gS → gS → Prop)  (M0 : gS) (M1 : gS) (M2 : gS) (M3 : gS) : Prop :=
 (∀ x1 : Int32, x1 = (if (0 : Int32) < (mg M3 4) then (mg M3 4) else (0 : Int32)) → (∀ N2 : gS, N2 = sg M3 4 x1 → (Q (mg M1 7) M0 M1 M2 N2)))
def wX2_read_114  (Q : Int32 → gS → gS → gS → gS → Prop)  (M0 : gS) (M1 : gS) (M2 : gS) (M3 : gS) : Prop :=
 (wX7_fail (0 : Int32) M1 M2 (fun (N2 : gS) (N3 : gS) => (wX2_read_122  Q M0 N2 N3 M3)))
def wX2_read_94  (Q : Int32 → gS → gS → gS → gS → Prop)  (M0 : gS) (M1 : gS) (M2 : gS) (M3 : gS) : Prop :=
 (((mg M3 0) = 0 → (wX2_read_114  Q M0 M1 M2 M3))
 ∧ (¬ (mg M3 0) = 0 → (((mg M3 2) = 0 → (wX2_read_114  Q M0 M1 M2 M3))
 ∧ (¬ (mg M3 2) = 0 → (wX2_read_122  Q M0 M1 M2 M3)))))
def wX2_read_77 (B55 : Int32 → Int32 → gS → gS → gS → gS → Prop) (Q : Int32 → gS → gS → gS → gS → Prop) (y2 : Int32) (z0 : Int32) (M0 : gS) (M1 : gS) (M2 : gS) (M3 : gS) : Prop :=
 (wX2_readClause z0 M0 M1 M2 M3 (fun (N2 : gS) (N3 : gS) (N4 : gS) (N5 : gS) => (wX7_goesOnToClause  N3 N4 (fun (b9 : Bool) (N7 : gS) (N8 : gS) => (∀ x10 : Int32, x10 = y2 + (1 : Int32) → (B55 (bI b9) x10 N2 N7 N8 N5))))))
def wX2_read_55  (Q : Int32 → gS → gS → gS → gS → Prop) : Nat → Int32 → Int32 → gS → gS → gS → gS → Prop
 | 0, _, _, _, _, _, _ => False
 | n + 1, y1, y2, M0, M1, M2, M3 => (((16 : Int32) < y2 → (wX2_read_94  Q M0 M1 M2 M3))
 ∧ (¬ (16 : Int32) < y2 → ((y1 = 0 → (wX2_read_94  Q M0 M1 M2 M3))
 ∧ (¬ y1 = 0 → ((y2 = (16 : Int32) → (wX2_read_77 (fun (y1 : Int32) (y2 : Int32) (M0 : gS) (M1 : gS) (M2 : gS) (M3 : gS) => wX2_read_55  Q n y1 y2 M0 M1 M2 M3) Q y2 (1 : Int32) M0 M1 M2 M3))
 ∧ (¬ y2 = (16 : Int32) → (wX2_read_77 (fun (y1 : Int32) (y2 : Int32) (M0 : gS) (M1 : gS) (M2 : gS) (M3 : gS) => wX2_read_55  Q n y1 y2 M0 M1 M2 M3) Q y2 (0 : Int32) M0 M1 M2 M3)))))))
def wX2_read  (M0 : gS) (M1 : gS) (M2 : gS) (M3 : gS) (Q : Int32 → gS → gS → gS → gS → Prop) : Prop :=
 (∀ N1 : gS, N1 = sg M3 0 (0 : Int32) → (∀ N2 : gS, N2 = sg N1 2 (0 : Int32) → (∀ N3 : gS, N3 = sg N2 4 (-1 : Int32) → (∀ N4 : gS, N4 = sa N3 5 0 (0 : Int32) → (∀ N5 : gS, N5 = sa N4 5 1 (0 : Int32) → (wX7_advance  M1 M2 (fun (N7 : gS) (N8 : gS) => (∃ k55 : Nat, wX2_read_55  Q k55 (1 : Int32) (0 : Int32) M0 N7 N8 N5))))))))
def rmX2_read : Room := { frames := 6, cells := 0, slots := 0, locals := 130 }
set_option maxHeartbeats 4000000 in
set_option maxRecDepth 100000 in
theorem kX2_read (l : Launch) (dC : Nat → ClassId) (dI : Nat → Nat → Nat) (cB cI cJ cZ : ClassId) (adK adV : Nat → Nat) (h0 : Nat) (a0 : Nat → Nat) (a1 : Nat → Nat) (a3 : Nat → Nat) (sz : Nat)  (M0 : gS) (M1 : gS) (M2 : gS) (M3 : gS) (Q : Int32 → gS → gS → gS → gS → Prop) (h : wX2_read  M0 M1 M2 M3 Q) : Met l yX2_read wsX2_read rmX2_read (va_Pc [.ref h0] (crIS dC dI cB cI cJ cZ h0 a0 a1 a3 M0 M1 M2 M3 adK adV sz)) (va_Qi (fun (r : Int32) (u : gS × gS × gS × gS) => Q r u.1 u.2.1 u.2.2.1 u.2.2.2) (crB dC dI cB cI cJ cZ h0 a0 a1 a3 (va_A (crW cB cI cJ cZ h0 a0 a1 a3 M0 M1 M2 M3) sz)) (va_A (crW cB cI cJ cZ h0 a0 a1 a3 M0 M1 M2 M3) sz)) 0 0 (va_A (crW cB cI cJ cZ h0 a0 a1 a3 M0 M1 M2 M3) sz) := by
  refine Met.ofW (cc := cX2_read) (maxL := 3) (ret := (some .int)) (by decide) rfl ?_
  intro p e s m args below meth c s₁ B hml hv
  obtain ⟨rfl, ⟨hsz, hP, hK, hD0⟩, hR, hE⟩ := hv
  have hx := B.exec
  have hb := B.bytes
  have hr := B.returns
  have hts := atoms_spec (ws := wsX2_read) B.pre
  have hown : s.vm.findClass RX2 = some m.cls := findClass_of_methodNamed B.named
  have hlocks := B.notSynchronized
  subst hsz
  have hD := hD0.self (sz := s.heap.size)
  generalize hAe : va_A (crW cB cI cJ cZ h0 a0 a1 a3 M0 M1 M2 M3) s.heap.size = A at hD hE ⊢
  have hA : ∀ q : Nat, s.heap.size ≤ q → A q := fun q h => by rw [← hAe]; exact Or.inr h
  have hS : va_S A s.heap s.heap [] := va_S.rf
  have hinX1 : ∀ w ∈ wsX10, w ∈ wsX2_read := by decide +kernel
  have hinX2 : ∀ w ∈ wsX20, w ∈ wsX2_read := by decide +kernel
  have hinX7 : ∀ w ∈ wsX70, w ∈ wsX2_read := by decide +kernel
  have f1 := hts (.fieldLink RX2 15 "LastWords$CornerReader" "corner" "LLastWords$Corner;") (by decide +kernel)
  have f2 := hts (.fieldLink RX2 28 "LastWords$Corner" "again" "I") (by decide +kernel)
  have f3 := hts (.methodLink RX2 52 Lib.Math.max.name) (by decide +kernel)
  have f4 := hts (.static Lib.Math.max.name) (by decide +kernel)
  have f5 := hts (.initialized "java/lang/Math") (by decide +kernel)
  have f6 := hts (.code Lib.Math.max.name Lib.Math.max.code 2 (some .int)) (by decide +kernel)
  have f7 := hts (.fieldLink RX2 9 "LastWords$CornerReader" "in" "LLastWords$Reader;") (by decide +kernel)
  have f8 := hts (.fieldLink RX2 58 "LastWords$Reader" "fault" "I") (by decide +kernel)
  have f9 := hts (.fieldLink RX2 19 "LastWords$Corner" "tunes" "I") (by decide +kernel)
  have f10 := hts (.fieldLink RX2 25 "LastWords$Corner" "words" "I") (by decide +kernel)
  have f11 := hts (.fieldLink RX2 31 "LastWords$Corner" "purses" "[I") (by decide +kernel)
  have b122 : ∀  (M0 : gS) (M1 : gS) (M2 : gS) (M3 : gS) (H : Heap) (locs : List Loc) (ls : Array Slot), va_P (dC, dI) vwCl (crW cB cI cJ cZ h0 a0 a1 a3 M0 M1 M2 M3) H → va_D A (crW cB cI cJ cZ h0 a0 a1 a3 M0 M1 M2 M3) → va_S A s.heap H locs → lv_has ls 3 [(0, .ref h0)] → wX2_read_122  Q M0 M1 M2 M3 → W p l e (headSpec wsX2_read rmX2_read).room s m ([.ref h0] : List Value).toArray below meth c H locs 0 0 (MQ below (va_Qi (fun (r : Int32) (u : gS × gS × gS × gS) => Q r u.1 u.2.1 u.2.2.1 u.2.2.2) (crB dC dI cB cI cJ cZ h0 a0 a1 a3 A) A) ([.ref h0] : List Value).toArray s 0 0 A) (F0 m 122 ls []) := by
    intro  M0 M1 M2 M3 H locs ls hP hD hS hl h
    unfold wX2_read_122 at h
    refine lv_aload_n hx hb dX2_read_122 rfl (lv_at hl 0 rfl) ?_
    refine va_get (D := (dC, dI)) (ci := 2) (v := .ref (a0 1)) (C := RX2) (T := TX2) (N := 2) hx hb hts hinX2 hown hK hP 0 rfl rfl 1 (by decide) f1 (fun _ h9 => h9) rfl dX2_read_123 ?_
    refine lv_iconst (v := 0) hx hb dX2_read_126 (by decide) ?_
    refine lv_aload_n hx hb dX2_read_127 rfl (lv_at hl 0 rfl) ?_
    refine va_get (D := (dC, dI)) (ci := 2) (v := .ref (a0 1)) (C := RX2) (T := TX2) (N := 2) hx hb hts hinX2 hown hK hP 0 rfl rfl 1 (by decide) f1 (fun _ h9 => h9) rfl dX2_read_128 ?_
    refine va_get (D := (dC, dI)) (ci := 1) (v := .int (mg M3 4)) (C := RX1) (T := TX1) (N := 6) hx hb hts hinX1 hown hK hP 3 rfl rfl 4 (by decide) f2 (fun _ h9 => h9) rfl dX2_read_131 ?_
    refine va_mmax hx hb (by rw [hml]; exact hl.1.symm) hown f3 f4 f5 f6 (Nat.le_of_ble_eq_true rfl) (Nat.le_of_ble_eq_true rfl) (Nat.le_of_ble_eq_true rfl) (Nat.le_of_ble_eq_true rfl) dX2_read_134 ?_
    refine lv_topi (fun x1 ex1 => ?_)
    have h := h x1 ex1
    refine va_put (D := (dC, dI)) (ci := 1) (v := .int x1) (ty := .int) (C := RX1) (T := TX1) (N := 6) hx hb hts hinX1 tyX1 tyX1_ok nmX1 hown hK hP hD hS 3 rfl rfl 4 (by decide) f2 (fun _ h9 => h9) rfl (by decide +kernel) rfl rfl (Nat.le_of_ble_eq_true rfl) dX2_read_137 (fun H locs hP hD hS => ?_)
    have hP := crP_3_f4 hP
    have hD := crD_3_f4 hD
    have h := h _ rfl
    generalize sg M3 4 x1 = N2 at hP hD h
    refine lv_aload_n hx hb dX2_read_140 rfl (lv_at hl 0 rfl) ?_
    refine va_get (D := (dC, dI)) (ci := 2) (v := .ref (a0 0)) (C := RX2) (T := TX2) (N := 2) hx hb hts hinX2 hown hK hP 0 rfl rfl 0 (by decide) f7 (fun _ h9 => h9) rfl dX2_read_141 ?_
    refine va_get (D := (dC, dI)) (ci := 7) (v := .int (mg M1 7)) (C := RX7) (T := TX7) (N := 8) hx hb hts hinX7 hown hK hP 1 rfl rfl 7 (by decide) f8 (fun _ h9 => h9) rfl dX2_read_144 ?_
    exact W.iret (v := (mg M1 7)) hx hb hr (fun t ht hW => ⟨⟨_, (M0, M1, M2, N2), rfl, h, by rw [ht]; exact hP, va_K.moved hW.alike hK, hD⟩, hS.F ht⟩) hS.2.2 dX2_read_147
  have b114 : ∀  (M0 : gS) (M1 : gS) (M2 : gS) (M3 : gS) (H : Heap) (locs : List Loc) (ls : Array Slot), va_P (dC, dI) vwCl (crW cB cI cJ cZ h0 a0 a1 a3 M0 M1 M2 M3) H → va_D A (crW cB cI cJ cZ h0 a0 a1 a3 M0 M1 M2 M3) → va_S A s.heap H locs → lv_has ls 3 [(0, .ref h0)] → wX2_read_114  Q M0 M1 M2 M3 → W p l e (headSpec wsX2_read rmX2_read).room s m ([.ref h0] : List Value).toArray below meth c H locs 0 0 (MQ below (va_Qi (fun (r : Int32) (u : gS × gS × gS × gS) => Q r u.1 u.2.1 u.2.2.1 u.2.2.2) (crB dC dI cB cI cJ cZ h0 a0 a1 a3 A) A) ([.ref h0] : List Value).toArray s 0 0 A) (F0 m 114 ls []) := by
    intro  M0 M1 M2 M3 H locs ls hP hD hS hl h
    unfold wX2_read_114 at h
    refine lv_aload_n hx hb dX2_read_114 rfl (lv_at hl 0 rfl) ?_
    refine va_get (D := (dC, dI)) (ci := 2) (v := .ref (a0 0)) (C := RX2) (T := TX2) (N := 2) hx hb hts hinX2 hown hK hP 0 rfl rfl 0 (by decide) f7 (fun _ h9 => h9) rfl dX2_read_115 ?_
    refine lv_iconst (v := 0) hx hb dX2_read_118 (by decide) ?_
    have hPc := hP.sub (ws' := (rdW cB cI cJ cZ (a0 0) a1 M1 M2)) [1, 2] rfl
    have hDc := hD.sub (ws' := (rdW cB cI cJ cZ (a0 0) a1 M1 M2)) [1, 2] (by decide) rfl
    have hFc := va_free (wc := (rdW cB cI cJ cZ (a0 0) a1 M1 M2)) hD hS hA [1, 2] rfl
    refine va_callv (va_runV (As := [.int (0 : Int32)]) (rest := []) ⟨hx, hb, hml, hown, hts⟩ (kX7_fail l dC dI cB cI cJ cZ (a0 0) a1 H.size (0 : Int32) M1 M2 _ h) (cwV 1 hts gX2_read_X7_fail rfl rfl rfl (by decide +kernel) ⟨Nat.le_of_ble_eq_true rfl, Nat.le_of_ble_eq_true rfl⟩) (rdpV hK hPc hDc) rfl rfl hl.1 rfl (lv_room (Nat.le_of_ble_eq_true rfl)) dX2_read_119 ⟨Nat.le_of_ble_eq_true rfl, Nat.le_of_ble_eq_true rfl⟩) hS (fun q _ z => hFc q z) hFc (fun u t H1 locs ht hvm hw hB hz1 hk1 hS => ?_)
    obtain ⟨N2, N3⟩ := u
    obtain ⟨hP1, hK1, hD1⟩ := hB
    rw [ht] at hP1
    obtain ⟨hP, hD⟩ := va_join (wr := [(h0, .inr (2, [.ref (a0 0), .ref (a0 1)])), (a0 1, .inr (1, [.int (mg M3 0), .ref (a3 1), .int (mg M3 2), .ref (a3 3), .int (mg M3 4), .ref (a3 5)])), (a3 1, .inl (cI, 4, .inl (ma M3 1))), (a3 3, .inl (cI, 4, .inl (ma M3 3))), (a3 5, .inl (cI, 2, .inl (ma M3 5)))]) (w1 := (rdW cB cI cJ cZ (a0 0) a1 N2 N3)) hP hD [1, 2] [0, 3, 4, 5, 6] rfl rfl (by decide) (by decide) hk1 hFc hP1 hD1
    have hP := hP.sub (ws' := (crW cB cI cJ cZ h0 a0 a1 a3 M0 N2 N3 M3)) [0, 5, 6, 1, 2, 3, 4] rfl
    have hD := hD.sub (ws' := (crW cB cI cJ cZ h0 a0 a1 a3 M0 N2 N3 M3)) [0, 5, 6, 1, 2, 3, 4] (by decide) rfl
    generalize H1 = H at hP hS ⊢
    have h := hw
    try dsimp only at h
    exact b122  M0 N2 N3 M3 H locs ls hP hD hS (lv_sub hl [0] rfl) h
  have b94 : ∀  (M0 : gS) (M1 : gS) (M2 : gS) (M3 : gS) (H : Heap) (locs : List Loc) (ls : Array Slot), va_P (dC, dI) vwCl (crW cB cI cJ cZ h0 a0 a1 a3 M0 M1 M2 M3) H → va_D A (crW cB cI cJ cZ h0 a0 a1 a3 M0 M1 M2 M3) → va_S A s.heap H locs → lv_has ls 3 [(0, .ref h0)] → wX2_read_94  Q M0 M1 M2 M3 → W p l e (headSpec wsX2_read rmX2_read).room s m ([.ref h0] : List Value).toArray below meth c H locs 0 0 (MQ below (va_Qi (fun (r : Int32) (u : gS × gS × gS × gS) => Q r u.1 u.2.1 u.2.2.1 u.2.2.2) (crB dC dI cB cI cJ cZ h0 a0 a1 a3 A) A) ([.ref h0] : List Value).toArray s 0 0 A) (F0 m 94 ls []) := by
    intro  M0 M1 M2 M3 H locs ls hP hD hS hl h
    unfold wX2_read_94 at h
    refine lv_aload_n hx hb dX2_read_94 rfl (lv_at hl 0 rfl) ?_
    refine va_get (D := (dC, dI)) (ci := 2) (v := .ref (a0 1)) (C := RX2) (T := TX2) (N := 2) hx hb hts hinX2 hown hK hP 0 rfl rfl 1 (by decide) f1 (fun _ h9 => h9) rfl dX2_read_95 ?_
    refine va_get (D := (dC, dI)) (ci := 1) (v := .int (mg M3 0)) (C := RX1) (T := TX1) (N := 6) hx hb hts hinX1 hown hK hP 3 rfl rfl 0 (by decide) f9 (fun _ h9 => h9) rfl dX2_read_98 ?_
    refine lv_if_eq (tgt := 114) hx hb dX2_read_101 (by decide) (fun c1 => ?_) (fun c1 => ?_)
    · have h := h.1 c1
      exact b114  M0 M1 M2 M3 H locs ls hP hD hS (lv_sub hl [0] rfl) h
    · have h := h.2 c1
      refine lv_aload_n hx hb dX2_read_104 rfl (lv_at hl 0 rfl) ?_
      refine va_get (D := (dC, dI)) (ci := 2) (v := .ref (a0 1)) (C := RX2) (T := TX2) (N := 2) hx hb hts hinX2 hown hK hP 0 rfl rfl 1 (by decide) f1 (fun _ h9 => h9) rfl dX2_read_105 ?_
      refine va_get (D := (dC, dI)) (ci := 1) (v := .int (mg M3 2)) (C := RX1) (T := TX1) (N := 6) hx hb hts hinX1 hown hK hP 3 rfl rfl 2 (by decide) f10 (fun _ h9 => h9) rfl dX2_read_108 ?_
      refine lv_if_ne (tgt := 122) hx hb dX2_read_111 (by decide) (fun c2 => ?_) (fun c2 => ?_)
      · have h := h.2 c2
        exact b122  M0 M1 M2 M3 H locs ls hP hD hS (lv_sub hl [0] rfl) h
      · have h := h.1 c2
        exact b114  M0 M1 M2 M3 H locs ls hP hD hS (lv_sub hl [0] rfl) h
  have b77 : ∀ (B55 : Int32 → Int32 → gS → gS → gS → gS → Prop) (hB55 : ∀ (y1 : Int32) (y2 : Int32) (M0 : gS) (M1 : gS) (M2 : gS) (M3 : gS) (H : Heap) (locs : List Loc) (ls : Array Slot), va_P (dC, dI) vwCl (crW cB cI cJ cZ h0 a0 a1 a3 M0 M1 M2 M3) H → va_D A (crW cB cI cJ cZ h0 a0 a1 a3 M0 M1 M2 M3) → va_S A s.heap H locs → lv_has ls 3 [(0, .ref h0), (1, .int y1), (2, .int y2)] → B55 y1 y2 M0 M1 M2 M3 → W p l e (headSpec wsX2_read rmX2_read).room s m ([.ref h0] : List Value).toArray below meth c H locs 0 0 (MQ below (va_Qi (fun (r : Int32) (u : gS × gS × gS × gS) => Q r u.1 u.2.1 u.2.2.1 u.2.2.2) (crB dC dI cB cI cJ cZ h0 a0 a1 a3 A) A) ([.ref h0] : List Value).toArray s 0 0 A) (F0 m 55 ls [])) (y2 : Int32) (z0 : Int32) (M0 : gS) (M1 : gS) (M2 : gS) (M3 : gS) (H : Heap) (locs : List Loc) (ls : Array Slot), va_P (dC, dI) vwCl (crW cB cI cJ cZ h0 a0 a1 a3 M0 M1 M2 M3) H → va_D A (crW cB cI cJ cZ h0 a0 a1 a3 M0 M1 M2 M3) → va_S A s.heap H locs → lv_has ls 3 [(0, .ref h0), (2, .int y2)] → wX2_read_77 B55 Q y2 z0 M0 M1 M2 M3 → W p l e (headSpec wsX2_read rmX2_read).room s m ([.ref h0] : List Value).toArray below meth c H locs 0 0 (MQ below (va_Qi (fun (r : Int32) (u : gS × gS × gS × gS) => Q r u.1 u.2.1 u.2.2.1 u.2.2.2) (crB dC dI cB cI cJ cZ h0 a0 a1 a3 A) A) ([.ref h0] : List Value).toArray s 0 0 A) (F0 m 77 ls [.int z0, .ref h0]) := by
    intro B55 hB55 y2 z0 M0 M1 M2 M3 H locs ls hP hD hS hl h
    unfold wX2_read_77 at h
    have hFc := gs_free hD hS hA
    refine va_callv (va_runV (As := [.int z0]) (rest := []) ⟨hx, hb, hml, hown, hts⟩ (kX2_readClause l dC dI cB cI cJ cZ adK adV h0 a0 a1 a3 H.size z0 M0 M1 M2 M3 _ h) (cwV 1 hts gX2_read_X2_readClause rfl rfl rfl (by decide +kernel) ⟨Nat.le_of_ble_eq_true rfl, Nat.le_of_ble_eq_true rfl⟩) (crpVS hK hP hD hR hE hS hFc) rfl rfl hl.1 rfl (lv_room (Nat.le_of_ble_eq_true rfl)) dX2_read_77 ⟨Nat.le_of_ble_eq_true rfl, Nat.le_of_ble_eq_true rfl⟩) hS (fun q _ z => hFc q z) hFc (fun u t H1 locs ht hvm hw hB hz1 hk1 hS => ?_)
    obtain ⟨N2, N3, N4, N5⟩ := u
    obtain ⟨hP, hD⟩ := gs_back ht hFc hB
    generalize H1 = H at hP hS ⊢
    have h := hw
    try dsimp only at h
    refine lv_aload_n hx hb dX2_read_80 rfl (lv_at hl 0 rfl) ?_
    refine va_get (D := (dC, dI)) (ci := 2) (v := .ref (a0 0)) (C := RX2) (T := TX2) (N := 2) hx hb hts hinX2 hown hK hP 0 rfl rfl 0 (by decide) f7 (fun _ h9 => h9) rfl dX2_read_81 ?_
    have hPc := hP.sub (ws' := (rdW cB cI cJ cZ (a0 0) a1 N3 N4)) [1, 2] rfl
    have hDc := hD.sub (ws' := (rdW cB cI cJ cZ (a0 0) a1 N3 N4)) [1, 2] (by decide) rfl
    have hFc := va_free (wc := (rdW cB cI cJ cZ (a0 0) a1 N3 N4)) hD hS hA [1, 2] rfl
    refine va_calli (va_runV (As := []) (rest := []) ⟨hx, hb, hml, hown, hts⟩ (kX7_goesOnToClause l dC dI cB cI cJ cZ (a0 0) a1 H.size  N3 N4 _ h) (cwV 0 hts gX2_read_X7_goesOnToClause rfl rfl rfl (by decide +kernel) ⟨Nat.le_of_ble_eq_true rfl, Nat.le_of_ble_eq_true rfl⟩) (rdpV hK hPc hDc) rfl rfl hl.1 rfl (lv_room (Nat.le_of_ble_eq_true rfl)) dX2_read_84 ⟨Nat.le_of_ble_eq_true rfl, Nat.le_of_ble_eq_true rfl⟩) hS (fun q _ z => hFc q z) hFc (fun r6 u t H1 locs ht hvm hw hB hz1 hk1 hS => ?_)
    obtain ⟨N7, N8⟩ := u
    obtain ⟨hP1, hK1, hD1⟩ := hB
    rw [ht] at hP1
    obtain ⟨hP, hD⟩ := va_join (wr := [(h0, .inr (2, [.ref (a0 0), .ref (a0 1)])), (a0 1, .inr (1, [.int (mg N5 0), .ref (a3 1), .int (mg N5 2), .ref (a3 3), .int (mg N5 4), .ref (a3 5)])), (a3 1, .inl (cI, 4, .inl (ma N5 1))), (a3 3, .inl (cI, 4, .inl (ma N5 3))), (a3 5, .inl (cI, 2, .inl (ma N5 5)))]) (w1 := (rdW cB cI cJ cZ (a0 0) a1 N7 N8)) hP hD [1, 2] [0, 3, 4, 5, 6] rfl rfl (by decide) (by decide) hk1 hFc hP1 hD1
    have hP := hP.sub (ws' := (crW cB cI cJ cZ h0 a0 a1 a3 N2 N7 N8 N5)) [0, 5, 6, 1, 2, 3, 4] rfl
    have hD := hD.sub (ws' := (crW cB cI cJ cZ h0 a0 a1 a3 N2 N7 N8 N5)) [0, 5, 6, 1, 2, 3, 4] (by decide) rfl
    generalize H1 = H at hP hS ⊢
    obtain ⟨b9, rfl, h⟩ := hw
    try dsimp only at h
    refine lv_istore_n (lv' := [(1, .int (bI b9)), (0, .ref h0), (2, .int y2)]) hx hb dX2_read_87 rfl hl (by decide) rfl (fun ls hl => ?_)
    obtain ⟨x10, ex10⟩ : ∃ y : Int32, y = y2 + (1 : Int32) := ⟨_, rfl⟩
    have h := h x10 ex10
    refine lv_iinc (v := x10) (lv' := [(2, .int x10), (1, .int (bI b9)), (0, .ref h0)]) hx hb dX2_read_88 hl (k := 2) rfl (by rw [ex10]; rfl) (by decide) rfl (fun ls hl => ?_)
    refine lv_goto (tgt := 55) hx hb dX2_read_91 (by decide) ?_
    exact hB55 (bI b9) x10 N2 N7 N8 N5 H locs ls hP hD hS (lv_sub hl [2, 1, 0] rfl) h
  have b55 : ∀ (n : Nat) (y1 : Int32) (y2 : Int32) (M0 : gS) (M1 : gS) (M2 : gS) (M3 : gS) (H : Heap) (locs : List Loc) (ls : Array Slot), va_P (dC, dI) vwCl (crW cB cI cJ cZ h0 a0 a1 a3 M0 M1 M2 M3) H → va_D A (crW cB cI cJ cZ h0 a0 a1 a3 M0 M1 M2 M3) → va_S A s.heap H locs → lv_has ls 3 [(0, .ref h0), (1, .int y1), (2, .int y2)] → wX2_read_55  Q n y1 y2 M0 M1 M2 M3 → W p l e (headSpec wsX2_read rmX2_read).room s m ([.ref h0] : List Value).toArray below meth c H locs 0 0 (MQ below (va_Qi (fun (r : Int32) (u : gS × gS × gS × gS) => Q r u.1 u.2.1 u.2.2.1 u.2.2.2) (crB dC dI cB cI cJ cZ h0 a0 a1 a3 A) A) ([.ref h0] : List Value).toArray s 0 0 A) (F0 m 55 ls []) := by
    intro  n
    induction n with
    | zero => intro y1 y2 M0 M1 M2 M3 H locs ls hP hD hS hl h; exact absurd h (by simp [wX2_read_55])
    | succ n hB550 =>
      intro y1 y2 M0 M1 M2 M3 H locs ls hP hD hS hl h
      have hB55 := hB550
      rw [wX2_read_55] at h
      refine lv_iload_n hx hb dX2_read_55 rfl (lv_at hl 2 rfl) ?_
      refine lv_bipush (v := (16)) hx hb dX2_read_56 (by decide) ?_
      refine lv_icmp_gt (tgt := 94) hx hb dX2_read_58 (by decide) (fun c1 => ?_) (fun c1 => ?_)
      · have h := h.1 c1
        exact b94  M0 M1 M2 M3 H locs ls hP hD hS (lv_sub hl [0] rfl) h
      · have h := h.2 c1
        refine lv_iload_n hx hb dX2_read_61 rfl (lv_at hl 1 rfl) ?_
        refine lv_if_eq (tgt := 94) hx hb dX2_read_62 (by decide) (fun c2 => ?_) (fun c2 => ?_)
        · have h := h.1 c2
          exact b94  M0 M1 M2 M3 H locs ls hP hD hS (lv_sub hl [0] rfl) h
        · have h := h.2 c2
          refine lv_aload_n hx hb dX2_read_65 rfl (lv_at hl 0 rfl) ?_
          refine lv_iload_n hx hb dX2_read_66 rfl (lv_at hl 2 rfl) ?_
          refine lv_bipush (v := (16)) hx hb dX2_read_67 (by decide) ?_
          refine lv_icmp_ne (tgt := 76) hx hb dX2_read_69 (by decide) (fun c3 => ?_) (fun c3 => ?_)
          · have h := h.2 c3
            refine lv_iconst (v := 0) hx hb dX2_read_76 (by decide) ?_
            exact b77 _ hB55 y2 (0 : Int32) M0 M1 M2 M3 H locs ls hP hD hS (lv_sub hl [0, 2] rfl) h
          · have h := h.1 c3
            refine lv_iconst (v := 1) hx hb dX2_read_72 (by decide) ?_
            refine lv_goto (tgt := 77) hx hb dX2_read_73 (by decide) ?_
            exact b77 _ hB55 y2 (1 : Int32) M0 M1 M2 M3 H locs ls hP hD hS (lv_sub hl [0, 2] rfl) h
  have bE : ∀ (M0 : gS) (M1 : gS) (M2 : gS) (M3 : gS) (H : Heap) (locs : List Loc) (ls : Array Slot), va_P (dC, dI) vwCl (crW cB cI cJ cZ h0 a0 a1 a3 M0 M1 M2 M3) H → va_D A (crW cB cI cJ cZ h0 a0 a1 a3 M0 M1 M2 M3) → va_S A s.heap H locs → lv_has ls 3 [(0, .ref h0)] → wX2_read  M0 M1 M2 M3 Q → W p l e (headSpec wsX2_read rmX2_read).room s m ([.ref h0] : List Value).toArray below meth c H locs 0 0 (MQ below (va_Qi (fun (r : Int32) (u : gS × gS × gS × gS) => Q r u.1 u.2.1 u.2.2.1 u.2.2.2) (crB dC dI cB cI cJ cZ h0 a0 a1 a3 A) A) ([.ref h0] : List Value).toArray s 0 0 A) (F0 m 0 ls []) := by
    intro M0 M1 M2 M3 H locs ls hP hD hS hl h
    unfold wX2_read at h
    refine lv_aload_n hx hb dX2_read_0 rfl (lv_at hl 0 rfl) ?_
    refine va_get (D := (dC, dI)) (ci := 2) (v := .ref (a0 1)) (C := RX2) (T := TX2) (N := 2) hx hb hts hinX2 hown hK hP 0 rfl rfl 1 (by decide) f1 (fun _ h9 => h9) rfl dX2_read_1 ?_
    refine lv_iconst (v := 0) hx hb dX2_read_4 (by decide) ?_
    refine va_put (D := (dC, dI)) (ci := 1) (v := .int (0 : Int32)) (ty := .int) (C := RX1) (T := TX1) (N := 6) hx hb hts hinX1 tyX1 tyX1_ok nmX1 hown hK hP hD hS 3 rfl rfl 0 (by decide) f9 (fun _ h9 => h9) rfl (by decide +kernel) rfl rfl (Nat.le_of_ble_eq_true rfl) dX2_read_5 (fun H locs hP hD hS => ?_)
    have hP := crP_3_f0 hP
    have hD := crD_3_f0 hD
    have h := h _ rfl
    generalize sg M3 0 (0 : Int32) = N1 at hP hD h
    refine lv_aload_n hx hb dX2_read_8 rfl (lv_at hl 0 rfl) ?_
    refine va_get (D := (dC, dI)) (ci := 2) (v := .ref (a0 1)) (C := RX2) (T := TX2) (N := 2) hx hb hts hinX2 hown hK hP 0 rfl rfl 1 (by decide) f1 (fun _ h9 => h9) rfl dX2_read_9 ?_
    refine lv_iconst (v := 0) hx hb dX2_read_12 (by decide) ?_
    refine va_put (D := (dC, dI)) (ci := 1) (v := .int (0 : Int32)) (ty := .int) (C := RX1) (T := TX1) (N := 6) hx hb hts hinX1 tyX1 tyX1_ok nmX1 hown hK hP hD hS 3 rfl rfl 2 (by decide) f10 (fun _ h9 => h9) rfl (by decide +kernel) rfl rfl (Nat.le_of_ble_eq_true rfl) dX2_read_13 (fun H locs hP hD hS => ?_)
    have hP := crP_3_f2 hP
    have hD := crD_3_f2 hD
    have h := h _ rfl
    generalize sg N1 2 (0 : Int32) = N2 at hP hD h
    refine lv_aload_n hx hb dX2_read_16 rfl (lv_at hl 0 rfl) ?_
    refine va_get (D := (dC, dI)) (ci := 2) (v := .ref (a0 1)) (C := RX2) (T := TX2) (N := 2) hx hb hts hinX2 hown hK hP 0 rfl rfl 1 (by decide) f1 (fun _ h9 => h9) rfl dX2_read_17 ?_
    refine lv_iconst (v := (-1)) hx hb dX2_read_20 (by decide) ?_
    refine va_put (D := (dC, dI)) (ci := 1) (v := .int (-1 : Int32)) (ty := .int) (C := RX1) (T := TX1) (N := 6) hx hb hts hinX1 tyX1 tyX1_ok nmX1 hown hK hP hD hS 3 rfl rfl 4 (by decide) f2 (fun _ h9 => h9) rfl (by decide +kernel) rfl rfl (Nat.le_of_ble_eq_true rfl) dX2_read_21 (fun H locs hP hD hS => ?_)
    have hP := crP_3_f4 hP
    have hD := crD_3_f4 hD
    have h := h _ rfl
    generalize sg N2 4 (-1 : Int32) = N3 at hP hD h
    refine lv_aload_n hx hb dX2_read_24 rfl (lv_at hl 0 rfl) ?_
    refine va_get (D := (dC, dI)) (ci := 2) (v := .ref (a0 1)) (C := RX2) (T := TX2) (N := 2) hx hb hts hinX2 hown hK hP 0 rfl rfl 1 (by decide) f1 (fun _ h9 => h9) rfl dX2_read_25 ?_
    refine va_get (D := (dC, dI)) (ci := 1) (v := .ref (a3 5)) (C := RX1) (T := TX1) (N := 6) hx hb hts hinX1 hown hK hP 3 rfl rfl 5 (by decide) f11 (fun _ h9 => h9) rfl dX2_read_28 ?_
    refine lv_iconst (v := 0) hx hb dX2_read_31 (by decide) ?_
    refine lv_iconst (v := 0) hx hb dX2_read_32 (by decide) ?_
    refine wc_iast (j := 0) hx hb hK hP hD hS 6 1 (f := ma N3 5) rfl rfl (by decide) (by decide) (by decide) dX2_read_33 (fun H locs hP hD hS => ?_)
    have hP := crP_3_a5 hP
    have hD := crD_3_a5 hD
    have h := h _ rfl
    generalize sa N3 5 0 (0 : Int32) = N4 at hP hD h
    refine lv_aload_n hx hb dX2_read_34 rfl (lv_at hl 0 rfl) ?_
    refine va_get (D := (dC, dI)) (ci := 2) (v := .ref (a0 1)) (C := RX2) (T := TX2) (N := 2) hx hb hts hinX2 hown hK hP 0 rfl rfl 1 (by decide) f1 (fun _ h9 => h9) rfl dX2_read_35 ?_
    refine va_get (D := (dC, dI)) (ci := 1) (v := .ref (a3 5)) (C := RX1) (T := TX1) (N := 6) hx hb hts hinX1 hown hK hP 3 rfl rfl 5 (by decide) f11 (fun _ h9 => h9) rfl dX2_read_38 ?_
    refine lv_iconst (v := 1) hx hb dX2_read_41 (by decide) ?_
    refine lv_iconst (v := 0) hx hb dX2_read_42 (by decide) ?_
    refine wc_iast (j := 1) hx hb hK hP hD hS 6 1 (f := ma N4 5) rfl rfl (by decide) (by decide) (by decide) dX2_read_43 (fun H locs hP hD hS => ?_)
    have hP := crP_3_a5 hP
    have hD := crD_3_a5 hD
    have h := h _ rfl
    generalize sa N4 5 1 (0 : Int32) = N5 at hP hD h
    refine lv_aload_n hx hb dX2_read_44 rfl (lv_at hl 0 rfl) ?_
    refine va_get (D := (dC, dI)) (ci := 2) (v := .ref (a0 0)) (C := RX2) (T := TX2) (N := 2) hx hb hts hinX2 hown hK hP 0 rfl rfl 0 (by decide) f7 (fun _ h9 => h9) rfl dX2_read_45 ?_
    have hPc := hP.sub (ws' := (rdW cB cI cJ cZ (a0 0) a1 M1 M2)) [1, 2] rfl
    have hDc := hD.sub (ws' := (rdW cB cI cJ cZ (a0 0) a1 M1 M2)) [1, 2] (by decide) rfl
    have hFc := va_free (wc := (rdW cB cI cJ cZ (a0 0) a1 M1 M2)) hD hS hA [1, 2] rfl
    refine va_callv (va_runV (As := []) (rest := []) ⟨hx, hb, hml, hown, hts⟩ (kX7_advance l dC dI cB cI cJ cZ (a0 0) a1 H.size  M1 M2 _ h) (cwV 0 hts gX2_read_X7_advance rfl rfl rfl (by decide +kernel) ⟨Nat.le_of_ble_eq_true rfl, Nat.le_of_ble_eq_true rfl⟩) (rdpV hK hPc hDc) rfl rfl hl.1 rfl (lv_room (Nat.le_of_ble_eq_true rfl)) dX2_read_48 ⟨Nat.le_of_ble_eq_true rfl, Nat.le_of_ble_eq_true rfl⟩) hS (fun q _ z => hFc q z) hFc (fun u t H1 locs ht hvm hw hB hz1 hk1 hS => ?_)
    obtain ⟨N7, N8⟩ := u
    obtain ⟨hP1, hK1, hD1⟩ := hB
    rw [ht] at hP1
    obtain ⟨hP, hD⟩ := va_join (wr := [(h0, .inr (2, [.ref (a0 0), .ref (a0 1)])), (a0 1, .inr (1, [.int (mg N5 0), .ref (a3 1), .int (mg N5 2), .ref (a3 3), .int (mg N5 4), .ref (a3 5)])), (a3 1, .inl (cI, 4, .inl (ma N5 1))), (a3 3, .inl (cI, 4, .inl (ma N5 3))), (a3 5, .inl (cI, 2, .inl (ma N5 5)))]) (w1 := (rdW cB cI cJ cZ (a0 0) a1 N7 N8)) hP hD [1, 2] [0, 3, 4, 5, 6] rfl rfl (by decide) (by decide) hk1 hFc hP1 hD1
    have hP := hP.sub (ws' := (crW cB cI cJ cZ h0 a0 a1 a3 M0 N7 N8 N5)) [0, 5, 6, 1, 2, 3, 4] rfl
    have hD := hD.sub (ws' := (crW cB cI cJ cZ h0 a0 a1 a3 M0 N7 N8 N5)) [0, 5, 6, 1, 2, 3, 4] (by decide) rfl
    generalize H1 = H at hP hS ⊢
    have h := hw
    try dsimp only at h
    refine lv_iconst (v := 1) hx hb dX2_read_51 (by decide) ?_
    refine lv_istore_n (lv' := [(1, .int (1 : Int32)), (0, .ref h0)]) hx hb dX2_read_52 rfl hl (by decide) rfl (fun ls hl => ?_)
    refine lv_iconst (v := 0) hx hb dX2_read_53 (by decide) ?_
    refine lv_istore_n (lv' := [(2, .int (0 : Int32)), (1, .int (1 : Int32)), (0, .ref h0)]) hx hb dX2_read_54 rfl hl (by decide) rfl (fun ls hl => ?_)
    obtain ⟨n9, h⟩ := h
    exact b55  n9 (1 : Int32) (0 : Int32) M0 N7 N8 N5 H locs ls hP hD hS (lv_sub hl [2, 1, 0] rfl) h
  have hl := lv_entry ([.ref h0]) (n := 3) (Nat.le_of_ble_eq_true rfl)
  rw [lg_entry_eq]
  generalize (lg_sl ([.ref h0]) ++ List.replicate (3 - (lg_sl ([.ref h0])).length) Slot.unset).toArray = ls at hl ⊢
  have hl : lv_has ls 3 [(0, .ref h0)] := hl
  exact bE M0 M1 M2 M3 s.heap [] ls hP hD hS hl h
