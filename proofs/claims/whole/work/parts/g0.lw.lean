-- PURE: what stands at the head of the law's loop
def R_law : String := "LastWordsLaw"
def lw_P (b : Addr) (xs : List Int32) (args : Array Value) (s : State) : Prop := args = #[.ref b] ∧ s.IntsAt b xs ∧ xs.length ≤ 3072 ∧ (Jvm.Cond.and given_1 narrow_1).before args s = true
def lw_Q (_ : Array Value) (s : State) (o : Outcome) (t : State) : Prop := o = .returned (some (.int 1)) ∧ Framed s o t [] 600000 7302250
def lw_Z (below : List Frame) (a : Array Value) (s : State) : State → Prop := fun t => ∃ o, t.status = .running ∧ Ended t below o ∧ lw_Q a s o t
/-- the law's own end, with 1 on the stack, nothing written that was there before, its room as the claim has it -/
theorem lw_ret {p : Program} {l : Launch} {e : Env} {s : State} {m : MethodId} {below : List Frame} {meth : Method} {c : Code} {b : Nat} (hx : p.tables.exec = Jvm.exec) (hb : c.code = code) (hr : meth.sig.returnType = ret) (hlocks : meth.locks = false) {pc : Nat} {H : Heap} {ls : Array Slot} (hdg : decode code pc = .ok (.ireturn, 1)) : W p l e room_1 s m #[Value.ref b] below meth c H [] 600000 7302250 (lw_Z below #[Value.ref b] s) (F0 m pc ls [.int 1]) := by
  intro T hT X
  obtain ⟨fs, hret, hrun, hended, hW, hframe⟩ := X.leave (v := some (.int 1)) (hlocks := hlocks) (fun h => by rw [hr] at h; cases h)
  have hmeth' : T.vm.method? m = some meth := X.method'
  refine ⟨T.setFrames fs, ?_, .returned (some (.int 1)), hrun, hended, rfl, ⟨_, rfl⟩, hW, hframe⟩
  jvm_step X.here [X.here.top, hx, hb, hdg, hmeth', hr, ret, narrow_b1]
  (try refine ⟨rfl, ?_⟩); (try refine ⟨rfl, ?_⟩)
  first | (intro acts; rw [hret _ acts rfl rfl rfl]) | rw [hret _ _ rfl rfl rfl]
  exact Steps.refl _
/-- what holds at the law's entry: the machine, the code, the tables' words (any of lw_tbl by 'hts w (by decide +kernel)'), the script of L ints xs at the cell b, what the Statement gives of the start (any of its parts by flat_of_before) -/
def lw_At (p : Program) (s : State) (m : MethodId) (meth : Method) (c : Code) (b L : Nat) (xs : Nat → Int32) : Prop :=
  p.tables.exec = Jvm.exec ∧ c.code = code ∧ meth.sig.returnType = ret ∧ c.maxLocals = 4 ∧ s.vm.findClass R_law = some m.cls ∧ (∀ w ∈ lw_tbl, w.before #[Value.ref b] s = true) ∧ va_X b L xs s s.heap ∧ b < s.heap.size ∧ meth.locks = false ∧ (Jvm.Cond.and given_1 narrow_1).before #[Value.ref b] s = true
def lawE (p : Program) (s : State) (m : MethodId) (meth : Method) (c : Code) (b L : Nat) (xs : Nat → Int32) (dC : Nat → ClassId) (dI : Nat → Nat → Nat) (cB cI cJ cZ cR cS : ClassId) (adK adV : Nat → Nat) : Prop := p.tables.exec = Jvm.exec ∧ c.code = cL_law ∧ meth.sig.returnType = ret ∧ c.maxLocals = 4 ∧ s.vm.findClass RL = some m.cls ∧ (∀ w ∈ wsL_law, w.before #[Value.ref b] s = true) ∧ va_X b L xs s s.heap ∧ b < s.heap.size ∧ meth.locks = false ∧ va_K (dC, dI) vwCl (gX cB cI cJ cZ cR cS) s ∧ sR adK s ∧ sE adK adV (fun q : Nat => s.heap.size ≤ q) s s.heap ∧ L ≤ 3072
def lawI (s : State) (dC : Nat → ClassId) (dI : Nat → Nat → Nat) (cB cI cJ cZ cR cS : ClassId) (h0 : Nat) (a0 a1 a2 a3 a4 a5 a6 a7 a8 a9 : Nat → Nat) (hm : Nat) (am : Nat → Nat) (H : Heap) : Prop := ∃ (M0 M1 M2 M3 M4 M5 M6 M7 M8 M9 : gS) (o7 o8 : Option Nat) (F G : oF) (M : gS) (n : Nat) (R : Nat → gS) (aR : Nat → Nat → Nat) (I1 I2 I3 I4 : Nat → gS) (b1 b2 b3 b4 : Nat → Nat → Nat) (RR II : va_W), va_P (dC, dI) vwCl (lawW cB cI cJ cZ cR cS h0 a0 a1 a2 a3 a4 a5 a6 a7 o7 a8 o8 a9 hm am M0 M1 M2 M3 M4 M5 M6 M7 M8 M9 F G M RR II) H ∧ va_D (fun q : Nat => s.heap.size ≤ q) (lawW cB cI cJ cZ cR cS h0 a0 a1 a2 a3 a4 a5 a6 a7 o7 a8 o8 a9 hm am M0 M1 M2 M3 M4 M5 M6 M7 M8 M9 F G M RR II) ∧ inv M M0 M1 M2 M3 M4 M7 ∧ ruls n M F R ∧ (∀ k, k < 4 → imR M k (G k) (I1 k) (I2 k) (I3 k) (I4 k)) ∧ (∀ k, 6 ≤ k → F k = none) ∧ (∀ k, 4 ≤ k → G k = none) ∧ RR.Perm ((List.range 6).flatMap (rulW cB cI cJ cZ F aR R)) ∧ II.Perm ((List.range 4).flatMap (imgW cB cI cJ cZ G b1 b2 b3 b4 I1 I2 I3 I4))
theorem up_eq {α : Type} {f : Nat → α} {k : Nat} {v : α} : va_up f k v k = v := by
  unfold va_up
  rw [if_pos rfl]
theorem up_ne {α : Type} {f : Nat → α} {k j : Nat} {v : α} (h : j ≠ k) : va_up f k v j = f j := by
  unfold va_up
  rw [if_neg h]
theorem ruls_at {n : Nat} {M N : gS} {F : oF} {R R' : Nat → gS} (h : ruls n M F R) (e2 : mg N 2 = mg M 2) (e3 : ma N 3 = ma M 3) (e5 : ma N 5 = ma M 5) (e6 : ma N 6 = ma M 6) (hf : ∀ k, frC (R k) (R' k)) : ruls n N F R' := by
  obtain ⟨h1, h2, h3⟩ := h
  refine ⟨e2.trans h1, h2, fun k hk2 => ?_⟩
  obtain ⟨a, e, m, b, τ, hr⟩ := h3 k hk2
  exact ⟨a, e, m, b, τ, relRd_keep hr e3 e5 e6 (hf k)⟩
theorem ruls_keep {n : Nat} {M N' N : gS} {F : oF} {R R' : Nat → gS} (h : ruls n M F R) (hk : keepR M N') (he : eqM N' N) (hf : ∀ k, frC (R k) (R' k)) : ruls n N F R' := ruls_at h (he.2.1.trans hk.1) (he.2.2.2.1.trans hk.2.1) (he.2.2.2.2.1.trans hk.2.2.1) (he.2.2.2.2.2.1.trans hk.2.2.2.1) hf
theorem imR_at {M N : gS} {k : Nat} {o : Option Nat} {A1 A2 A3 A4 : gS} (h : imR M k o A1 A2 A3 A4) (e5 : ma N 35 = ma M 35) (e6 : ma N 36 = ma M 36) : imR N k o A1 A2 A3 A4 := by
  unfold imR imRow at *
  rw [e5, e6]
  exact h
theorem ims_keep {M N' N : gS} {G : oF} {I1 I2 I3 I4 : Nat → gS} (h : ∀ k, k < 4 → imR M k (G k) (I1 k) (I2 k) (I3 k) (I4 k)) (hk : keepR M N') (he : eqM N' N) : ∀ k, k < 4 → imR N k (G k) (I1 k) (I2 k) (I3 k) (I4 k) := fun k hk4 => imR_at (h k hk4) (he.2.2.2.2.2.2.2.1.trans hk.2.2.2.2.1) (he.2.2.2.2.2.2.2.2.trans hk.2.2.2.2.2)
theorem rulW_some {cB cI cJ cZ : ClassId} {F : oF} {aR : Nat → Nat → Nat} {R : Nat → gS} {k h : Nat} (e : F k = some h) : rulW cB cI cJ cZ F aR R k = ruW cB cI cJ cZ h (aR k) (R k) := by
  unfold rulW
  rw [e]
theorem rulW_none {cB cI cJ cZ : ClassId} {F : oF} {aR : Nat → Nat → Nat} {R : Nat → gS} {k : Nat} (e : F k = none) : rulW cB cI cJ cZ F aR R k = [] := by
  unfold rulW
  rw [e]
theorem rul_take {cB cI cJ cZ : ClassId} {F : oF} {aR : Nat → Nat → Nat} {R : Nat → gS} {l : List Nat} {k h : Nat} (hk : k ∈ l) (e : F k = some h) : (l.flatMap (rulW cB cI cJ cZ F aR R)).Perm (ruW cB cI cJ cZ h (aR k) (R k) ++ (l.erase k).flatMap (rulW cB cI cJ cZ F aR R)) := by
  have z := w_take (rulW cB cI cJ cZ F aR R) l k hk
  rw [rulW_some e] at z
  exact z
theorem rul_takeN {cB cI cJ cZ : ClassId} {F : oF} {aR : Nat → Nat → Nat} {R : Nat → gS} {l : List Nat} {k : Nat} (hk : k ∈ l) (e : F k = none) : (l.flatMap (rulW cB cI cJ cZ F aR R)).Perm ((l.erase k).flatMap (rulW cB cI cJ cZ F aR R)) := by
  have z := w_take (rulW cB cI cJ cZ F aR R) l k hk
  rw [rulW_none e, List.nil_append] at z
  exact z
theorem rul_put {cB cI cJ cZ : ClassId} {F F' : oF} {aR aR' : Nat → Nat → Nat} {R R' : Nat → gS} {l : List Nat} {k h : Nat} {a : Nat → Nat} {S : gS} (hn : l.Nodup) (hk : k ∈ l) (e : F' k = some h) (ea : aR' k = a) (eS : R' k = S) (h1 : ∀ j, j ≠ k → F' j = F j ∧ aR' j = aR j ∧ R' j = R j) : (ruW cB cI cJ cZ h a S ++ (l.erase k).flatMap (rulW cB cI cJ cZ F aR R)).Perm (l.flatMap (rulW cB cI cJ cZ F' aR' R')) := by
  subst ea
  subst eS
  have hs : (l.erase k).flatMap (rulW cB cI cJ cZ F' aR' R') = (l.erase k).flatMap (rulW cB cI cJ cZ F aR R) := w_same (fun j hj => by
    obtain ⟨x, y, z⟩ := h1 j ((List.Nodup.mem_erase_iff hn).1 hj).1
    unfold rulW
    rw [x, y, z])
  rw [← hs]
  exact (rul_take hk e).symm
theorem fr_up {R : Nat → gS} {q : Nat} {S : gS} (h : frC (R q) S) : ∀ k, frC (R k) (va_up R q S k) := by
  intro k
  by_cases e : k = q
  · subst e
    rw [up_eq]
    exact h
  · rw [up_ne e]
    exact ⟨rfl, rfl⟩
theorem fr_up2 {R : Nat → gS} {q1 q2 : Nat} {S1 S2 : gS} (hne : ¬ q1 = q2) (f1 : frC (R q1) S1) (f2 : frC (R q2) S2) : ∀ k, frC (R k) (va_up (va_up R q2 S2) q1 S1 k) := by
  intro k
  by_cases e : k = q1
  · subst e
    rw [up_eq]
    exact f1
  · rw [up_ne e]
    exact fr_up f2 k
theorem r6_mem {k : Nat} (h : k < 6) : k ∈ List.range 6 := List.mem_range.2 h
theorem r6_er {q1 q2 : Nat} (h : q2 < 6) (hne : ¬ q1 = q2) : q2 ∈ (List.range 6).erase q1 := (List.Nodup.mem_erase_iff (by decide)).2 ⟨fun z => hne z.symm, List.mem_range.2 h⟩
theorem r6_nd {q1 : Nat} : ((List.range 6).erase q1).Nodup := List.Nodup.sublist List.erase_sublist (by decide)
theorem rul_take2 {cB cI cJ cZ : ClassId} {F : oF} {aR : Nat → Nat → Nat} {R : Nat → gS} {RR : va_W} {q1 q2 h11 h12 : Nat} (hRR : RR.Perm ((List.range 6).flatMap (rulW cB cI cJ cZ F aR R))) (k1 : q1 < 6) (k2 : q2 < 6) (hne : ¬ q1 = q2) (e1 : F q1 = some h11) (e2 : F q2 = some h12) : RR.Perm ((ruW cB cI cJ cZ h11 (aR q1) (R q1) ++ ruW cB cI cJ cZ h12 (aR q2) (R q2)) ++ (((List.range 6).erase q1).erase q2).flatMap (rulW cB cI cJ cZ F aR R)) := by
  rw [List.append_assoc]
  exact (hRR.trans (rul_take (r6_mem k1) e1)).trans ((rul_take (r6_er k2 hne) e2).append_left _)
theorem rul_put2 {cB cI cJ cZ : ClassId} {F : oF} {aR : Nat → Nat → Nat} {R : Nat → gS} {q1 q2 h11 h12 : Nat} {S1 S2 : gS} (k1 : q1 < 6) (k2 : q2 < 6) (hne : ¬ q1 = q2) (e1 : F q1 = some h11) (e2 : F q2 = some h12) : ((ruW cB cI cJ cZ h11 (aR q1) S1 ++ ruW cB cI cJ cZ h12 (aR q2) S2) ++ (((List.range 6).erase q1).erase q2).flatMap (rulW cB cI cJ cZ F aR R)).Perm ((List.range 6).flatMap (rulW cB cI cJ cZ F aR (va_up (va_up R q2 S2) q1 S1))) := by
  rw [List.append_assoc]
  refine ((rul_put (R' := va_up R q2 S2) r6_nd (r6_er k2 hne) e2 rfl up_eq (fun j hj => ⟨rfl, rfl, up_ne hj⟩)).append_left _).trans ?_
  exact rul_put (by decide) (r6_mem k1) e1 rfl up_eq (fun j hj => ⟨rfl, rfl, up_ne hj⟩)
theorem imgW_some {cB cI cJ cZ : ClassId} {G : oF} {b1 b2 b3 b4 : Nat → Nat → Nat} {I1 I2 I3 I4 : Nat → gS} {k h : Nat} (e : G k = some h) : imgW cB cI cJ cZ G b1 b2 b3 b4 I1 I2 I3 I4 k = stW cB cI cJ cZ h (b1 k) (b2 k) (b3 k) (b4 k) (I1 k) (I2 k) (I3 k) (I4 k) := by
  unfold imgW
  rw [e]
theorem imgW_none {cB cI cJ cZ : ClassId} {G : oF} {b1 b2 b3 b4 : Nat → Nat → Nat} {I1 I2 I3 I4 : Nat → gS} {k : Nat} (e : G k = none) : imgW cB cI cJ cZ G b1 b2 b3 b4 I1 I2 I3 I4 k = [] := by
  unfold imgW
  rw [e]
theorem img_take {cB cI cJ cZ : ClassId} {G : oF} {b1 b2 b3 b4 : Nat → Nat → Nat} {I1 I2 I3 I4 : Nat → gS} {l : List Nat} {k h : Nat} (hk : k ∈ l) (e : G k = some h) : (l.flatMap (imgW cB cI cJ cZ G b1 b2 b3 b4 I1 I2 I3 I4)).Perm (stW cB cI cJ cZ h (b1 k) (b2 k) (b3 k) (b4 k) (I1 k) (I2 k) (I3 k) (I4 k) ++ (l.erase k).flatMap (imgW cB cI cJ cZ G b1 b2 b3 b4 I1 I2 I3 I4)) := by
  have z := w_take (imgW cB cI cJ cZ G b1 b2 b3 b4 I1 I2 I3 I4) l k hk
  rw [imgW_some e] at z
  exact z
theorem img_takeN {cB cI cJ cZ : ClassId} {G : oF} {b1 b2 b3 b4 : Nat → Nat → Nat} {I1 I2 I3 I4 : Nat → gS} {l : List Nat} {k : Nat} (hk : k ∈ l) (e : G k = none) : (l.flatMap (imgW cB cI cJ cZ G b1 b2 b3 b4 I1 I2 I3 I4)).Perm ((l.erase k).flatMap (imgW cB cI cJ cZ G b1 b2 b3 b4 I1 I2 I3 I4)) := by
  have z := w_take (imgW cB cI cJ cZ G b1 b2 b3 b4 I1 I2 I3 I4) l k hk
  rw [imgW_none e, List.nil_append] at z
  exact z
theorem img_put {cB cI cJ cZ : ClassId} {G G' : oF} {b1 b2 b3 b4 c1 c2 c3 c4 : Nat → Nat → Nat} {I1 I2 I3 I4 J1 J2 J3 J4 : Nat → gS} {l : List Nat} {k h : Nat} {x1 x2 x3 x4 : Nat → Nat} {A1 A2 A3 A4 : gS} (hn : l.Nodup) (hk : k ∈ l) (e : G' k = some h) (p1 : c1 k = x1) (p2 : c2 k = x2) (p3 : c3 k = x3) (p4 : c4 k = x4) (q1 : J1 k = A1) (q2 : J2 k = A2) (q3 : J3 k = A3) (q4 : J4 k = A4) (h1 : ∀ j, j ≠ k → G' j = G j ∧ c1 j = b1 j ∧ c2 j = b2 j ∧ c3 j = b3 j ∧ c4 j = b4 j ∧ J1 j = I1 j ∧ J2 j = I2 j ∧ J3 j = I3 j ∧ J4 j = I4 j) : (stW cB cI cJ cZ h x1 x2 x3 x4 A1 A2 A3 A4 ++ (l.erase k).flatMap (imgW cB cI cJ cZ G b1 b2 b3 b4 I1 I2 I3 I4)).Perm (l.flatMap (imgW cB cI cJ cZ G' c1 c2 c3 c4 J1 J2 J3 J4)) := by
  subst p1 p2 p3 p4 q1 q2 q3 q4
  have hs : (l.erase k).flatMap (imgW cB cI cJ cZ G' c1 c2 c3 c4 J1 J2 J3 J4) = (l.erase k).flatMap (imgW cB cI cJ cZ G b1 b2 b3 b4 I1 I2 I3 I4) := w_same (fun j hj => by
    obtain ⟨x, y1, y2, y3, y4, z1, z2, z3, z4⟩ := h1 j ((List.Nodup.mem_erase_iff hn).1 hj).1
    unfold imgW
    rw [x, y1, y2, y3, y4, z1, z2, z3, z4])
  rw [← hs]
  exact (img_take hk e).symm
theorem relRd_gR {M N R : gS} {k q n : Nat} {b τ : Nat → Nat} (h : relRd M q R n b τ) (hg : gR k M N) (hne : q ≠ k) : relRd N q R n b τ := by
  obtain ⟨-, g3, g5, g6⟩ := hg
  obtain ⟨h1, h2, h3, h4, h5, h6, h7⟩ := h
  refine ⟨h1, h2, h3, (g6 _ hne).trans h4, h5, fun i hi => ?_, fun c hc => ?_⟩
  · rw [g3 (400 * q + i) (by omega)]
    exact h6 i hi
  · have z : ∀ d, d < 4 → ma N 5 (48 * q + 4 * c + d) = ma M 5 (48 * q + 4 * c + d) := fun d hd => g5 _ (by omega)
    have z0 : ma N 5 (48 * q + 4 * c) = ma M 5 (48 * q + 4 * c) := z 0 (by omega)
    rw [z 1 (by omega), z 2 (by omega), z 3 (by omega), z0]
    exact h7 c hc
theorem ruls_rule {n h : Nat} {M M1 M2 M3 M4 M7 N N0 S : gS} {F F' : oF} {R R' : Nat → gS} (hr : ruls n M F R) (hn : n < 6) (hp : ruP n M M1 M2 M3 M4 M7 N N0 S) (hF : F' n = some h) (hR : R' n = S) (h1 : ∀ j, j ≠ n → F' j = F j ∧ R' j = R j) : ∃ n', ruls n' N F' R' := by
  obtain ⟨r1, r2, r3⟩ := hr
  obtain ⟨hg, hi, hc⟩ := hp
  have old : ∀ k, k < n → ∃ a, F' k = some a ∧ ∃ m b τ, relRd N k (R' k) m b τ := by
    intro k hk
    obtain ⟨x, y⟩ := h1 k (by omega)
    obtain ⟨a, e, m, b, τ, z⟩ := r3 k hk
    rw [x, y]
    exact ⟨a, e, m, b, τ, relRd_gR z hg (by omega)⟩
  rcases hc with hc | ⟨hc, m, b, τ, z⟩
  · exact ⟨n, hc, r2, old⟩
  · refine ⟨n + 1, hc, by omega, fun k hk => ?_⟩
    by_cases e : k = n
    · subst e
      rw [hF, hR]
      exact ⟨h, rfl, m, b, τ, z⟩
    · exact old k (by omega)
theorem i_34 {p : Int32} (a : ¬ p < 0) (z : p < 4) : p ≤ 3 := by
  obtain ⟨j, hj, e⟩ := nI_of a
  rw [e] at z ⊢
  have z1 := (nI_ltI hj (by omega)).1 (show nI j < nI 4 from z)
  exact (show nI j ≤ nI 3 from nI_le (by omega) (by omega))
theorem i_k {p : Int32} (h : 0 ≤ p ∧ p ≤ 3) : ∃ k, k < 4 ∧ p = nI k := by
  obtain ⟨k, h1, h2⟩ := nI_of2 (x := p) (M := 3) (n := 3) (by decide) (Int32.not_lt.2 h.1) h.2
  exact ⟨k, by omega, h2⟩
theorem c_imagefull {p1 : Int32} {M0 M1 M2 M3 M4 M5 M6 M7 M8 M9 : gS} {F10 : oF} (hp : ¬ (0 ≤ p1 ∧ p1 ≤ 3)) (Q : Int32 → gS → gS → gS → gS → gS → gS → gS → gS → gS → gS → oF → Prop) (hQ : Q (-1) M0 M1 M2 M3 M4 M5 M6 M7 M8 M9 F10) : wX11_imagefull p1 M0 M1 M2 M3 M4 M5 M6 M7 M8 M9 F10 Q := ⟨fun _ => hQ, fun a => ⟨fun z => absurd ⟨Int32.not_lt.1 a, i_34 a z⟩ hp, fun _ => hQ⟩⟩
theorem c_backfull {p1 : Int32} {M0 M1 M2 M3 M4 M5 M6 M7 M8 M9 : gS} {F10 : oF} (hp : ¬ (0 ≤ p1 ∧ p1 ≤ 3)) (Q : Int32 → gS → gS → gS → gS → gS → gS → gS → gS → gS → gS → oF → Prop) (hQ : Q (-1) M0 M1 M2 M3 M4 M5 M6 M7 M8 M9 F10) : wX11_backfull p1 M0 M1 M2 M3 M4 M5 M6 M7 M8 M9 F10 Q := ⟨fun _ => hQ, fun a => ⟨fun _ => hQ, fun z => absurd ⟨Int32.not_lt.1 a, i_34 a (Int32.not_le.1 z)⟩ hp⟩⟩
theorem c_backnew {k : Nat} {M0 M1 M2 M3 M4 M5 M6 M7 M8 M9 : gS} {F10 : oF} (hk : k < 4) (hF : F10 k = none) (Q : Int32 → gS → gS → gS → gS → gS → gS → gS → gS → gS → gS → oF → Prop) (hQ : Q (-1) M0 M1 M2 M3 M4 M5 M6 M7 M8 M9 F10) : wX11_backnew (nI k) M0 M1 M2 M3 M4 M5 M6 M7 M8 M9 F10 Q := ⟨fun _ => hQ, fun _ => ⟨fun _ => hQ, fun _ => ⟨vp_in_nI hk (by omega), by rw [nI_clamp (by omega)]; exact hF, hQ⟩⟩⟩
theorem bk_at {M : gS} {k j : Nat} (hj : j < 44) : bkF M k 44 j = imRow M k j := by
  unfold bkF imRow
  rw [if_pos hj]
theorem inv_img {M M0 M1 M2 M3 M4 M7 : gS} {k : Nat} (h : inv M M0 M1 M2 M3 M4 M7) : inv (imgM M k) M0 M1 M2 M3 M4 M7 := h
theorem inv_bk {M M0 M1 M2 M3 M4 M7 N1 N2 N3 N4 : gS} {k : Nat} (h : inv M M0 M1 M2 M3 M4 M7) (hg : goodS (imRow M k)) (hr : relS (imRow M k) N1 N2 N3 N4) : inv (sF M 25 (bkF M k 44)) M0 N1 N2 N3 N4 M7 := ⟨(row_ext (u := bkF M k 44) (s := imRow M k) (fun j hj => bk_at hj)).1 hg, (row_ext (u := bkF M k 44) (s := imRow M k) (fun j hj => bk_at hj)).2 _ _ _ _ hg.1 hr, h.2.2.1, h.2.2.2⟩
theorem law_RR_lt {D : va_G} {cl : List vw_C} {H : Heap} {cB cI cJ cZ cR cS : ClassId} {h0 : Nat} {a0 a1 a2 a3 a4 a5 a6 a7 : Nat → Nat} {o7 : Option Nat} {a8 : Nat → Nat} {o8 : Option Nat} {a9 : Nat → Nat} {hm : Nat} {am : Nat → Nat} {M0 M1 M2 M3 M4 M5 M6 M7 M8 M9 : gS} {F G : oF} {M : gS} {RR II : va_W} (hP : va_P D cl (lawW cB cI cJ cZ cR cS h0 a0 a1 a2 a3 a4 a5 a6 a7 o7 a8 o8 a9 hm am M0 M1 M2 M3 M4 M5 M6 M7 M8 M9 F G M RR II) H) : (∀ q, q ∈ RR → q.1 < H.size) ∧ (∀ q, q ∈ II → q.1 < H.size) := by
  constructor
  · intro q hq
    exact (wP_iff.1 hP q (List.mem_append_right _ (List.mem_append_right _ (List.mem_append_right _ (List.mem_append_right _ (List.mem_append_left _ hq)))))).lt
  · intro q hq
    exact (wP_iff.1 hP q (List.mem_append_right _ (List.mem_append_right _ (List.mem_append_right _ (List.mem_append_right _ (List.mem_append_right _ hq)))))).lt
theorem rul_old {cB cI cJ cZ : ClassId} {F : oF} {aR : Nat → Nat → Nat} {R : Nat → gS} {RR : va_W} {sz k h : Nat} (hRR : RR.Perm ((List.range 6).flatMap (rulW cB cI cJ cZ F aR R))) (hl : ∀ q, q ∈ RR → q.1 < sz) (hk : k < 6) (e : F k = some h) : h < sz := by
  have z : ∀ q, q ∈ ruW cB cI cJ cZ h (aR k) (R k) → q.1 < sz := fun q hq => hl q ((hRR.trans (rul_take (List.mem_range.2 hk) e)).mem_iff.2 (List.mem_append_left _ hq))
  have y := z _ (List.Mem.head _)
  exact y
theorem img_old {cB cI cJ cZ : ClassId} {G : oF} {b1 b2 b3 b4 : Nat → Nat → Nat} {I1 I2 I3 I4 : Nat → gS} {II : va_W} {sz k h : Nat} (hII : II.Perm ((List.range 4).flatMap (imgW cB cI cJ cZ G b1 b2 b3 b4 I1 I2 I3 I4))) (hl : ∀ q, q ∈ II → q.1 < sz) (hk : k < 4) (e : G k = some h) : h < sz := by
  have z : ∀ q, q ∈ stW cB cI cJ cZ h (b1 k) (b2 k) (b3 k) (b4 k) (I1 k) (I2 k) (I3 k) (I4 k) → q.1 < sz := fun q hq => hl q ((hII.trans (img_take (List.mem_range.2 hk) e)).mem_iff.2 (List.mem_append_left _ hq))
  have y := z _ (List.Mem.head _)
  exact y
theorem up_new {F F2 : oF} {k h h' sz B : Nat} (e : F2 = va_up F k (some h')) (hk : k < B) (hB : ∀ j, B ≤ j → F j = none) (hl : ∀ j a, j < B → F j = some a → a < sz) (hx : ∃ j, F2 j = some h) (hs : sz ≤ h) : F2 = va_up F k (some h) := by
  obtain ⟨j, hj⟩ := hx
  rw [e] at hj ⊢
  by_cases z : j = k
  · subst z
    rw [up_eq] at hj
    rw [hj]
  · rw [up_ne z] at hj
    by_cases y : j < B
    · exact absurd (hl j h y hj) (by omega)
    · exact absurd ((hB j (by omega)).symm.trans hj) (by simp)
set_option maxHeartbeats 4000000 in
set_option maxRecDepth 100000 in
theorem L_arg {p : Program} {l : Launch} {e : Env} {s : State} {m : MethodId} {below : List Frame} {meth : Method} {c : Code} {b L : Nat} {xs : Nat → Int32} {dC : Nat → ClassId} {dI : Nat → Nat → Nat} {cB cI cJ cZ cR cS : ClassId} {adK adV : Nat → Nat} {h0 : Nat} {hm : Nat} {H : Heap} {locs : List Loc} {cells slots i k pc : Nat} {Z : State → Prop} {ls : Array Slot} {st : List Value} {z : Int} (hE : lawE p s m meth c b L xs dC dI cB cI cJ cZ cR cS adK adV) (hS : va_S (fun q : Nat => s.heap.size ≤ q) s.heap H locs) (hl : lv_has ls 4 [(0, .ref b), (1, .ref h0), (2, .ref hm), (3, .int (nI i))]) (hi : i + k < L) (hk6 : k < 6) (d0 : decode cL_law pc = .ok (.aload_n 0, 1)) (d1 : decode cL_law (pc + 1) = .ok (.iload_n 3, 1)) (d2 : decode cL_law (pc + 2) = .ok (.iconst z, 1)) (hz : Int32.ofInt z = nI k) (d3 : decode cL_law (pc + 3) = .ok (.iadd, 1)) (d4 : decode cL_law (pc + 4) = .ok (.iaload, 1)) (kk : W p l e room_1 s m #[Value.ref b] below meth c H locs cells slots Z (F0 m (pc + 5) ls (.int (xs (i + k)) :: st))) : W p l e room_1 s m #[Value.ref b] below meth c H locs cells slots Z (F0 m pc ls st) := by
  obtain ⟨hx, hb, hr, hml, hown, hts, hX, hbl, hlocks, hK, hR0, hE0, hL⟩ := hE
  have hbA : ¬ (fun q : Nat => s.heap.size ≤ q) b := Nat.not_le.mpr hbl
  refine lv_aload_n hx hb d0 rfl (lv_at hl 0 rfl) ?_
  refine lv_iload_n hx hb d1 rfl (lv_at hl 3 rfl) ?_
  refine lv_iconst (v := nI k) hx hb d2 hz ?_
  refine lv_iadd hx hb d3 ?_
  rw [nI_add]
  refine va_sld hx hb hX hbl hbA hS (vp_in_nI hi (by omega)) d4 ?_
  rw [nI_clamp (by omega)]
  exact kk
