-- PURE: worlds, whatever the order of their cells
theorem wP_iff {D : va_G} {cl : List vw_C} {ws : va_W} {H : Heap} : va_P D cl ws H ↔ ∀ q, q ∈ ws → va_at D cl q H := by
  constructor
  · intro h q hq
    obtain ⟨i, hi⟩ := List.getElem?_of_mem hq
    exact h i q hi
  · intro h k q hk
    exact h q (List.mem_of_getElem? hk)
theorem wD_iff {A : Nat → Prop} {ws : va_W} : va_D A ws ↔ (ws.map Prod.fst).Nodup ∧ ∀ q, q ∈ ws → A q.1 := by
  constructor
  · rintro ⟨h1, h2⟩
    refine ⟨?_, fun q hq => ?_⟩
    · refine List.pairwise_iff_getElem.2 (fun i j hi hj hij he => ?_)
      have hi' : i < ws.length := by rw [List.length_map] at hi; exact hi
      have hj' : j < ws.length := by rw [List.length_map] at hj; exact hj
      rw [List.getElem_map, List.getElem_map] at he
      have := h1 i j _ _ (List.getElem?_eq_getElem hi') (List.getElem?_eq_getElem hj') he
      omega
    · obtain ⟨i, hi⟩ := List.getElem?_of_mem hq
      exact h2 i q hi
  · rintro ⟨h1, h2⟩
    refine ⟨fun i j p q hi hj he => ?_, fun k q hk => h2 q (List.mem_of_getElem? hk)⟩
    have h1 := List.pairwise_iff_getElem.1 h1
    obtain ⟨li, ei⟩ := List.getElem?_eq_some_iff.1 hi
    obtain ⟨lj, ej⟩ := List.getElem?_eq_some_iff.1 hj
    have li' : i < (ws.map Prod.fst).length := by rw [List.length_map]; exact li
    have lj' : j < (ws.map Prod.fst).length := by rw [List.length_map]; exact lj
    rcases Nat.lt_trichotomy i j with z | z | z
    · exact absurd (by rw [List.getElem_map, List.getElem_map, ei, ej]; exact he) (h1 i j li' lj' z)
    · exact z
    · exact absurd (by rw [List.getElem_map, List.getElem_map, ei, ej]; exact he.symm) (h1 j i lj' li' z)
theorem wA_iff {ws : va_W} {sz q : Nat} : va_A ws sz q ↔ q ∈ ws.map Prod.fst ∨ sz ≤ q := by
  unfold va_A
  constructor
  · rintro (⟨k, e, h⟩ | h)
    · exact Or.inl (List.mem_map.2 ⟨(q, e), List.mem_of_getElem? h, rfl⟩)
    · exact Or.inr h
  · rintro (h | h)
    · obtain ⟨⟨a, e⟩, h1, h2⟩ := List.mem_map.1 h
      obtain ⟨i, hi⟩ := List.getElem?_of_mem h1
      exact Or.inl ⟨i, e, by rw [hi, ← h2]⟩
    · exact Or.inr h
theorem wP_perm {D : va_G} {cl : List vw_C} {ws wt : va_W} {H : Heap} (hp : ws.Perm wt) (h : va_P D cl ws H) : va_P D cl wt H := wP_iff.2 (fun q hq => wP_iff.1 h q (hp.mem_iff.2 hq))
theorem wD_perm {A : Nat → Prop} {ws wt : va_W} (hp : ws.Perm wt) (h : va_D A ws) : va_D A wt := by
  obtain ⟨h1, h2⟩ := wD_iff.1 h
  exact wD_iff.2 ⟨(hp.map Prod.fst).nodup_iff.1 h1, fun q hq => h2 q (hp.mem_iff.2 hq)⟩
theorem wP_left {D : va_G} {cl : List vw_C} {ws wt : va_W} {H : Heap} (h : va_P D cl (ws ++ wt) H) : va_P D cl ws H := wP_iff.2 (fun q hq => wP_iff.1 h q (List.mem_append_left _ hq))
theorem wD_left {A : Nat → Prop} {ws wt : va_W} (h : va_D A (ws ++ wt)) : va_D A ws := by
  obtain ⟨h1, h2⟩ := wD_iff.1 h
  rw [List.map_append] at h1
  exact wD_iff.2 ⟨(List.nodup_append.1 h1).1, fun q hq => h2 q (List.mem_append_left _ hq)⟩
theorem w_free {A0 : Nat → Prop} {wc wr : va_W} {H0 H : Heap} {locs : List Loc} (hD : va_D A0 (wc ++ wr)) (hS : va_S A0 H0 H locs) (hA : ∀ q, H0.size ≤ q → A0 q) : ∀ q, va_A wc H.size q → A0 q := by
  intro q h
  rcases wA_iff.1 h with z | z
  · obtain ⟨x, h1, h2⟩ := List.mem_map.1 z
    rw [← h2]
    exact (wD_iff.1 hD).2 x (List.mem_append_left _ h1)
  · exact hA q (Nat.le_trans hS.1 z)
/-- behind a call: the callee's world, and the caller's other cells -/
theorem w_join {A0 : Nat → Prop} {D : va_G} {cl : List vw_C} {wc wr w1 : va_W} {H H1 : Heap} (hP : va_P D cl (wc ++ wr) H) (hD : va_D A0 (wc ++ wr)) (hk : ∀ q : Nat, q < H.size → ¬ va_A wc H.size q → H1[q]? = H[q]?) (hF : ∀ q, va_A wc H.size q → A0 q) (hP1 : va_P D cl w1 H1) (hD1 : va_D (va_A wc H.size) w1) : va_P D cl (w1 ++ wr) H1 ∧ va_D A0 (w1 ++ wr) := by
  obtain ⟨n1, n2⟩ := wD_iff.1 hD
  obtain ⟨m1, m2⟩ := wD_iff.1 hD1
  rw [List.map_append] at n1
  obtain ⟨k1, k2, k3⟩ := List.nodup_append.1 n1
  have apart : ∀ q, q ∈ wr → q.1 < H.size ∧ ¬ va_A wc H.size q.1 := by
    intro q hq
    have hl := (wP_iff.1 hP q (List.mem_append_right _ hq)).lt
    refine ⟨hl, fun h => ?_⟩
    rcases wA_iff.1 h with z | z
    · exact k3 _ z _ (List.mem_map.2 ⟨q, hq, rfl⟩) rfl
    · omega
  refine ⟨wP_iff.2 (fun q hq => ?_), wD_iff.2 ⟨?_, fun q hq => ?_⟩⟩
  · rcases List.mem_append.1 hq with z | z
    · exact wP_iff.1 hP1 q z
    · obtain ⟨g1, g2⟩ := apart q z
      exact (wP_iff.1 hP q (List.mem_append_right _ z)).kept (hk q.1 g1 g2)
  · rw [List.map_append]
    refine List.nodup_append.2 ⟨m1, k2, fun a ha b hb he => ?_⟩
    obtain ⟨x, hx, rfl⟩ := List.mem_map.1 ha
    obtain ⟨y, hy, rfl⟩ := List.mem_map.1 hb
    exact (apart y hy).2 (by rw [← he]; exact m2 x hx)
  · rcases List.mem_append.1 hq with z | z
    · exact hF q.1 (m2 q z)
    · exact n2 q (List.mem_append_right _ z)
/-- one of a row of worlds taken out -/
theorem w_take (f : Nat → va_W) : ∀ (l : List Nat) (k : Nat), k ∈ l → (l.flatMap f).Perm (f k ++ (l.erase k).flatMap f) := by
  intro l
  induction l with
  | nil => intro k h; exact absurd h (by simp)
  | cons a r ih =>
    intro k h
    rw [List.flatMap_cons]
    by_cases e : a = k
    · subst e
      rw [List.erase_cons_head]
    · rw [List.erase_cons_tail (by simpa using e), List.flatMap_cons]
      have hk : k ∈ r := by
        rcases List.mem_cons.1 h with z | z
        · exact absurd z.symm e
        · exact z
      refine ((ih k hk).append_left (f a)).trans ?_
      rw [← List.append_assoc, ← List.append_assoc]
      exact List.perm_append_comm.append_right _
theorem w_same {f g : Nat → va_W} {l : List Nat} (h : ∀ k, k ∈ l → g k = f k) : l.flatMap g = l.flatMap f := by
  induction l with
  | nil => rfl
  | cons a r ih => rw [List.flatMap_cons, List.flatMap_cons, h a (by simp), ih (fun k hk => h k (by simp [hk]))]
