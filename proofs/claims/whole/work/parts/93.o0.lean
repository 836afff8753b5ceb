-- PURE: the order of those that wait
def lexL : List Nat → List Nat → Prop
  | [], _ => True
  | _ :: _, [] => False
  | x :: l, y :: r => x < y ∨ (x = y ∧ lexL l r)
def cstL (w b : Nat → Nat) : Nat → List Nat → Nat
  | _, [] => 0
  | acc, x :: l => w x * (acc + b x) + cstL w b (acc + b x) l
/-- x should come before y -/
def bef (w b : Nat → Nat) (x y : Nat) : Prop := w y * b x < w x * b y ∨ (w y * b x = w x * b y ∧ x < y)
theorem cst_swap (w b : Nat → Nat) (acc x y : Nat) (l : List Nat) : cstL w b acc (x :: y :: l) + w x * b y = cstL w b acc (y :: x :: l) + w y * b x := by
  simp only [cstL]
  rw [show acc + b x + b y = acc + b y + b x by omega]
  simp only [Nat.mul_add]
  omega
theorem cst_front (w b : Nat → Nat) (m : Nat) (v : List Nat) : ∀ (u : List Nat) (acc : Nat), (∀ x, x ∈ u → w x * b m ≤ w m * b x) → cstL w b acc (m :: (u ++ v)) ≤ cstL w b acc (u ++ m :: v) ∧ (cstL w b acc (m :: (u ++ v)) = cstL w b acc (u ++ m :: v) → ∀ x, x ∈ u → w x * b m = w m * b x) := by
  intro u
  induction u with
  | nil => intro acc _; exact ⟨Nat.le_refl _, fun _ x hx => by simp at hx⟩
  | cons y u ih =>
    intro acc h
    have hy := h y (List.mem_cons_self ..)
    obtain ⟨i1, i2⟩ := ih (acc + b y) (fun x hx => h x (List.mem_cons_of_mem _ hx))
    have sw := cst_swap w b acc m y (u ++ v)
    have e1 : cstL w b acc (y :: m :: (u ++ v)) = w y * (acc + b y) + cstL w b (acc + b y) (m :: (u ++ v)) := rfl
    have e2 : cstL w b acc ((y :: u) ++ m :: v) = w y * (acc + b y) + cstL w b (acc + b y) (u ++ m :: v) := rfl
    have e3 : cstL w b acc (m :: ((y :: u) ++ v)) = cstL w b acc (m :: y :: (u ++ v)) := rfl
    rw [e2, e3]
    refine ⟨by omega, fun z x hx => ?_⟩
    rcases List.mem_cons.1 hx with q | q
    · subst q; omega
    · exact i2 (by omega) x q
/-- what is sorted costs least, and of those that cost as little it comes first -/
theorem cst_min (w b : Nat → Nat) : ∀ (q l : List Nat) (acc : Nat), q.Pairwise (bef w b) → q.length = l.length → l.Nodup → (∀ x, x ∈ l → x ∈ q) → (∀ x, x ∈ q → x ∈ l) → cstL w b acc q ≤ cstL w b acc l ∧ (cstL w b acc q = cstL w b acc l → lexL q l) := by
  intro q
  induction q with
  | nil =>
    intro l acc _ hl _ _ _
    have : l = [] := List.length_eq_zero_iff.1 hl.symm
    subst this
    exact ⟨Nat.le_refl _, fun _ => trivial⟩
  | cons m q ih =>
    intro l acc hs hl hn h1 h2
    obtain ⟨u, v, rfl⟩ := List.append_of_mem (h2 m (List.mem_cons_self ..))
    rw [List.pairwise_cons] at hs
    have hn2 : (u ++ v).Nodup ∧ m ∉ u ++ v := by
      rw [List.nodup_append] at hn
      obtain ⟨n1, n2, n3⟩ := hn
      rw [List.nodup_cons] at n2
      refine ⟨List.nodup_append.2 ⟨n1, n2.2, fun a ha c hc => n3 a ha c (List.mem_cons_of_mem _ hc)⟩, fun z => ?_⟩
      rcases List.mem_append.1 z with z | z
      · exact n3 m z m (List.mem_cons_self ..) rfl
      · exact n2.1 z
    have hu : ∀ x, x ∈ u → bef w b m x := by
      intro x hx
      have : x ∈ m :: q := h1 x (List.mem_append.2 (Or.inl hx))
      rcases List.mem_cons.1 this with z | z
      · exact absurd (List.mem_append.2 (Or.inl (z ▸ hx))) hn2.2
      · exact hs.1 x z
    have hmq : m ∉ q := by
      intro z
      have := hs.1 m z
      unfold bef at this
      omega
    obtain ⟨f1, f2⟩ := cst_front w b m v u acc (fun x hx => by
      have := hu x hx
      unfold bef at this
      omega)
    have hlen : q.length = (u ++ v).length := by
      simp only [List.length_cons, List.length_append] at hl ⊢
      omega
    obtain ⟨g1, g2⟩ := ih (u ++ v) (acc + b m) hs.2 hlen hn2.1 (fun x hx => by
      have : x ∈ m :: q := h1 x (by
        rcases List.mem_append.1 hx with z | z
        · exact List.mem_append.2 (Or.inl z)
        · exact List.mem_append.2 (Or.inr (List.mem_cons_of_mem _ z)))
      rcases List.mem_cons.1 this with z | z
      · exact absurd (z ▸ hx) hn2.2
      · exact z) (fun x hx => by
      have := h2 x (List.mem_cons_of_mem _ hx)
      rcases List.mem_append.1 this with z | z
      · exact List.mem_append.2 (Or.inl z)
      · rcases List.mem_cons.1 z with z | z
        · exact absurd (z ▸ hx) hmq
        · exact List.mem_append.2 (Or.inr z))
    have e1 : cstL w b acc (m :: q) = w m * (acc + b m) + cstL w b (acc + b m) q := rfl
    have e2 : cstL w b acc (m :: (u ++ v)) = w m * (acc + b m) + cstL w b (acc + b m) (u ++ v) := rfl
    refine ⟨by omega, fun z => ?_⟩
    cases u with
    | nil => exact Or.inr ⟨rfl, g2 (by omega)⟩
    | cons x u =>
      left
      have hx := hu x (List.mem_cons_self ..)
      have hq := f2 (by omega) x (List.mem_cons_self ..)
      unfold bef at hx
      omega
/-- a row as a number -/
def numL (n : Nat) : Nat → List Nat → Nat
  | acc, [] => acc
  | acc, x :: l => numL n (acc * n + x) l
theorem numL_add (n : Nat) : ∀ (l : List Nat) (acc : Nat), numL n acc l = acc * n ^ l.length + numL n 0 l := by
  intro l
  induction l with
  | nil => intro acc; simp [numL]
  | cons x l ih =>
    intro acc
    simp only [numL, List.length_cons]
    rw [ih (acc * n + x), ih (0 * n + x), Nat.zero_mul, Nat.zero_add, Nat.add_mul, Nat.pow_succ, Nat.mul_assoc, Nat.mul_comm n (n ^ l.length), Nat.add_assoc]
theorem numL_lt (n : Nat) : ∀ (l : List Nat), (∀ x, x ∈ l → x < n) → numL n 0 l < n ^ l.length ∨ l = [] := by
  intro l
  induction l with
  | nil => intro _; exact Or.inr rfl
  | cons x l ih =>
    intro h
    left
    have hx := h x (List.mem_cons_self ..)
    simp only [numL, List.length_cons]
    rw [numL_add, Nat.zero_mul, Nat.zero_add, Nat.pow_succ, Nat.mul_comm _ n]
    have h1 : (x + 1) * n ^ l.length ≤ n * n ^ l.length := Nat.mul_le_mul_right _ hx
    rw [Nat.succ_mul] at h1
    rcases ih (fun y hy => h y (List.mem_cons_of_mem _ hy)) with z | z
    · omega
    · subst z
      simp only [numL, List.length_nil, Nat.pow_zero] at h1 ⊢
      omega
theorem lex_num (n : Nat) : ∀ (q l : List Nat), q.length = l.length → (∀ x, x ∈ q → x < n) → (∀ x, x ∈ l → x < n) → lexL q l → numL n 0 q ≤ numL n 0 l := by
  intro q
  induction q with
  | nil =>
    intro l hl _ _ _
    have : l = [] := List.length_eq_zero_iff.1 hl.symm
    subst this
    exact Nat.le_refl _
  | cons x q ih =>
    intro l hl h1 h2 h
    cases l with
    | nil => simp at hl
    | cons y l =>
      simp only [List.length_cons] at hl
      have hl' : q.length = l.length := by omega
      simp only [numL]
      rw [numL_add, numL_add (acc := 0 * n + y), hl']
      rcases h with z | ⟨z, z2⟩
      · have h3 : (x + 1) * n ^ l.length ≤ y * n ^ l.length := Nat.mul_le_mul_right _ z
        rw [Nat.succ_mul] at h3
        simp only [Nat.zero_mul, Nat.zero_add]
        rcases numL_lt n q (fun y hy => h1 y (List.mem_cons_of_mem _ hy)) with k | k
        · rw [hl'] at k; omega
        · subst k
          have : l = [] := List.length_eq_zero_iff.1 hl'.symm
          subst this
          simp only [numL, List.length_nil, Nat.pow_zero] at h3 ⊢
          omega
      · subst z
        have := ih l hl' (fun y hy => h1 y (List.mem_cons_of_mem _ hy)) (fun y hy => h2 y (List.mem_cons_of_mem _ hy)) z2
        omega
