-- PURE: corner(), its end
theorem bnd2_l {α β : Type} {x : Sum Nat α} {g : α → Sum Nat β} {f : Nat} (h : bnd2 x g = .inl f) : x = .inl f ∨ ∃ a, x = .inr a ∧ g a = .inl f := by
  cases x with
  | inl e => exact Or.inl (by rw [Sum.inl.inj h])
  | inr a => exact Or.inr ⟨a, rfl, h⟩
theorem bnd2_r {α β : Type} {x : Sum Nat α} {g : α → Sum Nat β} {b : β} (h : bnd2 x g = .inr b) : ∃ a, x = .inr a ∧ g a = .inr b := by
  cases x with
  | inl e => exact absurd h (by simp [bnd2])
  | inr a => exact ⟨a, rfl, h⟩
theorem clX_b {c : Nat → Nat} {L : Nat} (hL : L ≤ 400) {K : tK_t} {p : Nat} (hp : p ≤ L) {many : Bool} : (∀ f, clX c L many K p = .inl f → 1 ≤ f ∧ f < 10000) ∧ (∀ K' p', clX c L many K p = .inr (K', p') → p' ≤ L) := by
  have hn := nxP_le (c := c) hp
  have lf : ∀ k f : Nat, k ≤ 4 → (Sum.inl (1 + 8 * p + k) : Sum Nat (tK_t × Nat)) = .inl f → 1 ≤ f ∧ f < 10000 := fun k f hk h => by have := Sum.inl.inj h; omega
  have lr : ∀ {x : Nat} {K' : tK_t} {p' : Nat} {C : Prop}, (Sum.inl x : Sum Nat (tK_t × Nat)) = .inr (K', p') → C := fun h => absurd h (by simp)
  have pq : ∀ {q lo hi : Nat} {a : Nat × Nat}, q ≤ L → pNum c L q lo hi = .inr a → a.2 ≤ L := fun {q lo hi a} hq h => by
    obtain ⟨_, _, e, _, _⟩ := pNum_b (a := a.1) (q := a.2) h
    rw [e]; exact nxP_le hq
  unfold clX
  cases many with
  | true =>
    simp only [if_true]
    refine ⟨fun f h => ?_, fun K' p' h => ?_⟩
    · split at h
      · exact lf 4 f (by omega) h
      · split at h
        · exact lf 4 f (by omega) h
        · split at h
          · exact lf 4 f (by omega) h
          · split at h
            · exact lf 4 f (by omega) h
            · exact lf 0 f (by omega) h
    · split at h
      · exact lr h
      · split at h
        · exact lr h
        · split at h
          · exact lr h
          · split at h
            · exact lr h
            · exact lr h
  | false =>
    simp only [Bool.false_eq_true, if_false]
    have T : (∀ f, clT c L K p = .inl f → 1 ≤ f ∧ f < 10000) ∧ (∀ K' p', clT c L K p = .inr (K', p') → p' ≤ L) := by
      unfold clT
      by_cases e4 : K.1 = 4
      · rw [if_pos e4]; exact ⟨fun f h => lf 4 f (by omega) h, fun K' p' h => lr h⟩
      · rw [if_neg e4]
        refine ⟨fun f h => ?_, fun K' p' h => ?_⟩
        · rcases bnd2_l h with h | ⟨a, ea, h⟩
          · exact pf_b hn hL h
          · rcases bnd2_l h with h | ⟨b, eb, h⟩
            · exact pf_b (pq hn ea) hL h
            · exact absurd h (by simp)
        · obtain ⟨a, ea, h⟩ := bnd2_r h
          obtain ⟨b, eb, h⟩ := bnd2_r h
          have e := congrArg Prod.snd (Sum.inr.inj h)
          show Prod.snd (K', p') ≤ L
          rw [← e]
          exact pq (pq hn ea) eb
    have W : (∀ f, clW c L K p = .inl f → 1 ≤ f ∧ f < 10000) ∧ (∀ K' p', clW c L K p = .inr (K', p') → p' ≤ L) := by
      unfold clW
      by_cases e4 : K.2.1 = 4
      · rw [if_pos e4]; exact ⟨fun f h => lf 4 f (by omega) h, fun K' p' h => lr h⟩
      · rw [if_neg e4]
        refine ⟨fun f h => ?_, fun K' p' h => ?_⟩
        · rcases bnd2_l h with h | ⟨a, ea, h⟩
          · exact pf_b hn hL h
          · exact absurd h (by simp)
        · obtain ⟨a, ea, h⟩ := bnd2_r h
          have e := congrArg Prod.snd (Sum.inr.inj h)
          show Prod.snd (K', p') ≤ L
          rw [← e]
          exact pq hn ea
    have P : (∀ f, clP c L K p = .inl f → 1 ≤ f ∧ f < 10000) ∧ (∀ K' p', clP c L K p = .inr (K', p') → p' ≤ L) := by
      unfold clP
      refine ⟨fun f h => ?_, fun K' p' h => ?_⟩
      · rcases bnd2_l h with h | ⟨a, ea, h⟩
        · exact pf_b hn hL h
        · rcases bnd2_l h with h | ⟨b, eb, h⟩
          · exact pf_b (pq hn ea) hL h
          · exact absurd h (by simp)
      · obtain ⟨a, ea, h⟩ := bnd2_r h
        obtain ⟨b, eb, h⟩ := bnd2_r h
        have e := congrArg Prod.snd (Sum.inr.inj h)
        show Prod.snd (K', p') ≤ L
        rw [← e]
        exact pq (pq hn ea) eb
    have A : (∀ f, clA c L K p = .inl f → 1 ≤ f ∧ f < 10000) ∧ (∀ K' p', clA c L K p = .inr (K', p') → p' ≤ L) := by
      unfold clA
      by_cases e4 : K.2.2.1 = -1
      · rw [if_pos e4]
        refine ⟨fun f h => ?_, fun K' p' h => ?_⟩
        · rcases bnd2_l h with h | ⟨a, ea, h⟩
          · exact pf_b hn hL h
          · exact absurd h (by simp)
        · obtain ⟨a, ea, h⟩ := bnd2_r h
          have e := congrArg Prod.snd (Sum.inr.inj h)
          show Prod.snd (K', p') ≤ L
          rw [← e]
          exact pq hn ea
      · rw [if_neg e4]; exact ⟨fun f h => lf 4 f (by omega) h, fun K' p' h => lr h⟩
    split
    · exact T
    · split
      · exact W
      · split
        · exact P
        · split
          · exact A
          · exact ⟨fun f h => lf 0 f (by omega) h, fun K' p' h => lr h⟩
theorem rdL_b {c : Nat → Nat} {L : Nat} (hL : L ≤ 400) : ∀ n ln K p, ln + n = 17 → 1 ≤ n → p ≤ L → (∀ f, rdL c L n ln K p = .inl f → 1 ≤ f ∧ f < 10000) ∧ (∀ K' p', rdL c L n ln K p = .inr (K', p') → p' ≤ L) := by
  intro n
  induction n with
  | zero => intro ln K p _ h; omega
  | succ n ih =>
    intro ln K p hln _ hp
    obtain ⟨b1, b2⟩ := clX_b (c := c) hL (K := K) hp (many := decide (ln = 16))
    rw [rdL_s]
    have key : ∀ a : tK_t × Nat, clX c L (decide (ln = 16)) K p = .inr a → (∀ f, tlX c L n (ln + 1) a = .inl f → 1 ≤ f ∧ f < 10000) ∧ (∀ K' p', tlX c L n (ln + 1) a = .inr (K', p') → p' ≤ L) := by
      intro a ea
      have ha : a.2 ≤ L := b2 a.1 a.2 ea
      have en : 1 ≤ n := by
        rcases (show 1 ≤ n ∨ n = 0 by omega) with z | z
        · exact z
        · have e16 : ln = 16 := by omega
          obtain ⟨f0, hf0⟩ := clX_16 c L K p
          rw [decide_eq_true e16, hf0] at ea
          exact absurd ea (by simp)
      unfold tlX
      split
      · split
        · exact ih (ln + 1) a.1 _ (by omega) en (nxP_le ha)
        · exact ⟨fun f h => by have := Sum.inl.inj h; omega, fun K' p' h => absurd h (by simp)⟩
      · exact ⟨fun f h => absurd h (by simp), fun K' p' h => by have e := congrArg Prod.snd (Sum.inr.inj h); show Prod.snd (K', p') ≤ L; rw [← e]; exact ha⟩
    refine ⟨fun f h => ?_, fun K' p' h => ?_⟩
    · rcases bnd2_l h with h | ⟨a, ea, h⟩
      · exact b1 f h
      · exact (key a ea).1 f h
    · obtain ⟨a, ea, h⟩ := bnd2_r h
      exact (key a ea).2 K' p' h
theorem rdF_b {c : Nat → Nat} {L : Nat} (hL : L ≤ 400) : ∀ f, rdF c L = .inl f → 1 ≤ f ∧ f < 10000 := by
  intro f h
  obtain ⟨b1, b2⟩ := rdL_b (c := c) hL 17 0 K0 (sk c L 0) (by omega) (by omega) (sk_le (Nat.zero_le _))
  rcases bnd2_l (show bnd2 (rdL c L 17 0 K0 (sk c L 0)) fnX = .inl f from h) with h | ⟨a, ea, h⟩
  · exact b1 f h
  · have ha := b2 a.1 a.2 ea
    unfold fnX at h
    split at h
    · have := Sum.inl.inj h; omega
    · exact absurd h (by simp)
/-- the new row of numbers -/
def trK (K : tK_t) (k : Nat) : Nat := if k % 2 = 0 then K.2.2.2.1 (k / 2) else K.2.2.2.2.1 (k / 2)
def rw0 (s : Nat → Int32) (n : Nat) : Nat → Int32 := fa_fill (fun _ => 0) s n
def rw1 (s : Nat → Int32) (K : tK_t) : Nat → Int32 := upd (upd (upd (upd (rw0 s 44) 0 (nI K.1)) 1 (nI K.2.1)) 2 (agK K.2.2.1)) 11 (s 11)
def rw2 (s : Nat → Int32) (K : tK_t) : Nat → Int32 := upd (upd (upd (upd (rw1 s K) 12 (nI (K.2.2.2.2.2.2 0))) 14 9) 13 (nI (K.2.2.2.2.2.2 1))) 15 9
def rw3 (s : Nat → Int32) (K : tK_t) (n : Nat) : Nat → Int32 := fun j => if 20 ≤ j ∧ j < 20 + n then nI (trK K (j - 20)) else rw2 s K j
def rw4 (s : Nat → Int32) (K : tK_t) (n : Nat) : Nat → Int32 := fun j => if 28 ≤ j ∧ j < 28 + n then nI (K.2.2.2.2.2.1 (j - 28)) else rw3 s K (2 * K.1) j
theorem rw3_s (s : Nat → Int32) (K : tK_t) (n : Nat) : upd (rw3 s K n) (20 + n) (nI (trK K n)) = rw3 s K (n + 1) := by
  funext j
  rw [upd_at]
  unfold rw3
  by_cases e : j = 20 + n
  · rw [if_pos e, if_pos (by omega), show j - 20 = n by omega]
  · rw [if_neg e]
    by_cases d : 20 ≤ j ∧ j < 20 + n
    · rw [if_pos d, if_pos (by omega)]
    · rw [if_neg d, if_neg (by omega)]
theorem rw4_s (s : Nat → Int32) (K : tK_t) (n : Nat) : upd (rw4 s K n) (28 + n) (nI (K.2.2.2.2.2.1 n)) = rw4 s K (n + 1) := by
  funext j
  rw [upd_at]
  unfold rw4
  by_cases e : j = 28 + n
  · rw [if_pos e, if_pos (by omega), show j - 28 = n by omega]
  · rw [if_neg e]
    by_cases d : 28 ≤ j ∧ j < 28 + n
    · rw [if_pos d, if_pos (by omega)]
    · rw [if_neg d, if_neg (by omega)]
theorem rw3_0 (s : Nat → Int32) (K : tK_t) : rw3 s K 0 = rw2 s K := by
  funext j
  unfold rw3
  rw [if_neg (by omega)]
theorem rw4_0 (s : Nat → Int32) (K : tK_t) : rw4 s K 0 = rw3 s K (2 * K.1) := by
  funext j
  unfold rw4
  rw [if_neg (by omega)]
theorem m_cornerT {M : gS} {K : tK_t} (hK : okK K) (hk : krR K M) (Q : Int32 → gS → Prop) (h : Q (nI K.1) (sF M 25 (rw4 (ma M 25) K K.2.1))) : ∃ k60 : Nat, wX12_corner_60 Q k60 (ma M 25 11) 0 M := by
  obtain ⟨k1, k2, k3, k4, k5, k6⟩ := hK
  obtain ⟨r7, r8, r9, r10, r11, r12⟩ := hk
  have l202 : ∀ n i, i + n = K.2.1 → wX12_corner_202 Q (n + 1) (nI i) (sF M 25 (rw4 (ma M 25) K i)) := by
    intro n
    induction n with
    | zero =>
      intro i hi
      rw [wX12_corner_202]
      simp only [mg_sF]
      rw [r8, r7, show i = K.2.1 by omega]
      exact sw_t (nI_le (Nat.le_refl _) (by omega)) h
    | succ n ih =>
      intro i hi
      rw [wX12_corner_202]
      simp only [mg_sF]
      rw [r8, nI_clamp (by omega), show (28 : Int32) + nI i = nI (28 + i) from nI_add 28 i, nI_clamp (by omega)]
      refine sw_f (nI_ge (by omega) (by omega)) ⟨vp_in_nI (by omega) (by decide), fun x2 h2 => ⟨vp_in_nI (by omega) (by decide), fun M3 h3 x4 h4 => ?_⟩⟩
      have h2' : x2 = nI (K.2.2.2.2.2.1 i) := by rw [h2]; exact r11 i (by omega)
      have e3 : M3 = sF M 25 (rw4 (ma M 25) K (i + 1)) := by rw [h3, h2', sa_25, ma_sF1, sF_sF, rw4_s]
      rw [e3, h4, nI_1]
      exact ih (i + 1) (by omega)
  have l169 : ∀ n i, i + n = 2 * K.1 → wX12_corner_169 Q (n + 1) (nI i) (sF M 25 (rw3 (ma M 25) K i)) := by
    intro n
    induction n with
    | zero =>
      intro i hi
      rw [wX12_corner_169]
      simp only [mg_sF]
      rw [r7, show (2 : Int32) * nI K.1 = nI (2 * K.1) from pk_mul 2 K.1, show i = 2 * K.1 by omega]
      refine sw_t (nI_le (Nat.le_refl _) (by omega)) ⟨K.2.1 + 1, ?_⟩
      rw [← rw4_0]
      exact l202 K.2.1 0 (by omega)
    | succ n ih =>
      intro i hi
      rw [wX12_corner_169]
      simp only [mg_sF]
      rw [r7, show (2 : Int32) * nI K.1 = nI (2 * K.1) from pk_mul 2 K.1, nI_clamp (by omega), show (20 : Int32) + nI i = nI (20 + i) from nI_add 20 i, nI_clamp (by omega)]
      refine sw_f (nI_ge (by omega) (by omega)) ⟨vp_in_nI (by omega) (by decide), fun x2 h2 => ⟨vp_in_nI (by omega) (by decide), fun M3 h3 x4 h4 => ?_⟩⟩
      have h2' : x2 = nI (trK K i) := by
        rw [h2]
        show ma M 10 i = _
        unfold trK
        by_cases z : i % 2 = 0
        · rw [if_pos z]
          have := (r10 (i / 2) (by omega)).1
          rw [show 2 * (i / 2) = i by omega] at this
          exact this
        · rw [if_neg z]
          have := (r10 (i / 2) (by omega)).2
          rw [show 2 * (i / 2) + 1 = i by omega] at this
          exact this
      have e3 : M3 = sF M 25 (rw3 (ma M 25) K (i + 1)) := by rw [h3, h2', sa_25, ma_sF1, sF_sF, rw3_s]
      rw [e3, h4, nI_1]
      exact ih (i + 1) (by omega)
  have l119 : ∀ X g, X = sF M 25 (upd (upd (rw0 (ma M 25) 44) 0 (nI K.1)) 1 (nI K.2.1)) → g = agK K.2.2.1 → wX12_corner_119 Q (ma M 25 11) 2 g X := by
    intro X g hX hg
    unfold wX12_corner_119
    refine ⟨show vp_in (nI 2) 44 from vp_in_nI (by omega) (by decide), fun M1 h1 M2 h2 => ⟨3, ?_⟩⟩
    have e2 : M2 = sF M 25 (rw1 (ma M 25) K) := by
      rw [h2, h1, hX, hg]
      simp only [sa_25, ma_sF1, sF_sF]
      rfl
    rw [e2, wX12_corner_130]
    refine sw_f (by decide) ⟨show vp_in (nI 0) 2 from vp_in_nI (by omega) (by decide), fun x2 h2 => ⟨show vp_in (nI 12) 44 from vp_in_nI (by omega) (by decide), fun M3 h3 => ⟨show vp_in (nI 14) 44 from vp_in_nI (by omega) (by decide), fun M4 h4 x5 h5 => ?_⟩⟩⟩
    have x5' : x5 = 1 := by rw [h5]; rfl
    rw [x5', wX12_corner_130]
    refine sw_f (by decide) ⟨show vp_in (nI 1) 2 from vp_in_nI (by omega) (by decide), fun x2' h2' => ⟨show vp_in (nI 13) 44 from vp_in_nI (by omega) (by decide), fun M3' h3' => ⟨show vp_in (nI 15) 44 from vp_in_nI (by omega) (by decide), fun M4' h4' x5'' h5'' => ?_⟩⟩⟩
    have e5 : x5'' = 2 := by rw [h5'']; rfl
    rw [e5, wX12_corner_130]
    refine sw_t (by decide) ⟨2 * K.1 + 1, ?_⟩
    have p0 : x2 = nI (K.2.2.2.2.2.2 0) := by rw [h2]; exact r12 0 (by omega)
    have p1 : x2' = nI (K.2.2.2.2.2.2 1) := by rw [h2', h4, h3]; exact r12 1 (by omega)
    have e4 : M4' = sF M 25 (rw2 (ma M 25) K) := by
      rw [h4', h3', h4, h3, p0, p1]
      simp only [sa_25, ma_sF1, sF_sF]
      rfl
    rw [e4, ← rw3_0]
    exact l169 (2 * K.1) 0 (by omega)
  have l60 : ∀ n j, j + n = 44 → wX12_corner_60 Q (n + 1) (ma M 25 11) (nI j) (sF M 25 (rw0 (ma M 25) j)) := by
    intro n
    induction n with
    | zero =>
      intro j hj
      rw [wX12_corner_60]
      refine sw_t (show nI 44 ≤ nI j from nI_le (by omega) (by omega)) (fun x2 h2 M3 h3 x4 h4 M5 h5 => ?_)
      have e2 : x2 = nI K.1 := by rw [h2]; exact r7
      have e4 : x4 = nI K.2.1 := by rw [h4, h3]; exact r8
      have e5 : M5 = sF M 25 (upd (upd (rw0 (ma M 25) 44) 0 (nI K.1)) 1 (nI K.2.1)) := by
        rw [h5, h3, e4, e2, show j = 44 by omega]
        simp only [sa_25, ma_sF1, sF_sF]
      have e9 : mg M5 9 = K.2.2.1 := by rw [e5]; exact r9
      rw [e9]
      rcases k3 with z | ⟨n, hn, z⟩
      · refine sw_f (by rw [z]; decide) (l119 M5 0 e5 ?_)
        rw [z]
        decide
      · refine sw_t (by rw [z]; exact nI_pos' (by omega)) (l119 M5 _ e5 ?_)
        rw [z]
        unfold agK
        by_cases y : 0 < n
        · rw [if_pos (show (0 : Int32) < nI n from nI_lt (a := 0) y (by omega))]
        · rw [show n = 0 by omega]
          decide
    | succ n ih =>
      intro j hj
      rw [wX12_corner_60, nI_clamp (by omega)]
      refine sw_f (show ¬ nI 44 ≤ nI j from nI_ge (by omega) (by omega)) ⟨vp_in_nI (by omega) (by decide), fun M7 h7 x8 h8 => ?_⟩
      have e7 : M7 = sF M 25 (rw0 (ma M 25) (j + 1)) := by
        rw [h7, sa_25, ma_sF1, sF_sF]
        congr 1
        exact fa_fill_succ (fun _ => 0) (ma M 25) j
      rw [e7, h8, nI_1]
      exact ih (j + 1) (by omega)
  refine ⟨45, ?_⟩
  have := l60 44 0 (by omega)
  have e0 : rw0 (ma M 25) 0 = ma M 25 := fa_fill_0 _ _
  rw [e0, sF_self] at this
  exact this
