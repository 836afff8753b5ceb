-- PURE: names and numbers in texts
def isF (a : Option (List Nat)) : Bool := match a with | some [] => true | _ => false
def stA (x : Nat) (a : Option (List Nat)) : Option (List Nat) := match a with | some (y :: t) => if y = x then some t else none | _ => none
def na (ls : List Nat) : List Nat → Nat → Option (List Nat) → Int32
  | [], w, a => if isF a = true then nI w else -1
  | x :: r, w, a => if x = 32 then (if isF a = true then nI w else na ls r (w + 1) (some ls)) else na ls r w (stA x a)
theorem isF_n : isF none = false := rfl
theorem isF_0 : isF (some []) = true := rfl
theorem isF_c (y : Nat) (t : List Nat) : isF (some (y :: t)) = false := rfl
theorem stA_n (x : Nat) : stA x none = none := rfl
theorem stA_0 (x : Nat) : stA x (some []) = none := rfl
theorem stA_c (x y : Nat) (t : List Nat) : stA x (some (y :: t)) = if y = x then some t else none := rfl
theorem isF_iff (a : Option (List Nat)) : isF a = true ↔ a = some [] := by
  cases a with
  | none => exact ⟨fun z => absurd z (by decide), fun z => absurd z (by simp)⟩
  | some l =>
    cases l with
    | nil => exact ⟨fun _ => rfl, fun _ => rfl⟩
    | cons y t => exact ⟨fun z => absurd z (by rw [isF_c]; decide), fun z => absurd z (by simp)⟩
theorem na_none (ls r : List Nat) (w : Nat) : ∀ W : List Nat, (∀ x, x ∈ W → x ≠ 32) → na ls (W ++ 32 :: r) w none = na ls r (w + 1) (some ls) := by
  intro W
  induction W with
  | nil => intro _; rw [List.nil_append, na, if_pos rfl, isF_n, if_neg (by decide)]
  | cons x W ih =>
    intro h
    rw [List.cons_append, na, if_neg (h x (by simp)), stA_n]
    exact ih (fun y hy => h y (by simp [hy]))
theorem na_some (ls r : List Nat) (w : Nat) : ∀ W rem : List Nat, (∀ x, x ∈ W → x ≠ 32) → na ls (W ++ 32 :: r) w (some rem) = if rem = W then nI w else na ls r (w + 1) (some ls) := by
  intro W
  induction W with
  | nil =>
    intro rem _
    rw [List.nil_append, na, if_pos rfl]
    cases rem with
    | nil => rw [isF_0, if_pos rfl, if_pos rfl]
    | cons y t => rw [isF_c, if_neg (by decide), if_neg (by simp)]
  | cons x W ih =>
    intro rem h
    have hW : ∀ y, y ∈ W → y ≠ 32 := fun y hy => h y (by simp [hy])
    rw [List.cons_append, na, if_neg (h x (by simp))]
    cases rem with
    | nil =>
      rw [stA_0, if_neg (by simp)]
      exact na_none ls r w W hW
    | cons y t =>
      rw [stA_c]
      by_cases e : y = x
      · rw [if_pos e, ih t hW, e]
        by_cases z : t = W
        · rw [if_pos z, if_pos (by rw [z])]
        · rw [if_neg z, if_neg (fun k => z (List.cons.inj k).2)]
      · rw [if_neg e, na_none ls r w W hW, if_neg (fun k => e (List.cons.inj k).1)]
theorem na_lnone (ls : List Nat) (w : Nat) : ∀ W : List Nat, (∀ x, x ∈ W → x ≠ 32) → na ls W w none = -1 := by
  intro W
  induction W with
  | nil => intro _; rw [na, isF_n, if_neg (by decide)]
  | cons x W ih =>
    intro h
    rw [na, if_neg (h x (by simp)), stA_n]
    exact ih (fun y hy => h y (by simp [hy]))
theorem na_last (ls : List Nat) (w : Nat) : ∀ W rem : List Nat, (∀ x, x ∈ W → x ≠ 32) → na ls W w (some rem) = if rem = W then nI w else -1 := by
  intro W
  induction W with
  | nil =>
    intro rem _
    rw [na]
    cases rem with
    | nil => rw [isF_0, if_pos rfl, if_pos rfl]
    | cons y t => rw [isF_c, if_neg (by decide), if_neg (by simp)]
  | cons x W ih =>
    intro rem h
    have hW : ∀ y, y ∈ W → y ≠ 32 := fun y hy => h y (by simp [hy])
    rw [na, if_neg (h x (by simp))]
    cases rem with
    | nil =>
      rw [stA_0, if_neg (by simp)]
      exact na_lnone ls w W hW
    | cons y t =>
      rw [stA_c]
      by_cases e : y = x
      · rw [if_pos e, ih t hW, e]
        by_cases z : t = W
        · rw [if_pos z, if_pos (by rw [z])]
        · rw [if_neg z, if_neg (fun k => z (List.cons.inj k).2)]
      · rw [if_neg e, na_lnone ls w W hW, if_neg (fun k => e (List.cons.inj k).1)]
/-- a literal's chars as numbers -/
def sN (k : Nat) : List Nat := (sByt.getD k []).map Int32.toNatClampNeg
theorem sN_ok : ∀ k, k < 6 → sLen.getD k 0 = (sN k).length ∧ (sN k).length < 100 := by decide +kernel
theorem sN_ch : ∀ k, k < 6 → ∀ i, i < (sN k).length → sCh k i = nI ((sN k).getD i 0) ∧ (sN k).getD i 0 < 200 := by decide +kernel
theorem drop_getD {l : List Nat} {i : Nat} (h : i < l.length) : l.drop i = l.getD i 0 :: l.drop (i + 1) := by
  rw [List.drop_eq_getElem_cons h]
  congr 1
  simp [List.getD, List.getElem?_eq_getElem h]
theorem ls_drop {c : Nat → Nat} {L p j : Nat} (h : j < eL c L p - p) : (lsW c L p).drop j = c (p + j) :: (lsW c L p).drop (j + 1) := by
  unfold lsW
  have hl : j < ((List.range (eL c L p - p)).map (fun i => c (p + i))).length := by rw [List.length_map, List.length_range]; exact h
  rw [List.drop_eq_getElem_cons hl]
  congr 1
  simp
theorem ls_len (c : Nat → Nat) (L p : Nat) : (lsW c L p).length = eL c L p - p := by unfold lsW; rw [List.length_map, List.length_range]
/-- how far the name ahead is alike -/
def alk (ls : List Nat) (n : Nat) (a : Option (List Nat)) (y : Int32) : Prop := (a = none ∧ y = -1) ∨ ∃ j, j ≤ n ∧ y = nI j ∧ a = some (ls.drop j)
theorem c_name_l {c : Nat → Nat} {L p : Nat} {M Mt : gS} (ht : txC c L M Mt) (hp : p ≤ L) (h2 : mg M 2 = nI p) (h3 : mg M 3 = nI (eL c L p)) {k : Nat} (hk : k < 6) (Q : Int32 → gS → gS → Prop) : ∀ n i, i + n = (sN k).length → ∀ w a y, alk (lsW c L p) (eL c L p - p) a y → Q (na (lsW c L p) ((sN k).drop i) w a) M Mt → wX7_nameAmong_17 Q (n + 1) k (nI w) y (nI i) M Mt := by
  obtain ⟨hm1, hL, hc⟩ := ht
  have hE : eL c L p ≤ L := eo_le _ hp
  have hG : p ≤ eL c L p := eo_ge _ _ _
  obtain ⟨s1, s2⟩ := sN_ok k hk
  have esub : nI (eL c L p) - nI p = nI (eL c L p - p) := pk_sub hG
  have full : ∀ a y, alk (lsW c L p) (eL c L p - p) a y → (y = nI (eL c L p - p) ↔ a = some []) := by
    intro a y h
    rcases h with ⟨rfl, rfl⟩ | ⟨j, hj, rfl, rfl⟩
    · exact ⟨fun z => absurd z.symm (nI_nm1 (by omega)), fun z => absurd z (by simp)⟩
    · rw [nI_eq (by omega) (by omega)]
      refine ⟨fun z => ?_, fun z => ?_⟩
      · rw [List.drop_eq_nil_of_le (by rw [ls_len]; omega)]
      · have := Option.some.inj z
        rw [List.drop_eq_nil_iff, ls_len] at this
        omega
  intro n
  induction n with
  | zero =>
    intro i hi w a y ha h
    rw [wX7_nameAmong_17, h2, h3, esub, s1]
    rw [List.drop_eq_nil_of_le (by omega), na] at h
    refine ⟨hk, sw_t (nI_le (by omega) (by omega)) ?_⟩
    by_cases f : a = some []
    · rw [if_pos ((isF_iff a).2 f)] at h
      exact sw_t ((full a y ha).2 f) h
    · rw [if_neg (fun z => f ((isF_iff a).1 z))] at h
      exact sw_f (fun z => f ((full a y ha).1 z)) h
  | succ n ih =>
    intro i hi w a y ha h
    obtain ⟨q1, q2⟩ := sN_ch k hk i (by omega)
    rw [wX7_nameAmong_17, h2, h3, esub, s1]
    rw [drop_getD (show i < (sN k).length by omega), na] at h
    refine ⟨hk, sw_f (nI_ge (by omega) (by omega)) ⟨hk, i, by omega, rfl, ?_⟩⟩
    rw [q1]
    have nxt : ∀ w' a' y', alk (lsW c L p) (eL c L p - p) a' y' → Q (na (lsW c L p) ((sN k).drop (i + 1)) w' a') M Mt → wX7_nameAmong_105 (fun (y1 : Nat) (y2 : Int32) (y3 : Int32) (y4 : Int32) (M0 : gS) (M1 : gS) => wX7_nameAmong_17 Q (n + 1) y1 y2 y3 y4 M0 M1) Q k (nI w') y' (nI i) M Mt := by
      intro w' a' y' ha' h'
      unfold wX7_nameAmong_105
      intro x1 hx1
      rw [hx1, nI_1]
      exact ih (i + 1) (by omega) w' a' y' ha' h'
    by_cases e : (sN k).getD i 0 = 32
    · rw [if_pos e] at h
      refine sw_t (by rw [e]; rfl) ?_
      by_cases f : a = some []
      · rw [if_pos ((isF_iff a).2 f)] at h
        exact sw_t ((full a y ha).2 f) h
      · rw [if_neg (fun z => f ((isF_iff a).1 z))] at h
        refine sw_f (fun z => f ((full a y ha).1 z)) (fun x14 h14 => ?_)
        rw [h14, nI_1]
        exact nxt (w + 1) (some (lsW c L p)) 0 (Or.inr ⟨0, by omega, rfl, by rw [List.drop_zero]⟩) h
    · rw [if_neg e] at h
      refine sw_f (fun z => e ((nI_eq (by omega) (by omega)).1 (show nI ((sN k).getD i 0) = nI 32 from z))) ?_
      rcases ha with ⟨rfl, rfl⟩ | ⟨j, hj, rfl, rfl⟩
      · rw [stA_n] at h
        exact sw_t (by decide) (nxt w none (-1) (Or.inl ⟨rfl, rfl⟩) h)
      · refine sw_f (nI_pos (by omega)) ?_
        rw [nI_add]
        by_cases f : j < eL c L p - p
        · rw [ls_drop f, stA_c] at h
          refine sw_f (nI_ge (by omega) (by omega)) ⟨vp_in_nI (by omega) (by decide), hk, i, by omega, rfl, ?_⟩
          rw [nI_clamp (by omega), (hc (p + j)).2, q1]
          have dc := (hc (p + j)).1
          by_cases g : c (p + j) = (sN k).getD i 0
          · refine sw_t (by rw [g]) (fun x12 h12 => ?_)
            rw [h12, nI_1]
            refine nxt w (some ((lsW c L p).drop (j + 1))) _ (Or.inr ⟨j + 1, by omega, rfl, rfl⟩) ?_
            rw [if_pos g] at h
            exact h
          · refine sw_f (fun z => g ((nI_eq (by omega) (by omega)).1 z)) (nxt w none (-1) (Or.inl ⟨rfl, rfl⟩) ?_)
            rw [if_neg g] at h
            exact h
        · refine sw_t (nI_le (by omega) (by omega)) (nxt w none (-1) (Or.inl ⟨rfl, rfl⟩) ?_)
          rw [show (lsW c L p).drop j = [] from List.drop_eq_nil_of_le (by rw [ls_len]; omega), stA_0] at h
          exact h
theorem ls_nil {c : Nat → Nat} {L p : Nat} (h : bL c L p = false) : lsW c L p = [] := by
  unfold lsW
  have : eL c L p = p := eo_f (bL_in c L) h
  rw [this, Nat.sub_self]
  rfl
theorem na_nil (k : Nat) : k < 6 → na [] (sN k) 0 (some []) = -1 := by
  intro h
  rcases (show k = 0 ∨ k = 1 ∨ k = 2 ∨ k = 3 ∨ k = 4 ∨ k = 5 by omega) with rfl | rfl | rfl | rfl | rfl | rfl <;> decide +kernel
theorem c_name {c : Nat → Nat} {L p : Nat} {M Mt : gS} (ht : txC c L M Mt) (hr : rdC c L p M) {k : Nat} (hk : k < 6) (Q : Int32 → gS → gS → Prop) (h : Q (na (lsW c L p) (sN k) 0 (some (lsW c L p))) M Mt) : wX7_nameAmong k M Mt Q := by
  obtain ⟨r1, r2, r3, r4, r5⟩ := hr
  unfold wX7_nameAmong
  by_cases a : p < L
  · cases b : bL c L p with
    | true =>
      refine sw_t ((r4 a).1 b) ⟨(sN k).length + 1, c_name_l ht r1 r2 ?_ hk Q (sN k).length 0 (by omega) 0 (some (lsW c L p)) 0 (Or.inr ⟨0, by omega, rfl, by rw [List.drop_zero]⟩) (by rw [List.drop_zero]; exact h)⟩
      unfold tkE at r3
      rw [if_pos a, if_pos b] at r3
      exact r3
    | false =>
      rw [ls_nil b, na_nil k hk] at h
      cases d : bD c L p with
      | true => exact sw_f (by rw [((r4 a).2.1 b d).1]; decide) h
      | false => exact sw_f (by rw [((r4 a).2.2 b d).1]; decide) h
  · have b : bL c L p = false := by unfold bL; rw [decide_eq_false a, Bool.false_and]
    rw [ls_nil b, na_nil k hk] at h
    exact sw_f (by rw [r5 a]; decide) h
def Wtune : List Nat := [116, 117, 110, 101]
def Wword : List Nat := [119, 111, 114, 100]
def Wpurse : List Nat := [112, 117, 114, 115, 101]
def Wagain : List Nat := [97, 103, 97, 105, 110]
def Wsay : List Nat := [115, 97, 121]
def Wthrow : List Nat := [116, 104, 114, 111, 119]
def Wstill : List Nat := [115, 116, 105, 108, 108]
def Wif : List Nat := [105, 102]
def Wand : List Nat := [97, 110, 100]
def Wor : List Nat := [111, 114]
def Wnot : List Nat := [110, 111, 116]
def Wside : List Nat := [115, 105, 100, 101]
def Wleft : List Nat := [108, 101, 102, 116]
def Wverse : List Nat := [118, 101, 114, 115, 101]
def Wmine : List Nat := [109, 105, 110, 101]
def Wtheirs : List Nat := [116, 104, 101, 105, 114, 115]
def Wlast : List Nat := [108, 97, 115, 116]
def Wheard : List Nat := [104, 101, 97, 114, 100]
def Wsaid : List Nat := [115, 97, 105, 100]
def Wmoves : List Nat := [109, 111, 118, 101, 115]
theorem okW_of {W : List Nat} (h : decide (1 ≤ W.length ∧ W.length ≤ 7 ∧ ∀ x, x ∈ W → 97 ≤ x ∧ x ≤ 122) = true) : okW W := by
  unfold okW
  exact of_decide_eq_true h
theorem no32 {W : List Nat} (h : okW W) : ∀ x, x ∈ W → x ≠ 32 := fun x hx => by have := h.2.2 x hx; omega
theorem ok_tune : okW Wtune := okW_of (by decide)
theorem ok_word : okW Wword := okW_of (by decide)
theorem ok_purse : okW Wpurse := okW_of (by decide)
theorem ok_again : okW Wagain := okW_of (by decide)
theorem ok_say : okW Wsay := okW_of (by decide)
theorem ok_throw : okW Wthrow := okW_of (by decide)
theorem ok_still : okW Wstill := okW_of (by decide)
theorem ok_if : okW Wif := okW_of (by decide)
theorem ok_and : okW Wand := okW_of (by decide)
theorem ok_or : okW Wor := okW_of (by decide)
theorem ok_not : okW Wnot := okW_of (by decide)
theorem ok_side : okW Wside := okW_of (by decide)
theorem ok_left : okW Wleft := okW_of (by decide)
theorem ok_verse : okW Wverse := okW_of (by decide)
theorem ok_mine : okW Wmine := okW_of (by decide)
theorem ok_theirs : okW Wtheirs := okW_of (by decide)
theorem ok_last : okW Wlast := okW_of (by decide)
theorem ok_heard : okW Wheard := okW_of (by decide)
theorem ok_said : okW Wsaid := okW_of (by decide)
theorem ok_moves : okW Wmoves := okW_of (by decide)
theorem na_0 (l : List Nat) : na l (sN 0) 0 (some l) = if l = Wtune then 0 else if l = Wword then 1 else if l = Wpurse then 2 else if l = Wagain then 3 else -1 := by
  rw [show sN 0 = Wtune ++ 32 :: (Wword ++ 32 :: (Wpurse ++ 32 :: Wagain)) by decide +kernel, na_some l _ 0 Wtune l (no32 ok_tune), na_some l _ _ Wword l (no32 ok_word), na_some l _ _ Wpurse l (no32 ok_purse), na_last l _ Wagain l (no32 ok_again)]
  rfl
theorem na_1 (l : List Nat) : na l (sN 1) 0 (some l) = if l = Wsay then 0 else if l = Wthrow then 1 else if l = Wstill then 2 else -1 := by
  rw [show sN 1 = Wsay ++ 32 :: (Wthrow ++ 32 :: Wstill) by decide +kernel, na_some l _ 0 Wsay l (no32 ok_say), na_some l _ _ Wthrow l (no32 ok_throw), na_last l _ Wstill l (no32 ok_still)]
  rfl
theorem na_2 (l : List Nat) : na l (sN 2) 0 (some l) = if l = Wif then 0 else -1 := by
  rw [show sN 2 = Wif by decide +kernel, na_last l _ Wif l (no32 ok_if)]
  rfl
theorem na_3 (l : List Nat) : na l (sN 3) 0 (some l) = if l = Wand then 0 else if l = Wor then 1 else -1 := by
  rw [show sN 3 = Wand ++ 32 :: Wor by decide +kernel, na_some l _ 0 Wand l (no32 ok_and), na_last l _ Wor l (no32 ok_or)]
  rfl
theorem na_4 (l : List Nat) : na l (sN 4) 0 (some l) = if l = Wnot then 0 else -1 := by
  rw [show sN 4 = Wnot by decide +kernel, na_last l _ Wnot l (no32 ok_not)]
  rfl
theorem na_5 (l : List Nat) : na l (sN 5) 0 (some l) = if l = Wside then 0 else if l = Wleft then 1 else if l = Wverse then 2 else if l = Wmine then 3 else if l = Wtheirs then 4 else if l = Wlast then 5 else if l = Wheard then 6 else if l = Wsaid then 7 else if l = Wmoves then 8 else -1 := by
  rw [show sN 5 = Wside ++ 32 :: (Wleft ++ 32 :: (Wverse ++ 32 :: (Wmine ++ 32 :: (Wtheirs ++ 32 :: (Wlast ++ 32 :: (Wheard ++ 32 :: (Wsaid ++ 32 :: Wmoves))))))) by decide +kernel, na_some l _ 0 Wside l (no32 ok_side), na_some l _ _ Wleft l (no32 ok_left), na_some l _ _ Wverse l (no32 ok_verse), na_some l _ _ Wmine l (no32 ok_mine), na_some l _ _ Wtheirs l (no32 ok_theirs), na_some l _ _ Wlast l (no32 ok_last), na_some l _ _ Wheard l (no32 ok_heard), na_some l _ _ Wsaid l (no32 ok_said), na_last l _ Wmoves l (no32 ok_moves)]
  rfl
/-- a number that is taken -/
def numV (c : Nat → Nat) (L p : Nat) : Nat := nvf c p (eD c L p - p)
def numOK (c : Nat → Nat) (L p lo hi : Nat) : Bool := bD c L p && (decide (eD c L p - p ≤ 5) && (decide (lo ≤ numV c L p) && decide (numV c L p ≤ hi)))
def numK (c : Nat → Nat) (L p : Nat) : Nat := if bD c L p = true then 1 else 0
theorem bD_nL {c : Nat → Nat} {L p : Nat} (h : bD c L p = true) : bL c L p = false := by
  unfold bD at h
  unfold bL
  simp only [Bool.and_eq_true, decide_eq_true_eq] at h
  rw [decide_eq_false (show ¬ 97 ≤ c p by omega), Bool.false_and, Bool.and_false]
theorem bD_tk {c : Nat → Nat} {L p : Nat} (h : bD c L p = true) : tkE c L p = eD c L p ∧ p < L := by
  have hp := bD_in c L p h
  refine ⟨?_, hp⟩
  unfold tkE
  rw [if_pos hp, if_neg (by rw [bD_nL h]; decide), if_pos h]
theorem bL_tk {c : Nat → Nat} {L p : Nat} (h : bL c L p = true) : tkE c L p = eL c L p ∧ p < L := by
  have hp := bL_in c L p h
  refine ⟨?_, hp⟩
  unfold tkE
  rw [if_pos hp, if_pos h]
/-- a fault of kind k at p, if it is the first -/
def ftC (f : Int32) (p k : Nat) : Int32 := if f = 0 then nI (1 + 8 * p + k) else f
def frF (M N : gS) : Prop := mg N 1 = mg M 1 ∧ ma N = ma M
theorem c_fail {c : Nat → Nat} {L p : Nat} {M Mt : gS} (hr : rdC c L p M) (k : Nat) (Q : gS → gS → Prop) (h : ∀ N, frF M N → rdC c L p N → mg N 7 = ftC (mg M 7) p k → Q N Mt) : wX7_fail (nI k) M Mt Q := by
  unfold wX7_fail
  unfold ftC at h
  by_cases a : mg M 7 = 0
  · refine sw_t a (fun x2 h2 N3 h3 => h N3 (by rw [h3]; exact ⟨rfl, rfl⟩) (by rw [h3]; exact hr) ?_)
    rw [if_pos a, h3, mg_sg, if_pos rfl, h2, hr.2.1]
    show nI 1 + nI 8 * nI p + nI k = _
    rw [pk_mul, nI_add, nI_add]
  · exact sw_f a (h M ⟨rfl, rfl⟩ hr (by rw [if_neg a]))
theorem c_take_ok {c : Nat → Nat} {L p : Nat} {M Mt : gS} (ht : txC c L M Mt) (hr : rdC c L p M) {lo hi : Nat} (hlo : lo < 1000) (hhi : hi ≤ 100000) (ho : numOK c L p lo hi = true) (Q : Int32 → gS → gS → Prop) (h : ∀ N, fr7 M N → rdC c L (nxP c L p) N → Q (nI (numV c L p)) N Mt) : wX7_takeNumber (nI lo) (nI hi) M Mt Q := by
  unfold numOK at ho
  simp only [Bool.and_eq_true, decide_eq_true_eq] at ho
  obtain ⟨o1, o2, o3, o4⟩ := ho
  obtain ⟨b1, b2⟩ := bD_tk o1
  obtain ⟨r4, r6⟩ := (hr.2.2.2.1 b2).2.1 (bD_nL o1) o1
  have e6 : mg M 6 = nI (numV c L p) := by rw [r6]; unfold nmV; rw [if_pos o2]; rfl
  unfold wX7_takeNumber
  rw [e6]
  refine sw_t r4 (sw_f (nI_nlt o3 (by omega)) (sw_t (nI_le o4 (by omega)) (fun x4 h4 => ?_)))
  rw [h4]
  exact c_next ht hr _ h
theorem c_take_no {c : Nat → Nat} {L p : Nat} {M Mt : gS} (hr : rdC c L p M) {lo hi : Nat} (hlo : lo < 1000) (hhi : hi ≤ 100000) (ho : numOK c L p lo hi = false) (Q : Int32 → gS → gS → Prop) (h : ∀ N, frF M N → rdC c L p N → mg N 7 = ftC (mg M 7) p (numK c L p) → Q (-1) N Mt) : wX7_takeNumber (nI lo) (nI hi) M Mt Q := by
  obtain ⟨r1, r2, r3, r4, r5⟩ := id hr
  unfold numK at h
  unfold wX7_takeNumber
  cases d : bD c L p with
  | true =>
    rw [if_pos d] at h
    obtain ⟨b1, b2⟩ := bD_tk d
    obtain ⟨q4, q6⟩ := (r4 b2).2.1 (bD_nL d) d
    have f1 : wX7_takeNumber_31 Q M Mt := by
      unfold wX7_takeNumber_31
      exact c_fail hr 1 _ h
    refine sw_t q4 ?_
    rw [q6]
    unfold nmV
    by_cases a : eD c L p - p ≤ 5
    · have n5 := nv5 (c := c) (L := L) (p := p) (eD c L p - p) a (Nat.le_refl _)
      have p5 : (10 : Nat) ^ (eD c L p - p) ≤ 10 ^ 5 := Nat.pow_le_pow_right (by decide) a
      rw [if_pos a]
      by_cases b : lo ≤ numV c L p
      · refine sw_f (nI_nlt b (by omega)) ?_
        by_cases e : numV c L p ≤ hi
        · exfalso
          unfold numOK at ho
          rw [d, decide_eq_true a, decide_eq_true b, decide_eq_true e] at ho
          exact absurd ho (by decide)
        · exact sw_f (nI_ge (by unfold numV at e; omega) (by unfold numV at e; omega)) f1
      · exact sw_t (nI_lt (by unfold numV at b; omega) (by omega)) f1
    · rw [if_neg a]
      exact sw_t (by
        rw [Int32.lt_iff_toInt_lt, nI_toInt (by omega), show (-1 : Int32).toInt = -1 by decide]
        omega) f1
  | false =>
    rw [if_neg (by rw [d]; decide)] at h
    refine sw_f ?_ (c_fail hr 0 _ h)
    by_cases a : p < L
    · cases b : bL c L p with
      | true => rw [(r4 a).1 b]; decide
      | false => rw [((r4 a).2.2 b d).1]; decide
    · rw [r5 a]; decide
/-- the reference: next, wrong and number have changed alone -/
def fl3 (M N : gS) : Prop := ma N = ma M ∧ ∀ k, k ≠ 13 → k ≠ 14 → k ≠ 15 → mg N k = mg M k
theorem fl3_1 {M N : gS} (h : fl1 M N) : fl3 M N := ⟨h.1, fun k a _ _ => h.2 k a⟩
theorem fl3_trans {A B C : gS} (h : fl3 A B) (g : fl3 B C) : fl3 A C := ⟨g.1.trans h.1, fun k a b c => (g.2 k a b c).trans (h.2 k a b c)⟩
theorem fl3_sg (M : gS) {k : Nat} (hk : k = 13 ∨ k = 14 ∨ k = 15) (v : Int32) : fl3 M (sg M k v) := ⟨rfl, fun j a b c => by rw [mg_sg, if_neg (by omega)]⟩
theorem txR_fl3 {c : Nat → Nat} {L : Nat} {M N : gS} (h : txR c L M) (hf : fl3 M N) : txR c L N := by
  unfold txR at *
  rw [hf.1, hf.2 1 (by decide) (by decide) (by decide)]
  exact h
theorem m_fails {M : gS} (h14 : mg M 14 = 0) (k p : Nat) (Q : Bool → gS → Prop) (h : ∀ N, fl3 M N → mg N 13 = mg M 13 → mg N 14 = nI (1 + 8 * p + k) → Q false N) : wX12_fails (nI k) (nI p) M Q := by
  unfold wX12_fails
  refine sw_t h14 (fun x2 h2 M3 h3 => h M3 (by rw [h3]; exact fl3_sg M (Or.inr (Or.inl rfl)) _) (by rw [h3]; rfl) ?_)
  rw [h3, mg_sg, if_pos rfl, h2]
  show nI 1 + nI 8 * nI p + nI k = _
  rw [pk_mul, nI_add, nI_add]
theorem m_num_l {c : Nat → Nat} {L : Nat} {M : gS} (ht : txR c L M) {p : Nat} (hp : p ≤ L) (h14 : mg M 14 = 0) {lo hi : Nat} (hlo : lo < 1000) (hhi : hi ≤ 100000) (hd : bD c L p = true) (Q : Bool → gS → Prop) (h1 : numOK c L p lo hi = true → ∀ N, fl3 M N → mg N 14 = 0 → mg N 13 = nI (eD c L p) → mg N 15 = nI (numV c L p) → Q true N) (h2 : numOK c L p lo hi = false → ∀ N, fl3 M N → mg N 14 = nI (1 + 8 * p + 1) → Q false N) : ∀ n i, eD c L p - (p + i) = n → p + i ≤ eD c L p → ∀ N, fl3 M N → mg N 14 = 0 → mg N 13 = nI (p + i) → wX12_numberHere_34 Q (n + 1) (nI lo) (nI hi) (nI p) (nI (nvf c p (min i 5))) N := by
  have hL := ht.2.1
  have hE : eD c L p ≤ L := eo_le _ hp
  intro n
  induction n with
  | zero =>
    intro i hin hip N hf n14 n13
    have e : p + i = eD c L p := by omega
    have n5 := nv5 (c := c) (L := L) (p := p) (min i 5) (by omega) (by omega)
    have p5 : (10 : Nat) ^ (min i 5) ≤ 10 ^ 5 := Nat.pow_le_pow_right (by decide) (by omega)
    rw [wX12_numberHere_34, n13]
    refine m_isDigit (txR_fl3 ht hf) (by omega) ?_
    have ef : bD c L (p + i) = false := by rw [e]; exact eo_end (bD_in c L) p
    rw [ef]
    refine bw_f (fun M5 hM5 => ?_)
    have f5 : fl3 M M5 := fl3_trans hf (by rw [hM5]; exact fl3_sg N (Or.inr (Or.inr rfl)) _)
    have m13 : mg M5 13 = nI (p + i) := by rw [hM5]; exact n13
    have m14 : mg M5 14 = 0 := by rw [hM5]; exact n14
    have m15 : mg M5 15 = nI (nvf c p (min i 5)) := by rw [hM5, mg_sg, if_pos rfl]
    have no : numOK c L p lo hi = false → wX12_numberHere_117 Q (nI p) M5 := by
      intro hno
      unfold wX12_numberHere_117
      refine m_fails m14 1 p _ (fun N6 f6 _ g14 => bw_f (h2 hno N6 (fl3_trans f5 f6) g14))
    rw [m13, show nI (p + i) - nI p = nI i by rw [pk_sub (by omega)]; congr 1; omega]
    by_cases a : 5 < i
    · refine sw_t (show nI 5 < nI i from nI_lt a (by omega)) (no ?_)
      unfold numOK
      rw [decide_eq_false (show ¬ eD c L p - p ≤ 5 by omega), Bool.false_and, Bool.and_false]
    · refine sw_f (show ¬ nI 5 < nI i from nI_nlt (by omega) (by omega)) ?_
      have emin : min i 5 = i := by omega
      have ei : eD c L p - p = i := by omega
      have eV : numV c L p = nvf c p (min i 5) := by unfold numV; rw [ei, emin]
      by_cases b : lo ≤ numV c L p ∧ numV c L p ≤ hi
      · have hok : numOK c L p lo hi = true := by
          unfold numOK
          rw [hd, decide_eq_true (show eD c L p - p ≤ 5 by omega), decide_eq_true b.1, decide_eq_true b.2]
          rfl
        refine m_in_t (lo := nI lo) (hi := nI hi) rfl rfl (nI_le (by omega) (by omega)) (nI_le (by omega) (by omega)) (bw_t ?_)
        unfold wX12_numberHere_126
        exact h1 hok M5 f5 m14 (by rw [m13, e]) (by rw [m15, eV])
      · refine m_in_f (lo := nI lo) (hi := nI hi) rfl rfl (fun z => b ?_) (bw_f (no ?_))
        · rw [eV]
          exact ⟨(nI_leI (by omega) (by omega)).1 z.1, (nI_leI (by omega) (by omega)).1 z.2⟩
        · unfold numOK
          by_cases b1 : lo ≤ numV c L p
          · rw [decide_eq_false (fun z => b ⟨b1, z⟩), Bool.and_false, Bool.and_false, Bool.and_false]
          · rw [decide_eq_false b1, Bool.false_and, Bool.and_false, Bool.and_false]
  | succ n ih =>
    intro i hin hip N hf n14 n13
    have et : bD c L (p + i) = true := eo_in (bD_in c L) _ p (p + i) rfl (by omega) (show p + i < eD c L p by omega)
    have hb := et
    unfold bD at hb
    simp only [Bool.and_eq_true, decide_eq_true_eq] at hb
    rw [wX12_numberHere_34, n13]
    refine m_isDigit (txR_fl3 ht hf) (by omega) ?_
    rw [et]
    refine bw_t ?_
    rw [n13, show nI (p + i) - nI p = nI i by rw [pk_sub (by omega)]; congr 1; omega]
    have nxt : ∀ y, y = nI (nvf c p (min (i + 1) 5)) → wX12_numberHere_75 (fun (y1 : Int32) (y2 : Int32) (y3 : Int32) (y4 : Int32) (M : gS) => wX12_numberHere_34 Q (n + 1) y1 y2 y3 y4 M) Q (nI lo) (nI hi) (nI p) y N := by
      intro y hy
      unfold wX12_numberHere_75
      intro x1 hx1 M2 hM2
      rw [hy]
      exact ih (i + 1) (by omega) (by omega) M2 (fl3_trans hf (by rw [hM2]; exact fl3_sg N (Or.inl rfl) _)) (by rw [hM2]; exact n14) (by rw [hM2, mg_sg, if_pos rfl, hx1, n13, nI_1]; rfl)
    by_cases a : 5 ≤ i
    · exact sw_t (show nI 5 ≤ nI i from nI_le a (by omega)) (nxt _ (by rw [show min i 5 = min (i + 1) 5 by omega]))
    · refine sw_f (show ¬ nI 5 ≤ nI i from nI_ge (by omega) (by omega)) ⟨vp_in_nI (by omega) (by decide), fun x12 h12 => nxt _ ?_⟩
      rw [h12, nI_clamp (by omega), ((txR_fl3 ht hf).2.2 (p + i)).2.2.1 (by omega), show min (i + 1) 5 = i + 1 by omega, show min i 5 = i by omega, nvf]
      show nI 10 * nI (nvf c p i) + nI (c (p + i)) - nI 48 = _
      rw [pk_mul, nI_add, pk_sub (by omega)]
      congr 1
      omega
theorem m_numberHere {c : Nat → Nat} {L : Nat} {M : gS} (ht : txR c L M) {q : Nat} (hq : q ≤ L) (h13 : mg M 13 = nI q) (h14 : mg M 14 = 0) {lo hi : Nat} (hlo : lo < 1000) (hhi : hi ≤ 100000) (Q : Bool → gS → Prop) (h1 : numOK c L (sk c L q) lo hi = true → ∀ N, fl3 M N → mg N 14 = 0 → mg N 13 = nI (eD c L (sk c L q)) → mg N 15 = nI (numV c L (sk c L q)) → Q true N) (h2 : numOK c L (sk c L q) lo hi = false → ∀ N, fl3 M N → mg N 14 = nI (1 + 8 * sk c L q + numK c L (sk c L q)) → Q false N) : wX12_numberHere (nI lo) (nI hi) M Q := by
  have hL := ht.2.1
  have hs := sk_le (c := c) hq
  unfold wX12_numberHere
  refine m_see ht hq h13 _ (fun N f e => ?_)
  have htN := txR_fl ht f
  have n14 : mg N 14 = 0 := by rw [f.2 14 (by decide)]; exact h14
  rw [e]
  refine m_isDigit htN (by omega) ?_
  cases d : bD c L (sk c L q) with
  | false =>
    refine bw_f ?_
    rw [e]
    refine m_fails n14 0 (sk c L q) _ (fun N2 f2 _ g14 => h2 ?_ N2 (fl3_trans (fl3_1 f) f2) ?_)
    · unfold numOK; rw [d, Bool.false_and]
    · unfold numK; rw [d]; exact g14
  | true =>
    refine bw_t (fun x7 h7 => ⟨eD c L (sk c L q) - (sk c L q + 0) + 1, ?_⟩)
    rw [h7, e]
    exact m_num_l htN hs n14 hlo hhi d Q (fun o N2 f2 a b g => h1 o N2 (fl3_trans (fl3_1 f) f2) a b g) (fun o N2 f2 a => h2 o N2 (fl3_trans (fl3_1 f) f2) (by unfold numK; rw [if_pos d]; exact a)) _ 0 rfl (eo_ge _ _ _) N ⟨rfl, fun _ _ _ _ => rfl⟩ n14 e
