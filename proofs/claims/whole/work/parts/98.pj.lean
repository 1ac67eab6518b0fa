/-! ===== the pure part: what holds between the class and the reference ===== -/
abbrev gT (G : G_T) (a : Nat) : tr_T := (gE G a).2.1
/-- a member -/
def MR (M : m_T) (X : x_T) (j : Nat) (tr : Nat → tr_T) (n : Nat) : Prop :=
  (M.1 0 = nI j ∧ M.1 2 = X.2 27 j ∧ M.1 3 = X.2 28 j ∧ M.1 4 = X.2 32 j ∧ M.1 5 = 0 ∧ X.2 30 j = 0) ∧ (∃ u, u ≤ 20 ∧ M.1 1 = nI u ∧ X.2 31 j = nI u ∧ ∀ k, k < u → M.2 1 k = sw (X.2 34 (20 * j + k))) ∧
  ((X.2 27 j = -1 ∧ X.2 28 j = -1 ∧ M.1 4 = 0 ∧ M.1 1 = 0 ∧ X.2 29 j = -1 ∧ ∀ v, v < 31 → M.2 0 v = -1 ∧ X.2 33 (31 * j + v) = -1) ∨ ∃ a l, a < n ∧ l < 16 ∧ X.2 27 j = nI a ∧ X.2 28 j = nI l ∧ M.1 4 = 1 ∧ ¬ (tr a).1 0 (2 * l) = -1 ∧ (tr a).1 3 l = nI j ∧ X.2 29 j = sw ((tr a).1 0 (2 * l)) ∧ ∀ v, v < 31 → M.2 0 v = FK (tr a) l v ∧ X.2 33 (31 * j + v) = if 0 < hgt v then sw (FK (tr a) l v) else -1)
/-- an epoch -/
def ER (E : e_T) (X : x_T) (a : Nat) : Prop := (TR E.2.1 X a ∧ TI E.2.1 ∧ DJ E.2.1) ∧ (E.1 0 = nI a ∧ E.1 1 = X.2 15 a ∧ E.1 2 = sw (X.2 14 a) ∧ E.1 3 = X.2 16 a ∧ E.1 4 = X.2 17 a ∧ E.1 5 = X.2 18 a ∧ E.1 6 = X.2 19 a ∧ E.1 7 = X.2 20 a) ∧ (X.2 21 a = 0 → X.2 16 a = 0)
def RA (G : G_T) (X : x_T) : Prop := (X.1 12 = nI (ne G) ∧ 1 ≤ ne G ∧ ne G ≤ 60 ∧ X.1 35 = nI (np G) ∧ np G ≤ 60 ∧ X.1 42 = nI (nq G) ∧ nq G ≤ 20) ∧ (∀ a, a < ne G → ER (gE G a) X a) ∧ ∀ a, ne G ≤ a → a < 61 → X.2 13 a = 0 ∧ X.2 16 a = 0 ∧ X.2 17 a = 0 ∧ X.2 18 a = 0 ∧ X.2 19 a = 0 ∧ X.2 20 a = 0
/-- who commits is gone from the epoch before, and never comes back to it -/
def NC (G : G_T) (X : x_T) (a m : Nat) : Prop := (X.2 27 m = -1 ∨ ∃ b, b < 60 ∧ X.2 27 m = nI b ∧ a + 1 ≤ b) ∧ ∀ k, k < np G → (gK G k).1 = m → (gK G k).2 4 = 0 → ∀ b, b < 60 → (gK G k).2 2 = nI b → a + 1 ≤ b
def RT (G : G_T) (X : x_T) (c : Nat) : Prop := ∀ a, a + 1 < ne G → ∃ cl, (gE G (a + 1)).1 1 = nI cl ∧ TS (gT G a) (gT G (a + 1)) cl ((gE G (a + 1)).1 3) ((gE G (a + 1)).1 4) ((gE G (a + 1)).1 5) ((gE G (a + 1)).1 6) ∧ ENC (gT G (a + 1)) cl (a + 1) ((gE G (a + 1)).1 3) ((gE G (a + 1)).1 6) X c ∧ ∀ m, m < 16 → (gT G a).1 3 cl = nI m → NC G X a m
def RM1 (G : G_T) (X : x_T) : Prop := (∀ j, j < 16 → MR (gM G j) X j (gT G) (ne G)) ∧ ∀ j, j < 16 → X.2 27 j = nI (ne G - 1) → ∃ u, u ≤ nq G ∧ X.2 31 j = nI u
/-- packages -/
def RP (G : G_T) (X : x_T) : Prop := KR (gK G) (np G) X ∧ (∀ k, k < np G → ((gK G k).2 4 = 0 ∨ (gK G k).2 4 = 1) ∧ ((gK G k).2 2 = -1 ∨ ∃ b l, 1 ≤ b ∧ b < ne G ∧ l < 16 ∧ (gK G k).2 2 = nI b ∧ (gK G k).2 3 = nI l ∧ bt ((gE G b).1 6) l = true ∧ (gT G b).1 3 l = nI (gK G k).1 ∧ (gT G b).1 0 (2 * l) = (gK G k).2 1)) ∧ (∀ k, k < np G → ∀ k', k' < np G → ∀ b, b < 60 → (gK G k).2 2 = nI b → (gK G k').2 2 = nI b → (gK G k).1 = (gK G k').1 → k = k') ∧ (∀ k, np G ≤ k → X.2 39 k = 0 ∧ X.2 41 k = 0) ∧ ∀ k, k < np G → (gK G k).2 4 = 0 → ∀ a b, a < 60 → b < 60 → (gK G k).2 2 = nI b → X.2 27 (gK G k).1 = nI a → a < b
/-- what waits -/
def RQ (G : G_T) (X : x_T) : Prop := ∀ k, k < nq G → X.2 43 k = nI (gQ G k).1 ∧ (gQ G k).1 < 3 ∧ (∃ j, j < 16 ∧ X.2 44 k = nI j ∧ X.2 27 j = nI (ne G - 1)) ∧ ((gQ G k).1 = 0 → (gQ G k).2.1 < np G ∧ X.2 45 k = nI (gQ G k).2.1) ∧ ((gQ G k).1 = 1 → (gQ G k).2.2.1 = X.2 45 k ∧ ∃ l, l < 16 ∧ X.2 45 k = nI l) ∧ ((gQ G k).1 = 2 → (gQ G k).2.2.1 = fu_l X k ∧ (gQ G k).2.2.2 = sw (X.2 45 k))
/-- names: ro tells what an id is for, cn how many there were when an epoch was done -/
def RI (G : G_T) (N : Nat) (ro cn : Nat → Nat) : Prop :=
  (∀ a, a < ne G → cn a ≤ N ∧ 3 ≤ cn a ∧ (∀ b, b ≤ a → cn b ≤ cn a) ∧ (∃ s, 1 ≤ s ∧ s < cn a ∧ (gE G a).1 2 = nI s ∧ ro s = 0) ∧ (∀ v, v < 31 → ∀ v', v' < 31 → ¬ (gT G a).1 0 v = -1 → (gT G a).1 0 v = (gT G a).1 0 v' → v = v') ∧ ∀ v, v < 31 → ¬ (gT G a).1 0 v = -1 → ∃ i, 1 ≤ i ∧ i < cn a ∧ (gT G a).1 0 v = nI i ∧ 2 ≤ ro i ∧ (ro i = 2 → ∃ k, k < np G ∧ (gK G k).2 1 = nI i ∧ ∃ b, b ≤ a ∧ (gK G k).2 2 = nI b)) ∧
  (∀ k, k < np G → ∃ f, 3 ≤ f ∧ f + 1 < N ∧ (gK G k).2 0 = nI f ∧ (gK G k).2 1 = nI (f + 1) ∧ ro f = 1 ∧ ro (f + 1) = 2 ∧ ∀ k', k' < k → ∀ f', f' < N → (gK G k').2 0 = nI f' → f' + 1 < f) ∧
  (∀ j, j < 16 → ∀ u, u ≤ 20 → (gM G j).1 1 = nI u → ∀ k, k < u → ∃ i, 3 ≤ i ∧ i < N ∧ (gM G j).2 1 k = nI i ∧ ro i = 3 ∧ (∀ a, a < ne G → (gM G j).1 2 = nI a → cn a ≤ i) ∧ ∀ k', k' < k → ∀ i', i' < N → (gM G j).2 1 k' = nI i' → i' < i) ∧
  ∀ k, k < nq G → (gQ G k).1 = 2 → ∃ i, i < N ∧ (gQ G k).2.2.2 = nI i ∧ ro i = 3 ∧ cn (ne G - 1) ≤ i ∧ ∀ k', k' < k → (gQ G k').1 = 2 → ∀ i', i' < N → (gQ G k').2.2.2 = nI i' → i' < i
/-- packages that were used -/
def cU (K : Nat → k_T) : Nat → Nat
  | 0 => 0
  | n + 1 => cU K n + if (K n).2 2 = -1 then 0 else 1
theorem cU_le (K : Nat → k_T) : ∀ n, cU K n ≤ n := by
  intro n
  induction n with
  | zero => exact Nat.le_refl _
  | succ n ih =>
    unfold cU
    by_cases c : (K n).2 2 = -1
    · rw [if_pos c]; omega
    · rw [if_neg c]; omega
/-- the intruder -/
def RS (G : G_T) (X : x_T) (n N c : Nat) (L : w_L) (T : List Nat) : Prop :=
  (SV (gS G) N L T T.length ∧ PI L T T.length ∧ MI L ∧ IX X N c L ∧ X.1 1 = nI N ∧ X.1 7 = nI c) ∧ ((∀ k, k < N → ¬ X.2 5 k = 0 → tld T (sg k)) ∧ (∀ x, tld T x → Kn X N c (sg x)) ∧ (∀ k, k < N → X.2 5 k = 0 ∨ X.2 5 k = 1) ∧ ∀ k, N ≤ k → k < 2600 → X.2 5 k = 0) ∧ (3 ≤ N ∧ N ≤ 3 + 13 * (ne G - 1) + 2 * n ∧ L.length ≤ 35 * (ne G - 1) + 2 * cU (gK G) (np G) ∧ c ≤ 22 * (ne G - 1) + 2 * cU (gK G) (np G)) ∧ ∀ k, k < N → X.2 2 k = 6 → ∃ f s, f < s ∧ s < N ∧ X.2 3 k = nI f ∧ X.2 14 (ne G - 1) = nI s
def R (n : Nat) (G : G_T) (X : x_T) : Prop := n ≤ 512 ∧ ∃ N c L T ro cn, RA G X ∧ RT G X c ∧ RM1 G X ∧ RP G X ∧ RQ G X ∧ RI G N ro cn ∧ RS G X n N c L T
theorem R.up {n : Nat} {G : G_T} {X : x_T} (h : R n G X) (hn : n < 512) : R (n + 1) G X := by
  obtain ⟨-, N, c, L, T, ro, cn, a1, a2, a3, a4, a5, a6, b1, b2, ⟨b3, b4, b5⟩, b6⟩ := h
  exact ⟨by omega, N, c, L, T, ro, cn, a1, a2, a3, a4, a5, a6, b1, b2, ⟨b3, by omega, b5⟩, b6⟩
theorem R.sH {n : Nat} {G : G_T} {X : x_T} (h : R n G X) (f : Nat → Int32) : R n (sH G f) X := h
theorem R.t0 {n : Nat} {G : G_T} {X : x_T} (h : R n G X) (v : Int32) : R n G (xi X 0 v) := h
/-- X, but for what calls scribble on -/
def srb (X Y : x_T) : x_T := (fun k => if k = 0 ∨ k = 6 ∨ 46 ≤ k ∧ k ≤ 50 then Y.1 k else X.1 k, fun k => if k = 0 ∨ k = 6 ∨ 46 ≤ k ∧ k ≤ 50 then Y.2 k else X.2 k)
theorem R.scr {n : Nat} {G : G_T} {X : x_T} (h : R n G X) (Y : x_T) : R n G (srb X Y) := h
theorem srb_eq {X Y : x_T} {K : List Nat} (f : xfr K X Y) (hK : ∀ k, k ∈ K → k = 0 ∨ k = 6 ∨ 46 ≤ k ∧ k ≤ 50) : Y = srb X Y := by
  refine Prod.ext ?_ ?_
  · funext k
    show Y.1 k = if k = 0 ∨ k = 6 ∨ 46 ≤ k ∧ k ≤ 50 then Y.1 k else X.1 k
    by_cases c : k = 0 ∨ k = 6 ∨ 46 ≤ k ∧ k ≤ 50
    · rw [if_pos c]
    · rw [if_neg c]
      exact (f k (fun z => c (hK k z))).1
  · funext k
    show Y.2 k = if k = 0 ∨ k = 6 ∨ 46 ≤ k ∧ k ≤ 50 then Y.2 k else X.2 k
    by_cases c : k = 0 ∨ k = 6 ∨ 46 ≤ k ∧ k ≤ 50
    · rw [if_pos c]
    · rw [if_neg c]
      exact (f k (fun z => c (hK k z))).2
theorem R.fr {n : Nat} {G : G_T} {X Y : x_T} {K : List Nat} (h : R n G X) (f : xfr K X Y) (hK : ∀ k, k ∈ K → k = 0 ∨ k = 6 ∨ 46 ≤ k ∧ k ≤ 50) : R n G Y := by
  rw [srb_eq f hK]
  exact h.scr Y
