/-! ===== the pure part: a member comes ===== -/
def cm_K : List Nat := [0, 6, 27, 28, 29, 30, 31, 32, 33, 41, 46, 47, 48, 49, 50]
def scm (X Y : x_T) : x_T := (fun k => if k = 0 ∨ k = 6 ∨ 27 ≤ k ∧ k ≤ 33 ∨ k = 41 ∨ 46 ≤ k ∧ k ≤ 50 then Y.1 k else X.1 k, fun k => if k = 0 ∨ k = 6 ∨ 27 ≤ k ∧ k ≤ 33 ∨ k = 41 ∨ 46 ≤ k ∧ k ≤ 50 then Y.2 k else X.2 k)
theorem scm_eq {X Y : x_T} (f : xfr cm_K X Y) : Y = scm X Y := by
  have hK : ∀ k, k ∈ cm_K → k = 0 ∨ k = 6 ∨ 27 ≤ k ∧ k ≤ 33 ∨ k = 41 ∨ 46 ≤ k ∧ k ≤ 50 := by decide
  refine Prod.ext ?_ ?_
  · funext k
    show Y.1 k = if k = 0 ∨ k = 6 ∨ 27 ≤ k ∧ k ≤ 33 ∨ k = 41 ∨ 46 ≤ k ∧ k ≤ 50 then Y.1 k else X.1 k
    by_cases c : k = 0 ∨ k = 6 ∨ 27 ≤ k ∧ k ≤ 33 ∨ k = 41 ∨ 46 ≤ k ∧ k ≤ 50
    · rw [if_pos c]
    · rw [if_neg c]
      exact (f k (fun z => c (hK k z))).1
  · funext k
    show Y.2 k = if k = 0 ∨ k = 6 ∨ 27 ≤ k ∧ k ≤ 33 ∨ k = 41 ∨ 46 ≤ k ∧ k ≤ 50 then Y.2 k else X.2 k
    by_cases c : k = 0 ∨ k = 6 ∨ 27 ≤ k ∧ k ≤ 33 ∨ k = 41 ∨ 46 ≤ k ∧ k ≤ 50
    · rw [if_pos c]
    · rw [if_neg c]
      exact (f k (fun z => c (hK k z))).2
theorem R.cm {n : Nat} {G : G_T} {X X' : x_T} {j : Nat} {K' : Nat → k_T} {M' : m_T} (h : R n G X) (hn : n < 512) (hj : j < 16) (hf : xfr cm_K X X')
    (hK : ∀ k, (K' k).1 = (gK G k).1 ∧ (∀ i, i ≠ 4 → (K' k).2 i = (gK G k).2 i) ∧ ((K' k).2 4 = (gK G k).2 4 ∨ (K' k).2 4 = 1)) (h41 : ∀ k, k < np G → X'.2 41 k = (K' k).2 4) (h41b : ∀ k, np G ≤ k → X'.2 41 k = X.2 41 k)
    (hM' : MR M' X' j (gT G) (ne G)) (hu : M'.1 1 = 0) (ho : ∀ i, i ≠ j → i < 16 → ∀ k, 27 ≤ k → k ≤ 32 → X'.2 k i = X.2 k i) (ho33 : ∀ i, i ≠ j → i < 16 → ∀ v, v < 31 → X'.2 33 (31 * i + v) = X.2 33 (31 * i + v)) (hold : ¬ X.2 27 j = nI (ne G - 1))
    (hNC : ∀ a cl, a + 1 < ne G → (gE G (a + 1)).1 1 = nI cl → (gT G a).1 3 cl = nI j → NC G X a j → X'.2 27 j = -1 ∨ ∃ b, b < 60 ∧ X'.2 27 j = nI b ∧ a + 1 ≤ b)
    (hLP : ∀ k, k < np G → (gK G k).1 = j → (K' k).2 4 = 0 → ∀ a b, a < 60 → b < 60 → (gK G k).2 2 = nI b → X'.2 27 j = nI a → a < b) : R (n + 1) (G.1, G.2.1, va_up (gM G) j M', K', G.2.2.2.2) X' := by
  obtain ⟨h5, N, c, L, T, ro, cn, hA, hT, hM, hP, hQ, hI, hS⟩ := h
  have h60 := hA.1.2.2.1
  have h61 := hA.1.2.1
  rw [scm_eq hf]
  have r27 : (scm X X').2 27 = X'.2 27 := rfl
  have r28 : (scm X X').2 28 = X'.2 28 := rfl
  have r29 : (scm X X').2 29 = X'.2 29 := rfl
  have r30 : (scm X X').2 30 = X'.2 30 := rfl
  have r31 : (scm X X').2 31 = X'.2 31 := rfl
  have r32 : (scm X X').2 32 = X'.2 32 := rfl
  have r33 : (scm X X').2 33 = X'.2 33 := rfl
  have r34 : X'.2 34 = X.2 34 := (hf 34 (by decide)).2
  have k2 : ∀ k, (K' k).2 2 = (gK G k).2 2 := fun k => (hK k).2.1 2 (by decide)
  have k4 : ∀ k, (K' k).2 4 = 0 → (gK G k).2 4 = 0 := fun k z => by
    rcases (hK k).2.2 with w | w
    · rw [← w]; exact z
    · rw [w] at z; exact absurd z (by decide)
  have gm : ∀ i, va_up (gM G) j M' i = if i = j then M' else gM G i := fun i => rfl
  refine ⟨by omega, N, c, L, T, ro, cn, hA, fun a ha => ?_, ⟨fun i hi => ?_, fun i hi z => ?_⟩, ⟨fun k hk => ?_, fun k hk => ?_, fun k hk k' hk' b hb z1 z2 z3 => ?_, fun k hk => ?_, fun k hk z0 a b ha hb z1 z2 => ?_⟩, fun k hk => ?_, ⟨fun a ha => ?_, fun k hk => ?_, fun i hi u hu' z1 k hk => ?_, hI.2.2.2⟩, ?_⟩
  · obtain ⟨cl, c1, c2, c3, c4⟩ := hT a ha
    refine ⟨cl, c1, c2, c3, fun m hm z => ⟨?_, fun k hk e1 e2 b hb e3 => (c4 m hm z).2 k hk ((hK k).1.symm.trans e1) (k4 k e2) b hb ((k2 k).symm.trans e3)⟩⟩
    rw [r27]
    by_cases y : m = j
    · subst y
      exact hNC a cl ha c1 z (c4 m hm z)
    · rw [ho m y hm 27 (by decide) (by decide)]
      exact (c4 m hm z).1
  · show MR (va_up (gM G) j M' i) _ i (gT G) (ne G)
    rw [gm]
    by_cases y : i = j
    · subst y
      rw [if_pos rfl]
      unfold MR at hM' ⊢
      rw [r34] at hM'
      exact hM'
    · rw [if_neg y]
      have := hM.1 i hi
      unfold MR at this ⊢
      rw [r27, r28, r29, r30, r31, r32, r33, ho i y hi 27 (by decide) (by decide), ho i y hi 28 (by decide) (by decide), ho i y hi 29 (by decide) (by decide), ho i y hi 30 (by decide) (by decide), ho i y hi 31 (by decide) (by decide), ho i y hi 32 (by decide) (by decide)]
      refine ⟨this.1, this.2.1, ?_⟩
      rcases this.2.2 with ⟨w1, w2, w3, w4, w5, w6⟩ | ⟨a, l, w1, w2, w3, w4, w5, w6, w7, w8, w9⟩
      · exact Or.inl ⟨w1, w2, w3, w4, w5, fun v hv => by rw [ho33 i y hi v hv]; exact w6 v hv⟩
      · exact Or.inr ⟨a, l, w1, w2, w3, w4, w5, w6, w7, w8, fun v hv => by rw [ho33 i y hi v hv]; exact w9 v hv⟩
  · rw [r27] at z
    rw [r31]
    by_cases y : i = j
    · subst y
      obtain ⟨u, u1, u2, u3, -⟩ := hM'.2.1
      rw [hu, show (0 : Int32) = nI 0 from rfl] at u2
      have := nI_j (by omega) (by omega) u2
      subst this
      exact ⟨0, Nat.zero_le _, u3⟩
    · rw [ho i y hi 27 (by decide) (by decide)] at z
      rw [ho i y hi 31 (by decide) (by decide)]
      exact hM.2 i hi z
  · have := hP.1 k hk
    show (K' k).1 < 16 ∧ X.2 36 k = nI (K' k).1 ∧ (K' k).2 0 = sw (X.2 37 k) ∧ (K' k).2 1 = sw (X.2 38 k) ∧ ¬ X.2 38 k = -1 ∧ (K' k).2 2 = X.2 39 k ∧ (¬ X.2 39 k = -1 → (K' k).2 3 = X.2 40 k) ∧ (K' k).2 4 = X'.2 41 k
    rw [(hK k).1, (hK k).2.1 0 (by decide), (hK k).2.1 1 (by decide), (hK k).2.1 2 (by decide), (hK k).2.1 3 (by decide), h41 k hk]
    exact ⟨this.1, this.2.1, this.2.2.1, this.2.2.2.1, this.2.2.2.2.1, this.2.2.2.2.2.1, this.2.2.2.2.2.2.1, rfl⟩
  · obtain ⟨w1, w2⟩ := hP.2.1 k hk
    show ((K' k).2 4 = 0 ∨ (K' k).2 4 = 1) ∧ ((K' k).2 2 = -1 ∨ ∃ b l, 1 ≤ b ∧ b < ne G ∧ l < 16 ∧ (K' k).2 2 = nI b ∧ (K' k).2 3 = nI l ∧ bt ((gE G b).1 6) l = true ∧ (gT G b).1 3 l = nI (K' k).1 ∧ (gT G b).1 0 (2 * l) = (K' k).2 1)
    rw [(hK k).1, (hK k).2.1 1 (by decide), (hK k).2.1 2 (by decide), (hK k).2.1 3 (by decide)]
    refine ⟨?_, w2⟩
    rcases (hK k).2.2 with w | w
    · rw [w]; exact w1
    · exact Or.inr w
  · have z1 : (K' k).2 2 = nI b := z1
    have z2 : (K' k').2 2 = nI b := z2
    have z3 : (K' k).1 = (K' k').1 := z3
    rw [k2] at z1 z2
    rw [(hK k).1, (hK k').1] at z3
    exact hP.2.2.1 k hk k' hk' b hb z1 z2 z3
  · show X.2 39 k = 0 ∧ X'.2 41 k = 0
    rw [h41b k hk]
    exact hP.2.2.2.1 k hk
  · have z0 : (K' k).2 4 = 0 := z0
    have z1 : (K' k).2 2 = nI b := z1
    have z2 : X'.2 27 (K' k).1 = nI a := z2
    rw [k2] at z1
    rw [(hK k).1] at z2
    by_cases y : (gK G k).1 = j
    · rw [y] at z2
      exact hLP k hk y z0 a b ha hb z1 z2
    · rw [ho _ y (hP.1 k hk).1 27 (by decide) (by decide)] at z2
      exact hP.2.2.2.2 k hk (k4 k z0) a b ha hb z1 z2
  · obtain ⟨q1, q2, ⟨i, i1, i2, i3⟩, q4, q5, q6⟩ := hQ k hk
    have y : i ≠ j := fun y => hold (by rw [← y]; exact i3)
    have hfu : fu_l (scm X X') k = fu_l X k := by
      show X'.2 28 (ix (X.2 44 k)) = X.2 28 (ix (X.2 44 k))
      rw [i2, ix_nI (by omega)]
      exact ho i y i1 28 (by decide) (by decide)
    refine ⟨q1, q2, ⟨i, i1, i2, ?_⟩, q4, q5, fun z => ?_⟩
    · rw [r27, ho i y i1 27 (by decide) (by decide)]
      exact i3
    · rw [hfu]
      exact q6 z
  · obtain ⟨k1, k2', k3, k4', k5, k6⟩ := hI.1 a ha
    refine ⟨k1, k2', k3, k4', k5, fun v hv z => ?_⟩
    obtain ⟨i, i1, i2, i3, i4, i5⟩ := k6 v hv z
    refine ⟨i, i1, i2, i3, i4, fun y => ?_⟩
    obtain ⟨k, w1, w2, b, w3, w4⟩ := i5 y
    exact ⟨k, w1, ((hK k).2.1 1 (by decide)).trans w2, b, w3, (k2 k).trans w4⟩
  · obtain ⟨f, w1, w2, w3, w4, w5, w6, w7⟩ := hI.2.1 k hk
    exact ⟨f, w1, w2, ((hK k).2.1 0 (by decide)).trans w3, ((hK k).2.1 1 (by decide)).trans w4, w5, w6, fun k' hk' f' hf' z => w7 k' hk' f' hf' (((hK k').2.1 0 (by decide)).symm.trans z)⟩
  · have z1 : (va_up (gM G) j M' i).1 1 = nI u := z1
    show ∃ x, 3 ≤ x ∧ x < N ∧ (va_up (gM G) j M' i).2 1 k = nI x ∧ ro x = 3 ∧ (∀ a, a < ne G → (va_up (gM G) j M' i).1 2 = nI a → cn a ≤ x) ∧ ∀ k', k' < k → ∀ i', i' < N → (va_up (gM G) j M' i).2 1 k' = nI i' → i' < x
    rw [gm] at z1 ⊢
    by_cases y : i = j
    · rw [if_pos y, hu, show (0 : Int32) = nI 0 from rfl] at z1
      have := nI_j (by omega) (by omega) z1
      omega
    · rw [if_neg y] at z1 ⊢
      exact hI.2.2.1 i hi u hu' z1 k hk
  · obtain ⟨s0, t0, ⟨b1, b2, b3, b4⟩, b5⟩ := hS
    have hcu : cU K' (np G) = cU (gK G) (np G) := cU_cg _ (fun k _ => k2 k)
    refine ⟨s0, t0, ⟨b1, ?_, ?_, ?_⟩, b5⟩
    · show N ≤ 3 + 13 * (ne G - 1) + 2 * (n + 1)
      omega
    · show L.length ≤ 35 * (ne G - 1) + 2 * cU K' (np G)
      rw [hcu]; exact b3
    · show c ≤ 22 * (ne G - 1) + 2 * cU K' (np G)
      rw [hcu]; exact b4
