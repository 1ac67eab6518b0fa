/-! ===== the pure part: offers and proposals ===== -/
def RS0 (S : s_T) (X : x_T) (N c : Nat) (L : w_L) (T : List Nat) : Prop := (SV S N L T T.length ∧ PI L T T.length ∧ MI L ∧ IX X N c L ∧ X.1 1 = nI N ∧ X.1 7 = nI c) ∧ ((∀ k, k < N → ¬ X.2 5 k = 0 → tld T (sg k)) ∧ (∀ x, tld T x → Kn X N c (sg x)) ∧ (∀ k, k < N → X.2 5 k = 0 ∨ X.2 5 k = 1) ∧ ∀ k, N ≤ k → k < 2600 → X.2 5 k = 0) ∧ 3 ≤ N
theorem RS0.fresh {S : s_T} {X : x_T} {N c : Nat} {L : w_L} {T : List Nat} (h : RS0 S X N c L T) (hN : N < 2200) : (S_fresh S).1 = nI N ∧ RS0 (S_fresh S).2 (mk X N 1 0 0) (N + 1) c L T := by
  obtain ⟨⟨s1, s2, s3, s4, s5, s6⟩, ⟨t1, t2, t3, t4⟩, b1⟩ := h
  obtain ⟨f1, f2⟩ := s1.fresh hN
  obtain ⟨k1, k2, k3, k4, k5, k6⟩ := mk_r X N 1 0 0
  have XE1 : XE X N c (mk X N 1 0 0) (N + 1) c := by
    refine ⟨by omega, Nat.le_refl _, fun k hk => ?_, fun j hj => ?_⟩
    · rw [k3, k4, k5, if_neg (by omega), if_neg (by omega), if_neg (by omega)]
      exact ⟨rfl, rfl, rfl⟩
    · rw [k6 8 (by decide) (by decide) (by decide), k6 9 (by decide) (by decide) (by decide), k6 10 (by decide) (by decide) (by decide), k6 11 (by decide) (by decide) (by decide)]
      exact ⟨rfl, rfl, rfl, rfl⟩
  have r5 := k6 5 (by decide) (by decide) (by decide)
  refine ⟨f1, ⟨f2, s2, s3, s4.grow XE1 (by omega) (fun x hx => hx) (fun k hk hk2 => ?_) (fun j h1 h2 => by omega) (fun f w t' hm => Or.inl hm), k1, by rw [k2 7 (by decide)]; exact s6⟩, ⟨fun k hk z => ?_, fun x hx => Kn_mono XE1 (fun k _ z => by rw [r5]; exact z) (t2 x hx), fun k hk => ?_, fun k hk hk2 => ?_⟩, by omega⟩
  · have y : k = N := by omega
    unfold IK
    rw [k3, k4, k5, if_pos y, if_pos y, if_pos y]
    exact ⟨fun z => absurd z (by decide), 0, 0, by omega, by omega, rfl, rfl, Or.inr rfl, fun _ z _ => absurd rfl z, fun z => absurd z (by decide)⟩
  · rw [r5] at z
    rcases Nat.lt_or_ge k N with y | y
    · exact t1 k y z
    · exact absurd (t4 k y (by omega)) z
  · rw [r5]
    rcases Nat.lt_or_ge k N with y | y
    · exact t3 k y
    · exact Or.inl (t4 k y (by omega))
  · rw [r5]
    exact t4 k (by omega) hk2
theorem cU_cg {K K' : Nat → k_T} : ∀ n, (∀ k, k < n → (K k).2 2 = (K' k).2 2) → cU K n = cU K' n := by
  intro n
  induction n with
  | zero => intro _; rfl
  | succ n ih =>
    intro h
    unfold cU
    rw [ih (fun k hk => h k (by omega)), h n (by omega)]
theorem R.offer {n : Nat} {G : G_T} {X : x_T} (h : R n G X) (hn : n < 512) (hp : np G < 60) {j : Nat} (hj : j < 16) : ∃ N, X.1 1 = nI N ∧ N + 2 ≤ 2600 ∧ R (n + 1) (G_off G j) (mo_off X (np G) N (nI j)) := by
  obtain ⟨h5, N, c, L, T, ro, cn, hA, hT, hM, hP, hQ, hI, hS⟩ := h
  have h60 := hA.1.2.2.1
  have h61 := hA.1.2.1
  obtain ⟨s0, t0, ⟨b1, b2, b3, b4⟩, b5⟩ := hS
  have hS0 : RS0 (gS G) X N c L T := ⟨s0, t0, b1⟩
  have hN2 : N + 2 < 2200 := by omega
  obtain ⟨ro', ro1, roN, roN1⟩ : ∃ ro' : Nat → Nat, (∀ x, x < N → ro' x = ro x) ∧ ro' N = 1 ∧ ro' (N + 1) = 2 := ⟨fun x => if x = N then 1 else if x = N + 1 then 2 else ro x, fun x hx => by
    show (if x = N then 1 else if x = N + 1 then 2 else ro x) = ro x
    rw [if_neg (by omega), if_neg (by omega)], if_pos rfl, by
    show (if N + 1 = N then 1 else if N + 1 = N + 1 then 2 else ro (N + 1)) = 2
    rw [if_neg (by omega), if_pos rfl]⟩
  refine ⟨N, s0.2.2.2.2.1, by omega, by omega, N + 2, c, L, T, ro', cn, ?_⟩
  obtain ⟨f1, f2⟩ := hS0.fresh (by omega)
  obtain ⟨g1, g2⟩ := f2.fresh (by omega)
  have kn : ∀ k, gK (G_off G j) k = if k = np G then (j, k_new (nI N) (nI (N + 1))) else gK G k := fun k => by
    show va_up (gK G) (np G) (j, k_new (S_fresh (gS G)).1 (S_fresh (S_fresh (gS G)).2).1) k = _
    rw [f1, g1]
    rfl
  have ko : ∀ k, k < np G → gK (G_off G j) k = gK G k := fun k hk => by rw [kn, if_neg (by omega)]
  have ks : gK (G_off G j) (np G) = (j, k_new (nI N) (nI (N + 1))) := by rw [kn, if_pos rfl]
  have hnp : np (G_off G j) = np G + 1 := rfl
  have hne : ne (G_off G j) = ne G := rfl
  refine ⟨⟨⟨hA.1.1, hA.1.2.1, hA.1.2.2.1, rfl, by rw [hnp]; omega, hA.1.2.2.2.2.2.1, hA.1.2.2.2.2.2.2⟩, hA.2.1, hA.2.2⟩, fun a ha => ?_, hM, ⟨fun k hk => ?_, fun k hk => ?_, fun k hk k' hk' b hb z1 z2 z3 => ?_, fun k hk => ?_, fun k hk z0 a b ha hb z1 z2 => ?_⟩, fun k hk => ?_, ⟨fun a ha => ?_, fun k hk => ?_, fun i hi u hu z1 k hk => ?_, fun k hk z => ?_⟩, ?_⟩
  · obtain ⟨cl, c1, c2, c3, c4⟩ := hT a ha
    refine ⟨cl, c1, c2, c3, fun m hm z => ⟨(c4 m hm z).1, fun k hk e1 e2 b hb e3 => ?_⟩⟩
    rw [hnp] at hk
    by_cases y : k = np G
    · rw [y, ks] at e3
      exact absurd e3.symm (nI_nm (by omega))
    · rw [ko k (by omega)] at e1 e2 e3
      exact (c4 m hm z).2 k (by omega) e1 e2 b hb e3
  · rw [hnp] at hk
    have r36 : (mo_off X (np G) N (nI j)).2 36 k = if k = np G then nI j else X.2 36 k := rfl
    have r37 : (mo_off X (np G) N (nI j)).2 37 k = if k = np G then nI N else X.2 37 k := rfl
    have r38 : (mo_off X (np G) N (nI j)).2 38 k = if k = np G then nI (N + 1) else X.2 38 k := rfl
    have r39 : (mo_off X (np G) N (nI j)).2 39 k = if k = np G then -1 else X.2 39 k := rfl
    have r40 : (mo_off X (np G) N (nI j)).2 40 k = X.2 40 k := rfl
    have r41 : (mo_off X (np G) N (nI j)).2 41 k = X.2 41 k := rfl
    rw [r36, r37, r38, r39, r40, r41]
    by_cases y : k = np G
    · rw [if_pos y, if_pos y, if_pos y, if_pos y, y, ks]
      refine ⟨hj, rfl, ?_, ?_, nI_nm (by omega), rfl, fun z => absurd rfl z, ((hP.2.2.2.1 (np G) (Nat.le_refl _)).2).symm⟩
      · rw [← sg_nI (by omega), sg_big (by omega)]
        rfl
      · rw [← sg_nI (by omega), sg_big (by omega)]
        rfl
    · rw [if_neg y, if_neg y, if_neg y, if_neg y, ko k (by omega)]
      exact hP.1 k (by omega)
  · rw [hnp] at hk
    by_cases y : k = np G
    · rw [y, ks]
      exact ⟨Or.inl rfl, Or.inl rfl⟩
    · rw [ko k (by omega)]
      exact hP.2.1 k (by omega)
  · rw [hnp] at hk hk'
    by_cases y : k = np G
    · rw [y, ks] at z1
      exact absurd z1.symm (nI_nm (by omega))
    · by_cases y' : k' = np G
      · rw [y', ks] at z2
        exact absurd z2.symm (nI_nm (by omega))
      · rw [ko k (by omega)] at z1 z3
        rw [ko k' (by omega)] at z2 z3
        exact hP.2.2.1 k (by omega) k' (by omega) b hb z1 z2 z3
  · rw [hnp] at hk
    have r39 : (mo_off X (np G) N (nI j)).2 39 k = if k = np G then -1 else X.2 39 k := rfl
    have r41 : (mo_off X (np G) N (nI j)).2 41 k = X.2 41 k := rfl
    rw [r39, r41, if_neg (by omega)]
    exact hP.2.2.2.1 k (by omega)
  · rw [hnp] at hk
    by_cases y : k = np G
    · rw [y, ks] at z1
      exact absurd z1.symm (nI_nm (by omega))
    · rw [ko k (by omega)] at z0 z1 z2
      exact hP.2.2.2.2 k (by omega) z0 a b ha hb z1 z2
  · obtain ⟨q1, q2, q3, q4, q5, q6⟩ := hQ k hk
    exact ⟨q1, q2, q3, fun z => ⟨Nat.lt_succ_of_lt (q4 z).1, (q4 z).2⟩, q5, q6⟩
  · obtain ⟨k1, k2, k3, ⟨s, e1, e2, e3, e4⟩, k5, k6⟩ := hI.1 a ha
    refine ⟨by omega, k2, k3, ⟨s, e1, e2, e3, by rw [ro1 s (by omega)]; exact e4⟩, k5, fun v hv z => ?_⟩
    obtain ⟨i, i1, i2, i3, i4, i5⟩ := k6 v hv z
    refine ⟨i, i1, i2, i3, by rw [ro1 i (by omega)]; exact i4, fun y => ?_⟩
    rw [ro1 i (by omega)] at y
    obtain ⟨k, w1, w2, w3⟩ := i5 y
    exact ⟨k, by rw [hnp]; omega, by rw [ko k w1]; exact w2, by rw [ko k w1]; exact w3⟩
  · rw [hnp] at hk
    by_cases y : k = np G
    · rw [y, ks]
      refine ⟨N, b1, by omega, rfl, rfl, roN, roN1, fun k' hk' f' hf' z => ?_⟩
      rw [ko k' (by omega)] at z
      obtain ⟨f, w1, w2, w3, -⟩ := hI.2.1 k' (by omega)
      rw [w3] at z
      have := nI_j (by omega) (by omega) z
      omega
    · rw [ko k (by omega)]
      obtain ⟨f, w1, w2, w3, w4, w5, w6, w7⟩ := hI.2.1 k (by omega)
      refine ⟨f, w1, by omega, w3, w4, by rw [ro1 f (by omega)]; exact w5, by rw [ro1 _ (by omega)]; exact w6, fun k' hk' f' hf' z => ?_⟩
      rw [ko k' (by omega)] at z
      obtain ⟨f2, x1, x2, x3, -⟩ := hI.2.1 k' (by omega)
      rw [x3] at z
      have := nI_j (by omega) (by omega) z
      exact w7 k' hk' f' (by omega) (by rw [x3, this])
  · obtain ⟨x, w1, w2, w3, w4, w5, w6⟩ := hI.2.2.1 i hi u hu z1 k hk
    refine ⟨x, w1, by omega, w3, by rw [ro1 x w2]; exact w4, w5, fun k' hk' i' hi' z => ?_⟩
    obtain ⟨x', y1, y2, y3, -⟩ := hI.2.2.1 i hi u hu z1 k' (by omega)
    have z : (gM G i).2 1 k' = nI i' := z
    rw [y3] at z
    have := nI_j (by omega) (by omega) z
    exact w6 k' hk' i' (by omega) (by rw [y3, this])
  · obtain ⟨x, w1, w2, w3, w4, w5⟩ := hI.2.2.2 k hk z
    refine ⟨x, by omega, w2, by rw [ro1 x w1]; exact w3, w4, fun k' hk' q i' hi' z' => ?_⟩
    obtain ⟨x', y1, y2, -⟩ := hI.2.2.2 k' (by have : k < nq G := hk; omega) q
    have z' : (gQ G k').2.2.2 = nI i' := z'
    rw [y2] at z'
    have := nI_j (by omega) (by omega) z'
    exact w5 k' hk' q i' (by omega) (by rw [y2, this])
  · have hcu : cU (gK (G_off G j)) (np (G_off G j)) = cU (gK G) (np G) := by
      rw [hnp]
      show cU (gK (G_off G j)) (np G) + (if (gK (G_off G j) (np G)).2 2 = -1 then 0 else 1) = _
      rw [ks, if_pos (show k_new (nI N) (nI (N + 1)) 2 = -1 from rfl), Nat.add_zero]
      exact cU_cg _ (fun k hk => by rw [ko k hk])
    refine ⟨g2.1, g2.2.1, ⟨by omega, by rw [hne]; omega, by rw [hcu, hne]; exact b3, by rw [hcu, hne]; exact b4⟩, fun k hk z => ?_⟩
    have r2 : (mo_off X (np G) N (nI j)).2 2 k = if k = N + 1 then 1 else if k = N then 1 else X.2 2 k := rfl
    have r3 : (mo_off X (np G) N (nI j)).2 3 k = if k = N + 1 then 0 else if k = N then 0 else X.2 3 k := rfl
    rw [r2] at z
    rw [r3]
    by_cases y : k = N + 1
    · rw [if_pos y] at z
      exact absurd z (by decide)
    · by_cases y' : k = N
      · rw [if_neg y, if_pos y'] at z
        exact absurd z (by decide)
      · rw [if_neg y, if_neg y'] at z ⊢
        obtain ⟨f, s, w1, w2, w3, w4⟩ := b5 k (by omega) z
        exact ⟨f, s, w1, by omega, w3, w4⟩
theorem R.prop {n : Nat} {G : G_T} {X : x_T} (h : R n G X) (hn : n < 512) (hq : nq G < 20) {j kd pk : Nat} (hj : j < 16) (hat : X.2 27 j = nI (ne G - 1)) (l x : Int32) (hk : (kd = 0 ∧ pk < np G ∧ x = nI pk) ∨ (kd = 1 ∧ l = x ∧ ∃ i, i < 16 ∧ x = nI i)) : R (n + 1) (G_prop G (kd, pk, l, 0)) (mo_prop (xi X 0 0) (nq G) (nI kd) (nI j) x) := by
  obtain ⟨h5, N, c, L, T, ro, cn, hA, hT, hM, hP, hQ, hI, hS⟩ := h
  have qn : ∀ k, gQ (G_prop G (kd, pk, l, 0)) k = if k = nq G then (kd, pk, l, 0) else gQ G k := fun k => rfl
  have qo : ∀ k, k < nq G → gQ (G_prop G (kd, pk, l, 0)) k = gQ G k := fun k hk => by rw [qn, if_neg (by omega)]
  have qs : gQ (G_prop G (kd, pk, l, 0)) (nq G) = (kd, pk, l, 0) := by rw [qn, if_pos rfl]
  have hnq : nq (G_prop G (kd, pk, l, 0)) = nq G + 1 := rfl
  have k2 : kd ≠ 2 := by
    rcases hk with z | z
    · omega
    · omega
  have r43 : ∀ k, (mo_prop (xi X 0 0) (nq G) (nI kd) (nI j) x).2 43 k = if k = nq G then nI kd else X.2 43 k := fun k => rfl
  have r44 : ∀ k, (mo_prop (xi X 0 0) (nq G) (nI kd) (nI j) x).2 44 k = if k = nq G then nI j else X.2 44 k := fun k => rfl
  have r45 : ∀ k, (mo_prop (xi X 0 0) (nq G) (nI kd) (nI j) x).2 45 k = if k = nq G then x else X.2 45 k := fun k => rfl
  refine ⟨by omega, N, c, L, T, ro, cn, ⟨⟨hA.1.1, hA.1.2.1, hA.1.2.2.1, hA.1.2.2.2.1, hA.1.2.2.2.2.1, rfl, by rw [hnq]; omega⟩, hA.2.1, hA.2.2⟩, hT, ⟨hM.1, fun i hi z => ?_⟩, hP, fun k hk' => ?_, ⟨hI.1, hI.2.1, hI.2.2.1, fun k hk' z => ?_⟩, ?_⟩
  · obtain ⟨u, u1, u2⟩ := hM.2 i hi z
    exact ⟨u, by rw [hnq]; omega, u2⟩
  · rw [hnq] at hk'
    have hfu : ∀ k, k < nq G → fu_l (mo_prop (xi X 0 0) (nq G) (nI kd) (nI j) x) k = fu_l X k := fun k hk => by
      show (mo_prop (xi X 0 0) (nq G) (nI kd) (nI j) x).2 28 (ix ((mo_prop (xi X 0 0) (nq G) (nI kd) (nI j) x).2 44 k)) = _
      rw [r44, if_neg (by omega)]
      rfl
    by_cases y : k = nq G
    · rw [r43, r44, r45, if_pos y, if_pos y, if_pos y, y, qs]
      refine ⟨rfl, ?_, ⟨j, hj, rfl, hat⟩, fun z => ?_, fun z => ?_, fun z => absurd z k2⟩
      · show kd < 3
        rcases hk with z | z
        · omega
        · omega
      · have z : kd = 0 := z
        rcases hk with w | w
        · exact ⟨w.2.1, w.2.2⟩
        · omega
      · have z : kd = 1 := z
        rcases hk with w | w
        · omega
        · exact ⟨w.2.1, w.2.2⟩
    · rw [r43, r44, r45, if_neg y, if_neg y, if_neg y, qo k (by omega), hfu k (by omega)]
      exact hQ k (by omega)
  · rw [hnq] at hk'
    by_cases y : k = nq G
    · rw [y, qs] at z
      exact absurd z k2
    · rw [qo k (by omega)] at z ⊢
      obtain ⟨i, w1, w2, w3, w4, w5⟩ := hI.2.2.2 k (by omega) z
      exact ⟨i, w1, w2, w3, w4, fun k' hk'' q i' hi' z' => by
        rw [qo k' (by omega)] at q z'
        exact w5 k' hk'' q i' hi' z'⟩
  · obtain ⟨s0, t0, ⟨b1, b2, b3, b4⟩, b5⟩ := hS
    exact ⟨s0, t0, ⟨b1, Nat.le_trans b2 (by show 3 + 13 * (ne G - 1) + 2 * n ≤ 3 + 13 * (ne G - 1) + 2 * (n + 1); omega), b3, b4⟩, b5⟩
