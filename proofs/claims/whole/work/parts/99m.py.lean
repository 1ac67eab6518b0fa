/-! ===== the pure part: pieces for a commit's end ===== -/
theorem cU_cE {K K' : Nat → k_T} {e : Nat} (he : e < 2 ^ 31) : ∀ (m k : Nat), (∀ q, q < k + m → ((K' q).2 2 = (K q).2 2 ∧ ¬ (K q).2 2 = nI e) ∨ ((K q).2 2 = -1 ∧ (K' q).2 2 = nI e)) → cU K' (k + m) + cU K k = cU K (k + m) + cU K' k + cE K' e m k := by
  intro m
  induction m with
  | zero => intro k _; unfold cE; simp only [Nat.add_zero]; omega
  | succ m ih =>
    intro k h
    have i1 := ih (k + 1) (fun q hq => h q (by omega))
    rw [show k + 1 + m = k + (m + 1) by omega] at i1
    unfold cE
    have a1 : cU K (k + 1) = cU K k + (if (K k).2 2 = -1 then 0 else 1) := rfl
    have a2 : cU K' (k + 1) = cU K' k + (if (K' k).2 2 = -1 then 0 else 1) := rfl
    rw [a1, a2] at i1
    rcases h k (by omega) with ⟨z1, z2⟩ | ⟨z1, z2⟩
    · rw [z1] at i1 ⊢
      rw [if_neg z2]
      by_cases y : (K k).2 2 = -1
      · rw [if_pos y] at i1; omega
      · rw [if_neg y] at i1; omega
    · have y : ¬ nI e = -1 := nI_nm he
      rw [z2] at i1 ⊢
      rw [if_pos rfl]
      rw [if_pos z1, if_neg y] at i1
      omega
theorem da_39 {e n : Nat} : ∀ (m k : Nat) (X : x_T), (∀ i, k ≤ i → i < k + m → X.2 43 i = 0 → ix (X.2 45 i) < n) → ∀ q, n ≤ q → (da_m e m k X).2 39 q = X.2 39 q := by
  classical
  intro m
  induction m with
  | zero => intro k X _ q _; rfl
  | succ m ih =>
    intro k X h q hq
    unfold da_m
    have hd : ∀ Y p fl j D, p < n → (da_do Y e p fl j D).2 39 q = Y.2 39 q := fun Y p fl j D hp => by
      unfold da_do
      rw [xs_k (by decide), xs_j (by omega), xs_k (by decide), xs_k (by decide), (da_u_f e fl D 1 _ 39 (by decide)).2, (mo_set_f _ e (2 * fl) _ 39 (by decide)).2]
    have step : ∃ Y, (if X.2 43 k = 0 then da_1 X e (ix (X.2 45 k)) (ix (X.2 36 (ix (X.2 45 k)))) (ix (X.2 13 e)) else X) = Y ∧ Y.2 39 q = X.2 39 q ∧ Y.2 43 = X.2 43 ∧ Y.2 45 = X.2 45 := by
      refine ⟨_, rfl, ?_⟩
      by_cases c : X.2 43 k = 0
      · rw [if_pos c]
        have hf := da_1_f X e (ix (X.2 45 k)) (ix (X.2 36 (ix (X.2 45 k)))) (ix (X.2 13 e))
        refine ⟨?_, (hf 43 (by decide)).2, (hf 45 (by decide)).2⟩
        have hp := h k (Nat.le_refl _) (by omega) c
        unfold da_1
        by_cases c1 : m_may X e (ix (X.2 45 k)) (ix (X.2 36 (ix (X.2 45 k)))) (ix (X.2 13 e)) ∧ ¬ da_fl X e (ix (X.2 13 e)) = 16
        · rw [if_pos c1]
          by_cases c2 : da_fl X e (ix (X.2 13 e)) = 2 ^ ix (X.2 13 e)
          · rw [if_pos c2, hd _ _ _ _ _ hp, xs_k (by decide)]
          · rw [if_neg c2, hd _ _ _ _ _ hp]
        · rw [if_neg c1]
      · rw [if_neg c]
        exact ⟨rfl, rfl, rfl⟩
    obtain ⟨Y, y0, y1, y2, y3⟩ := step
    rw [y0, ih (k + 1) Y (fun i h1 h2 => by rw [y2, y3]; exact h i (by omega) (by omega)) q hq, y1]
theorem C_mid39 {n : Nat} {G : G_T} {X X7 : x_T} {cl e D D7 : Nat} (h : R n G X) (hC : q_CH7 X cl e D (nq G) X7 D7) : ∀ q, np G ≤ q → X7.2 39 q = X.2 39 q := by
  obtain ⟨h5, N, c, L, T, ro, cn, hA, hT, hM, hP, hQ, hI, hS⟩ := h
  have hnp := hA.1.2.2.2.2.1
  obtain ⟨X4, X5, D5, ⟨X1, Xa, X3, hcp, hXa, f3, v17, f4, v18, v51⟩, hX5, h13, hD5, hX7, h137, hD7⟩ := hC
  have hXa' : xfr [15] X1 Xa := by rw [hXa]; exact xfr.rf.xs 15 _ _ (by decide)
  have fX5 : xfr [13, 22, 23, 26] X4 X5 := by
    rw [hX5]
    exact ((dr_m_f (e + 1) D (X4.2 17 (e + 1)) 16 0 X4).wk (by decide)).tr ((dr_s_f (e + 1) D _).wk (by decide))
  have fX6 : xfr [22, 23, 24] X5 (du_m (e + 1) D5 (X5.2 18 (e + 1)) (X5.2 51) 16 0 X5) := du_m_f _ _ _ _ _ _ _
  have F6 : xfr [13, 15, 17, 18, 22, 23, 24, 25, 26, 51] X (du_m (e + 1) D5 (X5.2 18 (e + 1)) (X5.2 51) 16 0 X5) := (((((hcp.1.wk (by decide)).tr (hXa'.wk (by decide))).tr (f3.wk (by decide))).tr (f4.wk (by decide))).tr (fX5.wk (by decide))).tr (fX6.wk (by decide))
  intro q hq
  rw [hX7]
  generalize du_m (e + 1) D5 (X5.2 18 (e + 1)) (X5.2 51) 16 0 X5 = X6 at F6
  rw [da_39 (n := np G) (nq G) 0 X6 (fun i _ hi z => ?_) q hq, (F6 39 (by decide)).2]
  obtain ⟨q1, q2, -, q4, -⟩ := hQ i (by omega)
  rw [(F6 43 (by decide)).2, q1, show (0 : Int32) = nI 0 from rfl] at z
  obtain ⟨w1, w2⟩ := q4 (nI_j (by omega) (by omega) z)
  rw [(F6 45 (by decide)).2, w2, ix_nI (by omega)]
  exact w1
/-- the keys of the tree before the path -/
theorem keys7 {G : G_T} {N e cl : Nat} {ro cn : Nat → Nat} {X X7 : x_T} {p : G_T × e_T} {nk : Nat → Int32} (hI : RI G N ro cn) (hN : N < 2 ^ 31) (hM : MC G X e cl p X7 nk) (he : e < ne G) (hel : ne G = e + 1) (hP : RP G X) (he60 : e < 60) : (∀ v, v < 31 → ¬ p.2.2.1.1 0 v = -1 → ∃ i, 1 ≤ i ∧ i < N ∧ p.2.2.1.1 0 v = nI i ∧ 2 ≤ ro i ∧ (ro i = 2 → ∃ k, k < np G ∧ (gK p.1 k).2 1 = nI i ∧ ∃ b, b ≤ e + 1 ∧ (gK p.1 k).2 2 = nI b)) ∧ ∀ v, v < 31 → ∀ v', v' < 31 → ¬ p.2.2.1.1 0 v = -1 → p.2.2.1.1 0 v = p.2.2.1.1 0 v' → v = v' := by
  obtain ⟨⟨t1, t2, t3⟩, -, -, -, -, -, hb5, -⟩ := hM
  obtain ⟨c1, c2, c3, c4, c5, c6⟩ := hI.1 e he
  have hb5' : ∀ l, l < 16 → bt (p.2.1 5) l = true → ¬ (gT G e).1 0 (2 * l) = -1 ∧ bt (p.2.1 4) l = false ∧ ¬ nk l = -1 := fun l hl z => by
    obtain ⟨w1, w2, w3, -⟩ := hb5 l hl z
    exact ⟨w1, w2, w3⟩
  have keep : ∀ k b, k < np G → (gK G k).2 2 = nI b → b < 2 ^ 31 → (gK p.1 k).2 2 = nI b := fun k b hk z hb => by
    rcases (t3.pk.1 k hk).2.2.2.2 with ⟨w, -⟩ | ⟨w, -⟩
    · rw [w]; exact z
    · exact absurd (z.symm.trans w) (nI_nm hb)
  -- what a node's key is
  have cls : ∀ v, v < 31 → ¬ p.2.2.1.1 0 v = -1 → (p.2.2.1.1 0 v = (gT G e).1 0 v) ∨ (∃ l k i, l < 16 ∧ v = 2 * l ∧ k < nq G ∧ (gQ G k).1 = 2 ∧ (gQ G k).2.2.1 = nI l ∧ p.2.2.1.1 0 v = nI i ∧ i < N ∧ (gQ G k).2.2.2 = nI i ∧ ro i = 3 ∧ cn e ≤ i) ∨ ∃ l k i, l < 16 ∧ v = 2 * l ∧ k < np G ∧ (gK p.1 k).2 2 = nI (e + 1) ∧ (gK p.1 k).2 3 = nI l ∧ p.2.2.1.1 0 v = nI i ∧ 1 ≤ i ∧ i < N ∧ (gK p.1 k).2 1 = nI i ∧ (gK G k).2 1 = nI i ∧ ro i = 2 := fun v hv hn => by
    rcases Nat.eq_zero_or_pos (hgt v) with z | z
    · obtain ⟨q1, q2⟩ := leaf_of v hv z
      rw [← q1] at hn
      rcases t3.lf hb5' q2 hn with ⟨-, k, k1, k2, k3, k4, k5⟩ | ⟨-, -, y3, -, y4⟩
      · obtain ⟨f, f1, f2, f3, f4, f5, f6, -⟩ := hI.2.1 k k1
        have e1 := (t3.pk.1 k k1).2.2.1
        exact Or.inr (Or.inr ⟨v / 2, k, f + 1, q2, q1.symm, k1, k2, k3, by rw [← q1, k4, e1, f4], by omega, f2, by rw [e1, f4], f4, f6⟩)
      · rcases y4 with ⟨y5, y6⟩ | ⟨y5, y6⟩
        · obtain ⟨-, -, -, -, k, k1, k2, k3, k4⟩ := hb5 _ q2 y5
          obtain ⟨i, i1, i2, i3, i4, -⟩ := hI.2.2.2 k k1 k2
          rw [show ne G - 1 = e by omega] at i4
          exact Or.inr (Or.inl ⟨v / 2, k, i, q2, q1.symm, k1, k2, k3, by rw [← q1, y6, ← k4, i2], i1, i2, i3, i4⟩)
        · left
          rw [← q1]
          exact y6
    · exact Or.inl (t3.inn hv z hn).1
  refine ⟨fun v hv hn => ?_, fun v hv v' hv' hn heq => ?_⟩
  · rcases cls v hv hn with z | ⟨l, k, i, -, -, -, -, -, z6, z7, -, z9, z10⟩ | ⟨l, k, i, -, -, z3, z4, -, z6, z7, z8, z9, -, z10⟩
    · rw [z] at hn ⊢
      obtain ⟨i, i1, i2, i3, i4, i5⟩ := c6 v hv hn
      refine ⟨i, i1, by omega, i3, i4, fun y => ?_⟩
      obtain ⟨k, k1, k2, b, k3, k4⟩ := i5 y
      exact ⟨k, k1, (t3.pk.1 k k1).2.2.1.trans k2, b, by omega, keep k b k1 k4 (by omega)⟩
    · exact ⟨i, by omega, z7, z6, by omega, fun y => by omega⟩
    · exact ⟨i, z7, z8, z6, by omega, fun _ => ⟨k, z3, z9, e + 1, Nat.le_refl _, z4⟩⟩
  · have hn' : ¬ p.2.2.1.1 0 v' = -1 := by rw [← heq]; exact hn
    have old : ∀ v, v < 31 → ¬ p.2.2.1.1 0 v = -1 → p.2.2.1.1 0 v = (gT G e).1 0 v → ∃ i, 1 ≤ i ∧ i < cn e ∧ p.2.2.1.1 0 v = nI i ∧ (ro i = 2 → ∃ k, k < np G ∧ (gK G k).2 1 = nI i ∧ ∃ b, b ≤ e ∧ (gK G k).2 2 = nI b) := fun v hv hn z => by
      rw [z] at hn ⊢
      obtain ⟨i, i1, i2, i3, -, i5⟩ := c6 v hv hn
      exact ⟨i, i1, i2, i3, i5⟩
    -- an old key is none that a package brings
    have nopk : ∀ i, (ro i = 2 → ∃ k, k < np G ∧ (gK G k).2 1 = nI i ∧ ∃ b, b ≤ e ∧ (gK G k).2 2 = nI b) → ∀ k, k < np G → (gK p.1 k).2 2 = nI (e + 1) → (gK G k).2 1 = nI i → ro i = 2 → False := fun i h k hk z1 z2 z3 => by
      obtain ⟨k', k1, k2, b, k3, k4⟩ := h z3
      have ek : k = k' := by
        rcases Nat.lt_trichotomy k k' with w | w | w
        · exact absurd (z2.trans k2.symm) (hI.pk hN w k1).2.2.2
        · exact w
        · exact absurd (k2.trans z2.symm) (hI.pk hN w hk).2.2.2
      subst ek
      have := keep k b hk k4 (by omega)
      rw [z1] at this
      have := nI_j (by omega) (by omega) this
      omega
    rcases cls v hv hn with z | ⟨l, k, i, x1, x2, x3, x4, x5, x6, x7, x8, x9, x10⟩ | ⟨l, k, i, x1, x2, x3, x4, x5, x6, x7, x8, x9, x10, x11⟩
    · rcases cls v' hv' hn' with z' | ⟨l', k', i', y1, y2, y3, y4, y5, y6, y7, y8, y9, y10⟩ | ⟨l', k', i', y1, y2, y3, y4, y5, y6, y7, y8, y9, y10, y11⟩
      · exact c5 v hv v' hv' (by rw [← z]; exact hn) (by rw [← z, ← z']; exact heq)
      · obtain ⟨i, i1, i2, i3, -⟩ := old v hv hn z
        rw [i3, y6] at heq
        have := nI_j (by omega) (by omega) heq
        omega
      · obtain ⟨i, i1, i2, i3, i4⟩ := old v hv hn z
        rw [i3, y6] at heq
        have := nI_j (by omega) (by omega) heq
        subst this
        exact (nopk i i4 k' y3 y4 y10 y11).elim
    · rcases cls v' hv' hn' with z' | ⟨l', k', i', y1, y2, y3, y4, y5, y6, y7, y8, y9, y10⟩ | ⟨l', k', i', y1, y2, y3, y4, y5, y6, y7, y8, y9, y10, y11⟩
      · obtain ⟨i', i1, i2, i3, -⟩ := old v' hv' hn' z'
        rw [i3, x6] at heq
        have := nI_j (by omega) (by omega) heq
        omega
      · rw [x6, y6] at heq
        have := nI_j (by omega) (by omega) heq
        subst this
        have ek : k = k' := by
          rcases Nat.lt_trichotomy k k' with w | w | w
          · obtain ⟨i2, w1, w2, -, -, w5⟩ := hI.2.2.2 k' y3 y4
            have e2 := nI_j (by omega) (by omega) (w2.symm.trans y8)
            have := w5 k w x4 i x7 x8
            omega
          · exact w
          · obtain ⟨i2, w1, w2, -, -, w5⟩ := hI.2.2.2 k x3 x4
            have e2 := nI_j (by omega) (by omega) (w2.symm.trans x8)
            have := w5 k' w y4 i x7 y8
            omega
        subst ek
        have := nI_j (by omega) (by omega) (x5.symm.trans y5)
        omega
      · rw [x6, y6] at heq
        have := nI_j (by omega) (by omega) heq
        subst this
        omega
    · rcases cls v' hv' hn' with z' | ⟨l', k', i', y1, y2, y3, y4, y5, y6, y7, y8, y9, y10⟩ | ⟨l', k', i', y1, y2, y3, y4, y5, y6, y7, y8, y9, y10, y11⟩
      · obtain ⟨i', i1, i2, i3, i4⟩ := old v' hv' hn' z'
        rw [i3, x6] at heq
        have := nI_j (by omega) (by omega) heq
        subst this
        exact (nopk i i4 k x3 x4 x10 x11).elim
      · rw [x6, y6] at heq
        have := nI_j (by omega) (by omega) heq
        subst this
        omega
      · rw [x6, y6] at heq
        have := nI_j (by omega) (by omega) heq
        subst this
        have ek : k = k' := by
          rcases Nat.lt_trichotomy k k' with w | w | w
          · exact absurd (x10.trans y10.symm) (hI.pk hN w y3).2.2.2
          · exact w
          · exact absurd (y10.trans x10.symm) (hI.pk hN w x3).2.2.2
        subst ek
        have := nI_j (by omega) (by omega) (x5.symm.trans y5)
        omega
/-- the same member in both -/
def MEq (X Y : x_T) (i : Nat) : Prop := (∀ k, 27 ≤ k → k ≤ 32 → Y.2 k i = X.2 k i) ∧ ∀ v, v < 31 → Y.2 33 (31 * i + v) = X.2 33 (31 * i + v)
theorem MEq.rf (X : x_T) (i : Nat) : MEq X X i := ⟨fun _ _ _ => rfl, fun _ _ => rfl⟩
theorem MEq.tr {X Y Z : x_T} {i : Nat} (a : MEq X Y i) (b : MEq Y Z i) : MEq X Z i := ⟨fun k h1 h2 => (b.1 k h1 h2).trans (a.1 k h1 h2), fun v hv => (b.2 v hv).trans (a.2 v hv)⟩
theorem MR.eq {M : m_T} {X Y : x_T} {j n n' : Nat} {tr tr' : Nat → tr_T} (h : MR M X j tr n) (e : MEq X Y j) (h34 : Y.2 34 = X.2 34) (ht : ∀ a, a < n → tr' a = tr a) (hn : n ≤ n') : MR M Y j tr' n' := by
  obtain ⟨⟨m1, m2, m3, m4, m5, m6⟩, ⟨u, u1, u2, u3, u4⟩, mc⟩ := h
  obtain ⟨e1, e2⟩ := e
  refine ⟨⟨m1, by rw [e1 27 (by decide) (by decide)]; exact m2, by rw [e1 28 (by decide) (by decide)]; exact m3, by rw [e1 32 (by decide) (by decide)]; exact m4, m5, by rw [e1 30 (by decide) (by decide)]; exact m6⟩, ⟨u, u1, u2, by rw [e1 31 (by decide) (by decide)]; exact u3, fun k hk => by rw [h34]; exact u4 k hk⟩, ?_⟩
  rw [e1 27 (by decide) (by decide), e1 28 (by decide) (by decide), e1 29 (by decide) (by decide)]
  rcases mc with ⟨c1, c2, c3, c4, c5, c6⟩ | ⟨a, l, c1, c2, c3, c4, c5, c6, c7, c8, c9⟩
  · exact Or.inl ⟨c1, c2, c3, c4, c5, fun v hv => by rw [e2 v hv]; exact c6 v hv⟩
  · refine Or.inr ⟨a, l, by omega, c2, c3, c4, c5, by rw [ht a c1]; exact c6, by rw [ht a c1]; exact c7, by rw [ht a c1]; exact c8, fun v hv => ?_⟩
    rw [ht a c1, e2 v hv]
    exact c9 v hv
abbrev chc (X : x_T) (e i : Nat) : Prop := X.2 27 i = nI e ∧ (X.2 17 (e + 1) >>> (X.2 28 i &&& 31)) &&& 1 = 1
theorem ch_l_r (e : Nat) : ∀ (m k : Nat) (X : x_T), (∀ i, (i < k ∨ k + m ≤ i) → MEq X (ch_l e m k X) i) ∧ ∀ i, k ≤ i → i < k + m → (chc X e i → MEq (mo_lv X i) (ch_l e m k X) i) ∧ (¬ chc X e i → MEq X (ch_l e m k X) i) := by
  intro m
  induction m with
  | zero => intro k X; exact ⟨fun i _ => MEq.rf X i, fun i h1 h2 => by omega⟩
  | succ m ih =>
    intro k X
    unfold ch_l
    by_cases c : X.2 27 k = nI e ∧ (X.2 17 (e + 1) >>> (X.2 28 k &&& 31)) &&& 1 = 1
    · rw [if_pos c]
      obtain ⟨lv1, lv2, lv3⟩ := mo_lv_r X k
      have h17 : (mo_lv X k).2 17 = X.2 17 := (mo_lv_f X k 17 (by decide)).2
      have oth : ∀ i, i ≠ k → MEq X (mo_lv X k) i := fun i hi => ⟨fun q h1 h2 => lv2 i hi q h1 h2, fun v hv => lv3 i hi v hv⟩
      obtain ⟨i1, i2⟩ := ih (k + 1) (mo_lv X k)
      refine ⟨fun i hi => (oth i (by omega)).tr (i1 i (by omega)), fun i h1 h2 => ?_⟩
      by_cases y : i = k
      · subst y
        exact ⟨fun _ => i1 i (by omega), fun z => absurd c z⟩
      · obtain ⟨j1, j2⟩ := i2 i (by omega) (by omega)
        have o := oth i y
        have hcc : chc (mo_lv X k) e i ↔ chc X e i := by
          unfold chc
          rw [o.1 27 (by decide) (by decide), o.1 28 (by decide) (by decide), h17]
        refine ⟨fun z => ?_, fun z => o.tr (j2 (fun w => z (hcc.mp w)))⟩
        have hl := j1 (hcc.mpr z)
        obtain ⟨⟨a1, a2, a3, a4, a5, a6, a7⟩, -, -⟩ := mo_lv_r X i
        obtain ⟨⟨b1, b2, b3, b4, b5, b6, b7⟩, -, -⟩ := mo_lv_r (mo_lv X k) i
        refine MEq.tr ⟨fun q h1 h2 => ?_, fun v hv => by rw [a7 v hv, b7 v hv]⟩ hl
        have : q = 27 ∨ q = 28 ∨ q = 29 ∨ q = 30 ∨ q = 31 ∨ q = 32 := by omega
        rcases this with w | w | w | w | w | w
        · subst w; rw [a1, b1]
        · subst w; rw [a2, b2]
        · subst w; rw [a3, b3]
        · subst w; rw [a6, b6]; exact o.1 30 (by decide) (by decide)
        · subst w; rw [a4, b4]
        · subst w; rw [a5, b5]
    · rw [if_neg c]
      obtain ⟨i1, i2⟩ := ih (k + 1) X
      refine ⟨fun i hi => i1 i (by omega), fun i h1 h2 => ?_⟩
      by_cases y : i = k
      · subst y
        exact ⟨fun z => absurd z c, fun _ => i1 i (by omega)⟩
      · exact i2 i (by omega) (by omega)
