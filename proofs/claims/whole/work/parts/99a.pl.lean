/-! ===== the pure part: both gather the same ===== -/
theorem lenI {A B : List Int32} (h1 : A.Nodup) (h2 : B.Nodup) (h : ∀ a, a ∈ A ↔ a ∈ B) : A.length = B.length := ((List.perm_ext_iff_of_nodup h1 h2).mpr h).length_eq
theorem nI_j {a b : Nat} (ha : a < 2 ^ 31) (hb : b < 2 ^ 31) (h : nI a = nI b) : a = b := (nI_eq ha hb).mp h
theorem RI.pk {G : G_T} {N : Nat} {ro cn : Nat → Nat} (h : RI G N ro cn) (hN : N < 2 ^ 31) {k k' : Nat} (hk : k < k') (hk' : k' < np G) : ¬ (gK G k).2 0 = (gK G k').2 0 ∧ ¬ (gK G k).2 0 = (gK G k').2 1 ∧ ¬ (gK G k).2 1 = (gK G k').2 0 ∧ ¬ (gK G k).2 1 = (gK G k').2 1 := by
  obtain ⟨f, a1, a2, a3, a4, -, -, -⟩ := h.2.1 k (by omega)
  obtain ⟨f', b1, b2, b3, b4, -, -, b7⟩ := h.2.1 k' hk'
  have := b7 k hk f (by omega) a3
  rw [a3, a4, b3, b4]
  refine ⟨fun z => ?_, fun z => ?_, fun z => ?_, fun z => ?_⟩ <;> (have := nI_j (by omega) (by omega) z; omega)
theorem sw_map_nd {A : List Int32} (h : A.Nodup) : (A.map sw).Nodup := by
  rw [List.nodup_iff_pairwise_ne] at h ⊢
  rw [List.pairwise_map]
  exact h.imp (fun a b => a (sw_eq.mp b))
theorem CL_r {n N c : Nat} {G : G_T} {X : x_T} {L : w_L} {T : List Nat} {ro cn : Nat → Nat} (hA : RA G X) (hM : RM1 G X) (hP : RP G X) (hI : RI G N ro cn) (hS : RS G X n N c L T) {j : Nat} (hj : j < 16) : ∃ u, u ≤ 20 ∧ (gM G j).1 1 = nI u ∧ X.2 31 j = nI u ∧ (CL G j u).Nodup ∧ (∀ y, y ∈ CL G j u ↔ sw y ∈ gat X j) ∧ ∀ y, y ∈ CL G j u → ∃ i, 1 ≤ i ∧ i < N ∧ y = nI i := by
  classical
  have hN : N < 2 ^ 31 := by have := hS.1.1.2.1.2.1; omega
  obtain ⟨⟨A1, A2, A3, A4, A5, A6, A7⟩, A8, A9⟩ := hA
  obtain ⟨⟨m1, m2, m3, m4, m5, m6⟩, ⟨u, u1, u2, u3, u4⟩, mc⟩ := hM.1 j hj
  obtain ⟨P1, P2, P3, P4, P5⟩ := hP
  refine ⟨u, u1, u2, u3, ?_⟩
  -- what each piece is
  have hpk : ∀ k, k < np G → ∃ f, 3 ≤ f ∧ f + 1 < N ∧ (gK G k).2 0 = nI f ∧ (gK G k).2 1 = nI (f + 1) ∧ ro f = 1 ∧ ro (f + 1) = 2 := fun k hk => by
    obtain ⟨f, a1, a2, a3, a4, a5, a6, -⟩ := hI.2.1 k hk
    exact ⟨f, a1, a2, a3, a4, a5, a6⟩
  have hup : ∀ k, k < u → ∃ i, 3 ≤ i ∧ i < N ∧ (gM G j).2 1 k = nI i ∧ ro i = 3 ∧ (∀ a, a < ne G → (gM G j).1 2 = nI a → cn a ≤ i) := fun k hk => by
    obtain ⟨i, a1, a2, a3, a4, a5, -⟩ := hI.2.2.1 j hj u u1 u2 k hk
    exact ⟨i, a1, a2, a3, a4, a5⟩
  have n3 : (lf ((gM G j).2 1) u 0).Nodup := (lf_r ((gM G j).2 1) u 0).2.2 (fun v v' _ h1 h2 e => by
    obtain ⟨i, a1, a2, a3, -, -, a6⟩ := hI.2.2.1 j hj u u1 u2 v' (by omega)
    obtain ⟨i', b1, b2, b3, -⟩ := hup v (by omega)
    have := a6 v h1 i' b2 b3
    rw [b3, a3] at e
    have := nI_j (by omega) (by omega) e
    omega)
  have n4 : (lp (gK G) j (np G) 0).Nodup := (lp_r (gK G) j (np G) 0).2.2 (fun q _ h e => by
    obtain ⟨f, a1, a2, a3, a4, -, -⟩ := hpk q (by omega)
    rw [a3, a4] at e
    have := nI_j (by omega) (by omega) e
    omega) (fun q q' _ h1 h2 => hI.pk hN h1 (by omega))
  have i4 : ∀ y, y ∈ lp (gK G) j (np G) 0 → ∃ k i, k < np G ∧ ((gK G k).1 = j ∧ (gK G k).2 4 = 0) ∧ 3 ≤ i ∧ i < N ∧ y = nI i ∧ (ro i = 1 ∨ (ro i = 2 ∧ (gK G k).2 1 = nI i)) := fun y hy => by
    obtain ⟨q, -, q2, q3, q4⟩ := ((lp_r (gK G) j (np G) 0).2.1 y).mp hy
    obtain ⟨f, a1, a2, a3, a4, a5, a6⟩ := hpk q (by omega)
    rcases q4 with z | z
    · exact ⟨q, f, by omega, q3, a1, by omega, by rw [z, a3], Or.inl a5⟩
    · exact ⟨q, f + 1, by omega, q3, by omega, a2, by rw [z, a4], Or.inr ⟨a6, a4⟩⟩
  have i3 : ∀ y, y ∈ lf ((gM G j).2 1) u 0 → ∃ k i, k < u ∧ 3 ≤ i ∧ i < N ∧ y = nI i ∧ ro i = 3 ∧ (∀ a, a < ne G → (gM G j).1 2 = nI a → cn a ≤ i) := fun y hy => by
    obtain ⟨q, -, q2, q3⟩ := ((lf_r ((gM G j).2 1) u 0).2.1 y).mp hy
    obtain ⟨i, a1, a2, a3, a4, a5⟩ := hup q (by omega)
    exact ⟨q, i, by omega, a1, a2, by rw [q3, a3], a4, a5⟩
  have d34 : ∀ x, x ∈ lf ((gM G j).2 1) u 0 → ∀ y, y ∈ lp (gK G) j (np G) 0 → x ≠ y := fun x hx y hy e => by
    obtain ⟨k, i, -, a1, a2, a3, a4, -⟩ := i3 x hx
    obtain ⟨k', i', -, -, b1, b2, b3, b4⟩ := i4 y hy
    rw [a3, b3] at e
    have := nI_j (by omega) (by omega) e
    subst this
    rcases b4 with z | z
    · omega
    · have := z.1
      omega
  have gr := gat_r (X := X) (mm := j) u3 (by omega) A4 (by omega)
  have memC : ∀ y, y ∈ CL G j u ↔ (y ∈ lc1 G j ∨ y ∈ lm ((gM G j).2 0) 31 0) ∨ y ∈ lf ((gM G j).2 1) u 0 ∨ y ∈ lp (gK G) j (np G) 0 := fun y => by
    unfold CL
    rw [List.mem_append, List.mem_append, List.mem_append]
    exact or_assoc
  have q34 : ∀ y, (y ∈ lf ((gM G j).2 1) u 0 ↔ ∃ k, k < u ∧ sw y = X.2 34 (20 * j + k)) ∧ (y ∈ lp (gK G) j (np G) 0 ↔ ∃ k, k < np G ∧ (X.2 36 k = nI j ∧ X.2 41 k = 0) ∧ (sw y = X.2 37 k ∨ sw y = X.2 38 k)) := fun y => by
    constructor
    · rw [(lf_r ((gM G j).2 1) u 0).2.1 y]
      constructor
      · rintro ⟨k, -, h2, h3⟩
        exact ⟨k, by omega, by rw [h3, u4 k (by omega), sw_sw]⟩
      · rintro ⟨k, h2, h3⟩
        exact ⟨k, by omega, by omega, by rw [u4 k h2, ← h3, sw_sw]⟩
    · rw [(lp_r (gK G) j (np G) 0).2.1 y]
      constructor
      · rintro ⟨k, -, h2, h3, h4⟩
        obtain ⟨w1, w2, w3, w4, w5, w6, w7, w8⟩ := P1 k (by omega)
        refine ⟨k, by omega, ⟨by rw [w2, h3.1], by rw [← w8]; exact h3.2⟩, ?_⟩
        rcases h4 with z | z
        · exact Or.inl (by rw [z, w3, sw_sw])
        · exact Or.inr (by rw [z, w4, sw_sw])
      · rintro ⟨k, h2, h3, h4⟩
        obtain ⟨w1, w2, w3, w4, w5, w6, w7, w8⟩ := P1 k h2
        refine ⟨k, by omega, by omega, ⟨nI_j (by omega) (by omega) (by rw [← w2]; exact h3.1), by rw [w8]; exact h3.2⟩, ?_⟩
        rcases h4 with z | z
        · exact Or.inl (by rw [w3, ← z, sw_sw])
        · exact Or.inr (by rw [w4, ← z, sw_sw])
  rcases mc with ⟨c1, c2, c3, c4, c5, c6⟩ | ⟨a, l, c1, c2, c3, c4, c5, c6, c7, c8, c9⟩
  · have e1 : lc1 G j = [] := by
      unfold lc1
      rw [if_neg (fun z => z.1 c3)]
    have e2 : lm ((gM G j).2 0) 31 0 = [] := by
      cases hh : lm ((gM G j).2 0) 31 0 with
      | nil => rfl
      | cons x r =>
        obtain ⟨v, -, v2, v3, -⟩ := ((lm_r ((gM G j).2 0) 31 0).2.1 x).mp (by rw [hh]; exact List.mem_cons_self)
        exact absurd (c6 v (by omega)).1 v3
    refine ⟨?_, fun y => ?_, fun y hy => ?_⟩
    · unfold CL
      rw [e1, e2, List.nil_append, List.nil_append, List.nodup_append]
      exact ⟨n3, n4, d34⟩
    · rw [memC, gr.2, (q34 y).1, (q34 y).2, e1, e2]
      constructor
      · rintro ((z | z) | z | z)
        · cases z
        · cases z
        · exact Or.inr (Or.inr (Or.inr (Or.inl z)))
        · exact Or.inr (Or.inr (Or.inr (Or.inr z)))
      · rintro (z | z | ⟨v, z1, z2, -⟩ | z | z)
        · exact absurd (m4.symm.trans c3) z.1
        · exact absurd c5 z.1
        · exact absurd (c6 v z1).2 z2
        · exact Or.inr (Or.inl z)
        · exact Or.inr (Or.inr z)
    · rw [memC, e1, e2] at hy
      rcases hy with (z | z) | z | z
      · cases z
      · cases z
      · obtain ⟨-, i, -, a1, a2, a3, -⟩ := i3 y z
        exact ⟨i, by omega, a2, a3⟩
      · obtain ⟨-, i, -, -, a1, a2, a3, -⟩ := i4 y z
        exact ⟨i, by omega, a2, a3⟩
  · have hat : (gM G j).1 2 = nI a := by rw [m2, c3]
    obtain ⟨k1, k2, k3, ⟨s, s1, s2, s3, s4⟩, k5, k6⟩ := hI.1 a c1
    have hxa : ix (X.2 27 j) = a := by rw [c3]; exact ix_nI (by omega)
    have e1 : lc1 G j = [(gE G a).1 2] := by
      unfold lc1
      rw [hat, ix_nI (by omega), if_pos ⟨by rw [c5]; decide, r_in_nI c1 (by omega)⟩]
    have hk2 : ∀ y, y ∈ lm ((gM G j).2 0) 31 0 → ∃ v, v < 31 ∧ ab l v ∧ ¬ (gT G a).1 0 v = -1 ∧ bt ((gT G a).1 1 v) l = false ∧ y = (gT G a).1 0 v := fun y hy => by
      obtain ⟨v, -, v2, v3, v4⟩ := ((lm_r ((gM G j).2 0) 31 0).2.1 y).mp hy
      rw [(c9 v (by omega)).1] at v3 v4
      have g := FK_nm v3
      exact ⟨v, by omega, g.1, g.2.1, g.2.2.1, by rw [v4, g.2.2.2]⟩
    have hk2i : ∀ y, y ∈ lm ((gM G j).2 0) 31 0 → ∃ i, 1 ≤ i ∧ i < cn a ∧ y = nI i ∧ 2 ≤ ro i ∧ (ro i = 2 → ∃ k, k < np G ∧ (gK G k).2 1 = nI i ∧ ∃ b, b ≤ a ∧ (gK G k).2 2 = nI b) := fun y hy => by
      obtain ⟨v, v1, -, v3, -, v5⟩ := hk2 y hy
      obtain ⟨i, b1, b2, b3, b4⟩ := k6 v v1 v3
      exact ⟨i, b1, b2, by rw [v5, b3], b4⟩
    have n2 : (lm ((gM G j).2 0) 31 0).Nodup := (lm_r ((gM G j).2 0) 31 0).2.2 (fun v v' _ h2 _ h4 z1 z2 => by
      rw [(c9 v (by omega)).1] at z1 z2
      rw [(c9 v' (by omega)).1] at z2
      have g := FK_nm z1
      have g' := FK_nm (T := gT G a) (l := l) (v := v') (by rw [← z2]; exact z1)
      rw [g.2.2.2, g'.2.2.2] at z2
      exact k5 v (by omega) v' (by omega) g.2.1 z2)
    have sec : ∀ y, y ∈ lc1 G j → y = nI s := fun y hy => by
      rw [e1] at hy
      rw [List.mem_singleton.mp hy, s3]
    refine ⟨?_, fun y => ?_, fun y hy => ?_⟩
    · unfold CL
      rw [List.nodup_append, List.nodup_append, List.nodup_append]
      refine ⟨⟨⟨by rw [e1]; simp, n2, fun x hx y hy e => ?_⟩, n3, fun x hx y hy e => ?_⟩, n4, fun x hx y hy e => ?_⟩
      · obtain ⟨i, b1, b2, b3, b4, -⟩ := hk2i y hy
        rw [sec x hx, b3] at e
        have := nI_j (by omega) (by omega) e
        subst this
        omega
      · obtain ⟨-, i', -, d1, d2, d3, d4, d5⟩ := i3 y hy
        rcases List.mem_append.mp hx with z | z
        · rw [sec x z, d3] at e
          have := nI_j (by omega) (by omega) e
          subst this
          omega
        · obtain ⟨i, b1, b2, b3, -⟩ := hk2i x z
          have := d5 a c1 hat
          rw [b3, d3] at e
          have := nI_j (by omega) (by omega) e
          omega
      · rcases List.mem_append.mp hx with z | z
        · obtain ⟨k, i', g1, g2, d1, d2, d3, d4⟩ := i4 y hy
          rcases List.mem_append.mp z with w | w
          · rw [sec x w, d3] at e
            have := nI_j (by omega) (by omega) e
            subst this
            rcases d4 with q | q
            · omega
            · have := q.1; omega
          · obtain ⟨i, b1, b2, b3, b4, b5⟩ := hk2i x w
            rw [b3, d3] at e
            have := nI_j (by omega) (by omega) e
            subst this
            rcases d4 with q | q
            · omega
            · obtain ⟨k', f1, f2, b, f3, f4⟩ := b5 q.1
              have hkk : k = k' := by
                rcases Nat.lt_trichotomy k k' with w | w | w
                · exact absurd (q.2.trans f2.symm) (hI.pk hN w f1).2.2.2
                · exact w
                · exact absurd (f2.trans q.2.symm) (hI.pk hN w g1).2.2.2
              subst hkk
              have := P5 k g1 g2.2 a b (by omega) (by omega) f4 (by rw [g2.1]; exact c3)
              omega
        · exact d34 x z y hy e
    · rw [memC, gr.2, (q34 y).1, (q34 y).2, e1, hxa]
      have q1 : y ∈ [(gE G a).1 2] ↔ (¬ X.2 32 j = 0 ∧ sw y = X.2 14 a) := by
        rw [List.mem_singleton, ((A8 a c1).2.1.2.2.1)]
        constructor
        · intro z
          exact ⟨by rw [← m4, c5]; decide, by rw [z, sw_sw]⟩
        · rintro ⟨-, z⟩
          rw [← z, sw_sw]
      have q2 : y ∈ lm ((gM G j).2 0) 31 0 ↔ (¬ X.2 29 j = -1 ∧ sw y = X.2 29 j) ∨ ∃ v, v < 31 ∧ ¬ X.2 33 (31 * j + v) = -1 ∧ sw y = X.2 33 (31 * j + v) := by
        constructor
        · intro hy
          obtain ⟨v, v1, v2, v3, v4, v5⟩ := hk2 y hy
          rcases Nat.eq_zero_or_pos (hgt v) with z | z
          · have := (leaf_0 v v1 l c2).mp ⟨v2, z⟩
            subst this
            exact Or.inl ⟨by rw [c8]; exact fun w => v3 (sw_n1.mp w), by rw [c8, v5]⟩
          · refine Or.inr ⟨v, v1, ?_⟩
            rw [(c9 v v1).2, if_pos z, FK_y v2 v3 v4, v5]
            exact ⟨fun w => v3 (sw_n1.mp w), rfl⟩
        · have lt := (A8 a c1).1.2.1
          rintro (⟨z1, z2⟩ | ⟨v, v1, v2, v3⟩)
          · refine ((lm_r ((gM G j).2 0) 31 0).2.1 y).mpr ⟨2 * l, by omega, by omega, ?_⟩
            rw [(c9 (2 * l) (by omega)).1, FK_y ((ab_leaf l c2 l c2).mpr rfl) c6 (by rw [lt.2.2.2.2.2.2 l c2]; exact bt_0 l)]
            refine ⟨c6, ?_⟩
            rw [c8] at z2
            exact sw_eq.mp z2
          · refine ((lm_r ((gM G j).2 0) 31 0).2.1 y).mpr ⟨v, by omega, by omega, ?_⟩
            rw [(c9 v v1).2] at v2 v3
            by_cases z : 0 < hgt v
            · rw [if_pos z] at v2 v3
              rw [(c9 v v1).1]
              exact ⟨fun w => v2 (by rw [w, sw_m1]), sw_eq.mp v3⟩
            · rw [if_neg z] at v2
              exact absurd rfl v2
      rw [q1, q2]
      constructor
      · rintro ((z | (z | z)) | z | z)
        · exact Or.inl z
        · exact Or.inr (Or.inl z)
        · exact Or.inr (Or.inr (Or.inl z))
        · exact Or.inr (Or.inr (Or.inr (Or.inl z)))
        · exact Or.inr (Or.inr (Or.inr (Or.inr z)))
      · rintro (z | z | z | z | z)
        · exact Or.inl (Or.inl z)
        · exact Or.inl (Or.inr (Or.inl z))
        · exact Or.inl (Or.inr (Or.inr z))
        · exact Or.inr (Or.inl z)
        · exact Or.inr (Or.inr z)
    · rw [memC] at hy
      rcases hy with (z | z) | z | z
      · exact ⟨s, s1, by omega, sec y z⟩
      · obtain ⟨i, b1, b2, b3, -⟩ := hk2i y z
        exact ⟨i, b1, by omega, b3⟩
      · obtain ⟨-, i, -, a1, a2, a3, -⟩ := i3 y z
        exact ⟨i, by omega, a2, a3⟩
      · obtain ⟨-, i, -, -, a1, a2, a3, -⟩ := i4 y z
        exact ⟨i, by omega, a2, a3⟩
theorem gat_leq {G : G_T} {X : x_T} {j u p : Nat} (h1 : (CL G j u).Nodup) (h2 : ∀ y, y ∈ CL G j u ↔ sw y ∈ gat X j) (hu : X.2 31 j = nI u) (hu2 : u ≤ 20) (hp : X.1 35 = nI p) (hp2 : p ≤ 60) : (CL G j u).length = (gat X j).length := by
  have g := (gat_r (X := X) (mm := j) hu (by omega) hp (by omega)).1
  rw [← List.length_map (f := sw) (as := CL G j u)]
  refine lenI (sw_map_nd h1) g (fun a => ?_)
  rw [List.mem_map]
  constructor
  · rintro ⟨y, y1, rfl⟩
    exact (h2 y).mp y1
  · intro z
    exact ⟨sw a, (h2 _).mpr (by rw [sw_sw]; exact z), sw_sw a⟩
