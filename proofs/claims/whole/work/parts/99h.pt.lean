/-! ===== the pure part: come ===== -/
theorem fo_v_r {E : e_T} {X : x_T} {e l D : Nat} (h : ER E X e) : fo_v X e l D = mo_mt (E.1 3) l D 1 := by
  obtain ⟨-, ⟨-, -, -, e3, -⟩, h21⟩ := h
  unfold fo_v
  by_cases c : X.2 21 e = 0
  · rw [if_pos c]
    have h0 : E.1 3 = 0 := e3.trans (h21 c)
    rw [h0]
    have : ∀ m k, mo_mt 0 l m k = -1 := fun m => by
      induction m with
      | zero => intro k; rfl
      | succ m ih =>
        intro k
        unfold mo_mt
        have hz : ∀ s : Int32, ((0 : Int32) >>> s) = 0 := fun s => Int32.zero_shiftRight
        rw [if_neg (by rw [hz]; decide)]
        exact ih (k + 1)
    exact (this D 1).symm
  · rw [if_neg c, e3]
theorem R.move {n : Nat} {G : G_T} {X X' : x_T} {j a l D c : Nat} (h : R n G X) (hn : n < 512) (hj : j < 16) (hat : X.2 27 j = nI a) (hlf : X.2 28 j = nI l) (hl : l < 16) (ha : a + 1 < ne G) (hD : X.2 13 (a + 1) = nI D) (hD4 : D ≤ 4) (hc : X.1 7 = nI c) (hc2 : c ≤ 3600) (hf : xfr [46, 47] (fo (xi X 0 0) j (a + 1) l D c) X') : ∃ G', O_move G j = some G' ∧ R (n + 1) G' X' ∧ (gM G' j).1 2 = X'.2 27 j := by
  classical
  have hR := h
  obtain ⟨h5, N, c', L, T, ro, cn, hA, hT, hM, hP, hQ, hI, hS⟩ := h
  have h60 := hA.1.2.2.1
  have h61 := hA.1.2.1
  have hcc : c' = c := by
    obtain ⟨⟨-, -, -, -, -, s6⟩, -, ⟨-, -, -, b4⟩, -⟩ := hS
    have := cU_le (gK G) (np G)
    have := hA.1.2.2.2.2.1
    exact nI_j (by omega) (by omega) (s6.symm.trans hc)
  subst hcc
  have hMj := hM.1 j hj
  obtain ⟨⟨m1, m2, m3, m4, m5, m6⟩, ⟨uu, uu1, uu2, uu3, uu4⟩, mc⟩ := hM.1 j hj
  have hER := hA.2.1 (a + 1) ha
  obtain ⟨⟨r1, r2, r3⟩, ⟨e0, e1, e2, e3, e4, e5, e6, e7⟩, e21⟩ := hA.2.1 (a + 1) ha
  obtain ⟨⟨q1, q2, q3⟩, -, -⟩ := hA.2.1 a (by omega)
  have hU4 : (gE G (a + 1)).2.1.2 ≤ 4 := r2.1
  have hDU : (gT G (a + 1)).2 = D := nI_j (a := (gE G (a + 1)).2.1.2) (b := D) (by omega) (by omega) (r1.1.symm.trans hD)
  obtain ⟨cl, t1, t2, t3, t4⟩ := hT a ha
  rcases mc with ⟨c1, -⟩ | ⟨a', l', c1, c2, c3, c4, c5, c6, c7, c8, c9⟩
  · exact absurd (hat.symm.trans c1) (nI_nm (by omega))
  have ea : a' = a := nI_j (by omega) (by omega) (c3.symm.trans hat)
  have el : l' = l := nI_j (by omega) (by omega) (c4.symm.trans hlf)
  subst ea
  subst el
  have hlc : l' ≠ cl := fun z => by
    subst z
    rcases (t4 j hj c7).1 with w | ⟨b, b1, b2, b3⟩
    · exact absurd (hat.symm.trans w) (nI_nm (by omega))
    · have := nI_j (by omega) (by omega) (hat.symm.trans b2)
      omega
  have hM1 : (gM G j).1 2 + 1 = nI (a' + 1) := by rw [m2, hat, nI_1]
  have hM3 : (gM G j).1 3 = nI l' := by rw [m3, hlf]
  have hold : ¬ X.2 27 j = nI (ne G - 1) := fun z => by
    have := nI_j (by omega) (by omega) (hat.symm.trans z)
    omega
  have hb4 : ((X.2 17 (a' + 1) >>> (nI l' &&& 31)) &&& 1 = 1) ↔ bt ((gE G (a' + 1)).1 4) l' = true := by
    rw [e4]
    exact bit_eq1 (by omega)
  have hb5 : ((X.2 18 (a' + 1) >>> (nI l' &&& 31)) &&& 1 = 1) ↔ bt ((gE G (a' + 1)).1 5) l' = true := by
    rw [e5]
    exact bit_eq1 (by omega)
  unfold O_move
  rw [hM1, ix_nI (by omega), if_pos (r_in_nI ha (by omega)), hM3]
  refine ⟨_, rfl, ?_⟩
  have gj : ∀ M', (gM (sM G j M') j).1 2 = M'.1 2 := fun M' => by
    show (va_up (gM G) j M' j).1 2 = _
    unfold va_up
    rw [if_pos rfl]
  unfold fo at hf
  by_cases c : bt ((gE G (a' + 1)).1 4) l' = true
  · have hx : ((xi X 0 0).2 17 (a' + 1) >>> (nI l' &&& 31)) &&& 1 = 1 := hb4.mpr c
    rw [if_pos hx] at hf
    rw [if_pos ((j_in_bt (by omega)).mpr c)]
    obtain ⟨⟨v1, v2, v3, v4, v5, v6, v7⟩, v8, v9⟩ := mo_lv_r (xi X 0 0) j
    have lf := mo_lv_f (xi X 0 0) j
    obtain ⟨L1, L2⟩ := MR_leave (X := xi X 0 0) hMj
    generalize mo_lv (xi X 0 0) j = V at hf v1 v2 v3 v4 v5 v6 v7 v8 v9 lf L1
    have q : ∀ k, k ≠ 46 → k ≠ 47 → X'.2 k = V.2 k := fun k h1 h2 => (hf k (by simp [h1, h2])).2
    have hfx : xfr cm_K X X' := ((((xfr.rf (X := X) (K := cm_K)).xi 0 0 (by decide)).tr (lf.wk (by decide))).tr (hf.wk (by decide)))
    refine ⟨R.cm (K' := gK G) hR hn hj hfx (fun k => ⟨rfl, fun _ _ => rfl, Or.inl rfl⟩) (fun k hk => ?_) (fun k hk => ?_) ?_ L2 (fun i hi hi2 k h1 h2 => ?_) (fun i hi hi2 v hv => ?_) hold (fun a cl _ _ _ _ => Or.inl (by rw [q 27 (by decide) (by decide)]; exact v1)) (fun k hk z1 z2 a b ha hb z3 z4 => ?_), ?_⟩
    · rw [q 41 (by decide) (by decide), (lf 41 (by decide)).2]
      exact (hP.1 k hk).2.2.2.2.2.2.2.symm
    · rw [q 41 (by decide) (by decide), (lf 41 (by decide)).2]
    · unfold MR at L1 ⊢
      rw [q 27 (by decide) (by decide), q 28 (by decide) (by decide), q 29 (by decide) (by decide), q 30 (by decide) (by decide), q 31 (by decide) (by decide), q 32 (by decide) (by decide), q 33 (by decide) (by decide), q 34 (by decide) (by decide)]
      exact L1
    · rw [q k (by omega) (by omega)]
      exact v8 i hi k h1 h2
    · rw [q 33 (by decide) (by decide)]
      exact v9 i hi v hv
    · rw [q 27 (by decide) (by decide), v1] at z4
      exact absurd z4.symm (nI_nm (by omega))
    · rw [gj, q 27 (by decide) (by decide), v1]
      exact L1.1.2.1.trans v1
  · have cF := bt_tf c
    have hx : ¬ ((xi X 0 0).2 17 (a' + 1) >>> (nI l' &&& 31)) &&& 1 = 1 := fun z => c (hb4.mp z)
    rw [if_neg hx] at hf
    rw [if_neg (fun z => c ((j_in_bt (by omega)).mp z))]
    have fol := M_fol_r (M := gM G j) t2 rfl t1 r2 hl hM3 hlc c6 cF q2 (fun v hv => (c9 v hv).1)
    have fv := fo_v_r (l := l') (D := D) hER
    obtain ⟨s1, s2, s3, s4, s5, s6⟩ := t2
    obtain ⟨l1, l2, l3, l4⟩ := s1 l' hl c6 cF
    have x22 : ∀ v, v < 31 → X.2 22 (31 * (a' + 1) + v) = sw ((gT G (a' + 1)).1 0 v) := fun v hv => by rw [(r1.2.1 v hv).1, sw_sw]
    have gr : ∀ y, y ∈ gat (xi X 0 0) j ↔ (¬ X.2 32 j = 0 ∧ y = X.2 14 (ix (X.2 27 j))) ∨ (¬ X.2 29 j = -1 ∧ y = X.2 29 j) ∨ (∃ v, v < 31 ∧ ¬ X.2 33 (31 * j + v) = -1 ∧ y = X.2 33 (31 * j + v)) ∨ (∃ k, k < uu ∧ y = X.2 34 (20 * j + k)) ∨ ∃ k, k < np G ∧ (X.2 36 k = nI j ∧ X.2 41 k = 0) ∧ (y = X.2 37 k ∨ y = X.2 38 k) := (gat_r (X := xi X 0 0) (mm := j) uu3 (by omega) hA.1.2.2.2.1 (by have := hA.1.2.2.2.2.1; omega)).2
    have hcn : (xi X 0 0).2 16 (a' + 1) = (gE G (a' + 1)).1 3 := e3.symm
    have key : ∃ V, xfr [46, 47] V X' ∧ (V.2 27 j = nI (a' + 1) ∧ V.2 29 j = X.2 22 (31 * (a' + 1) + 2 * l') ∧ V.2 31 j = 0 ∧ V.2 28 = X.2 28 ∧ V.2 30 = X.2 30 ∧ V.2 32 = X.2 32 ∧ ∀ v, v < 31 → V.2 33 (31 * j + v) = (if ab l' v ∧ (1 ≤ hgt v ∧ hgt v < 1 + D) ∧ bt ((gE G (a' + 1)).1 3) v = true then X.2 22 (31 * (a' + 1) + v) else if ¬ ((v < 2 ^ (D + 1) - 1 ∧ 0 < hgt v ∧ abv l' (hgt v) = v) ∧ X.2 22 (31 * (a' + 1) + v) = X.2 33 (31 * j + v)) then -1 else X.2 33 (31 * j + v))) ∧ xfr [27, 29, 31, 33] (xi X 0 0) V ∧ (∀ i, i ≠ j → ∀ k, 27 ≤ k → k ≤ 32 → V.2 k i = X.2 k i) ∧ ∀ i, i ≠ j → ∀ v, v < 31 → V.2 33 (31 * i + v) = X.2 33 (31 * i + v) := by
      have had : ad (xi X 0 0) j (a' + 1) l' D 0 = kp_m j (a' + 1) l' D 31 0 (ad_0 (xi X 0 0) j (a' + 1) l') := by
        unfold ad
        rw [if_pos (Or.inl rfl)]
      rcases lc_mt (E := gE G (a' + 1)) hl hD4 with ⟨-, w2, w3⟩ | ⟨u, u1, u2, u3, u4, u5, u6⟩
      · have hv0 : fo_v (xi X 0 0) (a' + 1) l' D = -1 := fv.trans w2
        rw [if_pos (Or.inl hv0)] at hf
        unfold fo_1 at hf
        rw [if_neg (fun z => z.1 hv0), had] at hf
        exact ⟨_, hf, adv_r (m := 0) (t0 := 0) (P := False) hl hD4 hcn (fun z => z.elim) (Or.inr ⟨id, rfl⟩) (fun v hv => ⟨fun z => (by
          have y := w3 (hgt v) (by omega) (by omega)
          have ha : abv l' (hgt v) = v := z.1
          rw [ha, z.2.2] at y
          cases y), fun z => z.1.elim⟩)⟩
      · have hv1 : fo_v (xi X 0 0) (a' + 1) l' D = nI (abv l' u) := fv.trans u4
        have hvb := abv_sib l' hl u (by omega) u1
        have hnv : ¬ nI (abv l' u) = -1 := nI_nm (by omega)
        obtain ⟨heq, w, w1, w2, w3, w4, w5, w6, w7⟩ := reader ⟨s1, s2, s3, s4, s5, s6⟩ r2 hl hlc c6 cF u1 (by rw [hDU]; exact u2) u5 u6
        obtain ⟨k, k1, k2, k3, k4⟩ := t3 u u1 (by rw [hDU]; exact u2) (by rw [← heq]; exact u5) w w1 w2 w3
        have hmem : X.2 8 k ∈ fo_L (xi X 0 0) j (a' + 1) l' := by
          rw [k4]
          have hb5' : (((xi X 0 0).2 18 (a' + 1) >>> (nI l' &&& 31)) &&& 1 = 1) ↔ bt ((gE G (a' + 1)).1 5) l' = true := hb5
          unfold fo_L
          rcases w7 with z | z
          · subst z
            by_cases y : bt ((gE G (a' + 1)).1 5) l' = true
            · rw [if_pos (hb5'.mpr y), ins_mem]
              exact Or.inr (x22 _ w1).symm
            · rw [if_neg (fun z => y (hb5'.mp z)), gr, l4 (bt_tf y) hlc]
              exact Or.inr (Or.inl ⟨by rw [c8]; exact fun z => c6 (sw_n1.mp z), c8.symm⟩)
          · have hw : sw ((gT G (a' + 1)).1 0 w) ∈ gat (xi X 0 0) j := by
              obtain ⟨y1, y2⟩ := s2 w w1 z w5 w6
              have y3 := y2 l' hl l3
              have g := FK_nm (T := gT G (a' + 1)) (l := l') (v := w) (by rw [w4]; exact w5)
              have g2 : FK (gT G a') l' w = (gT G a').1 0 w := FK_y g.1 (by rw [← y1]; exact w5) (by rw [← y3]; exact g.2.2.1)
              rw [gr]
              refine Or.inr (Or.inr (Or.inl ⟨w, w1, ?_⟩))
              rw [(c9 w w1).2, if_pos z, g2, ← y1]
              exact ⟨fun z => w5 (sw_n1.mp z), rfl⟩
            by_cases y : bt ((gE G (a' + 1)).1 5) l' = true
            · rw [if_pos (hb5'.mpr y), ins_mem]
              exact Or.inl hw
            · rw [if_neg (fun z => y (hb5'.mp z))]
              exact hw
        have hft : fo_t (xi X 0 0) j (a' + 1) l' D c' := by
          unfold fo_t
          rw [hv1]
          exact ⟨hnv, k, k1, k2, by rw [heq]; exact k3, hmem⟩
        rw [if_pos (Or.inr hft)] at hf
        unfold fo_1 at hf
        rw [if_pos hft, had, hv1, ix_nI (by omega), hvb.2.1] at hf
        refine ⟨_, hf, adv_r (m := D + 1 - u) (t0 := u) (P := True) hl hD4 hcn (fun _ => by omega) (Or.inl ⟨trivial, rfl⟩) (fun v hv => ⟨fun z => ⟨trivial, z.1, ⟨?_, by omega⟩, z.2.2⟩, fun z => ⟨z.2.1, ⟨by omega, by omega⟩, z.2.2.2⟩⟩)⟩
        rcases Nat.lt_or_ge (hgt v) u with y | y
        · have y2 := u6 (hgt v) (by omega) y
          have ha : abv l' (hgt v) = v := z.1
          rw [ha, z.2.2] at y2
          cases y2
        · exact y
    obtain ⟨V, hVX, hV, hVf, hVo, hVo3⟩ := key
    have q : ∀ k, k ≠ 46 → k ≠ 47 → X'.2 k = V.2 k := fun k h1 h2 => (hVX k (by simp [h1, h2])).2
    have hfx : xfr cm_K X X' := ((((xfr.rf (X := X) (K := cm_K)).xi 0 0 (by decide)).tr (hVf.wk (by decide))).tr (hVX.wk (by decide)))
    have o : ∀ i, i ≠ 1 → i ≠ 2 → (M_fol (gM G j) (gE G (a' + 1))).1 i = (gM G j).1 i := fun i h1 h2 => by rw [fol.1, upd_n h1, upd_n h2]
    have o1 : (M_fol (gM G j) (gE G (a' + 1))).1 1 = 0 := by rw [fol.1, upd_s]
    have o2 : (M_fol (gM G j) (gE G (a' + 1))).1 2 = nI (a' + 1) := by rw [fol.1, upd_n (by decide), upd_s, e0]
    have mr : MR (M_fol (gM G j) (gE G (a' + 1))) V j (gT G) (ne G) := MR_next hMj hat hlf (by omega) h60 hl ha ⟨s1, s2, s3, s4, s5, s6⟩ r2 cF hDU x22 (o 0 (by decide) (by decide)) o1 o2 (o 3 (by decide) (by decide)) ((o 4 (by decide) (by decide)).trans c5) (o 5 (by decide) (by decide)) fol.2.2 hV
    refine ⟨R.cm (K' := gK G) hR hn hj hfx (fun k => ⟨rfl, fun _ _ => rfl, Or.inl rfl⟩) (fun k hk => ?_) (fun k hk => ?_) ?_ o1 (fun i hi hi2 k h1 h2 => ?_) (fun i hi hi2 v hv => ?_) hold (fun a2 cl2 g1 g2 g3 g4 => ?_) (fun k hk z1 z2 a2 b ha2 hb z3 z4 => ?_), ?_⟩
    · rw [q 41 (by decide) (by decide), (hVf 41 (by decide)).2]
      exact (hP.1 k hk).2.2.2.2.2.2.2.symm
    · rw [q 41 (by decide) (by decide), (hVf 41 (by decide)).2]
    · unfold MR at mr ⊢
      rw [q 27 (by decide) (by decide), q 28 (by decide) (by decide), q 29 (by decide) (by decide), q 30 (by decide) (by decide), q 31 (by decide) (by decide), q 32 (by decide) (by decide), q 33 (by decide) (by decide), q 34 (by decide) (by decide)]
      exact mr
    · rw [q k (by omega) (by omega)]
      exact hVo i hi k h1 h2
    · rw [q 33 (by decide) (by decide)]
      exact hVo3 i hi v hv
    · refine Or.inr ⟨a' + 1, by omega, by rw [q 27 (by decide) (by decide)]; exact hV.1, ?_⟩
      rcases g4.1 with w | ⟨b, b1, b2, b3⟩
      · exact absurd (hat.symm.trans w) (nI_nm (by omega))
      · have := nI_j (by omega) (by omega) (hat.symm.trans b2)
        omega
    · rw [q 27 (by decide) (by decide), hV.1] at z4
      have ea := nI_j (by omega) (by omega) z4
      subst ea
      have hlt := hP.2.2.2.2 k hk z2 a' b (by omega) hb z3 (by rw [z1]; exact hat)
      rcases Nat.lt_or_ge (a' + 1) b with y | y
      · exact y
      · exfalso
        have eb : b = a' + 1 := by omega
        subst eb
        rcases (hP.2.1 k hk).2 with w | ⟨b', l2', w1, w2, w3, w4, w5, w6, w7, w8⟩
        · exact absurd (z3.symm.trans w) (nI_nm (by omega))
        · have eb := nI_j (by omega) (by omega) (z3.symm.trans w4)
          subst eb
          rw [z1] at w7
          have e1 : (gT G (a' + 1)).1 3 l' = nI j := l2.trans c7
          have el := r3 l' hl l2' w3 (by rw [e1]; exact nI_nm (by omega)) (by rw [e1, w7])
          subst el
          rw [l3] at w6
          cases w6
    · rw [gj, q 27 (by decide) (by decide), o2, hV.1]
