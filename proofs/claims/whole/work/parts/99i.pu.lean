/-! ===== the pure part: a member joins ===== -/
def JP (G : G_T) (i k : Nat) (b : Option Nat) : Prop := (b = none → ∀ q, q < k → ¬ J_aw G i q) ∧ ∀ q, b = some q → q < k ∧ J_aw G i q ∧ ∀ q', q' < k → J_aw G i q' → (gK G q).2 2 ≤ (gK G q').2 2
theorem J_nb {G : G_T} {X : x_T} {i : Nat} (hi : i < 16) (hK : KR (gK G) (np G) X) : ∀ (m k : Nat) (b : Option Nat), k + m = np G → JP G i k b → J_m G i m k b = nb_m X i m k b ∧ JP G i (np G) (J_m G i m k b) := by
  classical
  intro m
  induction m with
  | zero =>
    intro k b hk h
    have : k = np G := by omega
    subst this
    exact ⟨rfl, h⟩
  | succ m ih =>
    intro k b hk h
    obtain ⟨w1, w2, w3, w4, w5, w6, w7, w8⟩ := hK k (by omega)
    have haw : J_aw G i k ↔ (X.2 36 k = nI i ∧ ¬ X.2 39 k = -1 ∧ X.2 41 k = 0) := by
      unfold J_aw
      rw [w2, w6, w8]
      exact and_congr_left fun _ => (nI_eq (by omega) (by omega)).symm
    have hlt : J_lt G k b ↔ ∀ q, b = some q → X.2 39 k < X.2 39 q := by
      unfold J_lt
      refine forall_congr' fun q => forall_congr' fun hq => ?_
      rw [w6, (hK q (by have := (h.2 q hq).1; omega)).2.2.2.2.2.1]
    have hnb : (J_aw G i k ∧ J_lt G k b) ↔ nb_1 X i k b := by
      unfold nb_1
      rw [haw, hlt]
      exact ⟨fun z => ⟨z.1.1, z.1.2.1, z.1.2.2, z.2⟩, fun z => ⟨⟨z.1, z.2.1, z.2.2.1⟩, z.2.2.2⟩⟩
    unfold J_m nb_m J_1
    by_cases c : J_aw G i k ∧ J_lt G k b
    · rw [if_pos c, if_pos (hnb.mp c)]
      refine ih (k + 1) (some k) (by omega) ⟨fun z => (by cases z), fun q hq => ?_⟩
      cases hq
      refine ⟨by omega, c.1, fun q' hq' z => ?_⟩
      by_cases e : q' = k
      · rw [e]; exact Int32.le_refl _
      · cases hb : b with
        | none => exact absurd z (h.1 hb q' (by omega))
        | some q0 => exact Int32.le_trans (Int32.le_of_lt (c.2 q0 hb)) ((h.2 q0 hb).2.2 q' (by omega) z)
    · rw [if_neg c, if_neg (fun z => c (hnb.mpr z))]
      refine ih (k + 1) b (by omega) ⟨fun hb q hq z => ?_, fun q hq => ?_⟩
      · by_cases e : q = k
        · subst e
          exact c ⟨z, fun q0 h0 => by rw [hb] at h0; cases h0⟩
        · exact h.1 hb q (by omega) z
      · obtain ⟨a1, a2, a3⟩ := h.2 q hq
        refine ⟨by omega, a2, fun q' hq' z => ?_⟩
        by_cases e : q' = k
        · subst e
          refine Int32.not_lt.mp (fun y => c ⟨z, fun q0 h0 => ?_⟩)
          rw [hq] at h0
          cases h0
          exact y
        · exact a3 q' (by omega) z
theorem R.joinN {n : Nat} {G : G_T} {X : x_T} {j : Nat} (h : R n G X) (hj : j < 16) : J_m G j (np G) 0 none = nb_m X j (np G) 0 none ∧ JP G j (np G) (nb_m X j (np G) 0 none) := by
  obtain ⟨h5, N, c', L, T, ro, cn, hA, hT, hM, hP, hQ, hI, hS⟩ := h
  have := J_nb hj hP.1 (np G) 0 none (by omega) ⟨fun _ q hq => by omega, fun q hq => by cases hq⟩
  exact ⟨this.1, by rw [← this.1]; exact this.2⟩
theorem jo_1_r (V : x_T) (mm p a l : Nat) (x : Int32) : ∃ W, xs (xs (xs (xs (xs V 41 p 1) 27 mm (nI a)) 28 mm (nI l)) 29 mm x) 32 mm 1 = W ∧ (∀ i, W.2 27 i = if i = mm then nI a else V.2 27 i) ∧ (∀ i, W.2 28 i = if i = mm then nI l else V.2 28 i) ∧ (∀ i, W.2 29 i = if i = mm then x else V.2 29 i) ∧ (∀ i, W.2 32 i = if i = mm then 1 else V.2 32 i) ∧ (∀ i, W.2 41 i = if i = p then 1 else V.2 41 i) ∧ (∀ k, k ≠ 27 → k ≠ 28 → k ≠ 29 → k ≠ 32 → k ≠ 41 → W.2 k = V.2 k) ∧ ∀ K X, xfr K X V → 41 ∈ K → 27 ∈ K → 28 ∈ K → 29 ∈ K → 32 ∈ K → xfr K X W :=
  ⟨_, rfl, fun _ => rfl, fun _ => rfl, fun _ => rfl, fun _ => rfl, fun _ => rfl, fun k h1 h2 h3 h4 h5 => (if_neg h4).trans ((if_neg h3).trans ((if_neg h2).trans ((if_neg h1).trans (if_neg h5)))), fun K X h a1 a2 a3 a4 a5 => ((((h.xs 41 _ _ a1).xs 27 _ _ a2).xs 28 _ _ a3).xs 29 _ _ a4).xs 32 _ _ a5⟩
theorem jo_t (X : x_T) (mm p a l D : Nat) (V : x_T) (hV : mo_lv X mm = V) : jo X mm p a l D = if X.2 21 a = 0 ∨ mo_mt (X.2 16 a) l D 1 = -1 then xs (xs (xs (xs (xs V 41 p 1) 27 mm (nI a)) 28 mm (nI l)) 29 mm (V.2 38 p)) 32 mm 1 else tl_m mm a l (D + 1 - hgt (ix (mo_mt (X.2 16 a) l D 1))) (hgt (ix (mo_mt (X.2 16 a) l D 1))) (xs (xs (xs (xs (xs V 41 p 1) 27 mm (nI a)) 28 mm (nI l)) 29 mm (V.2 38 p)) 32 mm 1) := by
  rw [← hV, jo]
theorem R.join {n : Nat} {G : G_T} {X : x_T} {j q a l D : Nat} (h : R n G X) (hn : n < 512) (hj : j < 16) (hat : X.2 27 j = -1) (hq : nb_m X j (np G) 0 none = some q) (h39 : X.2 39 q = nI a) (h40 : X.2 40 q = nI l) (ha : a < 60) (hl : l < 16) (hD : X.2 13 a = nI D) (hD4 : D ≤ 4) : ∃ G', O_join G j = some G' ∧ R (n + 1) G' (jo (xi X 0 0) j q a l D) ∧ (gM G' j).1 2 = (jo (xi X 0 0) j q a l D).2 27 j := by
  classical
  have hR := h
  obtain ⟨hjm, hjp⟩ := h.joinN hj
  rw [hq] at hjp hjm
  obtain ⟨p1, ⟨p2, p3, p4⟩, p5⟩ := hjp.2 q rfl
  obtain ⟨h5, N, c', L, T, ro, cn, hA, hT, hM, hP, hQ, hI, hS⟩ := h
  have h60 := hA.1.2.2.1
  have h61 := hA.1.2.1
  obtain ⟨w1, w2, w3, w4, w5, w6, w7, w8⟩ := hP.1 q p1
  have k2 : (gK G q).2 2 = nI a := w6.trans h39
  have k3 : (gK G q).2 3 = nI l := (w7 (by rw [h39]; exact nI_nm (by omega))).trans h40
  rcases (hP.2.1 q p1).2 with z | ⟨b, l', b1, b2, b3, b4, b5, b6, b7, b8⟩
  · exact absurd (k2.symm.trans z) (nI_nm (by omega))
  have eb : b = a := nI_j (by omega) (by omega) (b4.symm.trans k2)
  have el : l' = l := nI_j (by omega) (by omega) (b5.symm.trans k3)
  subst eb
  subst el
  obtain ⟨a, rfl⟩ : ∃ a, b = a + 1 := ⟨b - 1, by omega⟩
  obtain ⟨⟨m1, m2, m3, m4, m5, m6⟩, -, mc⟩ := hM.1 j hj
  obtain ⟨⟨r1, r2, r3⟩, ⟨e0, e1, e2, e3, e4, e5, e6, e7⟩, e21⟩ := hA.2.1 (a + 1) b2
  have hU4 : (gE G (a + 1)).2.1.2 ≤ 4 := r2.1
  have hDU : (gT G (a + 1)).2 = D := nI_j (a := (gE G (a + 1)).2.1.2) (b := D) (by omega) (by omega) (r1.1.symm.trans hD)
  obtain ⟨cl, t1, t2, t3, t4⟩ := hT a b2
  have hold : ¬ X.2 27 j = nI (ne G - 1) := fun z => absurd (z.symm.trans hat) (nI_nm (by omega))
  have hkeys : ∀ v, v < 31 → (gM G j).2 0 v = -1 := by
    rcases mc with ⟨c1, c2, c3, c4, c5, c6⟩ | ⟨a', l', c1, c2, c3, -⟩
    · exact fun v hv => (c6 v hv).1
    · exact absurd (c3.symm.trans hat) (nI_nm (by omega))
  have nb2 : ¬ (gT G (a + 1)).1 0 (2 * l') = -1 := by
    rw [b8, w4]
    exact fun z => w5 (sw_n1.mp z)
  -- the class
  unfold O_join
  rw [hjm]
  show ∃ G', O_joi1 G j q = some G' ∧ _
  unfold O_joi1
  rw [k2, k3, ix_nI (by omega), if_pos (r_in_nI b2 (by omega))]
  refine ⟨_, rfl, ?_⟩
  have gj : ∀ K' M', (gM (sM (sK G q K') j M') j).1 2 = M'.1 2 := fun K' M' => by
    show (va_up (gM G) j M' j).1 2 = _
    unfold va_up
    rw [if_pos rfl]
  rw [gj]
  have ml := M_lead_r (M := M_int (gM G j) 3 (nI l')) (E := gE G (a + 1)) hl (upd_s (gM G j).1 3 (nI l')) hU4
  have fj := FK_join t2 r2 hl b6 nb2
  have men : M_enter (gM G j) (gE G (a + 1)) (nI l') = M_lead (M_int (gM G j) 3 (nI l')) (gE G (a + 1)) := rfl
  rw [men]
  generalize M_lead (M_int (gM G j) 3 (nI l')) (gE G (a + 1)) = M' at ml ⊢
  have o : ∀ i, M'.1 i = upd (upd (upd (upd (gM G j).1 3 (nI l')) 2 ((gE G (a + 1)).1 0)) 4 1) 1 0 i := fun i => by rw [ml.1]; rfl
  have o0 : M'.1 0 = nI j := by rw [o, upd_n (by decide), upd_n (by decide), upd_n (by decide), upd_n (by decide)]; exact m1
  have o1 : M'.1 1 = 0 := by rw [o, upd_s]
  have o2 : M'.1 2 = nI (a + 1) := by rw [o, upd_n (by decide), upd_n (by decide), upd_s]; exact e0
  have o3 : M'.1 3 = nI l' := by rw [o, upd_n (by decide), upd_n (by decide), upd_n (by decide), upd_s]
  have o4 : M'.1 4 = 1 := by rw [o, upd_n (by decide), upd_s]
  have o5 : M'.1 5 = 0 := by rw [o, upd_n (by decide), upd_n (by decide), upd_n (by decide), upd_n (by decide)]; exact m5
  have ok : ∀ v, v < 31 → M'.2 0 v = FK (gT G (a + 1)) l' v := fun v hv => by
    rw [ml.2.2 v hv, ← fj v hv]
    have hk : (M_int (gM G j) 3 (nI l')).2 0 v = -1 := hkeys v hv
    by_cases c1 : ab l' v ∧ (1 ≤ hgt v ∧ hgt v < 1 + (gE G (a + 1)).2.1.2) ∧ bt ((gE G (a + 1)).1 3) v = true
    · rw [if_pos c1, if_pos c1]
    · rw [if_neg c1, if_neg c1]
      by_cases c2 : v = 2 * l'
      · rw [if_pos c2, if_pos c2]
      · rw [if_neg c2, if_neg c2, hk]
        by_cases c3 : ¬ (¬ (gE G (a + 1)).2.1.1 0 v = -1 ∧ (-1 : Int32) = (gE G (a + 1)).2.1.1 0 v)
        · rw [if_pos c3]
        · rw [if_neg c3]
  -- the reference
  obtain ⟨⟨v1, v2, v3, v4, v5, v6, v7⟩, v8, v9⟩ := mo_lv_r (xi X 0 0) j
  have lf := mo_lv_f (xi X 0 0) j
  have hjt := jo_t (xi X 0 0) j q (a + 1) l' D _ rfl
  generalize mo_lv (xi X 0 0) j = Q at v1 v2 v3 v4 v5 v6 v7 v8 v9 lf hjt
  obtain ⟨W, j0, j1, j2, j3, j4, j5, j6, j7⟩ := jo_1_r Q j q (a + 1) l' (Q.2 38 q)
  rw [j0] at hjt
  have jf : xfr cm_K X W := j7 _ _ (((xfr.rf (X := X) (K := cm_K)).xi 0 0 (by decide)).tr (lf.wk (by decide))) (by decide) (by decide) (by decide) (by decide) (by decide)
  have x22 : ∀ v, v < 31 → X.2 22 (31 * (a + 1) + v) = sw ((gT G (a + 1)).1 0 v) := fun v hv => by rw [(r1.2.1 v hv).1, sw_sw]
  have key : ∃ V, jo (xi X 0 0) j q (a + 1) l' D = V ∧ xfr [33] W V ∧ (∀ v, v < 31 → V.2 33 (31 * j + v) = if 0 < hgt v then sw (FK (gT G (a + 1)) l' v) else -1) ∧ ∀ i, (i < 31 * j ∨ 31 * j + 31 ≤ i) → V.2 33 i = W.2 33 i := by
    refine ⟨_, rfl, ?_⟩
    have z33 : ∀ v, v < 31 → W.2 33 (31 * j + v) = -1 := fun v hv => by
      rw [j6 33 (by decide) (by decide) (by decide) (by decide) (by decide)]
      exact v7 v hv
    have z16 : W.2 16 (a + 1) = (gE G (a + 1)).1 3 := by rw [(jf 16 (by decide)).2, e3]
    have z22 : W.2 22 = X.2 22 := (jf 22 (by decide)).2
    have form : ∀ v, v < 31 → (if 0 < hgt v then sw (FK (gT G (a + 1)) l' v) else -1) = if ab l' v ∧ (1 ≤ hgt v ∧ hgt v < 1 + D) ∧ bt ((gE G (a + 1)).1 3) v = true then sw ((gT G (a + 1)).1 0 v) else -1 := fun v hv => by
      rw [← fj v hv, hDU]
      by_cases z : 0 < hgt v
      · have y : ¬ v = 2 * l' := fun y => by rw [y, hgt_leaf l' hl] at z; omega
        rw [if_pos z, if_neg y]
        by_cases c1 : ab l' v ∧ (1 ≤ hgt v ∧ hgt v < 1 + D) ∧ bt ((gE G (a + 1)).1 3) v = true
        · rw [if_pos c1, if_pos c1]
        · rw [if_neg c1, if_neg c1, sw_m1]
      · rw [if_neg z, if_neg (fun w => by omega)]
    have e3' : (xi X 0 0).2 16 (a + 1) = (gE G (a + 1)).1 3 := e3.symm
    rw [hjt, e3']
    rcases lc_mt (E := gE G (a + 1)) hl hD4 with ⟨-, w2', w3'⟩ | ⟨u, u1, u2, u3, u4, u5, u6⟩
    · rw [if_pos (Or.inr w2')]
      refine ⟨xfr.rf, fun v hv => ?_, fun _ _ => rfl⟩
      rw [z33 v hv, form v hv, if_neg]
      intro z
      have y := w3' (hgt v) (by omega) (by omega)
      have ha : abv l' (hgt v) = v := z.1
      rw [ha, z.2.2] at y
      cases y
    · have hvb := abv_sib l' hl u (by omega) u1
      have hx0 : ¬ ((xi X 0 0).2 21 (a + 1) = 0 ∨ mo_mt ((gE G (a + 1)).1 3) l' D 1 = -1) := by
        rintro (z | z)
        · have h0 : (gE G (a + 1)).1 3 = 0 := e3.trans (e21 z)
          rw [h0, bt_0] at u5
          cases u5
        · rw [u4] at z
          exact nI_nm (by omega) z
      rw [if_neg hx0, u4, ix_nI (by omega), hvb.2.1]
      obtain ⟨s1, s2, s3⟩ := tl_m_r j (a + 1) l' hl (D + 1 - u) u W (by omega)
      refine ⟨s1, fun v hv => ?_, s3⟩
      rw [s2 v hv, z33 v hv, z22, x22 v hv, z16, form v hv]
      by_cases c1 : ab l' v ∧ (1 ≤ hgt v ∧ hgt v < 1 + D) ∧ bt ((gE G (a + 1)).1 3) v = true
      · have : u ≤ hgt v := by
          rcases Nat.lt_or_ge (hgt v) u with y | y
          · have y2 := u6 (hgt v) (by omega) y
            have ha : abv l' (hgt v) = v := c1.1
            rw [ha, c1.2.2] at y2
            cases y2
          · exact y
        rw [if_pos c1, if_pos ⟨c1.1, ⟨this, by omega⟩, c1.2.2⟩]
      · rw [if_neg c1, if_neg (fun z => c1 ⟨z.1, ⟨by omega, by omega⟩, z.2.2⟩)]
  obtain ⟨V, hV, f1, f2, f3⟩ := key
  rw [hV]
  have g : ∀ k, k ≠ 33 → V.2 k = W.2 k := fun k hk => (f1 k (by simpa using hk)).2
  have g27 : V.2 27 j = nI (a + 1) := by rw [g 27 (by decide), j1, if_pos rfl]
  have k38 : Q.2 38 q = X.2 38 q := by rw [(lf 38 (by decide)).2]
  have kk : ∀ k, va_up (gK G) q ((gK G q).1, upd (gK G q).2 4 1) k = if k = q then ((gK G q).1, upd (gK G q).2 4 1) else gK G k := fun k => rfl
  refine ⟨R.cm (G := G) (X := X) (M' := M') (K' := va_up (gK G) q ((gK G q).1, upd (gK G q).2 4 1)) hR hn hj (jf.tr (f1.wk (by decide))) (fun k => ?_) (fun k hk => ?_) (fun k hk => ?_) ?_ o1 (fun i hi hi2 k h1 h2 => ?_) (fun i hi hi2 v hv => ?_) hold (fun a2 cl2 g1 g2 g3 g4 => ?_) (fun k hk z1 z2 a2 b ha2 hb z3 z4 => ?_), ?_⟩
  · rw [kk]
    by_cases c : k = q
    · rw [if_pos c, c]
      exact ⟨rfl, fun i hi => upd_n hi, Or.inr (upd_s (gK G q).2 4 1)⟩
    · rw [if_neg c]
      exact ⟨rfl, fun _ _ => rfl, Or.inl rfl⟩
  · rw [g 41 (by decide), j5, kk]
    by_cases c : k = q
    · rw [if_pos c, if_pos c]
      exact (upd_s (gK G q).2 4 1).symm
    · rw [if_neg c, if_neg c, (lf 41 (by decide)).2]
      exact (hP.1 k hk).2.2.2.2.2.2.2.symm
  · rw [g 41 (by decide), j5, if_neg (by omega), (lf 41 (by decide)).2]
  · refine ⟨⟨o0, by rw [o2, g27], by rw [o3, g 28 (by decide), j2, if_pos rfl], by rw [o4, g 32 (by decide), j4, if_pos rfl], o5, ?_⟩, ⟨0, by omega, o1, ?_, fun k hk => by omega⟩, Or.inr ⟨a + 1, l', b2, hl, g27, by rw [g 28 (by decide), j2, if_pos rfl], o4, nb2, by rw [b7, p2], ?_, fun v hv => ⟨ok v hv, f2 v hv⟩⟩⟩
    · rw [g 30 (by decide), j6 30 (by decide) (by decide) (by decide) (by decide) (by decide), v6]
      exact m6
    · rw [g 31 (by decide), j6 31 (by decide) (by decide) (by decide) (by decide) (by decide), v4]
      rfl
    · rw [g 29 (by decide), j3, if_pos rfl, k38, b8, w4, sw_sw]
  · rw [g k (by omega)]
    have : k = 27 ∨ k = 28 ∨ k = 29 ∨ k = 32 ∨ (k ≠ 27 ∧ k ≠ 28 ∧ k ≠ 29 ∧ k ≠ 32) := by omega
    rcases this with z | z | z | z | z
    · subst z; rw [j1, if_neg hi]; exact v8 i hi 27 (by decide) (by decide)
    · subst z; rw [j2, if_neg hi]; exact v8 i hi 28 (by decide) (by decide)
    · subst z; rw [j3, if_neg hi]; exact v8 i hi 29 (by decide) (by decide)
    · subst z; rw [j4, if_neg hi]; exact v8 i hi 32 (by decide) (by decide)
    · rw [j6 k z.1 z.2.1 z.2.2.1 z.2.2.2 (by omega)]
      exact v8 i hi k h1 h2
  · rw [f3 _ (by omega), j6 33 (by decide) (by decide) (by decide) (by decide) (by decide)]
    exact v9 i hi v hv
  · exact Or.inr ⟨a + 1, by omega, g27, g4.2 q p1 p2 p4 (a + 1) (by omega) k2⟩
  · rw [g27] at z4
    have ea := nI_j (by omega) (by omega) z4
    subst ea
    rw [kk] at z2
    by_cases c : k = q
    · rw [if_pos c] at z2
      have z2 : upd (gK G q).2 4 1 4 = 0 := z2
      rw [upd_s] at z2
      exact absurd z2 (by decide)
    · rw [if_neg c] at z2
      have hle := p5 k hk ⟨z1, by rw [z3]; exact nI_nm (by omega), z2⟩
      rw [k2, z3, nI_leI (by omega) (by omega)] at hle
      rcases Nat.lt_or_ge (a + 1) b with y | y
      · exact y
      · exfalso
        have eb : b = a + 1 := by omega
        subst eb
        exact c (hP.2.2.1 k hk q p1 (a + 1) (by omega) z3 k2 (by rw [z1, p2]))
  · rw [o2, g27]
