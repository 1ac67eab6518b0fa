/-! ===== the pure part: a commit, up to the path ===== -/
theorem RM.cg {T0 T0' T : tr_T} {b : Int32} (h : RM T0 b T) (h2 : T0.2 = T0'.2) (hv : ∀ v, v < 31 → T0.1 0 v = T0'.1 0 v ∧ T0.1 1 v = T0'.1 1 v ∧ T0.1 2 v = T0'.1 2 v) (h3 : ∀ l, l < 16 → T0.1 3 l = T0'.1 3 l) : RM T0' b T := by
  obtain ⟨a1, a2, a3⟩ := h
  refine ⟨by rw [← h2]; exact a1, fun v hv' => ?_, fun l hl => ?_⟩
  · rw [← h2, ← (hv v hv').1, ← (hv v hv').2.1, ← (hv v hv').2.2]
    exact a2 v hv'
  · rw [← h3 l hl]
    exact a3 l hl
/-- where a commit stands before its path -/
def MC (G : G_T) (X : x_T) (e cl : Nat) (p : G_T × e_T) (X7 : x_T) (nk : Nat → Int32) : Prop :=
  (TR p.2.2.1 X7 (e + 1) ∧ TI p.2.2.1 ∧ MID (gT G e) (gK G) (gM p.1) (np G) (e + 1) (p.2.1 4) (p.2.1 5) nk (gK p.1) (p.2.1 6) p.2.2.1) ∧
  (p.2.1 0 = nI (e + 1) ∧ p.2.1 1 = nI cl ∧ p.2.1 3 = 0 ∧ p.2.1 4 = X7.2 17 (e + 1) ∧ p.2.1 5 = X7.2 18 (e + 1) ∧ p.2.1 6 = X7.2 19 (e + 1) ∧ p.2.1 7 = 0) ∧
  (gS p.1 = gS G ∧ gQ p.1 = gQ G ∧ gE p.1 = gE G ∧ gN p.1 = gN G) ∧ (∀ i, i < 16 → gM p.1 i = ML (p.2.1 4) (nI e) (gM G i)) ∧ KR (gK p.1) (np G) X7 ∧ (xfr cK7 X X7 ∧ EO (e + 1) X X7 ∧ X7.2 15 (e + 1) = nI cl) ∧
  (∀ l, l < 16 → bt (p.2.1 5) l = true → ¬ (gT G e).1 0 (2 * l) = -1 ∧ bt (p.2.1 4) l = false ∧ ¬ nk l = -1 ∧ l ≠ cl ∧ ∃ k, k < nq G ∧ (gQ G k).1 = 2 ∧ (gQ G k).2.2.1 = nI l ∧ (gQ G k).2.2.2 = nk l) ∧ bt (p.2.1 4) cl = false
theorem C_mid {n : Nat} {G : G_T} {X X7 : x_T} {j cl e D D7 : Nat} (h : R n G X) (hj : j < 16) (hne : ne G = e + 1) (hne2 : e + 1 < 60) (hat : X.2 27 j = nI e) (hcl : cl < 16) (hlf : X.2 28 j = nI cl) (hD : X.2 13 e = nI D) (hD4 : D ≤ 4) (hC : q_CH7 X cl e D (nq G) X7 D7) : ∃ nk, MC G X e cl (C_3 G j) X7 nk := by
  classical
  obtain ⟨h5, N, c, L, T, ro, cn, hA, hT, hM, hP, hQ, hI, hS⟩ := h
  have h60 := hA.1.2.2.1
  have hnp60 := hA.1.2.2.2.2.1
  have he : e < ne G := by omega
  obtain ⟨⟨r1, r2, r3⟩, ⟨e0, e1, e2, e3, e4, e5, e6, e7⟩, e21⟩ := hA.2.1 e he
  have hDT : (gT G e).2 = D := nI_j (a := (gE G e).2.1.2) (b := D) (by have : (gE G e).2.1.2 ≤ 4 := r2.1; omega) (by omega) (r1.1.symm.trans hD)
  obtain ⟨z13, z16, z17, z18, z19, z20⟩ := hA.2.2 (e + 1) (by omega) (by omega)
  obtain ⟨⟨m1, m2, m3, m4, m5, m6⟩, -, mc⟩ := hM.1 j hj
  have hM3 : (gM G j).1 3 = nI cl := m3.trans hlf
  obtain ⟨X4, X5, D5, ⟨X1, Xa, X3, hcp, hXa, f3, v17, f4, v18, v51⟩, hX5, h13, hD5, hX7, h137, hD7⟩ := hC
  -- the copy
  obtain ⟨t1, t2, t3⟩ := copy_TR (T := (E_new (nI (ne G)) ((gM G j).1 3)).2.1) (U := gT G e) r1 r2 (by rw [hDT]; exact hcp)
  obtain ⟨y1, y2, y3⟩ := T_copy_r (E_new (nI (ne G)) ((gM G j).1 3)).2.1 (gT G e)
  have hC0 : C_0 G j = (G, (E_new (nI (ne G)) ((gM G j).1 3)).1, T_copy (E_new (nI (ne G)) ((gM G j).1 3)).2.1 (gT G e), (E_new (nI (ne G)) ((gM G j).1 3)).2.2) := by
    unfold C_0
    rw [show ne G - 1 = e by omega]
  generalize hTc : T_copy (E_new (nI (ne G)) ((gM G j).1 3)).2.1 (gT G e) = T0 at t1 t2 y1 y2 y3 hC0
  have hXa' : xfr [15] X1 Xa := by rw [hXa]; exact xfr.rf.xs 15 _ _ (by decide)
  have xa15 : Xa.2 15 (e + 1) = nI cl := by rw [hXa]; exact xs_s _ _ _ _
  have cpf := hcp.1
  have fXa : xfr [13, 15, 22, 23, 24, 25, 26] X Xa := (cpf.wk (by decide)).tr (hXa'.wk (by decide))
  have EOa : EO (e + 1) X Xa := by rw [hXa]; exact t3.xs1 15 _ (by decide)
  have TRa : TR T0 Xa (e + 1) := t1.fr hXa' (by decide)
  have a17 : Xa.2 17 (e + 1) = 0 := by rw [(fXa 17 (by decide)).2]; exact z17
  clear hXa
  -- removals
  have hq : ∀ i, 0 ≤ i → i < 0 + nq G → q_re (gQ G) Xa i := fun i _ hi => by
    obtain ⟨q1, q2, -, q4, q5, q6⟩ := hQ i (by omega)
    unfold q_re
    rw [(fXa 43 (by decide)).2, (fXa 45 (by decide)).2]
    exact ⟨q1, q2, q5⟩
  have s0 := AR_sim (X := Xa) (T0 := T0) (M0 := gM G) (e := e) (cl := cl) (G0 := G) (by rw [show ne G - 1 = e by omega]; exact e0) (by omega) hcl (by rw [y1, hDT]; exact hD4) (fun v hv => by
    rw [(y2 v hv).1, (r1.2.1 v hv).1, EOa.2.1 22 (by decide) (by decide) _ (by omega)]) (fun l hl z => by
    have := t2.2.2.2.1 (2 * l) (by omega) z
    rw [Nat.pow_succ] at this
    omega) (nq G) 0 (C_0 G j) hq (by rw [hC0]) (by rw [hC0]) (by rw [hC0]) (by rw [hC0]) (by rw [hC0]; exact hM3) (by rw [hC0]; exact RM.rf T0) (fun i hi => by rw [hC0]; exact (ML_0 (nI e) (gM G i)).symm)
  have k0 := AR_k (nq G) 0 (C_0 G j)
  have hc4 : (C_0 G j).2.1 4 = 0 := by rw [hC0]; rfl
  have hc5 : (C_0 G j).2.1 5 = 0 := by rw [hC0]; rfl
  have hc6 : (C_0 G j).2.1 6 = 0 := by rw [hC0]; rfl
  have hc7 : (C_0 G j).2.1 7 = 0 := by rw [hC0]; rfl
  have hc3 : (C_0 G j).2.1 3 = 0 := by rw [hC0]; rfl
  have hc0 : (C_0 G j).2.1 0 = nI (e + 1) := by rw [hC0]; show nI (ne G) = _; rw [hne]
  have hc1 : (C_0 G j).2.1 1 = nI cl := by rw [hC0]; exact hM3
  have hG0 : (C_0 G j).1 = G := by rw [hC0]
  have hnq0 : nq (C_0 G j).1 = nq G := by rw [hG0]
  have hrem : G_rem (C_0 G j) = ((AR (nq G) 0 (C_0 G j)).1, (AR (nq G) 0 (C_0 G j)).2.1, T_shr 5 (AR (nq G) 0 (C_0 G j)).2.2.1, (AR (nq G) 0 (C_0 G j)).2.2.2) := by
    unfold G_rem
    rw [hnq0]
  rw [hG0] at k0
  generalize hPA : AR (nq G) 0 (C_0 G j) = PA at s0 k0 hrem
  obtain ⟨a1, a2, a3, a4, a5, a6⟩ := s0
  obtain ⟨k1, k2, k3, k4, k5⟩ := k0
  have hTD : T0.2 = D := by rw [y1, hDT]
  have b4 : PA.2.1 4 = X3.2 17 (e + 1) := by rw [a2, hc4, v17, upd_s, a17, hTD]
  have b4' : PA.2.1 4 = X4.2 17 (e + 1) := by rw [b4, (f4 17 (by decide)).2]
  have TR4 : TR T0 X4 (e + 1) := (TRa.fr f3 (by decide)).fr f4 (by decide)
  have rT := rem_TR (b := PA.2.1 4) TR4 (by rw [hTD]; exact hD4) a1
  have TIa : TI PA.2.2.1 := a1.ti t2
  have sh := shr_sim (e := e + 1) T0.2 (dr_m (e + 1) T0.2 (PA.2.1 4) 16 0 X4) PA.2.2.1 5 a1.1 (by rw [hTD]; omega) rT.1 TIa
  rw [hTD, b4', ← hX5] at sh
  rw [hTD, b4'] at rT
  have fX5 : xfr [13, 22, 23, 26] X4 X5 := by
    rw [hX5]
    exact ((dr_m_f (e + 1) D (X4.2 17 (e + 1)) 16 0 X4).wk (by decide)).tr ((dr_s_f (e + 1) D _).wk (by decide))
  have EO5 : EO (e + 1) X4 X5 := rT.2.tr sh.2.2.2
  clear hX5
  generalize hTb : T_shr 5 PA.2.2.1 = Tb at sh hrem
  obtain ⟨sh1, sh2, sh3, sh4⟩ := sh
  -- updates
  have hup : ∀ i, i < nq G → (gQ G i).1 = 2 → (gQ G i).2.2.1 = fu_l X3 i ∧ (∃ l, l < 16 ∧ fu_l X3 i = nI l ∧ ¬ (gT G e).1 0 (2 * l) = -1) ∧ (gQ G i).2.2.2 = sw (X3.2 45 i) := fun i hi z => by
    obtain ⟨q1, q2, ⟨jj, p1, p2, p3⟩, q4, q5, q6⟩ := hQ i hi
    have hfu : fu_l X3 i = fu_l X i := by
      unfold fu_l
      rw [(f3 28 (by decide)).2, (f3 44 (by decide)).2, (fXa 28 (by decide)).2, (fXa 44 (by decide)).2]
    rw [(f3 45 (by decide)).2, (fXa 45 (by decide)).2, hfu]
    refine ⟨(q6 z).1, ?_, (q6 z).2⟩
    rw [show ne G - 1 = e by omega] at p3
    rcases (hM.1 jj p1).2.2 with ⟨c1, -⟩ | ⟨a', l', c1, c2, c3, c4, c5, c6, -⟩
    · exact absurd (p3.symm.trans c1) (nI_nm (by omega))
    · have ea : a' = e := nI_j (by omega) (by omega) (c3.symm.trans p3)
      subst ea
      refine ⟨l', c2, ?_, c6⟩
      unfold fu_l
      rw [p2, ix_nI (by omega)]
      exact c4
  have hq2 : ∀ i, 0 ≤ i → i < 0 + nq G → q_up2 (gQ G) X3 i := fun i _ hi => by
    obtain ⟨q1, q2, -⟩ := hQ i (by omega)
    unfold q_up2
    refine ⟨by rw [(f3 43 (by decide)).2, (fXa 43 (by decide)).2]; exact q1, q2, fun z => ?_⟩
    obtain ⟨w1, ⟨l, w2, w3, -⟩, w4⟩ := hup i (by omega) z
    exact ⟨w1, ⟨l, w2, w3⟩, w4⟩
  have hR2 : (G_rem (C_0 G j)).2.2.1 = Tb := by rw [hrem]
  have hR1 : (G_rem (C_0 G j)).1 = PA.1 := by rw [hrem]
  have hRi : ∀ i, (G_rem (C_0 G j)).2.1 i = PA.2.1 i := fun i => by rw [hrem]
  have hTbD : Tb.2 ≤ 4 := sh2.1
  have x18 : X3.2 18 (e + 1) = 0 := by rw [(f3 18 (by decide)).2, (fXa 18 (by decide)).2]; exact z18
  have AS := AN_sim (X := X3) (T0 := Tb) (e := e + 1) (cl := cl) (en := nI (e + 1)) (Q := gQ G) hcl hTbD (nq G) 0 (G_rem (C_0 G j)) (X3.2 51) hq2 (by rw [hR1, k2]) (by rw [hRi, a3 0 (by decide)]; exact hc0) (by rw [hRi, a3 1 (by decide)]; exact hc1) (by rw [hRi]; exact b4) (by rw [hRi, a3 5 (by decide), hc5, hR2]; exact UM.rf Tb _ _)
  have hC2 : C_2 G j = AN (nq G) 0 (G_rem (C_0 G j)) := by
    unfold C_2
    rw [show nq (G_rem (C_0 G j)).1 = nq G by rw [hR1]; show gN PA.1 1 = _; rw [k1]]
  have hC21 : (C_2 G j).1 = PA.1 := by rw [hC2, AN_k, hR1]
  rw [← hC2] at AS
  generalize hPN : C_2 G j = PN at AS hC21
  rw [hRi, a3 5 (by decide), hc5, ← x18] at AS
  obtain ⟨n1, n2, n3, n4⟩ := AS
  have b5 : PN.2.1 5 = X4.2 18 (e + 1) := by rw [n1, v18, upd_s]
  have fmor : ∀ l, l < 16 → bt (X4.2 18 (e + 1)) l = true → ∃ i, i < nq G ∧ fu_b X3 (e + 1) (nI cl) i ∧ fu_l X3 i = nI l ∧ X4.2 51 l = X3.2 45 i := fun l hl z => by
    rw [v18, upd_s] at z
    rcases fu_m_or (X := X3) (e := e + 1) (mine := nI cl) (nq G) 0 (X3.2 18 (e + 1), X3.2 51) (nq G) (by omega) (fun i hi z => by
      have q2 : (gQ G i).1 = 2 := by
        obtain ⟨q1, q2, -⟩ := hQ i hi
        rw [(f3 43 (by decide)).2, (fXa 43 (by decide)).2, q1, show (2 : Int32) = nI 2 from rfl] at z
        exact nI_j (by omega) (by omega) z
      obtain ⟨-, ⟨l, w2, w3, -⟩, -⟩ := hup i hi q2
      exact ⟨l, w2, w3⟩) l hl z with ⟨y, -⟩ | ⟨i, i1, i2, i3, i4⟩
    · have y : bt (X3.2 18 (e + 1)) l = true := y
      rw [x18, bt_0] at y
      cases y
    · exact ⟨i, i1, i2, i3, by rw [v51]; exact i4⟩
  have hb5 : ∀ l, l < 16 → bt (PN.2.1 5) l = true → ¬ (gT G e).1 0 (2 * l) = -1 ∧ bt (PA.2.1 4) l = false ∧ ¬ sw (X4.2 51 l) = -1 ∧ l ≠ cl ∧ ∃ k, k < nq G ∧ (gQ G k).1 = 2 ∧ (gQ G k).2.2.1 = nI l ∧ (gQ G k).2.2.2 = sw (X4.2 51 l) := fun l hl z => by
    rw [b5] at z
    obtain ⟨i, i1, ⟨i2, i2', i2''⟩, i3, i4⟩ := fmor l hl z
    have q2 : (gQ G i).1 = 2 := by
      obtain ⟨q1, q2, -⟩ := hQ i i1
      rw [(f3 43 (by decide)).2, (fXa 43 (by decide)).2, q1, show (2 : Int32) = nI 2 from rfl] at i2
      exact nI_j (by omega) (by omega) i2
    obtain ⟨w1, ⟨l2, w2, w3, w4⟩, w5⟩ := hup i i1 q2
    have el : l2 = l := nI_j (by omega) (by omega) (w3.symm.trans i3)
    subst el
    obtain ⟨id, d1, d2, -⟩ := hI.2.2.2 i i1 q2
    have hN := hS.1.1.2.1.2.1
    refine ⟨w4, bt_tf (fun y => i2'' ?_), ?_, fun y => i2' ?_, i, i1, q2, w1.trans w3, by rw [i4]; exact w5⟩
    · rw [i3]
      rw [b4] at y
      exact (bit_eq1 (by omega)).mpr y
    · rw [i4, ← w5, d2]
      exact nI_nm (by omega)
    · rw [i3, y]
  have e51 : (fun l => sw ((fu_m X3 (e + 1) (nI cl) (nq G) 0 (X3.2 18 (e + 1), X3.2 51)).2 l)) = fun l => sw (X4.2 51 l) := by rw [v51]
  have n2' : UM Tb (PN.2.1 5) (fun l => sw (X4.2 51 l)) (nI (e + 1)) PN.2.2.1 := by rw [← e51, n1]; exact n2
  have TIb : TI PN.2.2.1 := n2'.ti sh2 (fun l hl z => by
    obtain ⟨w1, w2, w3, -⟩ := hb5 l hl z
    refine ⟨?_, w3⟩
    rw [sh3.2.1 l hl, ((a1.2.1 (2 * l) (by omega)).2 (fun y => by rw [(rb_leaf hl).mp y] at w2; cases w2)).1, (y2 _ (by omega)).1]
    exact w1)
  have hD5' : D5 = Tb.2 := nI_j (by omega) (by omega) (h13.symm.trans sh1.1)
  have uT := upd_TR (b := PN.2.1 5) (nk := X4.2 51) sh1 hTbD n2' (fun l hl z y => (hb5 l hl z).2.2.1 (by rw [y, sw_m1]))
  have c51 : X5.2 51 = X4.2 51 := (fX5 51 (by decide)).2
  have c18 : X5.2 18 (e + 1) = PN.2.1 5 := by rw [(fX5 18 (by decide)).2, b5]
  rw [hD5', c51, c18] at hX7
  have fX6 : xfr [22, 23, 24] X5 (du_m (e + 1) Tb.2 (PN.2.1 5) (X4.2 51) 16 0 X5) := du_m_f _ _ _ _ _ _ _
  generalize du_m (e + 1) Tb.2 (PN.2.1 5) (X4.2 51) 16 0 X5 = X6 at uT fX6 hX7
  have F6 : xfr [13, 15, 17, 18, 22, 23, 24, 25, 26, 51] X X6 := ((((fXa.wk (by decide)).tr (f3.wk (by decide))).tr (f4.wk (by decide))).tr (fX5.wk (by decide))).tr (fX6.wk (by decide))
  have E6 : EO (e + 1) X X6 := by
    have x3 : EO (e + 1) Xa X3 := ⟨fun k h1 h2 i hi => by
      by_cases y : k = 17
      · rw [y, v17, upd_n hi]
      · rw [(f3 k (by simp; omega)).2], fun k h1 h2 i hi => by rw [(f3 k (by simp; omega)).2], fun i hi => by rw [(f3 26 (by decide)).2]⟩
    have x4 : EO (e + 1) X3 X4 := ⟨fun k h1 h2 i hi => by
      by_cases y : k = 18
      · rw [y, v18, upd_n hi]
      · rw [(f4 k (by simp; omega)).2], fun k h1 h2 i hi => by rw [(f4 k (by simp; omega)).2], fun i hi => by rw [(f4 26 (by decide)).2]⟩
    exact (((EOa.tr x3).tr x4).tr EO5).tr uT.2
  -- additions
  have hused : ∀ k, k < np G → ¬ (gK G k).2 2 = nI (e + 1) := fun k hk z => by
    rcases (hP.2.1 k hk).2 with w | ⟨b, l, w1, w2, w3, w4, -⟩
    · exact absurd (z.symm.trans w) (nI_nm (by omega))
    · have := nI_j (by omega) (by omega) (z.symm.trans w4)
      omega
  have hgK : gK PN.1 = gK G := by rw [hC21, k4]
  have hgM : ∀ i, i < 16 → gM PN.1 i = ML (PA.2.1 4) (nI e) (gM G i) := fun i hi => by rw [hC21]; exact a6 i hi
  have hKR : KR (gK PN.1) (np G) X6 := by
    rw [hgK]
    unfold KR
    rw [(F6 36 (by decide)).2, (F6 37 (by decide)).2, (F6 38 (by decide)).2, (F6 39 (by decide)).2, (F6 40 (by decide)).2, (F6 41 (by decide)).2]
    exact hP.1
  have i6 : PN.2.1 6 = X6.2 19 (e + 1) := by
    rw [n3 6 (by decide), hRi, a3 6 (by decide), hc6, (F6 19 (by decide)).2]
    exact z19.symm
  have hMM : MM (gM PN.1) X6 (e + 1) := fun i hi => by
    rw [hgM i hi, (F6 27 (by decide)).2, (F6 28 (by decide)).2]
    have h17 : X6.2 17 (e + 1) = PA.2.1 4 := by rw [(fX6 17 (by decide)).2, (fX5 17 (by decide)).2, b4']
    rw [h17]
    obtain ⟨⟨g1, g2, g3, -⟩, -, gc⟩ := hM.1 i hi
    have hpred : nI (e + 1) - 1 = nI e := nI_pred e
    rw [hpred]
    unfold ML
    by_cases c : (gM G i).1 2 = nI e ∧ ∃ l, l < 16 ∧ (gM G i).1 3 = nI l ∧ bt (PA.2.1 4) l = true
    · rw [if_pos c]
      obtain ⟨c1, l, c2, c3, c4⟩ := c
      refine ⟨g1, fun _ => Or.inr ⟨by rw [← g2]; exact c1, ?_⟩, fun _ => rfl⟩
      rw [← g3, c3]
      exact (bit_eq1 (by omega)).mpr c4
    · rw [if_neg c]
      refine ⟨g1, fun z => Or.inl (by rw [← g2]; exact z), fun z => ?_⟩
      rcases z with z | ⟨z1, z2⟩
      · rw [g2]; exact z
      · exfalso
        rcases gc with ⟨c1, -⟩ | ⟨a', l', c1, c2, c3, c4, -⟩
        · exact absurd (z1.symm.trans c1) (nI_nm (by omega))
        · refine c ⟨by rw [g2]; exact z1, l', c2, by rw [g3]; exact c4, ?_⟩
          rw [c4] at z2
          exact (bit_eq1 (by omega)).mp z2
  have hq3 : ∀ i, 0 ≤ i → i < 0 + nq G → q_ad2 (gQ G) X6 (np G) i := fun i _ hi => by
    obtain ⟨q1, q2, -, q4, -⟩ := hQ i (by omega)
    unfold q_ad2
    rw [(F6 43 (by decide)).2, (F6 45 (by decide)).2]
    exact ⟨q1, q2, q4⟩
  have i0 : PN.2.1 0 = nI (e + 1) := by rw [n3 0 (by decide), hRi, a3 0 (by decide)]; exact hc0
  have b60 : PN.2.1 6 = 0 := by rw [n3 6 (by decide), hRi, a3 6 (by decide)]; exact hc6
  have aa := AA_sim (T1 := PN.2.2.1) (K1 := gK G) (n := np G) (e := e + 1) (Q := gQ G) hused (by omega) hnp60 (nq G) 0 PN X6 hq3 (by rw [hC21, k2]) hMM ⟨uT.1, TIb, hKR, i6, i0, by rw [hgK, b60]; exact AF.rf PN.2.2.1 (gK G) (gM PN.1) (np G) (e + 1) hused⟩
  rw [← hX7] at aa
  have ak := AA_k (nq G) 0 PN
  have hC3 : C_3 G j = AA (nq G) 0 PN := by
    unfold C_3
    rw [hPN, show nq PN.1 = nq G by rw [hC21]; show gN PA.1 1 = _; rw [k1]]
  rw [← hC3] at aa ak
  have F7 : xfr da_K X6 X7 := by rw [hX7]; exact da_m_f _ _ _ _
  generalize C_3 G j = P7 at aa ak
  obtain ⟨⟨g1, g2, g3, g4, g5, g6⟩, g7, g8, g9, g10⟩ := aa
  obtain ⟨l1, l2, l3, l4, l5⟩ := ak
  have FF : xfr cK7 X X7 := (F6.wk (by decide)).tr (F7.wk (by decide))
  have I : ∀ i, i ≠ 4 → i ≠ 5 → i ≠ 6 → P7.2.1 i = (C_0 G j).2.1 i := fun i h4 h5 h6 => by rw [g9 i h6, n3 i h5, hRi, a3 i h4]
  have I4 : P7.2.1 4 = PA.2.1 4 := by rw [g9 4 (by decide), n3 4 (by decide), hRi]
  have I5 : P7.2.1 5 = PN.2.1 5 := g9 5 (by decide)
  have RMg : RM (gT G e) (PA.2.1 4) PA.2.2.1 := a1.cg y1 y2 y3
  have hRB := fr_mine (X := Xa) (e := e) (D := D) hcl (nq G) 0 (nq G) 0 (by omega) (fun k hk z => by
    obtain ⟨q1, q2, -, -, q5, -⟩ := hQ k hk
    rw [(fXa 45 (by decide)).2]
    rw [(fXa 43 (by decide)).2, q1, show (1 : Int32) = nI 1 from rfl] at z
    exact (q5 (nI_j (by omega) (by omega) z)).2) (by rw [bit_bt (by omega), bt_0]; rfl)
  refine ⟨fun l => sw (X4.2 51 l), ⟨g1, g2, PA.2.2.1, Tb, PN.2.2.1, ?_, sh3, ?_, ?_⟩, ⟨?_, ?_, ?_, ?_, ?_, g4, ?_⟩, ⟨by rw [l5, hC21, k5], by rw [l2, hC21, k2], by rw [l3, hC21, k3], by rw [l1, hC21, k1]⟩, fun i hi => by rw [l4, hgM i hi, I4], g3, ⟨FF, E6.tr g7, ?_⟩, fun l hl z => ?_, ?_⟩
  · rw [I4]; exact RMg
  · rw [I5]; exact n2'
  · rw [l4]
    rw [l4] at g6
    exact g6
  · rw [I 0 (by decide) (by decide) (by decide)]; exact hc0
  · rw [I 1 (by decide) (by decide) (by decide)]; exact hc1
  · rw [I 3 (by decide) (by decide) (by decide)]; exact hc3
  · rw [I4, b4', (F7 17 (by decide)).2, (fX6 17 (by decide)).2, (fX5 17 (by decide)).2]
  · rw [I5, b5, (F7 18 (by decide)).2, (fX6 18 (by decide)).2, (fX5 18 (by decide)).2]
  · rw [I 7 (by decide) (by decide) (by decide)]; exact hc7
  · rw [(F7 15 (by decide)).2, (fX6 15 (by decide)).2, (fX5 15 (by decide)).2, (f4 15 (by decide)).2, (f3 15 (by decide)).2]; exact xa15
  · rw [I5] at z
    rw [I4]
    exact hb5 l hl z
  · rw [I4, a2, hc4, hTD]
    exact (bit_eq0 (by omega)).mp hRB
