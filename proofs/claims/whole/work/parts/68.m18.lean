/-! ===== the reference: what renew leaves ===== -/
theorem RI_step {X Y : x_T} {n e D t n1 c1 l : Nat} {la : Int32} (hl : l < 16) (ht1 : 1 ≤ t) (htD : t ≤ D) (hD4 : D ≤ 4) (hR : q_RN X n Y n1) (hI : q_RI e D Y t n1 c1 la) : ∃ n2 c2, q_RN X n (rn_1 e l t (Y, la)).1 n2 ∧ q_RI e D (rn_1 e l t (Y, la)).1 (t + 1) n2 c2 (rn_1 e l t (Y, la)).2 ∧ n2 ≤ n1 + 2 ∧ c2 ≤ c1 + 12 := by
  obtain ⟨hs1, hs2, hs3, hs4⟩ := sib_ok l hl t (by omega) ht1
  obtain ⟨L, hLd⟩ : ∃ L, rsl Y e (t - 1) (sib l t) = L := ⟨_, rfl⟩
  have hL12 : L.length ≤ 12 := by
    rw [← hLd]
    refine Nat.le_trans (rsl_len hI.2.2.2.2.2.2.2.1 (t - 1) (sib l t) (by omega) hs4 hs3) ?_
    rcases (show t = 1 ∨ t = 2 ∨ t = 3 ∨ t = 4 by omega) with rfl | rfl | rfl | rfl <;> decide
  have hn13 := hI.2.2.1
  have hc13 := hI.2.2.2.2.2.1
  by_cases hL0 : L = []
  · have h1 : rn_1 e l t (Y, la) = (mo_bl Y e (abv l t), la) := by rw [rn_1, if_pos (hLd.trans hL0)]
    rw [h1]
    exact ⟨n1, c1, hR.fr (mo_bl_f Y e (abv l t)) (by decide) (by decide) (by decide) (by decide) (by decide), ⟨hI.1, hI.2.1, by omega, hI.2.2.2.1, hI.2.2.2.2.1, by omega, hI.2.2.2.2.2.2.1, uk.put hI.2.2.2.2.2.2.2.1 _, hI.2.2.2.2.2.2.2.2.1, hI.2.2.2.2.2.2.2.2.2⟩, by omega, by omega⟩
  · have h1 : rn_1 e l t (Y, la) = (mo_set (mk (rn_y3 e (abv l t) Y la L) (n1 + 1) 3 (nI n1) 0) e (abv l t) (nI (n1 + 1)), nI n1) := by
      rw [rn_1, if_neg (by rw [hLd]; exact hL0)]
      show (mo_set (mk (rn_y3 e (abv l t) Y la (rsl Y e (t - 1) (sib l t))) (ix (Y.1 1) + 1) 3 (Y.1 1) 0) e (abv l t) (nI (ix (Y.1 1) + 1)), Y.1 1) = _
      rw [hLd, hI.2.1, ix_nI (by omega)]
    rw [h1]
    have hM : q_RN X n (mkl Y la) (n1 + 1) := by
      rw [mkl_of hI.2.1 (by omega)]
      rcases hI.2.2.2.2.2.2.2.2.2 with z | ⟨a, z, ha, ha1, -⟩
      · rw [if_pos z]
        exact q_RN_mk (f := 0) hR (by decide) (Or.inr rfl)
      · rw [if_neg (by rw [z]; exact fun y => absurd y (nI_nm (by omega))), z]
        exact q_RN_mk (f := a) hR (by decide) (Or.inl (by omega))
    have f2 : xfr [16, 25] (mkl Y la) (rn_y2 e (abv l t) Y la) := (xfr.rf.xs 25 _ _ (by decide)).xs 16 _ _ (by decide)
    have hM2 : q_RN X n (rn_y2 e (abv l t) Y la) (n1 + 1) := hM.fr f2 (by decide) (by decide) (by decide) (by decide) (by decide)
    have hf := rn_e_f e (abv l t) (nI n1) L (rn_y2 e (abv l t) Y la)
    obtain ⟨c3, hc3, hc3b⟩ := rn_e_c e (abv l t) (nI n1) L (rn_y2 e (abv l t) Y la) c1 (by rw [rn_y2, mkl_of hI.2.1 (by omega)]; split <;> exact hI.2.2.2.2.1) (by omega)
    have hy : rn_e e (abv l t) (nI n1) L (rn_y2 e (abv l t) Y la) = rn_y3 e (abv l t) Y la L := by rw [rn_y3, hI.2.1]
    rw [hy] at hc3 hf
    have hM3 : q_RN X n (rn_y3 e (abv l t) Y la L) (n1 + 1) := hM2.fr hf (by decide) (by decide) (by decide) (by decide) (by decide)
    have hy13 : (rn_y3 e (abv l t) Y la L).2 13 e = nI D := by
      rw [(hf 13 (by decide)).2, rn_y2, mkl_of hI.2.1 (by omega)]
      split <;> exact hI.1
    have hy12 : (rn_y3 e (abv l t) Y la L).1 12 = nI e := by
      rw [(hf 12 (by decide)).1, rn_y2, mkl_of hI.2.1 (by omega)]
      split <;> exact hI.2.2.2.2.2.2.1
    have hyu : uk ((rn_y3 e (abv l t) Y la L).2 23) e := by
      rw [(hf 23 (by decide)).2, rn_y2, mkl_of hI.2.1 (by omega)]
      split <;> exact hI.2.2.2.2.2.2.2.1
    have hn1 := hI.2.2.2.1
    generalize rn_y3 e (abv l t) Y la L = Y3 at hM3 hy13 hy12 hyu hc3
    have hM4 := q_RN_mk (kd := 3) (f := n1) hM3 (by decide) (Or.inl (by omega))
    refine ⟨n1 + 2, c3, hM4.fr (mo_set_f _ e (abv l t) _) (by decide) (by decide) (by decide) (by decide) (by decide), ⟨hy13, rfl, by omega, by omega, hc3, by omega, hy12, uk.put hyu _, hM4.2.2.2.1, Or.inr ⟨n1, rfl, rfl, hn1, ?_⟩⟩, by omega, by omega⟩
    show upd (Y3.2 2) (n1 + 1) 3 (n1 + 1) = 3
    rw [upd_s]
theorem RI_all {X : x_T} {n e D l : Nat} (hl : l < 16) (hD4 : D ≤ 4) : ∀ (m t : Nat) (Y : x_T) (n1 c1 : Nat) (la : Int32), t + m = D + 1 → 1 ≤ t → q_RN X n Y n1 → q_RI e D Y t n1 c1 la → ∃ n2 c2, q_RN X n (rn_m e l m t (Y, la)).1 n2 ∧ q_RI e D (rn_m e l m t (Y, la)).1 (D + 1) n2 c2 (rn_m e l m t (Y, la)).2 ∧ n2 ≤ n1 + 2 * m ∧ c2 ≤ c1 + 12 * m := by
  intro m
  induction m with
  | zero =>
    intro t Y n1 c1 la ht ht1 hR hI
    have ht2 : t = D + 1 := by omega
    rw [ht2] at hI
    exact ⟨n1, c1, hR, hI, by omega, by omega⟩
  | succ m ih =>
    intro t Y n1 c1 la ht ht1 hR hI
    obtain ⟨n2, c2, h1, h2, h3, h4⟩ := RI_step hl ht1 (by omega) hD4 hR hI
    rw [rn_m]
    generalize rn_1 e l t (Y, la) = p at h1 h2
    obtain ⟨n3, c3, g1, g2, g3, g4⟩ := ih (t + 1) p.1 n2 c2 p.2 (by omega) (by omega) h1 h2
    exact ⟨n3, c3, g1, g2, by omega, by omega⟩
theorem rn_all {X : x_T} {n c e D l : Nat} (hl : l < 16) (hD : X.2 13 e = nI D) (hD4 : D ≤ 4) (hn : X.1 1 = nI n) (hn2 : n + 10 ≤ 2600) (hc : X.1 7 = nI c) (hc2 : c + 48 ≤ 3600) (he12 : X.1 12 = nI e) (hu : uk (X.2 23) e) (hw : WF X n) : ∃ n9 c9, q_RN X n (rn X e l D).1 n9 ∧ n9 ≤ n + 10 ∧ (rn X e l D).1.1 7 = nI c9 ∧ c9 ≤ c + 48 ∧ (rn X e l D).2 = nI (n9 - 1) ∧ 1 ≤ n9 := by
  have hX : q_RN X n X n := ⟨xfr.rf, hn, Nat.le_refl _, hw, fun _ _ => ⟨rfl, rfl, rfl⟩, fun k h1 h2 => by omega⟩
  have h0 : q_RN X n (rn_0 X e l) (n + 1) := by
    rw [rn_0, hn, ix_nI (by omega)]
    exact (q_RN_mk (kd := 1) (f := 0) hX (by decide) (Or.inr rfl)).fr (mo_set_f _ e (2 * l) _) (by decide) (by decide) (by decide) (by decide) (by decide)
  have hI0 : q_RI e D (rn_0 X e l) 1 (n + 1) c (-1) := by
    rw [rn_0, hn, ix_nI (by omega)]
    exact ⟨hD, rfl, by omega, by omega, hc, by omega, he12, uk.put hu _, WF_mk (f := 0) hw 1 0 (Or.inr rfl), Or.inl rfl⟩
  obtain ⟨n2, c2, h1, h2, h3, h4⟩ := RI_all hl hD4 D 1 (rn_0 X e l) (n + 1) c (-1) (by omega) (Nat.le_refl _) h0 hI0
  rw [rn]
  generalize rn_m e l D 1 (rn_0 X e l, -1) = p at h1 h2
  have hb := h2.2.2.1
  refine ⟨n2 + 1, c2, ?_, by omega, ?_, by omega, ?_, by omega⟩
  · show q_RN X n (mkl p.1 p.2) (n2 + 1)
    rw [mkl_of h2.2.1 (by omega)]
    rcases h2.2.2.2.2.2.2.2.2.2 with z | ⟨a, z, ha, ha1, -⟩
    · rw [if_pos z]
      exact q_RN_mk (f := 0) h1 (by decide) (Or.inr rfl)
    · rw [if_neg (by rw [z]; exact fun y => absurd y (nI_nm (by omega))), z]
      exact q_RN_mk (f := a) h1 (by decide) (Or.inl (by omega))
  · show (mkl p.1 p.2).1 7 = nI c2
    rw [mkl_of h2.2.1 (by omega)]
    split <;> exact h2.2.2.2.2.1
  · show p.1.1 1 = nI (n2 + 1 - 1)
    rw [h2.2.1, Nat.add_sub_cancel]
def ch_P (X : x_T) (e : Nat) (pa : Int32) : Prop := ¬ pa = 0 ∨ ¬ X.2 17 (e + 1) = 0 ∨ ¬ X.2 18 (e + 1) = 0 ∨ X.2 19 (e + 1) = 0
abbrev ch_z4 (X9 : x_T) (e n9 : Nat) (cv : Int32) : x_T := xs (mk (mk (mk X9 n9 6 (X9.2 14 e) 0) (n9 + 1) 4 (nI n9) cv) (n9 + 2) 5 (nI (n9 + 1)) 0) 14 (e + 1) (nI (n9 + 2))
noncomputable def ch_z7 (X9 : x_T) (e n9 p D7 : Nat) (cv : Int32) : x_T := ch_l e 16 0 (xi (we_m (ch_z4 X9 e n9 cv) (e + 1) D7 (nI (n9 + 1)) p 0 (ch_z4 X9 e n9 cv)) 12 (nI (e + 2)))
def q_CH4 (X : x_T) (l e D wt : Nat) (X4 : x_T) : Prop := ∃ X1 Xa X3, q_cp X e (e + 1) D 31 16 X1 ∧ Xa = xs X1 15 (e + 1) (nI l) ∧ xfr [17] Xa X3 ∧ X3.2 17 = upd (Xa.2 17) (e + 1) (fr_m Xa e D (nI l) wt 0 (Xa.2 17 (e + 1))) ∧ xfr [18, 51] X3 X4 ∧ X4.2 18 = upd (X3.2 18) (e + 1) (fu_m X3 (e + 1) (nI l) wt 0 (X3.2 18 (e + 1), X3.2 51)).1 ∧ X4.2 51 = (fu_m X3 (e + 1) (nI l) wt 0 (X3.2 18 (e + 1), X3.2 51)).2
def q_CH7 (X : x_T) (l e D wt : Nat) (X7 : x_T) (D7 : Nat) : Prop := ∃ X4 X5 D5, q_CH4 X l e D wt X4 ∧ X5 = dr_s (e + 1) D (dr_m (e + 1) D (X4.2 17 (e + 1)) 16 0 X4) ∧ X5.2 13 (e + 1) = nI D5 ∧ D5 ≤ 4 ∧ X7 = da_m (e + 1) wt 0 (du_m (e + 1) D5 (X5.2 18 (e + 1)) (X5.2 51) 16 0 X5) ∧ X7.2 13 (e + 1) = nI D7 ∧ D7 ≤ 4
noncomputable def ch_8 (X7 : x_T) (e : Nat) (pa : Int32) : x_T := xs X7 21 (e + 1) (b2i (ch_P X7 e pa))
def q_CH9 (X7 : x_T) (l e D7 n9 : Nat) (pa cv : Int32) (X9 : x_T) : Prop := ∃ Y9, ((ch_P X7 e pa ∧ Y9 = (rn (ch_8 X7 e pa) (e + 1) l D7).1 ∧ cv = (rn (ch_8 X7 e pa) (e + 1) l D7).2) ∨ (¬ ch_P X7 e pa ∧ Y9 = ch_8 X7 e pa ∧ cv = 0)) ∧ xfr rs_K Y9 X9 ∧ Y9.1 1 = nI n9
noncomputable def ch_fin (X9 : x_T) (mm l e n9 p D7 : Nat) (cv : Int32) : x_T := xi (ad (ch_z7 X9 e n9 p D7 cv) mm (e + 1) l D7 ((ch_z7 X9 e n9 p D7 cv).2 21 (e + 1))) 42 0
def q_CH (X : x_T) (mm l e D wt p : Nat) (pa : Int32) (X' : x_T) : Prop := ∃ X7 D7 n9 cv X9, n9 ≤ 2600 ∧ q_CH7 X l e D wt X7 D7 ∧ q_CH9 X7 l e D7 n9 pa cv X9 ∧ X' = ch_fin X9 mm l e n9 p D7 cv
theorem we_m_f (X0 : x_T) (e D : Nat) (jn : Int32) : ∀ (m k : Nat) (X : x_T), xfr en_K X (we_m X0 e D jn m k X) := by
  intro m
  induction m with
  | zero => intro k X; exact xfr.rf
  | succ m ih =>
    intro k X
    rw [we_m]
    refine xfr.tr ?_ (ih (k + 1) _)
    unfold we_1
    split
    · split
      · exact mo_enc_f _ _ _ _ _ _
      · exact (mo_enc_f _ _ _ _ _ _).tr (mo_enc_f _ _ _ _ _ _)
    · exact xfr.rf
