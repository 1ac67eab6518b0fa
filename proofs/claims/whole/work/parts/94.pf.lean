/-! ===== the pure part: the whole path ===== -/
theorem PS.all {E7 : e_T} {e cl k : Nat} {T0 : List Nat} {X0 : x_T} {n0 c0 l0 : Nat} (hcl : cl < 16) (hD : E7.2.1.2 ≤ 4) (hclD : cl < 2 ^ E7.2.1.2) (h0 : E7.1 0 = nI e) (h1 : E7.1 1 = nI cl) (h6 : E7.1 6 = X0.2 19 e) (hn3 : 3 ≤ n0) (hn0 : n0 + 20 ≤ 2200) (hl0 : l0 + 40 ≤ 2600) (hc0 : c0 + 40 ≤ 3600) : ∀ (m t : Nat) (q : (e_T × s_T) × Int32) (p : x_T × Int32) (N c : Nat) (L : w_L) (TT : List Nat), 1 ≤ t → t + m = E7.2.1.2 + 1 → PS E7 e cl k T0 X0 n0 c0 l0 t q p N c L TT → ∃ N' c' L' TT', PS E7 e cl k T0 X0 n0 c0 l0 (E7.2.1.2 + 1) (ES_lay m t q) (rn_m e cl m t p) N' c' L' TT' := by
  intro m
  induction m with
  | zero =>
    intro t q p N c L TT ht1 ht h
    have : t = E7.2.1.2 + 1 := by omega
    subst this
    exact ⟨N, c, L, TT, h⟩
  | succ m ih =>
    intro t q p N c L TT ht1 ht h
    obtain ⟨N1, c1, L1, TT1, h1'⟩ := h.step hcl ht1 (by omega) hD hclD h0 h1 h6 hn3 hn0 hl0 hc0
    unfold ES_lay rn_m
    exact ih (t + 1) _ _ N1 c1 L1 TT1 (by omega) (by omega) h1'
theorem PS.init {E7 : e_T} {e cl k : Nat} {T0 TT : List Nat} {X0 : x_T} {n0 c0 : Nat} {S : s_T} {L : w_L} (hcl : cl < 16) (hclD : cl < 2 ^ E7.2.1.2) (h0 : E7.1 0 = nI e) (h1 : E7.1 1 = nI cl) (hn3 : 3 ≤ n0) (hn0 : n0 + 20 ≤ 2200) (hR : TR E7.2.1 X0 e) (hI : TI E7.2.1) (hid : IDT E7.2.1 n0) (hS : SQ k T0 S n0 L TT) (hX : IX X0 n0 c0 L) (hn : X0.1 1 = nI n0) (hc : X0.1 7 = nI c0) (h3 : E7.1 3 = 0) (h16 : X0.2 16 e = 0) (h7 : E7.1 7 = X0.2 20 e) : PS E7 e cl k T0 X0 n0 c0 L.length 1 (ES_q0 E7 S) (rn_0 X0 e cl, -1) (n0 + 1) c0 L TT := by
  have ha := abv_ok cl hcl 0 (by decide)
  rw [abv_0] at ha
  have hnode : j_node (E7.1 1) 0 = nI (2 * cl) := by rw [h1]; exact ha.1
  obtain ⟨f1, f2⟩ := hS.fresh (by omega)
  unfold ES_q0 rn_0
  have hx : ix (X0.1 1) = n0 := by rw [hn]; exact ix_nI (by omega)
  rw [hnode, f1, hx, hn, h0]
  obtain ⟨k1, k2, k3, k4, k5, k6⟩ := mk_r X0 n0 1 0 0
  have hlf : hgt (2 * cl) = 0 := hgt_leaf cl hcl
  have hab : ab cl (2 * cl) := (ab_leaf cl hcl cl hcl).mpr rfl
  have t0 := fun w => T_give_0 (T := E7.2.1) (k := nI n0) (e := nI e) (v := 2 * cl) ha.2 w
  have t1 := fun w => T_give_1 (T := E7.2.1) (k := nI n0) (e := nI e) (v := 2 * cl) ha.2 w
  have t3 : (T_give E7.2.1 (nI (2 * cl)) (nI n0) (nI e)).1 3 = E7.2.1.1 3 := rfl
  have t4 : (T_give E7.2.1 (nI (2 * cl)) (nI n0) (nI e)).2 = E7.2.1.2 := rfl
  have tTI : TI (T_give E7.2.1 (nI (2 * cl)) (nI n0) (nI e)) := TI_give hI ha.2 hcl hab (by omega) (Or.inl rfl) (fun z => absurd z (nI_nm (by omega))) hclD
  have mf : xfr [1, 2, 3, 4] X0 (mk X0 n0 1 0 0) := ((((xfr.rf).xs 2 _ _ (by decide)).xs 3 _ _ (by decide)).xs 4 _ _ (by decide)).xi 1 _ (by decide)
  have tTR : TR (T_give E7.2.1 (nI (2 * cl)) (nI n0) (nI e)) (mo_set (mk X0 n0 1 0 0) e (2 * cl) (nI n0)) e := by
    have := set_TR (k := nI n0) (hR.fr mf (by decide)) ha.2 (nI_nm (by omega))
    rw [← sg_nI (by omega), sg_big (by omega)] at this
    exact this
  have zE : EO e X0 (mo_set (mk X0 n0 1 0 0) e (2 * cl) (nI n0)) := EO.set (EO.of mf (by decide)) (2 * cl) _ ha.2
  have zf : xfr rn_K X0 (mo_set (mk X0 n0 1 0 0) e (2 * cl) (nI n0)) := (mf.wk (by decide)).tr ((mo_set_f _ e (2 * cl) (nI n0)).wk (by decide))
  have z22 : ∀ i, i ≠ 22 → i ≠ 23 → i ≠ 24 → (mo_set (mk X0 n0 1 0 0) e (2 * cl) (nI n0)).2 i = (mk X0 n0 1 0 0).2 i := fun i h1 h2 h3 => ((mo_set_f (mk X0 n0 1 0 0) e (2 * cl) (nI n0)) i (by simp [h1, h2, h3])).2
  have z1 : ∀ i, (mo_set (mk X0 n0 1 0 0) e (2 * cl) (nI n0)).1 i = (mk X0 n0 1 0 0).1 i := fun i => rfl
  generalize T_give E7.2.1 (nI (2 * cl)) (nI n0) (nI e) = T' at t0 t1 t3 t4 tTI tTR ⊢
  generalize mo_set (mk X0 n0 1 0 0) e (2 * cl) (nI n0) = Z at tTR zE zf z22 z1 ⊢
  generalize mk X0 n0 1 0 0 = W at k1 k2 k3 k4 k5 k6 mf z22 z1
  have XE1 : XE X0 n0 c0 Z (n0 + 1) c0 := by
    refine ⟨by omega, Nat.le_refl _, fun k hk => ?_, fun j hj => ?_⟩
    · rw [z22 2 (by decide) (by decide) (by decide), z22 3 (by decide) (by decide) (by decide), z22 4 (by decide) (by decide) (by decide), k3, k4, k5, if_neg (by omega), if_neg (by omega), if_neg (by omega)]
      exact ⟨rfl, rfl, rfl⟩
    · rw [z22 8 (by decide) (by decide) (by decide), z22 9 (by decide) (by decide) (by decide), z22 10 (by decide) (by decide) (by decide), z22 11 (by decide) (by decide) (by decide), k6 8 (by decide) (by decide) (by decide), k6 9 (by decide) (by decide) (by decide), k6 10 (by decide) (by decide) (by decide), k6 11 (by decide) (by decide) (by decide)]
      exact ⟨rfl, rfl, rfl, rfl⟩
  have IX1 : IX Z (n0 + 1) c0 L := by
    refine hX.grow XE1 (by omega) (fun x hx => hx) (fun k hk hk2 => ?_) (fun j h1 h2 => by omega) (fun f w t' hm => Or.inl hm)
    have y : k = n0 := by omega
    unfold IK
    rw [z22 2 (by decide) (by decide) (by decide), z22 3 (by decide) (by decide) (by decide), z22 4 (by decide) (by decide) (by decide), k3, k4, k5, if_pos y, if_pos y, if_pos y]
    exact ⟨fun z => absurd z (by decide), 0, 0, by omega, by omega, rfl, rfl, Or.inr rfl, fun _ z _ => absurd rfl z, fun z => absurd z (by decide)⟩
  refine ⟨⟨tTR, tTI, t4, fun u hu z => ?_⟩, ⟨f2, IX1, XE1, by rw [z1]; exact k1, by rw [z1, k2 7 (by decide)]; exact hc⟩, ⟨by omega, by omega, by unfold lB; rw [if_pos (Nat.le_refl _)]; omega, by omega⟩, ⟨fun i _ _ => rfl, ?_, ?_⟩, Or.inl ⟨rfl, rfl⟩, ⟨fun u hu z => ?_, t3, ?_⟩, fun u hu1 hu2 => by omega, fun u u' hu1 hu2 hu3 z => by omega, fun w hw z => ?_, zf, zE⟩
  · have z : ¬ T'.1 0 u = -1 := z
    show ∃ i, 1 ≤ i ∧ i < n0 + 1 ∧ T'.1 0 u = nI i
    rw [t0] at z ⊢
    by_cases y : u = 2 * cl
    · rw [if_pos y]
      exact ⟨n0, by omega, by omega, rfl⟩
    · rw [if_neg y] at z ⊢
      obtain ⟨i, i1, i2, i3⟩ := hid u hu z
      exact ⟨i, i1, by omega, i3⟩
  · show E7.1 3 = Z.2 16 e
    rw [z22 16 (by decide) (by decide) (by decide), k6 16 (by decide) (by decide) (by decide), h16, h3]
  · show E7.1 7 = Z.2 20 e
    rw [z22 20 (by decide) (by decide) (by decide), k6 20 (by decide) (by decide) (by decide)]
    exact h7
  · show T'.1 0 u = _ ∧ T'.1 1 u = _
    have y : ¬ u = 2 * cl := fun y => z ⟨by rw [y]; exact hab, by rw [y, hlf]; omega⟩
    rw [t0, t1, if_neg y, if_neg y]
    exact ⟨rfl, rfl⟩
  · show T'.1 0 (2 * cl) = _
    rw [t0, if_pos rfl]
  · have z : bt (E7.1 3) w = true := z
    rw [h3, bt_0] at z
    cases z
/-- the path's end: the last secret of it -/
theorem PS.fin {E7 : e_T} {e cl k : Nat} {T0 TT : List Nat} {X0 : x_T} {n0 c0 l0 t : Nat} {q : (e_T × s_T) × Int32} {p : x_T × Int32} {N c : Nat} {L : w_L} (h : PS E7 e cl k T0 X0 n0 c0 l0 t q p N c L TT) (hN : N < 2200) (hL : L.length < 2600) (hn3 : 3 ≤ n0) : (S_nxt q.1.2 q.2).1 = nI N ∧ p.1.1 1 = nI N ∧ ∃ L1 TT1, SQ k T0 (S_nxt q.1.2 q.2).2 (N + 1) L1 TT1 ∧ L1.length ≤ L.length + 1 ∧ IX (mkl p.1 p.2) (N + 1) c L1 ∧ XE p.1 N c (mkl p.1 p.2) (N + 1) c ∧ (mkl p.1 p.2).1 1 = nI (N + 1) ∧ (mkl p.1 p.2).1 7 = nI c ∧ xfr [1, 2, 3, 4] p.1 (mkl p.1 p.2) := by
  obtain ⟨-, ⟨b1, b2, b3, b4, b5⟩, ⟨c1, c2, c3, c4⟩, -, e1, -⟩ := h
  obtain ⟨i1, L1, TT1, i2, i3, i4, i5, i6⟩ := nxt_r (last := q.2) b1 hN hL (by
    rcases e1 with z | ⟨a, z1, z2, z3, z4⟩
    · exact Or.inl z.1
    · exact Or.inr ⟨a, z2, z3⟩)
  obtain ⟨m1, m2, m3, m4, m5, m6⟩ := mkl_r b4 (by omega) p.2
  have XE1 : XE p.1 N c (mkl p.1 p.2) (N + 1) c := by
    refine ⟨by omega, Nat.le_refl _, fun k hk => ?_, fun j hj => ?_⟩
    · rw [m3, m4, m5, if_neg (by omega), if_neg (by omega), if_neg (by omega)]
      exact ⟨rfl, rfl, rfl⟩
    · rw [m6 8 (by decide) (by decide) (by decide), m6 9 (by decide) (by decide) (by decide), m6 10 (by decide) (by decide) (by decide), m6 11 (by decide) (by decide) (by decide)]
      exact ⟨rfl, rfl, rfl, rfl⟩
  have sgN : sg N = N := sg_big (by omega)
  refine ⟨i1, b4, L1, TT1, i2, i3, b2.grow XE1 (by omega) i4 (fun k hk hk2 => ?_) (fun j h1 h2 => by omega) (fun f w t' hm => ?_), XE1, m1, by rw [m2 7 (by decide)]; exact b5, fun i hi => ?_⟩
  · have y : k = N := by omega
    unfold IK
    rw [m3, m4, m5, if_pos y, if_pos y, if_pos y]
    rcases e1 with z | ⟨a, z1, z2, z3, z4⟩
    · rw [if_pos z.2, if_pos z.2]
      exact ⟨fun z => absurd z (by decide), 0, 0, by omega, by omega, rfl, rfl, Or.inr rfl, fun _ z _ => absurd rfl z, fun z => absurd z (by decide)⟩
    · have y3 : ¬ p.2 = -1 := by rw [z4]; exact nI_nm (by omega)
      rw [if_neg y3, if_neg y3]
      refine ⟨fun z => absurd z (by decide), a, 0, by omega, by omega, z4, rfl, by omega, fun _ _ _ => ?_, fun z => absurd z (by decide)⟩
      rw [y, sgN, sg_big (by omega)]
      exact i6 a z2 z3
  · rcases i5 _ hm with z | ⟨a, z1, z2, z3⟩
    · exact Or.inl z
    · cases z3
      refine Or.inr (Or.inr ⟨by rw [sgN]; omega, Or.inl ⟨rfl, ?_⟩⟩)
      rcases e1 with z | ⟨a', y1, y2, y3, y4⟩
      · exact absurd (z2.symm.trans z.1) (nI_nm (by omega))
      · have y5 : ¬ p.2 = -1 := by rw [y4]; exact nI_nm (by omega)
        have y6 : a' = f := (nI_eq (by omega) (by omega)).mp (y3.symm.trans z2)
        rw [sgN, m3, m4, if_pos rfl, if_pos rfl, if_neg y5, if_neg y5, y4, y6, sg_big (by omega)]
        exact ⟨by decide, by decide, by decide, rfl⟩
  · simp only [List.mem_cons, List.not_mem_nil, or_false, not_or] at hi
    exact ⟨m2 i hi.1, m6 i hi.2.1 hi.2.2.1 hi.2.2.2⟩
