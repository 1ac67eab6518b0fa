/-! ===== the pure part: what the contracts ask for ===== -/
def SN (S : s_T) : Prop := ∃ n k0, S_n S n k0
theorem SN.fresh {S : s_T} (h : SN S) : SN (S_fresh S).2 := by
  obtain ⟨n, k0, a, b, c, d⟩ := h
  unfold S_fresh
  by_cases z : S.2 0 < 2200
  · rw [if_pos z]
    exact ⟨n, k0, (upd_n (f := S.2) (i := 0) (k := 1) (a := S.2 0 + 1) (by decide)).trans a, b, (upd_n (f := S.2) (i := 0) (k := 3) (a := S.2 0 + 1) (by decide)).trans c, d⟩
  · rw [if_neg z]
    exact ⟨n, k0, a, b, c, d⟩
theorem SN.tell {S : s_T} (h : SN S) (x : Int32) : SN (S_tell S x) := by
  classical
  obtain ⟨n, k0, a, b, c, d⟩ := h
  unfold S_tell
  by_cases z : ¬ x < 0 ∧ ¬ S.2 0 ≤ x ∧ r_get (s_len 0) (S.1 0) x = 0
  · rw [if_pos z]
    exact ⟨n, k0, (upd_n (f := S.2) (i := 2) (k := 1) (a := S.2 2 + 1) (by decide)).trans a, b, (upd_n (f := S.2) (i := 2) (k := 3) (a := S.2 2 + 1) (by decide)).trans c, d⟩
  · rw [if_neg z]
    exact ⟨n, k0, a, b, c, d⟩
theorem SN.opn {S : s_T} (h : SN S) (f w t : Int32) : SN (S_open S f w t) := by
  classical
  unfold S_open
  by_cases z : S.2 1 < 2600
  · rw [if_pos z]
    have h1 : SN (S_way S f w t) := by
      obtain ⟨n, k0, a, b, c, d⟩ := h
      rw [a] at z
      have hn : n < 2600 := by
        rcases Nat.lt_or_ge n 2600 with y | y
        · exact y
        · have : n = 2600 := by omega
          subst this
          exact absurd z (by decide)
      refine ⟨n + 1, k0, ?_, by omega, ?_, d⟩
      · show upd S.2 1 (S.2 1 + 1) 1 = _
        rw [upd_s, a, nI_1]
      · show upd S.2 1 (S.2 1 + 1) 3 = _
        rw [upd_n (by decide)]
        exact c
    by_cases y : S_told (S_way S f w t) f ∧ S_told (S_way S f w t) w
    · rw [if_pos y]; exact h1.tell t
    · rw [if_neg y]; exact h1
  · rw [if_neg z]; exact h
theorem SN.der {S : s_T} (h : SN S) (x : Int32) : SN (S_der S x).2 := h.fresh.opn _ _ _
theorem SN.joi {S : s_T} (h : SN S) (i l : Int32) : SN (S_joi S i l).2 := (h.fresh.opn _ _ _).opn _ _ _
theorem SN.nxt {S : s_T} (h : SN S) (l : Int32) : SN (S_nxt S l).2 := by
  unfold S_nxt
  by_cases z : l = -1
  · rw [if_pos z]; exact h.fresh
  · rw [if_neg z]; exact h.der l
theorem SN.enc (rd x : Int32) : ∀ (m k : Nat) (p : e_T × s_T), SN p.2 → SN (ES_enc rd x m k p).2 := by
  classical
  intro m
  induction m with
  | zero => intro k p h; exact h
  | succ m ih =>
    intro k p h
    unfold ES_enc
    refine ih (k + 1) _ ?_
    unfold ES_1
    by_cases z : j_in rd (nI k)
    · rw [if_pos z]; exact h.opn _ _ _
    · rw [if_neg z]; exact h
theorem SN.lay : ∀ (m k : Nat) (q : (e_T × s_T) × Int32), SN q.1.2 → SN (ES_lay m k q).1.2 := by
  intro m
  induction m with
  | zero => intro k q h; exact h
  | succ m ih =>
    intro k q h
    unfold ES_lay
    refine ih (k + 1) _ ?_
    unfold ES_lay1
    by_cases z : T_reso q.1.1.2.1 (E_bes q.1.1 (nI k)) = 0
    · rw [if_pos z]; exact h
    · rw [if_neg z]
      exact SN.enc _ _ _ _ _ ((h.nxt _).der _)
theorem SN.aw (jn : Int32) : ∀ (m k : Nat) (p : G_T × e_T), SN (gS p.1) → SN (gS (AW jn m k p).1) := by
  intro m
  induction m with
  | zero => intro k p h; exact h
  | succ m ih =>
    intro k p h
    unfold AW
    refine ih (k + 1) _ ?_
    unfold AW_1
    by_cases z : (gK p.1 k).2 2 = p.2.1 0
    · rw [if_pos z]
      by_cases y : E_lc (E_enc p.2) ((gK p.1 k).2 3) p.2.2.1.2 1 = -1
      · rw [if_pos y]; exact h.opn _ _ _
      · rw [if_neg y]; exact (h.opn _ _ _).opn _ _ _
    · rw [if_neg z]; exact h
theorem SN.c5 {G : G_T} (h : SN (gS G)) (j : Nat) (pa : Int32) : SN (gS (C_5 (C_4 G j pa)).1) := by
  classical
  have h3 : SN (gS (C_3 G j).1) := by
    unfold C_3
    rw [(AA_k _ _ _).2.2.2.2]
    unfold C_2
    rw [AN_k, (G_rem_k _).2.2.2.2]
    exact h
  have h4 : SN (gS (C_4 G j pa).1.1) := by
    unfold C_4
    generalize C_3 G j = P at h3
    by_cases z : E_need P.2 pa
    · rw [if_pos z]
      have hp : SN (ES_path P.2 (gS P.1)).1.2 := by
        show SN (ES_lay P.2.2.1.2 1 (ES_q0 P.2 (gS P.1))).1.2
        exact SN.lay _ _ (ES_q0 P.2 (gS P.1)) h3.fresh
      show SN (S_nxt (ES_path P.2 (gS P.1)).1.2 (ES_path P.2 (gS P.1)).2).2
      generalize ES_path P.2 (gS P.1) = Q at hp
      exact hp.nxt Q.2
    · rw [if_neg z]; exact h3
  clear h3
  generalize C_4 G j pa = q at h4
  have hi : SN (C_ini q.1).2 := h4.der _
  have hj : SN (C_joi q).2 := hi.joi _ _
  have hs : SN (C_sec q).2 := hj.der _
  unfold C_5
  generalize (C_sec q).2 = Sx at hs
  exact SN.aw _ _ _ _ hs
theorem R.sn {n : Nat} {G : G_T} {X : x_T} (h : R n G X) : SN (gS G) := by
  obtain ⟨h5, N, c, L, T, ro, cn, hA, hT, hM, hP, hQ, hI, hS⟩ := h
  have s1 := hS.1.1
  have := s1.T_len
  have := s1.2.1.2.1
  exact ⟨L.length, T.length, s1.1.2.1, s1.2.1.2.2.1, s1.1.2.2.2, by omega⟩
theorem S_n_u {S : s_T} {n k n' k' : Nat} (h : S_n S n k) (h' : S_n S n' k') : n = n' ∧ k = k' := by
  obtain ⟨a1, a2, a3, a4⟩ := h
  obtain ⟨b1, b2, b3, b4⟩ := h'
  exact ⟨nI_j (by omega) (by omega) (a1.symm.trans b1), nI_j (by omega) (by omega) (a3.symm.trans b3)⟩
/-- what the reference's commit asks for -/
theorem R.pre {n : Nat} {G : G_T} {X : x_T} (h : R n G X) : ∃ e D N c s14, ne G = e + 1 ∧ X.1 12 = nI (e + 1) ∧ e + 1 ≤ 60 ∧ (∀ j, j < 16 → X.2 27 j = nI e → ∃ l, l < 16 ∧ X.2 28 j = nI l ∧ bit (X.2 17 (e + 1)) l = 0) ∧ X.2 13 e = nI D ∧ D ≤ 4 ∧ (∀ k, k < nq G → X.2 43 k = 1 → ∃ l, l < 16 ∧ X.2 45 k = nI l) ∧ (∀ k, k < nq G → ∃ j, j < 16 ∧ X.2 44 k = nI j) ∧ (∀ k, k < nq G → X.2 43 k = 2 → ∃ l, l < 16 ∧ fu_l X k = nI l) ∧ (∀ k, k < nq G → X.2 43 k = 0 → ∃ p j, p < 60 ∧ j < 16 ∧ X.2 45 k = nI p ∧ X.2 36 p = nI j) ∧ X.1 1 = nI N ∧ 1 ≤ N ∧ N + 13 ≤ 2600 ∧ X.1 7 = nI c ∧ c + 48 + 2 * np G ≤ 3600 ∧ uk (X.2 23) e ∧ WF X N ∧ (∀ k, k < N → X.2 2 k = 6 → ¬ X.2 3 k = X.2 14 e) ∧ X.2 14 e = nI s14 ∧ s14 < N ∧ ∀ k, X.2 39 k = nI (e + 1) → ∃ l, l < 16 ∧ X.2 40 k = nI l := by
  obtain ⟨h5, N, c, L, T, ro, cn, hA, hT, hM, hP, hQ, hI, hS⟩ := h
  obtain ⟨⟨a1, a2, a3, a4, a5, a6, a7⟩, a8, a9⟩ := hA
  obtain ⟨e, he⟩ : ∃ e, ne G = e + 1 := ⟨ne G - 1, by omega⟩
  obtain ⟨⟨r1, r2, r3⟩, ⟨e0, e1, e2, e3, e4, e5, e6, e7⟩, e21⟩ := a8 e (by omega)
  obtain ⟨⟨s1, s2, s3, s4, s5, s6⟩, -, ⟨b1, b2, b3, b4⟩, b5⟩ := hS
  obtain ⟨k1, k2, k3, ⟨s, d1, d2, d3, d4⟩, k5, k6⟩ := hI.1 e (by omega)
  have hcu := cU_le (gK G) (np G)
  have hN := s1.2.1.2.1
  have x14 : X.2 14 e = nI (sg s) := by rw [sg_nI (by omega), ← d3, e2, sw_sw]
  have pj : ∀ k, k < nq G → ∃ j, j < 16 ∧ X.2 44 k = nI j ∧ X.2 27 j = nI e := fun k hk => by
    obtain ⟨-, -, ⟨j, j1, j2, j3⟩, -⟩ := hQ k hk
    rw [he] at j3
    exact ⟨j, j1, j2, by simpa using j3⟩
  have lf : ∀ j, j < 16 → X.2 27 j = nI e → ∃ l, l < 16 ∧ X.2 28 j = nI l := fun j hj z => by
    rcases (hM.1 j hj).2.2 with ⟨c1, -⟩ | ⟨a', l', c1, c2, c3, c4, -⟩
    · exact absurd (z.symm.trans c1) (nI_nm (by omega))
    · exact ⟨l', c2, c4⟩
  refine ⟨e, (gE G e).2.1.2, N, c, sg s, he, by rw [a1, he], by omega, fun j hj z => ?_, r1.1, r2.1, fun k hk z => ?_, fun k hk => ?_, fun k hk z => ?_, fun k hk z => ?_, s5, by omega, by omega, s6, by omega, uk_of r1 r2, fun k hk => ?_, fun k hk z y => ?_, x14, sg_lt b1 (by omega), fun k z => ?_⟩
  · obtain ⟨l, l1, l2⟩ := lf j hj z
    refine ⟨l, l1, l2, ?_⟩
    rw [(a9 (e + 1) (by omega) (by omega)).2.2.1, bit_bt (by omega), bt_0]
    rfl
  · obtain ⟨q1, q2, -, -, q5, -⟩ := hQ k hk
    rw [q1, show (1 : Int32) = nI 1 from rfl] at z
    exact (q5 (nI_j (by omega) (by omega) z)).2
  · obtain ⟨j, j1, j2, -⟩ := pj k hk
    exact ⟨j, j1, j2⟩
  · obtain ⟨j, j1, j2, j3⟩ := pj k hk
    obtain ⟨l, l1, l2⟩ := lf j j1 j3
    refine ⟨l, l1, ?_⟩
    unfold fu_l
    rw [j2, ix_nI (by omega)]
    exact l2
  · obtain ⟨q1, q2, -, q4, -⟩ := hQ k hk
    rw [q1, show (0 : Int32) = nI 0 from rfl] at z
    obtain ⟨p1, p2⟩ := q4 (nI_j (by omega) (by omega) z)
    obtain ⟨w1, w2, -⟩ := hP.1 _ p1
    exact ⟨_, _, by omega, w1, p2, w2⟩
  · obtain ⟨-, f, s', f1, f2, f3, f4, f5, -⟩ := s4.1 k hk
    exact ⟨f, f3, f5⟩
  · obtain ⟨f, s', f1, f2, f3, f4⟩ := b5 k hk z
    rw [he, show e + 1 - 1 = e by omega] at f4
    rw [f3, f4] at y
    have := nI_j (by omega) (by omega) y
    omega
  · rcases Nat.lt_or_ge k (np G) with y | y
    · exfalso
      obtain ⟨w1, w2, w3, w4, w5, w6, w7, w8⟩ := hP.1 k y
      rcases (hP.2.1 k y).2 with u | ⟨b, l, u1, u2, u3, u4, -⟩
      · rw [w6, z] at u
        exact nI_nm (by omega) u
      · rw [w6, z] at u4
        have := nI_j (by omega) (by omega) u4
        omega
    · rw [(hP.2.2.2.1 k y).1, show (0 : Int32) = nI 0 from rfl] at z
      have := nI_j (by omega) (by omega) z
      omega
theorem R.jpre {n : Nat} {G : G_T} {X : x_T} (h : R n G X) : (∀ q, q < np G → ¬ X.2 39 q = -1 → ∃ a l, a < 60 ∧ l < 16 ∧ X.2 39 q = nI a ∧ X.2 40 q = nI l) ∧ (∀ j, j < 16 → ∀ y, y ∈ gat X j → ∃ id, id < 2600 ∧ y = nI id) ∧ ∀ e v, e < ne G → v < 31 → (rsl X e (hgt v) v).length ≤ 32 := by
  obtain ⟨h5, N, c, L, T, ro, cn, hA, hT, hM, hP, hQ, hI, hS⟩ := h
  have h60 := hA.1.2.2.1
  refine ⟨fun q hq z => ?_, fun j hj y hy => ?_, fun e v he hv => ?_⟩
  · obtain ⟨w1, w2, w3, w4, w5, w6, w7, w8⟩ := hP.1 q hq
    rcases (hP.2.1 q hq).2 with u | ⟨b, l, u1, u2, u3, u4, u5, -⟩
    · rw [w6] at u
      exact absurd u z
    · exact ⟨b, l, by omega, u3, w6.symm.trans u4, (w7 z).symm.trans u5⟩
  · obtain ⟨u, u1, u2, u3, u4, u5, u6⟩ := CL_r hA hM hP hI hS hj
    have hN := hS.1.1.2.1.2.1
    have hN3 := hS.2.2.1.1
    obtain ⟨i, i1, i2, i3⟩ := u6 (sw y) ((u5 _).mpr (by rw [sw_sw]; exact hy))
    have := sg_lt hN3 i2
    exact ⟨sg i, by omega, by rw [sg_nI (by omega), ← i3, sw_sw]⟩
  · obtain ⟨⟨r1, r2, -⟩, -, -⟩ := hA.2.1 e he
    have h4 := hgtB v hv
    have h1 := rsl_len (uk_of r1 r2) (hgt v) v h4 hv rfl
    have h2 : ∀ t, t < 5 → fB t ≤ 32 := by decide
    exact Nat.le_trans h1 (h2 _ (by omega))
theorem jo_00 (X : x_T) (mm p a l D : Nat) : (jo X mm p a l D).1 0 = X.1 0 := by
  have h1 := (mo_lv_f X mm 0 (by decide)).1
  rw [jo_t X mm p a l D _ rfl]
  generalize mo_lv X mm = V at h1
  by_cases c : X.2 21 a = 0 ∨ mo_mt (X.2 16 a) l D 1 = -1
  · rw [if_pos c]; exact h1
  · rw [if_neg c, (tl_m_f mm a l _ _ _ 0 (by decide)).1]; exact h1
theorem fo_00 (X : x_T) (mm e l D c : Nat) : (fo X mm e l D c).1 0 = X.1 0 := by
  classical
  have h1 := (mo_lv_f X mm 0 (by decide)).1
  have h2 : (fo_1 X mm e l D c).1 0 = X.1 0 := by
    unfold fo_1
    by_cases z : fo_t X mm e l D c
    · rw [if_pos z, (tl_m_f mm e l _ _ _ 0 (by decide)).1]
      exact (ad_f X mm e l D 0 0 (by decide)).1
    · rw [if_neg z]
      exact (ad_f X mm e l D 0 0 (by decide)).1
  unfold fo
  by_cases z : (X.2 17 e >>> (nI l &&& 31)) &&& 1 = 1
  · rw [if_pos z]; exact h1
  · rw [if_neg z]
    by_cases y : fo_v X e l D = -1 ∨ fo_t X mm e l D c
    · rw [if_pos y]; exact h2
    · rw [if_neg y]; exact h2
theorem R.isK {n : Nat} {G : G_T} {X : x_T} (h : R n G X) : ∃ N c, q_KH X N c ∧ (∀ e, e < ne G → ∃ s, s < N ∧ X.2 14 e = nI s) ∧ (∀ e v, e < ne G → v < 31 → ¬ X.2 22 (31 * e + v) = -1 → ∃ s, s < N ∧ X.2 22 (31 * e + v) = nI s) ∧ (∀ e, A_isKnown G e ↔ B_isKnown X N c (ne G) e) ∧ (∀ e v, A_isOpen G e v ↔ B_isOpen X N c (ne G) e v) ∧ A_kn G (ne G) 0 0 = B_kn X N c (ne G) 0 0 := by
  classical
  obtain ⟨N, c, k1, k2, k3, k4⟩ := h.known
  have hh : RA G X := by
    obtain ⟨h5, N, c, L, T, ro, cn, hA, -⟩ := h
    exact hA
  obtain ⟨r1, r2, r3, r4, r5, r6, r7⟩ := hh.1
  refine ⟨N, c, k1, fun e he => ?_, fun e v he hv z => ?_, fun e => ?_, fun e v => ?_, ?_⟩
  · obtain ⟨s, s1, s2, -⟩ := k3 e he
    exact ⟨s, s1, s2⟩
  · obtain ⟨s, s1, s2, -⟩ := k4 e v he hv z
    exact ⟨s, s1, s2⟩
  · unfold A_isKnown B_isKnown
    refine and_congr_right fun he => ?_
    obtain ⟨a, ha, rfl⟩ := (r_in_iff (by omega)).mp he
    rw [ix_nI (by omega)]
    obtain ⟨s, s1, s2, s3⟩ := k3 a ha
    rw [s3, s2, ix_nI (by omega)]
  · unfold A_isOpen B_isOpen
    refine and_congr_right fun he => ?_
    obtain ⟨a, ha, rfl⟩ := (r_in_iff (by omega)).mp he
    rw [ix_nI (by omega)]
    obtain ⟨⟨t1, t2, -⟩, -, -⟩ := hh.2.1 a ha
    have hD := t2.1
    have hxD : ix (X.2 13 a) = (gE G a).2.1.2 := by rw [t1.1]; exact ix_nI (by omega)
    have hw := w31 (gE G a).2.1.2 (by omega)
    rw [hxD]
    have nt : ¬ S_told (gS G) (-1) := fun z => by
      unfold S_told at z
      rw [r_get_out (fun y => y.1 (by decide))] at z
      exact absurd z (by decide)
    constructor
    · intro z
      have hv : r_in 31 v := Classical.byContradiction fun y => by
        rw [show r_get (tr_len 0) ((gE G a).2.1.1 0) v = -1 from r_get_out y] at z
        exact nt z
      obtain ⟨u, hu, rfl⟩ := (r_in_iff (by decide)).mp hv
      rw [T_get 0 (by decide) hu] at z
      have hn : ¬ (gE G a).2.1.1 0 u = -1 := fun y => by rw [y] at z; exact nt z
      have hx : ¬ X.2 22 (31 * a + u) = -1 := fun y => hn (by rw [(t1.2.1 u hu).1, y, sw_m1])
      obtain ⟨s, s1, s2, s3⟩ := k4 a u ha hu hx
      rw [ix_nI (by omega)]
      refine ⟨r_in_nI (t2.2.2.2.1 u hu hn) (by omega), hx, ?_⟩
      rw [s2, ix_nI (by omega)]
      exact s3.mp z
    · rintro ⟨z1, z2, z3⟩
      obtain ⟨u, hu, rfl⟩ := (r_in_iff (by omega)).mp z1
      have hu31 : u < 31 := by omega
      rw [ix_nI (by omega)] at z2 z3
      obtain ⟨s, s1, s2, s3⟩ := k4 a u ha hu31 z2
      rw [s2, ix_nI (by omega)] at z3
      rw [T_get 0 (by decide) hu31]
      exact s3.mpr z3
  · have q : ∀ m k a, k + m ≤ ne G → A_kn G m k a = B_kn X N c m k a := fun m => by
      induction m with
      | zero => intro k a _; rfl
      | succ m ih =>
        intro k a hk
        unfold A_kn B_kn
        obtain ⟨s, s1, s2, s3⟩ := k3 k (by omega)
        have e1 : (if S_told (gS G) ((gE G k).1 2) then a + 1 else a) = if Kn X N c (ix (X.2 14 k)) then a + 1 else a := by
          rw [s2, ix_nI (by omega)]
          by_cases z : Kn X N c s
          · rw [if_pos z, if_pos (s3.mpr z)]
          · rw [if_neg z, if_neg (fun y => z (s3.mp y))]
        rw [e1]
        exact ih (k + 1) _ (by omega)
    exact q (ne G) 0 0 (by omega)
