/-! ===== the pure part: the calls that only read ===== -/
theorem r_in_iff {n : Nat} {i : Int32} (hn : n < 2 ^ 31) : r_in n i ↔ ∃ j, j < n ∧ i = nI j := ⟨fun h => r_in_of hn h, fun ⟨j, hj, e⟩ => by rw [e]; exact r_in_nI hj hn⟩
section READS
variable {n : Nat} {G : G_T} {X : x_T}
theorem R.has (h : R n G X) (m : Int32) : A_has G m ↔ B_has X m := by
  obtain ⟨-, N, c, L, T, ro, cn, hA, hT, hM, hP, hQ, hI, hS⟩ := h
  unfold A_has B_has
  refine and_congr_right fun hm => ?_
  obtain ⟨j, hj, rfl⟩ := (r_in_iff (by decide)).mp hm
  rw [ix_nI (by omega), ((hM.1 j hj).1).2.2.2.1]
theorem R.memb (h : R n G X) (m wh : Int32) : A_member G m wh = B_member X m wh := by
  classical
  obtain ⟨-, N, c, L, T, ro, cn, hA, hT, hM, hP, hQ, hI, hS⟩ := h
  unfold A_member B_member
  by_cases hm : r_in 16 m
  · obtain ⟨j, hj, rfl⟩ := (r_in_iff (by decide)).mp hm
    rw [if_pos hm, if_pos hm, ix_nI (by omega)]
    obtain ⟨⟨m1, m2, m3, m4, m5, m6⟩, -, -⟩ := hM.1 j hj
    obtain ⟨u, u1, u2, u3, u4, u5, u6⟩ := CL_r hA hM hP hI hS hj
    rw [m2, m3, m5, m6, (G_gat_r u1 u2 hA.1.2.2.2.2.1).1, gat_leq u4 u5 u3 u1 hA.1.2.2.2.1 hA.1.2.2.2.2.1]
  · rw [if_neg hm, if_neg hm]
theorem R.ep (h : R n G X) (e wh : Int32) : A_epoch G e wh = B_epoch X (ne G) e wh := by
  classical
  obtain ⟨-, N, c, L, T, ro, cn, hA, hT, hM, hP, hQ, hI, hS⟩ := h
  have := hA.1.2.2.1
  unfold A_epoch B_epoch
  by_cases he : r_in (ne G) e
  · obtain ⟨a, ha, rfl⟩ := (r_in_iff (by omega)).mp he
    rw [if_pos he, if_pos he, ix_nI (by omega)]
    obtain ⟨⟨r1, -⟩, ⟨e0, e1, e2, e3, e4, e5, e6, e7⟩, -⟩ := hA.2.1 a ha
    rw [e1, e3, e4, e5, e6, e7, r1.1]
  · rw [if_neg he, if_neg he]
theorem there_r {T : tr_T} (hT : T.2 ≤ 4) (v : Int32) : T_there T v ↔ r_in (2 ^ (T.2 + 1) - 1) v := by
  have q : ∀ D, D < 5 → ((2 : Int32) <<< (nI D &&& 31)) - 1 = nI (2 ^ (D + 1) - 1) := by decide +kernel
  unfold T_there r_in
  rw [q T.2 (by omega)]
theorem w31 : ∀ D, D < 5 → 2 ^ (D + 1) - 1 ≤ 31 := by decide
theorem R.nd (h : R n G X) (e v wh : Int32) : A_node G e v wh = B_node X (ne G) e v wh := by
  classical
  obtain ⟨-, N, c, L, T, ro, cn, hA, hT, hM, hP, hQ, hI, hS⟩ := h
  have := hA.1.2.2.1
  unfold A_node B_node
  by_cases he : r_in (ne G) e
  · obtain ⟨a, ha, rfl⟩ := (r_in_iff (by omega)).mp he
    rw [if_pos he, ix_nI (by omega)]
    obtain ⟨⟨r1, r2, -⟩, -, -⟩ := hA.2.1 a ha
    have hD := r2.1
    have hxD : ix (X.2 13 a) = (gE G a).2.1.2 := by rw [r1.1]; exact ix_nI (by omega)
    rw [hxD]
    have hw := w31 (gE G a).2.1.2 (by omega)
    by_cases hv : T_there (gE G a).2.1 v
    · have hv2 := (there_r hD v).mp hv
      have hb : r_in (ne G) (nI a) ∧ r_in (2 ^ ((gE G a).2.1.2 + 1) - 1) v := ⟨he, hv2⟩
      rw [if_pos hv, if_pos hb]
      obtain ⟨w, hw1, rfl⟩ := (r_in_iff (by omega)).mp hv2
      have hw31 : w < 31 := by omega
      rw [ix_nI (by omega), T_get 1 (by decide) hw31, T_get 2 (by decide) hw31, (r1.2.1 w hw31).2.1]
      have hbl : X.2 22 (31 * a + w) = -1 ↔ (gE G a).2.1.1 0 w = -1 := by rw [(r1.2.1 w hw31).1, sw_n1]
      have e0 : (if T_isB (gE G a).2.1 (nI w) then (0 : Int32) else 1) = if X.2 22 (31 * a + w) = -1 then 0 else 1 := by
        by_cases z : X.2 22 (31 * a + w) = -1
        · rw [if_pos z, if_pos ((T_isB_n hw31).mpr (hbl.mp z))]
        · rw [if_neg z, if_neg (fun y => z (hbl.mpr ((T_isB_n hw31).mp y)))]
      have e2 : (gE G a).2.1.1 2 w = if X.2 22 (31 * a + w) = -1 then -1 else X.2 24 (31 * a + w) := by
        by_cases z : X.2 22 (31 * a + w) = -1
        · rw [if_pos z]
          exact (r1.2.1 w hw31).2.2.1 (hbl.mp z)
        · rw [if_neg z]
          exact (r1.2.1 w hw31).2.2.2 (fun y => z (hbl.mpr y))
      have e3 : j_bc (T_reso (gE G a).2.1 (nI w)) = nI (rsl X a (hgt w) w).length := by
        rw [j_bc_r]
        congr 1
        obtain ⟨s1, s2⟩ := rsl_sim r1 r2 (hgt w) w hw31 rfl
        refine len_eq (bl_nd _ 32 0) s1 (fun x => ?_)
        rw [bl_mem, s2]
        constructor
        · rintro ⟨-, y1, y2⟩
          exact (T_reso_bt hw31 x (by omega)).mp y2
        · intro y
          have := (inR_blw r2 _ _ x hw31 rfl y).2
          exact ⟨by omega, by omega, (T_reso_bt hw31 x (by omega)).mpr y⟩
      rw [e0, e2, e3]
    · have hb : ¬ (r_in (ne G) (nI a) ∧ r_in (2 ^ ((gE G a).2.1.2 + 1) - 1) v) := fun z => hv ((there_r hD v).mpr z.2)
      rw [if_neg hv, if_neg hb]
  · rw [if_neg he, if_neg (fun z => he z.1)]
/-- a key of the member's own epoch that it has among all is one of its keys -/
theorem CL_key {N c : Nat} {L : w_L} {T : List Nat} {ro cn : Nat → Nat} (hA : RA G X) (hM : RM1 G X) (hP : RP G X) (hI : RI G N ro cn) (hS : RS G X n N c L T) {j a u v : Nat} (hj : j < 16) (ha : a < ne G) (hat : X.2 27 j = nI a) (hu : u ≤ 20) (h1 : (gM G j).1 1 = nI u) (hv : v < 31) (hn : ¬ (gT G a).1 0 v = -1) (hm : (gT G a).1 0 v ∈ CL G j u) : (gM G j).2 0 v = (gT G a).1 0 v := by
  classical
  have hN : N < 2 ^ 31 := by have := hS.1.1.2.1.2.1; omega
  have h60 := hA.1.2.2.1
  obtain ⟨⟨m1, m2, m3, m4, m5, m6⟩, -, mc⟩ := hM.1 j hj
  obtain ⟨P1, P2, P3, P4, P5⟩ := hP
  obtain ⟨k1, k2, k3, ⟨s, s1, s2, s3, s4⟩, k5, k6⟩ := hI.1 a ha
  obtain ⟨i, b1, b2, b3, b4, b5⟩ := k6 v hv hn
  have hat' : (gM G j).1 2 = nI a := by rw [m2, hat]
  rcases mc with ⟨c1, -⟩ | ⟨a', l, c1, c2, c3, c4, c5, c6, c7, c8, c9⟩
  · exact absurd (hat.symm.trans c1) (nI_nm (by omega))
  have ea : a' = a := nI_j (by omega) (by omega) (c3.symm.trans hat)
  subst ea
  unfold CL at hm
  rw [List.mem_append, List.mem_append, List.mem_append] at hm
  rcases hm with ((z | z) | z) | z
  · unfold lc1 at z
    rw [hat', ix_nI (by omega), if_pos ⟨by rw [c5]; decide, r_in_nI ha (by omega)⟩, List.mem_singleton, s3, b3] at z
    have := nI_j (by omega) (by omega) z
    subst this
    omega
  · obtain ⟨v', -, v2, v3, v4⟩ := ((lm_r ((gM G j).2 0) 31 0).2.1 _).mp z
    have v4' := v4
    rw [(c9 v' (by omega)).1] at v3 v4
    have g := FK_nm v3
    rw [g.2.2.2] at v4
    have := k5 v hv v' (by omega) hn v4
    subst this
    exact v4'.symm
  · obtain ⟨k, -, q2, q3⟩ := ((lf_r ((gM G j).2 1) u 0).2.1 _).mp z
    obtain ⟨i', a1, a2, a3, a4, a5, -⟩ := hI.2.2.1 j hj u hu h1 k (by omega)
    have := a5 a' ha hat'
    rw [a3, b3] at q3
    have := nI_j (by omega) (by omega) q3
    omega
  · obtain ⟨k, -, q2, q3, q4⟩ := ((lp_r (gK G) j (np G) 0).2.1 _).mp z
    obtain ⟨f, f1, f2, f3, f4, f5, f6, -⟩ := hI.2.1 k (by omega)
    rcases q4 with y | y
    · rw [f3, b3] at y
      have := nI_j (by omega) (by omega) y
      subst this
      omega
    · rw [f4, b3] at y
      have := nI_j (by omega) (by omega) y
      subst this
      obtain ⟨k', g1, g2, b, g3, g4⟩ := b5 f6
      have hkk : k = k' := by
        rcases Nat.lt_trichotomy k k' with w | w | w
        · exact absurd (f4.trans g2.symm) (hI.pk hN w g1).2.2.2
        · exact w
        · exact absurd (g2.trans f4.symm) (hI.pk hN w (by omega)).2.2.2
      subst hkk
      have := P5 k g1 q3.2 a' b (by omega) (by omega) g4 (by rw [q3.1]; exact c3)
      omega
theorem R.holds (h : R n G X) (m v : Int32) : A_holds G m v ↔ B_holds X m v := by
  obtain ⟨-, N, c, L, T, ro, cn, hA, hT, hM, hP, hQ, hI, hS⟩ := h
  have h60 := hA.1.2.2.1
  unfold A_holds B_holds
  refine and_congr_right fun hm => ?_
  obtain ⟨j, hj, rfl⟩ := (r_in_iff (by decide)).mp hm
  rw [ix_nI (by omega)]
  obtain ⟨⟨m1, m2, m3, m4, m5, m6⟩, -, mc⟩ := hM.1 j hj
  obtain ⟨u, u1, u2, u3, u4, u5, u6⟩ := CL_r hA hM hP hI hS hj
  rw [m2]
  rcases mc with ⟨c1, -⟩ | ⟨a, l, c1, c2, c3, c4, c5, c6, c7, c8, c9⟩
  · constructor
    · rintro ⟨z, -⟩
      rw [c1] at z
      exact absurd (by decide) z.1
    · rintro ⟨z, -⟩
      exact absurd c1 z
  · rw [c3, ix_nI (by omega)]
    obtain ⟨⟨r1, r2, -⟩, -, -⟩ := hA.2.1 a c1
    have hD := r2.1
    have hxD : ix (X.2 13 a) = (gE G a).2.1.2 := by rw [r1.1]; exact ix_nI (by omega)
    rw [hxD]
    have hw := w31 (gE G a).2.1.2 (by omega)
    constructor
    · rintro ⟨-, z⟩
      have hv : r_in 31 v := Classical.byContradiction fun y => z.1 (r_get_out y)
      obtain ⟨w, hw1, rfl⟩ := (r_in_iff (by decide)).mp hv
      obtain ⟨z1, z2⟩ := (M_hk_r hw1).mp z
      have ek := (r1.2.1 w hw1).1
      refine ⟨nI_nm (by omega), r_in_nI (r2.2.2.2.1 w hw1 z1) (by omega), ?_⟩
      rw [ix_nI (by omega)]
      have e2 : X.2 22 (31 * a + w) = sw ((gE G a).2.1.1 0 w) := by rw [ek, sw_sw]
      rw [e2]
      refine ⟨fun y => z1 (sw_n1.mp y), (u5 _).mp ?_⟩
      unfold CL
      refine List.mem_append_left _ (List.mem_append_left _ (List.mem_append_right _ (((lm_r ((gM G j).2 0) 31 0).2.1 _).mpr ⟨w, by omega, by omega, by rw [z2]; exact z1, z2.symm⟩)))
    · rintro ⟨-, z1, z2, z3⟩
      obtain ⟨w, hw1, rfl⟩ := (r_in_iff (by omega)).mp z1
      have hw31 : w < 31 := by omega
      rw [ix_nI (by omega)] at z2 z3
      have e2 : X.2 22 (31 * a + w) = sw ((gE G a).2.1.1 0 w) := by rw [(r1.2.1 w hw31).1, sw_sw]
      rw [e2] at z2 z3
      have hn : ¬ (gE G a).2.1.1 0 w = -1 := fun y => z2 (by rw [y, sw_m1])
      exact ⟨r_in_nI c1 (by omega), (M_hk_r hw31).mpr ⟨hn, CL_key hA hM hP hI hS hj c1 c3 u1 u2 hw31 hn ((u5 _).mpr z3)⟩⟩
theorem told_kn {N c : Nat} {L : w_L} {T : List Nat} (hS : RS G X n N c L T) {x : Nat} (hx : x < N) : S_told (gS G) (nI x) ↔ Kn X N c (sg x) := by
  obtain ⟨⟨s1, s2, s3, s4, s5, s6⟩, ⟨t1, t2, t3, t4⟩, ⟨b1, b2, b3, b4⟩, -⟩ := hS
  have hN := s1.2.1.2.1
  rw [s1.told (by omega), s4.kn (by omega) s2.full t1 t2, sg_sg]
theorem R.known (h : R n G X) : ∃ N c, q_KH X N c ∧ N ≤ 2200 ∧ (∀ a, a < ne G → ∃ s, s < N ∧ X.2 14 a = nI s ∧ (S_told (gS G) ((gE G a).1 2) ↔ Kn X N c s)) ∧ ∀ a v, a < ne G → v < 31 → ¬ X.2 22 (31 * a + v) = -1 → ∃ s, s < N ∧ X.2 22 (31 * a + v) = nI s ∧ (S_told (gS G) ((gT G a).1 0 v) ↔ Kn X N c s) := by
  obtain ⟨h5, N, c, L, T, ro, cn, hA, hT, hM, hP, hQ, hI, hS⟩ := h
  have hS' := hS
  have h60 := hA.1.2.2.1
  have h61 := hA.1.2.1
  have hp60 := hA.1.2.2.2.2.1
  obtain ⟨⟨s1, s2, s3, s4, s5, s6⟩, ⟨t1, t2, t3, t4⟩, ⟨b1, b2, b3, b4⟩, -⟩ := hS
  have hN := s1.2.1.2.1
  have hcu := cU_le (gK G) (np G)
  refine ⟨N, c, ⟨by omega, by omega, s5, s6, fun k hk => ?_, fun j hj => ?_, t3⟩, hN, fun a ha => ?_, fun a v ha hv hn => ?_⟩
  · obtain ⟨-, f, s, f1, f2, f3, f4, -⟩ := s4.1 k hk
    exact ⟨f, s, f1, f2, f3, f4⟩
  · obtain ⟨x, y, f1, f2, f3, f4, -⟩ := s4.2.1 j hj
    exact ⟨x, y, f1, f2, f3, f4⟩
  · obtain ⟨k1, k2, k3, ⟨s, g1, g2, g3, g4⟩, -, -⟩ := hI.1 a ha
    obtain ⟨-, ⟨e0, e1, e2, e3, e4, e5, e6, e7⟩, -⟩ := hA.2.1 a ha
    refine ⟨sg s, sg_lt b1 (by omega), ?_, ?_⟩
    · rw [sg_nI (by omega), ← g3, e2, sw_sw]
    · rw [g3]
      exact told_kn hS' (by omega)
  · obtain ⟨k1, k2, k3, -, -, k6⟩ := hI.1 a ha
    obtain ⟨⟨r1, r2, -⟩, -, -⟩ := hA.2.1 a ha
    have ek := (r1.2.1 v hv).1
    have hn' : ¬ (gT G a).1 0 v = -1 := fun z => hn (sw_n1.mp (by rw [← ek]; exact z))
    obtain ⟨i, g1, g2, g3, -⟩ := k6 v hv hn'
    refine ⟨sg i, sg_lt b1 (by omega), ?_, ?_⟩
    · rw [sg_nI (by omega), ← g3, ek, sw_sw]
    · rw [g3]
      exact told_kn hS' (by omega)
end READS
