/-! ===== the pure part: a commit ===== -/
set_option maxHeartbeats 2000000 in
theorem R.commit {n : Nat} {G : G_T} {X X' : x_T} {j cl e D : Nat} {pa : Int32} (h : R n G X) (hn : n < 512) (hj : j < 16) (hne : ne G = e + 1) (hne2 : e + 1 < 60) (hat : X.2 27 j = nI e) (hcl : cl < 16) (hlf : X.2 28 j = nI cl) (hD : X.2 13 e = nI D) (hD4 : D ≤ 4) (hC : q_CH X j cl e D (nq G) (np G) pa X') : (∃ nn k0, S_n (gS (C_5 (C_4 G j pa)).1) nn k0) ∧ (C_5 (C_4 G j pa)).2.1 0 = nI (e + 1) ∧ X'.1 12 = nI (e + 2) ∧ X'.1 0 = X.1 0 ∧ R (n + 1) (C_7 (C_5 (C_4 G j pa)) j) X' := by
  classical
  obtain ⟨X7, D7, n9, cv, X9, hn9b, hC7, hC9, hX'⟩ := hC
  obtain ⟨nk, hMC⟩ := C_mid h hj hne hne2 hat hcl hlf hD hD4 hC7
  have h39 := C_mid39 h hC7
  have hH := h
  obtain ⟨h5, N, c, L, T, ro, cn, hA, hT, hM, hP, hQ, hI, hS⟩ := h
  have hnp60 := hA.1.2.2.2.2.1
  have hcu0 := cU_le (gK G) (np G)
  have hSb := hS.2.2.1
  obtain ⟨h137, hD7⟩ : X7.2 13 (e + 1) = nI D7 ∧ D7 ≤ 4 := by
    obtain ⟨-, -, -, -, -, -, -, -, w1, w2⟩ := hC7
    exact ⟨w1, w2⟩
  have hMj := hM.1 j hj
  obtain ⟨hcn, hdw, hkeyj, h4j⟩ : ¬ (gT G e).1 0 (2 * cl) = -1 ∧ (gT G e).1 3 cl = nI j ∧ (∀ v, v < 31 → (gM G j).2 0 v = FK (gT G e) cl v) ∧ (gM G j).1 4 = 1 := by
    rcases hMj.2.2 with ⟨c1, -⟩ | ⟨a', l', c1, c2, c3, c4, c5, c6, c7, c8, c9⟩
    · exact absurd (hat.symm.trans c1) (nI_nm (by omega))
    · have ea : a' = e := nI_j (by omega) (by omega) (c3.symm.trans hat)
      have el : l' = cl := nI_j (by omega) (by omega) (c4.symm.trans hlf)
      subst ea
      subst el
      exact ⟨c6, c7, fun v hv => (c9 v hv).1, c5⟩
  have hNb : N ≤ 3 + 13 * e + 2 * n := by have := hSb.2.1; rw [hne] at this; omega
  have hLb : L.length ≤ 35 * e + 2 * cU (gK G) (np G) := by have := hSb.2.2.1; rw [hne] at this; simpa using this
  have hCb : c ≤ 22 * e + 2 * cU (gK G) (np G) := by have := hSb.2.2.2; rw [hne] at this; simpa using this
  have hN3 := hSb.1
  obtain ⟨c9, cvn, L9, T9, hcv, hPF⟩ := C_path (pa := pa) hA hI hS (by omega) (by omega) (by omega) hMC hne hne2 hcl hcn h137 hD7 hn9b hC9
  have hk7 := keys7 hI (by omega) hMC (by omega) hne hP (by omega)
  generalize C_4 G j pa = q at hPF ⊢
  generalize C_3 G j = P7 at hPF hMC hk7
  obtain ⟨⟨p1, p2, p3, p4, p5⟩, ⟨p6, p7, p8, p9, p10⟩, ⟨p11, p12, p13, p14⟩, ⟨p15, p16, p17, p18, p19, p20⟩, ⟨p21, p22⟩, p23, ⟨p24, p25, p26⟩, ⟨p27, p28, p29, p30, p31⟩, ⟨p32, p33, p34, p35⟩, p41, ⟨p36, p37, p38, p39⟩, p40⟩ := hPF
  obtain ⟨⟨m1, m2, m3⟩, ⟨i0, i1, i3, i4, i5, i6, i7⟩, ⟨g1, g2, g3, g4⟩, gm, kr, ⟨fr, eo, x15⟩, hb5, hb4⟩ := hMC
  have hD7U : q.1.2.2.1.2 = D7 := nI_j (by have := p2.1; omega) (by omega) (p5 ▸ m1.1.symm.trans h137)
  obtain ⟨k1, k2, k3, ⟨s, s1, s2, s3, s4⟩, k5, k6⟩ := hI.1 e (by omega)
  obtain ⟨⟨r1, r2, r3⟩, ⟨e0, e1, e2, e3, e4, e5, e6, e7⟩, e21⟩ := hA.2.1 e (by omega)
  have x14 : X.2 14 e = nI (sg s) := by rw [sg_nI (by omega), ← s3, e2, sw_sw]
  have h14 : X9.2 14 e = nI (sg s) := by rw [(p32 14 (by decide)).2]; exact x14
  rw [hcv] at hX'
  obtain ⟨a1, a2, a3, L10, T10, b1, b2, Z, z0, z1, z2, z3, z4, z5, z6, z7, z8⟩ := ijs (e := e) p6 p7 (by omega) (by omega) (by omega) (by omega) s1 p19 p20 h14 p10
  have hgE : gE q.1.1 = gE G := p30.trans g3
  have hgN : gN q.1.1 = gN G := p31.trans g4
  have hneq : ne q.1.1 = e + 1 := by show gN q.1.1 2 = _; rw [hgN]; exact hne
  have hini : C_ini q.1 = S_der (gS q.1.1) (nI s) := by
    unfold C_ini
    rw [hneq, hgE, show e + 1 - 1 = e by omega, s3]
  have hjoi : C_joi q = S_joi (S_der (gS q.1.1) (nI s)).2 (nI n9) (nI cvn) := by
    unfold C_joi
    rw [hini, a1, p18]
  have hsec : C_sec q = S_der (S_joi (S_der (gS q.1.1) (nI s)).2 (nI n9) (nI cvn)).2 (nI (n9 + 1)) := by
    unfold C_sec
    rw [hjoi, a2]
  have hC5 : C_5 q = AW (nI (n9 + 1)) (np G) 0 (sS q.1.1 (C_sec q).2, upd q.1.2.1 2 (nI (n9 + 2)), q.1.2.2) := by
    unfold C_5
    rw [hjoi, a2, show np q.1.1 = np G by show gN q.1.1 0 = _; rw [hgN], hsec, a3]
  have b1' : SQ T.length T (C_sec q).2 (n9 + 3) L10 T10 := by
    rw [hsec]
    exact b1
  clear hini hjoi hsec a1 a2 a3 b1
  generalize (C_sec q).2 = Sx at b1' hC5
  have ak := AW_k (nI (n9 + 1)) (np G) 0 (sS q.1.1 Sx, upd q.1.2.1 2 (nI (n9 + 2)), q.1.2.2)
  -- packages
  have hpk := m3.pk
  have hused : ∀ k, k < np G → ¬ (gK G k).2 2 = nI (e + 1) := fun k hk z => by
    rcases (hP.2.1 k hk).2 with w | ⟨b, l, w1, w2, w3, w4, -⟩
    · exact absurd (z.symm.trans w) (nI_nm (by omega))
    · have := nI_j (by omega) (by omega) (z.symm.trans w4)
      omega
  have hcuE : cU (gK P7.1) (np G) = cU (gK G) (np G) + cE (gK P7.1) (e + 1) (np G) 0 := by
    have := cU_cE (K := gK G) (K' := gK P7.1) (e := e + 1) (by omega) (np G) 0 (fun k hk => by
      rcases (hpk.1 k (by omega)).2.2.2.2 with ⟨w, -⟩ | ⟨w1, w2, -⟩
      · exact Or.inl ⟨w, hused k (by omega)⟩
      · exact Or.inr ⟨w1, w2⟩)
    rw [Nat.zero_add] at this
    have h0 : cU (gK G) 0 = 0 := rfl
    have h1 : cU (gK P7.1) 0 = 0 := rfl
    omega
  have hcu1 := cU_le (gK P7.1) (np G)
  have kf : ∀ k, k < np G → ∃ f, 3 ≤ f ∧ f + 1 < N ∧ (gK P7.1 k).2 0 = nI f ∧ (gK P7.1 k).2 1 = nI (f + 1) := fun k hk => by
    obtain ⟨f, f1, f2, f3, f4, -⟩ := hI.2.1 k hk
    exact ⟨f, f1, f2, (hpk.1 k hk).2.1.trans f3, (hpk.1 k hk).2.2.1.trans f4⟩
  have aw := AW_sim (k0 := T.length) (T0 := T) (N := n9 + 3) (e := e + 1) (D := D7) (jn := n9 + 1) (np' := np G) (Z := Z) (K := gK P7.1) (E0 := upd q.1.2.1 2 (nI (n9 + 2))) (T := q.1.2.2.1) (ps := q.1.2.2.2) (by omega) (by omega) hD7U hD7 (by omega) (by omega) (by rw [upd_n (by decide), p15 0 (by decide) (by decide)]; exact i0) (by rw [upd_n (by decide), (z5 16 (by decide)).2]; exact p16) (by rw [(z5 21 (by decide)).2, (z5 16 (by decide)).2]; exact p34) (fun k hk => by
    obtain ⟨w1, w2, w3, w4, w5, w6, w7, w8⟩ := p40 k hk
    obtain ⟨f, f1, f2, f3, f4⟩ := kf k hk
    rw [(z5 39 (by decide)).2, (z5 37 (by decide)).2, (z5 40 (by decide)).2]
    refine ⟨w6, ⟨f, f1, by omega, f3, ?_⟩, fun y => ?_⟩
    · rw [← sg_big f1, sg_nI (by omega), ← f3, w3, sw_sw]
    · rcases (hpk.1 k hk).2.2.2.2 with ⟨v, -⟩ | ⟨-, -, -, l, l1, -, l3, -⟩
      · exact absurd (v.symm.trans (w6.trans y)) (hused k hk)
      · exact ⟨l, l1, l3, (w7 (by rw [y]; exact nI_nm (by omega))).symm.trans l3⟩) (fun l hl u hu1 hu2 z => by
    rw [upd_n (by decide)] at z
    obtain ⟨a, y1, y2, y3, y4⟩ := p23 l hl u hu1 (by rw [hD7U]; exact hu2) z
    rw [(z5 25 (by decide)).2]
    exact ⟨a, y1, by omega, y3, y4⟩) (np G) 0 (sS q.1.1 Sx, upd q.1.2.1 2 (nI (n9 + 2)), q.1.2.2) Z c9 L10 T10 (by omega) (by exact p28) rfl (fun _ _ => rfl) (by
    show upd q.1.2.1 2 (nI (n9 + 2)) 7 = _
    rw [upd_n (by decide), (z5 20 (by decide)).2]
    exact p17) b1' z1 z4 xfr.rf (by omega) (by omega)
  rw [← hC5] at aw ak
  have hWf := we_m_f Z (e + 1) D7 (nI (n9 + 1)) (np G) 0 Z
  have hXf : X' = xi (ad (ch_l e 16 0 (xi (we_m Z (e + 1) D7 (nI (n9 + 1)) (np G) 0 Z) 12 (nI (e + 2)))) j (e + 1) cl D7 ((ch_l e 16 0 (xi (we_m Z (e + 1) D7 (nI (n9 + 1)) (np G) 0 Z) 12 (nI (e + 2)))).2 21 (e + 1))) 42 0 := by
    rw [hX', ch_fin, ch_z7, z0]
  generalize we_m Z (e + 1) D7 (nI (n9 + 1)) (np G) 0 Z = W at aw hWf hXf
  generalize C_5 q = P5 at aw ak ⊢
  obtain ⟨c11, L11, T11, w1, w2, w3, w4, w5, w6, w7, w8⟩ := aw
  obtain ⟨ak1, ak2, ak3⟩ := ak
  have G5M : gM P5.1 = gM P7.1 := by show P5.1.2.2.1 = _; rw [ak1]; exact p27
  have G5K : gK P5.1 = gK P7.1 := by show P5.1.2.2.2.1 = _; rw [ak1]; exact p28
  have G5E : gE P5.1 = gE G := by show P5.1.2.2.2.2.2.1 = _; rw [ak1]; exact hgE
  have G5N : gN P5.1 = gN G := by show P5.1.2.2.2.2.2.2 = _; rw [ak1]; exact hgN
  have U5 : P5.2.2.1 = q.1.2.2.1 := by rw [ak2]
  have I5 : ∀ i, i ≠ 2 → i ≠ 3 → i ≠ 7 → P5.2.1 i = P7.2.1 i := fun i h2 h3 h7 => by rw [ak3 i h7]; show upd q.1.2.1 2 (nI (n9 + 2)) i = _; rw [upd_n h2]; exact p15 i h3 h7
  have I53 : P5.2.1 3 = q.1.2.1 3 := by rw [ak3 3 (by decide)]; show upd q.1.2.1 2 (nI (n9 + 2)) 3 = _; rw [upd_n (by decide)]
  have I52 : P5.2.1 2 = nI (n9 + 2) := by rw [ak3 2 (by decide)]; exact upd_s q.1.2.1 2 (nI (n9 + 2))
  have I50 : P5.2.1 0 = nI (e + 1) := by rw [I5 0 (by decide) (by decide) (by decide)]; exact i0
  -- the intruder settles
  have hmi : MI L11 := w2.mi (by omega) (by omega) w1.lt
  have hSV := w1.1
  have hTl : T.length ≤ 2200 := by have := hS.1.1.T_len; have := hS.1.1.2.1.2.1; omega
  obtain ⟨T12, y1, y2, y3, y4⟩ := SV.set hmi (2201 - T.length) (gS P5.1) T11 T.length (by omega) hSV w1.2.2.2
  have hset : S_settle (gS P5.1) = S_set L11.length (2201 - T.length) (gS P5.1) := by
    unfold S_settle
    rw [hSV.1.2.1, hSV.1.2.2.2, ix_nI (by have := hSV.2.1.2.2.1; omega), ix_nI (by omega)]
  refine ⟨⟨L11.length, T.length, hSV.1.2.1, hSV.2.1.2.2.1, hSV.1.2.2.2, hTl⟩, I50, ?_⟩
  -- the reference's end
  have hV1f : xfr [12] W (xi W 12 (nI (e + 2))) := xfr.rf.xi 12 _ (by decide)
  have v12 : (xi W 12 (nI (e + 2))).1 12 = nI (e + 2) := rfl
  have hch := ch_l_r e 16 0 (xi W 12 (nI (e + 2)))
  have hchf := ch_l_f e 16 0 (xi W 12 (nI (e + 2)))
  generalize xi W 12 (nI (e + 2)) = V1 at hV1f v12 hch hchf hXf
  generalize ch_l e 16 0 V1 = V at hch hchf hXf
  have fXZ : xfr (1 :: 2 :: 3 :: 4 :: 14 :: cK9) X Z := (p32.wk (by decide)).tr (z5.wk (by decide))
  have fXW : xfr (1 :: 2 :: 3 :: 4 :: 14 :: cK9) X W := fXZ.tr (hWf.wk (by decide))
  have fXV1 : xfr (12 :: 1 :: 2 :: 3 :: 4 :: 14 :: cK9) X V1 := (fXW.wk (by decide)).tr (hV1f.wk (by decide))
  have f9V : xfr (lv_K ++ en_K ++ [1, 2, 3, 4, 12, 14]) X9 V := (((z5.wk (by decide)).tr (hWf.wk (by decide))).tr (hV1f.wk (by decide))).tr (hchf.wk (by decide))
  have had : ∃ AD, ad V j (e + 1) cl D7 (V.2 21 (e + 1)) = AD ∧ ((AD.2 27 j = nI (e + 1) ∧ AD.2 29 j = V.2 22 (31 * (e + 1) + 2 * cl) ∧ AD.2 31 j = 0 ∧ AD.2 28 = V.2 28 ∧ AD.2 30 = V.2 30 ∧ AD.2 32 = V.2 32 ∧ ∀ v, v < 31 → AD.2 33 (31 * j + v) = (if ab cl v ∧ (1 ≤ hgt v ∧ hgt v < 1 + D7) ∧ bt (q.1.2.1 3) v = true then V.2 22 (31 * (e + 1) + v) else if ¬ ((v < 2 ^ (D7 + 1) - 1 ∧ 0 < hgt v ∧ abv cl (hgt v) = v) ∧ V.2 22 (31 * (e + 1) + v) = V.2 33 (31 * j + v)) then -1 else V.2 33 (31 * j + v))) ∧ xfr [27, 29, 31, 33] V AD ∧ (∀ i, i ≠ j → ∀ k, 27 ≤ k → k ≤ 32 → AD.2 k i = V.2 k i) ∧ ∀ i, i ≠ j → ∀ v, v < 31 → AD.2 33 (31 * i + v) = V.2 33 (31 * i + v)) := by
    refine ⟨_, rfl, ?_⟩
    have hcnt : V.2 16 (e + 1) = q.1.2.1 3 := by rw [(f9V 16 (by decide)).2]; exact p16.symm
    have h21 : V.2 21 (e + 1) = 0 → q.1.2.1 3 = 0 := fun z => by
      rw [(f9V 21 (by decide)).2] at z
      rw [p16]
      exact p34 z
    refine adv_r (m := D7) (t0 := 1) (P := ¬ (V.2 21 (e + 1) = 0 ∨ D7 = 0)) hcl hD7 hcnt (fun _ => by omega) ?_ (fun v hv => ⟨fun z => ⟨?_, z.1, ⟨z.2.1.1, by omega⟩, z.2.2⟩, fun z => ⟨z.2.1, ⟨z.2.2.1.1, by omega⟩, z.2.2.2⟩⟩)
    · unfold ad
      by_cases y : V.2 21 (e + 1) = 0 ∨ D7 = 0
      · rw [if_pos y]
        exact Or.inr ⟨fun w => w y, rfl⟩
      · rw [if_neg y]
        exact Or.inl ⟨y, rfl⟩
    · rintro (y | y)
      · rw [h21 y, bt_0] at z
        cases z.2.2
      · omega
  obtain ⟨AD, hAD0, hAD, hADf, hADo, hADo3⟩ := had
  rw [hAD0] at hXf
  have hX42 : X'.1 42 = 0 := by rw [hXf]; rfl
  have hXr : ∀ k, X'.2 k = AD.2 k := fun k => by rw [hXf]
  have hX1 : ∀ k, k ≠ 42 → X'.1 k = AD.1 k := fun k hk => by rw [hXf]; exact if_neg hk
  clear hXf hX' hAD0
  have fVX : xfr [27, 29, 31, 33, 42] V X' := fun k hk => by
    simp only [List.mem_cons, List.not_mem_nil, or_false, not_or] at hk
    obtain ⟨n1, n2, n3, n4, n5⟩ := hk
    have := hADf k (by simp [n1, n2, n3, n4])
    exact ⟨by rw [hX1 k n5]; exact this.1, by rw [hXr]; exact this.2⟩
  have f9X : xfr (42 :: lv_K ++ en_K ++ [1, 2, 3, 4, 12, 14]) X9 X' := (f9V.wk (by decide)).tr (fVX.wk (by decide))
  have fWX : xfr (12 :: 42 :: lv_K) W X' := (((hV1f.wk (by decide)).tr (hchf.wk (by decide)))).tr (fVX.wk (by decide))
  have fXX : xfr (42 :: 12 :: 1 :: 2 :: 3 :: 4 :: 14 :: 27 :: 28 :: 29 :: 31 :: 32 :: 33 :: cK9) X X' := (fXV1.wk (by decide)).tr ((hchf.wk (by decide)).tr (fVX.wk (by decide)))
  have x12 : X'.1 12 = nI (e + 2) := by
    rw [(fVX 12 (by decide)).1, (hchf 12 (by decide)).1]
    exact v12
  refine ⟨x12, (fXX 0 (by decide)).1, ?_⟩
  have EOX : EO (e + 1) X X' := by
    have eZ : EO (e + 1) X9 Z := ⟨fun k h1 h2 i hi => by
      by_cases y : k = 14
      · rw [y, z7 i hi]
      · rw [(z5 k (by simp; omega)).2], fun k h1 h2 i hi => by rw [(z5 k (by simp; omega)).2], fun i hi => by rw [(z5 26 (by decide)).2]⟩
    have eW : EO (e + 1) Z W := ⟨fun k h1 h2 i hi => by
      by_cases y : k = 20
      · rw [y, w8 i hi]
      · rw [(hWf k (by unfold en_K; simp; omega)).2], fun k h1 h2 i hi => by rw [(hWf k (by unfold en_K; simp; omega)).2], fun i hi => by rw [(hWf 26 (by decide)).2]⟩
    exact ((p33.tr eZ).tr eW).tr (EO.of fWX (by decide))
  have XEX : XE X N c X' (n9 + 3) c11 := ((p8.tr z2).tr w3).tr (XE.of fWX (by decide))
  have IXX : IX X' (n9 + 3) c11 L11 := w2.grow (XE.of fWX (by decide)) (by omega) (fun x hx => hx) (fun k h1 h2 => by omega) (fun j h1 h2 => by omega) (fun f w t hm => Or.inl hm)
  have T5 : P5.1.2.2.1 = gM P7.1 := G5M
  -- the group behind it
  have hG' : C_7 P5 j = (S_set L11.length (2201 - T.length) (gS P5.1), gH P5.1, va_up (gM P7.1) j (M_lead (gM P7.1 j) P5.2), gK P7.1, gQ P5.1, va_up (gE G) (e + 1) P5.2, va_up (va_up (gN G) 1 0) 2 (e + 2)) := by
    unfold C_7 C_6
    rw [hset, G5M]
    show (_, _, _, gK P5.1, _, va_up (gE P5.1) (gN P5.1 2) P5.2, va_up (va_up (gN P5.1) 1 0) 2 (gN P5.1 2 + 1)) = _
    rw [G5K, G5E, G5N, show gN G 2 = e + 1 from hne]
    show (_, _, va_up (gM P5.1) j _, _, _, _, _) = _
    rw [G5M]
  rw [hG']
  clear hG' hset
  have gEo : ∀ a, a < e + 1 → va_up (gE G) (e + 1) P5.2 a = gE G a := fun a ha => if_neg (by omega)
  have gEn : va_up (gE G) (e + 1) P5.2 (e + 1) = P5.2 := if_pos rfl
  generalize hEE : va_up (gE G) (e + 1) P5.2 = EE at gEo gEn
  clear hEE
  have hne' : (va_up (va_up (gN G) 1 0) 2 (e + 2)) 2 = e + 2 := rfl
  have hnp' : (va_up (va_up (gN G) 1 0) 2 (e + 2)) 0 = np G := rfl
  have hnq' : (va_up (va_up (gN G) 1 0) 2 (e + 2)) 1 = 0 := rfl
  generalize hNN : va_up (va_up (gN G) 1 0) 2 (e + 2) = NN at hne' hnp' hnq'
  clear hNN
  generalize S_set L11.length (2201 - T.length) (gS P5.1) = S12 at y1
  generalize gH P5.1 = H5
  generalize gQ P5.1 = Q5
  -- members
  have hV17 : V1.2 17 (e + 1) = P7.2.1 4 := by rw [(hV1f 17 (by decide)).2, (hWf 17 (by decide)).2, (z5 17 (by decide)).2]; exact p37.symm
  have meq1 : ∀ i, MEq X V1 i := fun i => by
    have r : ∀ k, 27 ≤ k → k ≤ 33 → V1.2 k = X.2 k := fun k h1 h2 => (fXV1 k (by unfold cK9; simp; omega)).2
    exact ⟨fun k h1 h2 => by rw [r k h1 (by omega)], fun v hv => by rw [r 33 (by decide) (by decide)]⟩
  have h34 : ∀ {Y : x_T}, True := fun {_} => trivial
  have v34 : V.2 34 = X.2 34 := by rw [(hchf 34 (by decide)).2, (fXV1 34 (by decide)).2]
  have x34 : X'.2 34 = X.2 34 := (fXX 34 (by decide)).2
  have chcx : ∀ i, i < 16 → (chc V1 e i ↔ ((gM G i).1 2 = nI e ∧ ∃ l, l < 16 ∧ (gM G i).1 3 = nI l ∧ bt (P7.2.1 4) l = true)) := fun i hi => by
    obtain ⟨⟨q1, q2, q3, -⟩, -, qc⟩ := hM.1 i hi
    unfold chc
    rw [(meq1 i).1 27 (by decide) (by decide), (meq1 i).1 28 (by decide) (by decide), hV17, q2, q3]
    constructor
    · rintro ⟨u1, u2⟩
      refine ⟨u1, ?_⟩
      rcases qc with ⟨c1, -⟩ | ⟨a', l', c1, c2, c3, c4, -⟩
      · exact absurd (u1.symm.trans c1) (nI_nm (by omega))
      · rw [c4] at u2
        exact ⟨l', c2, c4, (bit_eq1 (by omega)).mp u2⟩
    · rintro ⟨u1, l, u2, u3, u4⟩
      rw [u3]
      exact ⟨u1, (bit_eq1 (by omega)).mpr u4⟩
  have mrV : ∀ i, i < 16 → MR (gM P7.1 i) V i (gT G) (e + 1) := fun i hi => by
    rw [gm i hi]
    have hmi := hM.1 i hi
    rw [hne] at hmi
    have h1 : MR (gM G i) V1 i (gT G) (e + 1) := hmi.eq (meq1 i) (fXV1 34 (by decide)).2 (fun _ _ => rfl) (Nat.le_refl _)
    have hv34 : V.2 34 = V1.2 34 := (hchf 34 (by decide)).2
    obtain ⟨c1, c2⟩ := hch.2 i (Nat.zero_le _) (by omega)
    unfold ML
    by_cases c : (gM G i).1 2 = nI e ∧ ∃ l, l < 16 ∧ (gM G i).1 3 = nI l ∧ bt (P7.2.1 4) l = true
    · rw [if_pos c]
      exact (MR_leave h1).1.eq (c1 ((chcx i hi).mpr c)) (by rw [hv34, (mo_lv_f V1 i 34 (by decide)).2]) (fun _ _ => rfl) (Nat.le_refl _)
    · rw [if_neg c]
      exact h1.eq (c2 (fun z => c ((chcx i hi).mp z))) hv34 (fun _ _ => rfl) (Nat.le_refl _)
  have gMj : gM P7.1 j = gM G j := by
    rw [gm j hj]
    unfold ML
    rw [if_neg]
    rintro ⟨-, l, l1, l2, l3⟩
    rw [hMj.1.2.2.1, hlf] at l2
    have := nI_j (by omega) (by omega) l2
    subst this
    rw [hb4] at l3
    cases l3
  have meq2 : ∀ i, i ≠ j → MEq V X' i := fun i hi => ⟨fun k h1 h2 => by rw [hXr]; exact hADo i hi k h1 h2, fun v hv => by rw [hXr]; exact hADo3 i hi v hv⟩
  have gTo : ∀ a, a < e + 1 → (EE a).2.1 = gT G a := fun a ha => by rw [gEo a ha]
  have gTn : (EE (e + 1)).2.1 = q.1.2.2.1 := by rw [gEn, U5]
  have mro : ∀ i, i < 16 → i ≠ j → MR (gM P7.1 i) X' i (fun a => (EE a).2.1) (e + 2) := fun i hi hij => (mrV i hi).eq (meq2 i hij) (by rw [x34, v34]) gTo (by omega)
  have atV : ∀ i, i < 16 → V.2 27 i = -1 ∨ V.2 27 i = X.2 27 i := fun i hi => by
    obtain ⟨c1, c2⟩ := hch.2 i (Nat.zero_le _) (by omega)
    by_cases c : chc V1 e i
    · exact Or.inl ((c1 c).1 27 (by decide) (by decide) |>.trans (mo_lv_r V1 i).1.1)
    · exact Or.inr (((c2 c).1 27 (by decide) (by decide)).trans ((meq1 i).1 27 (by decide) (by decide)))
  have x27j : X'.2 27 j = nI (e + 1) := by rw [hXr]; exact hAD.1
  have x27o : ∀ i, i < 16 → i ≠ j → X'.2 27 i = -1 ∨ X'.2 27 i = X.2 27 i := fun i hi hij => by
    rw [(meq2 i hij).1 27 (by decide) (by decide)]
    exact atV i hi
  have x22 : ∀ v, v < 31 → V.2 22 (31 * (e + 1) + v) = sw ((EE (e + 1)).2.1.1 0 v) := fun v hv => by
    rw [(f9V 22 (by decide)).2, gTn, (p1.2.1 v hv).1, sw_sw]
  have ml := M_lead_r (M := gM G j) (E := P5.2) hcl (hMj.1.2.2.1.trans hlf) (by rw [U5]; exact p2.1)
  have hTS : TS (gT G e) ((EE (e + 1)).2.1) cl ((EE (e + 1)).1 3) ((EE (e + 1)).1 4) ((EE (e + 1)).1 5) ((EE (e + 1)).1 6) := by
    rw [gTn, gEn, I53, I5 4 (by decide) (by decide) (by decide), I5 5 (by decide) (by decide) (by decide), I5 6 (by decide) (by decide) (by decide)]
    exact p21
  have hUTI : TI (EE (e + 1)).2.1 := by rw [gTn]; exact p2
  have mrj : MR (M_lead (gM G j) P5.2) X' j (fun a => (EE a).2.1) (e + 2) := by
    have b0 := mrV j hj
    rw [gMj] at b0
    have v27 : V.2 27 j = nI e := by
      obtain ⟨c1, c2⟩ := hch.2 j (Nat.zero_le _) (by omega)
      have hc : ¬ chc V1 e j := fun z => by
        obtain ⟨-, l, l1, l2, l3⟩ := (chcx j hj).mp z
        rw [hMj.1.2.2.1, hlf] at l2
        have := nI_j (by omega) (by omega) l2
        subst this
        rw [hb4] at l3
        cases l3
      exact (((c2 hc).1 27 (by decide) (by decide)).trans ((meq1 j).1 27 (by decide) (by decide))).trans hat
    have v28 : V.2 28 j = nI cl := by
      have := b0.1.2.2.1
      rw [← this, hMj.1.2.2.1, hlf]
    refine MR_next (a := e) (e := e + 1) (l := cl) (n := e + 1) (D := D7) (tr := gT G) (tr' := fun a => (EE a).2.1) b0 v27 v28 (by omega) (by omega) hcl (by omega) hTS hUTI (by rw [gEn, I5 4 (by decide) (by decide) (by decide)]; exact hb4) (by show (EE (e + 1)).2.1.2 = D7; rw [gTn]; exact hD7U) x22 ?_ ?_ ?_ ?_ ?_ ?_ (fun v hv => ?_) ?_
    · rw [ml.1, upd_n (by decide), upd_n (by decide), upd_n (by decide)]
    · rw [ml.1, upd_s]
    · rw [ml.1, upd_n (by decide), upd_n (by decide), upd_s]; exact I50
    · rw [ml.1, upd_n (by decide), upd_n (by decide), upd_n (by decide)]
    · rw [ml.1, upd_n (by decide), upd_s]
    · rw [ml.1, upd_n (by decide), upd_n (by decide), upd_n (by decide)]
    · show (M_lead (gM G j) P5.2).2 0 v = FK (EE (e + 1)).2.1 cl v
      rw [ml.2.2 v hv]
      have nx := FK_next (f := fun v => if v = 2 * cl then (EE (e + 1)).2.1.1 0 (2 * cl) else (gM G j).2 0 v) hTS hUTI hcl hcn (by rw [gEn, I5 4 (by decide) (by decide) (by decide)]; exact hb4) (fun v hv hg => by
        show (if v = 2 * cl then _ else _) = _
        rw [if_neg (fun z => by rw [z, hgt_leaf cl hcl] at hg; omega)]
        exact hkeyj v hv) (if_pos rfl) (fun i hi hil => by
        show (if 2 * i = 2 * cl then _ else _) = _
        rw [if_neg (by omega), hkeyj _ (by omega)]
        unfold FK
        rw [if_neg (fun z => hil ((ab_leaf cl hcl i hi).mp z.1).symm)]) v hv
      rw [← nx, gEn]
      by_cases c1 : ab cl v ∧ (1 ≤ hgt v ∧ hgt v < 1 + P5.2.2.1.2) ∧ bt (P5.2.1 3) v = true
      · rw [if_pos c1, if_pos c1]
      · rw [if_neg c1, if_neg c1]
        by_cases c2 : v = 2 * cl
        · have nb : ¬ P5.2.2.1.1 0 (2 * cl) = -1 := by
            have := (hTS.1 cl hcl hcn (by rw [gEn, I5 4 (by decide) (by decide) (by decide)]; exact hb4)).1
            rw [gEn] at this
            exact this
          subst c2
          rw [if_pos rfl, if_pos rfl, if_neg (fun z => z ⟨nb, rfl⟩)]
        · rw [if_neg c2, if_neg c2]
    · rw [hXr, hXr, hXr, hXr, hXr, hXr, hXr, gEn, I53]
      exact hAD
  rw [gMj]
  have gMo : ∀ i, va_up (gM P7.1) j (M_lead (gM G j) P5.2) i = if i = j then M_lead (gM G j) P5.2 else gM P7.1 i := fun i => rfl
  generalize hMM : va_up (gM P7.1) j (M_lead (gM G j) P5.2) = MM at gMo
  clear hMM
  have XE9 : XE X9 n9 c9 X' (n9 + 3) c11 := (z2.tr w3).tr (XE.of fWX (by decide))
  obtain ⟨ro', ro1, ro2, ro3⟩ : ∃ ro' : Nat → Nat, (∀ x, x < N → ro' x = ro x) ∧ (∀ x, N ≤ x → (∃ v, v < 31 ∧ q.1.2.2.1.1 0 v = nI x) → ro' x = 4) ∧ ∀ x, N ≤ x → ¬ (∃ v, v < 31 ∧ q.1.2.2.1.1 0 v = nI x) → ro' x = 0 := by
    refine ⟨fun x => if x < N then ro x else if ∃ v, v < 31 ∧ q.1.2.2.1.1 0 v = nI x then 4 else 0, fun x hx => if_pos hx, fun x hx z => ?_, fun x hx z => ?_⟩
    · show (if x < N then ro x else if ∃ v, v < 31 ∧ q.1.2.2.1.1 0 v = nI x then 4 else 0) = 4
      rw [if_neg (by omega), if_pos z]
    · show (if x < N then ro x else if ∃ v, v < 31 ∧ q.1.2.2.1.1 0 v = nI x then 4 else 0) = 0
      rw [if_neg (by omega), if_neg z]
  obtain ⟨cn', cn1, cn2⟩ : ∃ cn' : Nat → Nat, (∀ a, a ≤ e → cn' a = cn a) ∧ cn' (e + 1) = n9 + 3 := ⟨fun a => if a ≤ e then cn a else n9 + 3, fun a ha => if_pos ha, by
    show (if e + 1 ≤ e then cn (e + 1) else n9 + 3) = n9 + 3
    rw [if_neg (by omega)]⟩
  have kK : ∀ k, k < np G → (gK P7.1 k).1 = (gK G k).1 ∧ (gK P7.1 k).2 4 = (gK G k).2 4 ∧ (((gK P7.1 k).2 2 = (gK G k).2 2 ∧ (gK P7.1 k).2 3 = (gK G k).2 3) ∨ ((gK G k).2 2 = -1 ∧ (gK P7.1 k).2 2 = nI (e + 1) ∧ (gM P7.1 (gK P7.1 k).1).1 2 = -1)) := fun k hk => by
    obtain ⟨w1, -, -, w4, w5⟩ := hpk.1 k hk
    refine ⟨w1, w4, ?_⟩
    rcases w5 with z | ⟨z1, z2, z3, -⟩
    · exact Or.inl z
    · exact Or.inr ⟨z1, z2, z3⟩
  have oldk : ∀ k b, k < np G → b < 60 → (gK P7.1 k).2 2 = nI b → b ≠ e + 1 → (gK G k).2 2 = nI b := fun k b hk hb z hbe => by
    rcases (kK k hk).2.2 with ⟨w, -⟩ | ⟨-, w, -⟩
    · rw [← w]; exact z
    · exact absurd (nI_j (by omega) (by omega) (w.symm.trans z)) (fun y => hbe y.symm)
  have keepk : ∀ k b, k < np G → b < 2 ^ 31 → (gK G k).2 2 = nI b → (gK P7.1 k).2 2 = nI b := fun k b hk hb z => by
    rcases (kK k hk).2.2 with ⟨w, -⟩ | ⟨w, -⟩
    · rw [w]; exact z
    · exact absurd (z.symm.trans w) (nI_nm hb)
  have hb6 : bt (P7.2.1 6) cl = false := (m3.st (fun l hl z => by obtain ⟨w1, w2, w3, -⟩ := hb5 l hl z; exact ⟨w1, w2, w3⟩) hcl hcn hb4).2
  refine ⟨by omega, n9 + 3, c11, L11, T12, ro', cn', ⟨⟨?_, ?_, ?_, ?_, ?_, ?_, ?_⟩, fun a ha => ?_, fun a ha ha2 => ?_⟩, fun a ha => ?_, ⟨fun i hi => ?_, fun i hi z => ?_⟩, ⟨?_, fun k hk => ?_, fun k hk k' hk' b hb z1 z2 z3 => ?_, fun k hk => ?_, fun k hk z0 a b ha hb z1 z2 => ?_⟩, fun k hk => ?_, ⟨fun a ha => ?_, fun k hk => ?_, fun i hi u hu z k hk => ?_, fun k hk => ?_⟩, ?_⟩
  · show X'.1 12 = nI (NN 2)
    rw [hne']; exact x12
  · show 1 ≤ NN 2
    omega
  · show NN 2 ≤ 60
    omega
  · show X'.1 35 = nI (NN 0)
    rw [hnp', (fXX 35 (by decide)).1]; exact hA.1.2.2.2.1
  · show NN 0 ≤ 60
    omega
  · show X'.1 42 = nI (NN 1)
    rw [hnq', hX42]; rfl
  · show NN 1 ≤ 20
    omega
  · have ha : a < NN 2 := ha
    rw [hne'] at ha
    show ER (EE a) X' a
    by_cases y : a = e + 1
    · subst y
      rw [gEn]
      refine ⟨⟨by rw [U5]; exact p1.fr f9X (by decide), by rw [U5]; exact p2, ?_⟩, ⟨I50, ?_, ?_, ?_, ?_, ?_, ?_, ?_⟩, fun z => ?_⟩
      · rw [U5]
        unfold DJ
        rw [p4]
        exact m3.dj r3
      · rw [I5 1 (by decide) (by decide) (by decide), i1, (f9X 15 (by decide)).2, p36]
      · rw [I52, (fWX 14 (by decide)).2, (hWf 14 (by decide)).2, z6, ← sg_nI (by omega), sg_big (by omega)]
      · rw [I53, (f9X 16 (by decide)).2]; exact p16
      · rw [I5 4 (by decide) (by decide) (by decide), (f9X 17 (by decide)).2]; exact p37
      · rw [I5 5 (by decide) (by decide) (by decide), (f9X 18 (by decide)).2]; exact p38
      · rw [I5 6 (by decide) (by decide) (by decide), (f9X 19 (by decide)).2]; exact p39
      · rw [w7, (fWX 20 (by decide)).2]
      · rw [(f9X 21 (by decide)).2] at z
        rw [(f9X 16 (by decide)).2]
        exact p34 z
    · rw [gEo a (by omega)]
      obtain ⟨⟨u1, u2, u3⟩, ⟨v0, v1, v2, v3, v4, v5, v6, v7⟩, v21⟩ := hA.2.1 a (by omega)
      have r : ∀ k, 13 ≤ k → k ≤ 21 → X'.2 k a = X.2 k a := fun k h1 h2 => EOX.1 k h1 h2 a y
      unfold ER
      rw [r 14 (by decide) (by decide), r 15 (by decide) (by decide), r 16 (by decide) (by decide), r 17 (by decide) (by decide), r 18 (by decide) (by decide), r 19 (by decide) (by decide), r 20 (by decide) (by decide), r 21 (by decide) (by decide)]
      exact ⟨⟨u1.eo EOX y, u2, u3⟩, ⟨v0, v1, v2, v3, v4, v5, v6, v7⟩, v21⟩
  · have ha : NN 2 ≤ a := ha
    rw [hne'] at ha
    have r : ∀ k, 13 ≤ k → k ≤ 21 → X'.2 k a = X.2 k a := fun k h1 h2 => EOX.1 k h1 h2 a (by omega)
    rw [r 13 (by decide) (by decide), r 16 (by decide) (by decide), r 17 (by decide) (by decide), r 18 (by decide) (by decide), r 19 (by decide) (by decide), r 20 (by decide) (by decide)]
    exact hA.2.2 a (by omega) ha2
  · have ha : a + 1 < NN 2 := ha
    rw [hne'] at ha
    have ncp : ∀ m, (∀ k, k < np G → (gK G k).1 = m → (gK G k).2 4 = 0 → ∀ b, b < 60 → (gK G k).2 2 = nI b → a + 1 ≤ b) → ∀ k, k < np G → (gK P7.1 k).1 = m → (gK P7.1 k).2 4 = 0 → ∀ b, b < 60 → (gK P7.1 k).2 2 = nI b → a + 1 ≤ b := fun m hm k hk u1 u2 b hb u3 => by
      by_cases y : b = e + 1
      · omega
      · exact hm k hk ((kK k hk).1.symm.trans u1) ((kK k hk).2.1.symm.trans u2) b hb (oldk k b hk hb u3 y)
    show ∃ cl, (EE (a + 1)).1 1 = nI cl ∧ TS (EE a).2.1 (EE (a + 1)).2.1 cl ((EE (a + 1)).1 3) ((EE (a + 1)).1 4) ((EE (a + 1)).1 5) ((EE (a + 1)).1 6) ∧ ENC (EE (a + 1)).2.1 cl (a + 1) ((EE (a + 1)).1 3) ((EE (a + 1)).1 6) X' c11 ∧ ∀ m, m < 16 → (EE a).2.1.1 3 cl = nI m → (X'.2 27 m = -1 ∨ ∃ b, b < 60 ∧ X'.2 27 m = nI b ∧ a + 1 ≤ b) ∧ ∀ k, k < NN 0 → (gK P7.1 k).1 = m → (gK P7.1 k).2 4 = 0 → ∀ b, b < 60 → (gK P7.1 k).2 2 = nI b → a + 1 ≤ b
    rw [hnp']
    by_cases y : a = e
    · subst y
      refine ⟨cl, by rw [gEn, I5 1 (by decide) (by decide) (by decide)]; exact i1, by rw [gTo a (by omega)]; exact hTS, fun u h1 h2 u3 w hw u4 u5 => ?_, fun m hm hdm => ?_⟩
      · rw [gTn] at h2 u4 ⊢
        rw [gEn, I53] at u3
        rw [gEn, I5 6 (by decide) (by decide) (by decide)] at u5
        obtain ⟨k, x1, x2, x3, x4⟩ := p22 u h1 h2 u3 w hw u4 u5
        obtain ⟨o1, o2, o3, o4⟩ := XE9.2.2.2 k x1
        exact ⟨k, Nat.lt_of_lt_of_le x1 XE9.2.1, by rw [o3]; exact x2, by rw [o4]; exact x3, by rw [o1]; exact x4⟩
      · rw [gTo a (by omega), hdw] at hdm
        have ej := nI_j (by omega) (by omega) hdm
        subst ej
        refine ⟨Or.inr ⟨a + 1, by omega, x27j, Nat.le_refl _⟩, ncp j (fun k hk u1 u2 b hb u3 => ?_)⟩
        exact hP.2.2.2.2 k hk u2 a b (by omega) hb u3 (by rw [u1]; exact hat)
    · obtain ⟨cl2, c1, c2, c3, c4⟩ := hT a (by omega)
      rw [gEo (a + 1) (by omega), gEo a (by omega)]
      refine ⟨cl2, c1, c2, fun u h1 h2 u3 w hw u4 u5 => ?_, fun m hm hdm => ?_⟩
      · obtain ⟨k, x1, x2, x3, x4⟩ := c3 u h1 h2 u3 w hw u4 u5
        obtain ⟨o1, o2, o3, o4⟩ := XEX.2.2.2 k x1
        exact ⟨k, Nat.lt_of_lt_of_le x1 XEX.2.1, by rw [o3]; exact x2, by rw [o4]; exact x3, by rw [o1]; exact x4⟩
      · obtain ⟨n1, n2⟩ := c4 m hm hdm
        refine ⟨?_, ncp m n2⟩
        by_cases ym : m = j
        · subst ym
          exact Or.inr ⟨e + 1, by omega, x27j, by omega⟩
        · rcases x27o m hm ym with w | w
          · exact Or.inl w
          · rw [w]; exact n1
  · show MR (MM i) X' i (fun a => (EE a).2.1) (NN 2)
    rw [gMo, hne']
    by_cases y : i = j
    · subst y
      rw [if_pos rfl]
      exact mrj
    · rw [if_neg y]
      exact mro i hi y
  · have z : X'.2 27 i = nI (NN 2 - 1) := z
    show ∃ u, u ≤ NN 1 ∧ X'.2 31 i = nI u
    rw [hne', show e + 2 - 1 = e + 1 by omega] at z
    rw [hnq']
    by_cases y : i = j
    · subst y
      exact ⟨0, Nat.le_refl _, by rw [hXr]; exact hAD.2.2.1⟩
    · exfalso
      rcases x27o i hi y with w | w
      · exact absurd (z.symm.trans w) (nI_nm (by omega))
      · rcases (hM.1 i hi).2.2 with ⟨c1, -⟩ | ⟨a', l', c1, c2, c3, -⟩
        · exact absurd ((w.symm.trans z).symm.trans c1) (nI_nm (by omega))
        · have := nI_j (by omega) (by omega) ((w.symm.trans z).symm.trans c3)
          omega
  · show KR (gK P7.1) (NN 0) X'
    rw [hnp']
    unfold KR
    rw [(f9X 36 (by decide)).2, (f9X 37 (by decide)).2, (f9X 38 (by decide)).2, (f9X 39 (by decide)).2, (f9X 40 (by decide)).2, (f9X 41 (by decide)).2]
    exact p40
  · have hk : k < NN 0 := hk
    rw [hnp'] at hk
    show ((gK P7.1 k).2 4 = 0 ∨ (gK P7.1 k).2 4 = 1) ∧ ((gK P7.1 k).2 2 = -1 ∨ ∃ b l, 1 ≤ b ∧ b < NN 2 ∧ l < 16 ∧ (gK P7.1 k).2 2 = nI b ∧ (gK P7.1 k).2 3 = nI l ∧ bt ((EE b).1 6) l = true ∧ (EE b).2.1.1 3 l = nI (gK P7.1 k).1 ∧ (EE b).2.1.1 0 (2 * l) = (gK P7.1 k).2 1)
    obtain ⟨w1, w2, w3, w4, w5⟩ := hpk.1 k hk
    rw [w4]
    refine ⟨(hP.2.1 k hk).1, ?_⟩
    rcases w5 with ⟨v1, v2⟩ | ⟨v1, v2, v3, l, l1, l2, l3, l4, l5⟩
    · rw [v1, v2, w1, w3]
      rcases (hP.2.1 k hk).2 with u | ⟨b, l, u1, u2, u3, u4, u5, u6, u7, u8⟩
      · exact Or.inl u
      · exact Or.inr ⟨b, l, u1, by omega, u3, u4, u5, by rw [gEo b (by omega)]; exact u6, by rw [gEo b (by omega)]; exact u7, by rw [gEo b (by omega)]; exact u8⟩
    · have hlc : l ≠ cl := fun y => by rw [y, hb6] at l2; cases l2
      exact Or.inr ⟨e + 1, l, by omega, by omega, l1, v2, l3, by rw [gEn, I5 6 (by decide) (by decide) (by decide)]; exact l2, by rw [gTn, p4]; exact l4, by rw [gTn, p26 l l1 hlc]; exact l5⟩
  · have hk : k < NN 0 := hk
    have hk' : k' < NN 0 := hk'
    rw [hnp'] at hk hk'
    have z1 : (gK P7.1 k).2 2 = nI b := z1
    have z2 : (gK P7.1 k').2 2 = nI b := z2
    have z3 : (gK P7.1 k).1 = (gK P7.1 k').1 := z3
    by_cases y : b = e + 1
    · subst y
      exact hpk.2 k hk k' hk' z1 z2 z3
    · rw [(kK k hk).1, (kK k' hk').1] at z3
      exact hP.2.2.1 k hk k' hk' b hb (oldk k b hk hb z1 y) (oldk k' b hk' hb z2 y) z3
  · have hk : NN 0 ≤ k := hk
    rw [hnp'] at hk
    rw [(f9X 39 (by decide)).2, (f9X 41 (by decide)).2, p41 39 (by decide) (by decide), p41 41 (by decide) (by decide), h39 k hk, (fr 41 (by decide)).2]
    exact hP.2.2.2.1 k hk
  · have hk : k < NN 0 := hk
    rw [hnp'] at hk
    have z0 : (gK P7.1 k).2 4 = 0 := z0
    have z1 : (gK P7.1 k).2 2 = nI b := z1
    have z2 : X'.2 27 (gK P7.1 k).1 = nI a := z2
    rw [(kK k hk).2.1] at z0
    have o16 := (hP.1 k hk).1
    rcases (kK k hk).2.2 with ⟨v1, -⟩ | ⟨v1, v2, v3⟩
    · rw [v1] at z1
      rw [(kK k hk).1] at z2
      by_cases yj : (gK G k).1 = j
      · exfalso
        have l1 := hP.2.2.2.2 k hk z0 e b (by omega) hb z1 (by rw [yj]; exact hat)
        rcases (hP.2.1 k hk).2 with u | ⟨b', l, u1, u2, u3, u4, -⟩
        · exact absurd (z1.symm.trans u) (nI_nm (by omega))
        · have := nI_j (by omega) (by omega) (z1.symm.trans u4)
          omega
      · rcases x27o _ o16 yj with w | w
        · exact absurd (z2.symm.trans w) (nI_nm (by omega))
        · exact hP.2.2.2.2 k hk z0 a b ha hb z1 (by rw [← w]; exact z2)
    · exfalso
      rw [(kK k hk).1] at v3 z2
      have yj : (gK G k).1 ≠ j := fun y => by
        rw [y, gMj, hMj.1.2.1, hat] at v3
        exact nI_nm (by omega) v3
      have := (mro _ o16 yj).1.2.1
      rw [v3, z2] at this
      exact nI_nm (by omega) this.symm
  · have hk : k < NN 1 := hk
    omega
  · have ha : a < NN 2 := ha
    rw [hne'] at ha
    show cn' a ≤ n9 + 3 ∧ 3 ≤ cn' a ∧ (∀ b, b ≤ a → cn' b ≤ cn' a) ∧ (∃ s, 1 ≤ s ∧ s < cn' a ∧ (EE a).1 2 = nI s ∧ ro' s = 0) ∧ (∀ v, v < 31 → ∀ v', v' < 31 → ¬ (EE a).2.1.1 0 v = -1 → (EE a).2.1.1 0 v = (EE a).2.1.1 0 v' → v = v') ∧ ∀ v, v < 31 → ¬ (EE a).2.1.1 0 v = -1 → ∃ i, 1 ≤ i ∧ i < cn' a ∧ (EE a).2.1.1 0 v = nI i ∧ 2 ≤ ro' i ∧ (ro' i = 2 → ∃ k, k < NN 0 ∧ (gK P7.1 k).2 1 = nI i ∧ ∃ b, b ≤ a ∧ (gK P7.1 k).2 2 = nI b)
    rw [hnp']
    by_cases y : a = e + 1
    · subst y
      rw [gEn, U5, cn2, I52]
      have old : ∀ v, v < 31 → ¬ q.1.2.2.1.1 0 v = -1 → ∃ i, 1 ≤ i ∧ i < n9 ∧ q.1.2.2.1.1 0 v = nI i ∧ ((i < N ∧ q.1.2.2.1.1 0 v = P7.2.2.1.1 0 v) ∨ N ≤ i) := fun v hv hn => by
        rcases p24 v hv hn with u | ⟨i, u1, u2, u3⟩
        · obtain ⟨i, v1, v2, v3, -⟩ := hk7.1 v hv (by rw [← u]; exact hn)
          exact ⟨i, v1, by omega, by rw [u, v3], Or.inl ⟨v2, u⟩⟩
        · exact ⟨i, by omega, u2, u3, Or.inr u1⟩
      refine ⟨Nat.le_refl _, by omega, fun b hb => ?_, ⟨n9 + 2, by omega, by omega, rfl, ro3 _ (by omega) ?_⟩, fun v hv v' hv' hn heq => ?_, fun v hv hn => ?_⟩
      · by_cases yb : b = e + 1
        · rw [yb, cn2]; exact Nat.le_refl _
        · rw [cn1 b (by omega)]
          have := (hI.1 b (by omega)).1
          omega
      · rintro ⟨v, v1, v2⟩
        obtain ⟨i, u1, u2, u3, -⟩ := old v v1 (by rw [v2]; exact nI_nm (by omega))
        rw [v2] at u3
        have := nI_j (by omega) (by omega) u3
        omega
      · obtain ⟨i, u1, u2, u3, u4⟩ := old v hv hn
        obtain ⟨i', u1', u2', u3', u4'⟩ := old v' hv' (by rw [← heq]; exact hn)
        have ei : i = i' := nI_j (by omega) (by omega) (u3.symm.trans (heq.trans u3'))
        subst ei
        rcases u4 with ⟨x1, x2⟩ | x1
        · rcases u4' with ⟨x3, x4⟩ | x3
          · exact hk7.2 v hv v' hv' (by rw [← x2]; exact hn) (by rw [← x2, ← x4]; exact heq)
          · omega
        · exact p25 v hv v' hv' i x1 u2 u3 u3'
      · obtain ⟨i, u1, u2, u3, u4⟩ := old v hv hn
        rcases u4 with ⟨x1, x2⟩ | x1
        · obtain ⟨i', v1, v2, v3, v4, v5⟩ := hk7.1 v hv (by rw [← x2]; exact hn)
          have ei : i' = i := nI_j (by omega) (by omega) (v3.symm.trans (x2.symm.trans u3))
          subst ei
          exact ⟨i', u1, by omega, u3, by rw [ro1 i' x1]; exact v4, by rw [ro1 i' x1]; exact v5⟩
        · have r4 := ro2 i x1 ⟨v, hv, u3⟩
          exact ⟨i, u1, by omega, u3, by omega, fun w => by omega⟩
    · rw [gEo a (by omega), cn1 a (by omega)]
      obtain ⟨c1, c2, c3, ⟨s', d1, d2, d3, d4⟩, c5, c6⟩ := hI.1 a (by omega)
      refine ⟨by omega, c2, fun b hb => by rw [cn1 b (by omega)]; exact c3 b hb, ⟨s', d1, d2, d3, by rw [ro1 s' (by omega)]; exact d4⟩, c5, fun v hv hn => ?_⟩
      obtain ⟨i, v1, v2, v3, v4, v5⟩ := c6 v hv hn
      refine ⟨i, v1, v2, v3, by rw [ro1 i (by omega)]; exact v4, fun w => ?_⟩
      rw [ro1 i (by omega)] at w
      obtain ⟨k, u1, u2, b, u3, u4⟩ := v5 w
      exact ⟨k, u1, (hpk.1 k u1).2.2.1.trans u2, b, u3, keepk k b u1 (by omega) u4⟩
  · have hk : k < NN 0 := hk
    rw [hnp'] at hk
    obtain ⟨f, f1, f2, f3, f4, f5, f6, f7⟩ := hI.2.1 k hk
    refine ⟨f, f1, by omega, (hpk.1 k hk).2.1.trans f3, (hpk.1 k hk).2.2.1.trans f4, by rw [ro1 f (by omega)]; exact f5, by rw [ro1 _ (by omega)]; exact f6, fun k' hk' f' hf' z => ?_⟩
    have z : (gK P7.1 k').2 0 = nI f' := z
    rw [(hpk.1 k' (by omega)).2.1] at z
    obtain ⟨x, x1, x2, x3, -⟩ := hI.2.1 k' (by omega)
    have e3 := z
    rw [x3] at e3
    have := nI_j (by omega) (by omega) e3
    exact f7 k' hk' f' (by omega) z
  · have z : (MM i).1 1 = nI u := z
    show ∃ x, 3 ≤ x ∧ x < n9 + 3 ∧ (MM i).2 1 k = nI x ∧ ro' x = 3 ∧ (∀ a, a < NN 2 → (MM i).1 2 = nI a → cn' a ≤ x) ∧ ∀ k', k' < k → ∀ i', i' < n9 + 3 → (MM i).2 1 k' = nI i' → i' < x
    rw [gMo] at z ⊢
    by_cases y : i = j
    · rw [if_pos y, ml.1, upd_s, show (0 : Int32) = nI 0 from rfl] at z
      have := nI_j (by omega) (by omega) z
      omega
    · rw [if_neg y] at z ⊢
      rw [gm i hi] at z ⊢
      unfold ML at z ⊢
      by_cases c : (gM G i).1 2 = nI e ∧ ∃ l, l < 16 ∧ (gM G i).1 3 = nI l ∧ bt (P7.2.1 4) l = true
      · rw [if_pos c, (MR_leave (hM.1 i hi)).2, show (0 : Int32) = nI 0 from rfl] at z
        have := nI_j (by omega) (by omega) z
        omega
      · rw [if_neg c] at z ⊢
        obtain ⟨x, x1, x2, x3, x4, x5, x6⟩ := hI.2.2.1 i hi u hu z k hk
        refine ⟨x, x1, by omega, x3, by rw [ro1 x x2]; exact x4, fun a ha w => ?_, fun k' hk' i' hi' w => ?_⟩
        · rw [hne'] at ha
          have hae : a ≤ e := by
            rcases (hM.1 i hi).2.2 with ⟨c1, -⟩ | ⟨a', l', c1, c2, c3, -⟩
            · rw [(hM.1 i hi).1.2.1, c1] at w
              exact absurd w.symm (nI_nm (by omega))
            · rw [(hM.1 i hi).1.2.1, c3] at w
              have := nI_j (by omega) (by omega) w
              omega
          rw [cn1 a hae]
          exact x5 a (by omega) w
        · obtain ⟨x', y1', y2', y3', -⟩ := hI.2.2.1 i hi u hu z k' (by omega)
          have e3 := w
          rw [y3'] at e3
          have := nI_j (by omega) (by omega) e3
          exact x6 k' hk' i' (by omega) w
  · have hk : k < NN 1 := hk
    omega
  · have hx5 : X'.2 5 = X.2 5 := (fXX 5 (by decide)).2
    obtain ⟨⟨s1', s2', s3', s4', s5', s6'⟩, ⟨u1, u2, u3, u4⟩, -, u6⟩ := hS
    have hlt : ∀ f w t, (f, w, t) ∈ L11 → f < n9 + 3 ∧ w < n9 + 3 ∧ t < n9 + 3 := w1.lt
    have hwcl := IXX.snd (by omega) hlt (by omega)
    have hsnd : snd L11 T T12 := w1.2.2.1.tr y3
    refine ⟨⟨y1, y4, hmi, IXX, ?_, ?_⟩, ⟨fun k hk z => ?_, fun x hx => ?_, fun k hk => ?_, fun k hk hk2 => ?_⟩, ⟨by omega, ?_, ?_, ?_⟩, fun k hk z => ?_⟩
    · rw [(fWX 1 (by decide)).1, (hWf 1 (by decide)).1]; exact z3
    · rw [(fWX 7 (by decide)).1]; exact w4
    · rw [hx5] at z
      rcases Nat.lt_or_ge k N with y | y
      · exact pre_tld y2 (pre_tld w1.2.1 (u1 k y z))
      · exact absurd (u4 k y (by omega)) z
    · exact hsnd _ hwcl (fun y hy => Kn_mono XEX (fun k _ z => by rw [hx5]; exact z) (u2 y hy)) x hx
    · rw [hx5]
      rcases Nat.lt_or_ge k N with y | y
      · exact u3 k y
      · exact Or.inl (u4 k y (by omega))
    · rw [hx5]
      exact u4 k (by omega) hk2
    · show n9 + 3 ≤ 3 + 13 * (NN 2 - 1) + 2 * (n + 1)
      omega
    · show L11.length ≤ 35 * (NN 2 - 1) + 2 * cU (gK P7.1) (NN 0)
      rw [hnp', hcuE]
      omega
    · show c11 ≤ 22 * (NN 2 - 1) + 2 * cU (gK P7.1) (NN 0)
      rw [hnp', hcuE]
      omega
    · show ∃ f s, f < s ∧ s < n9 + 3 ∧ X'.2 3 k = nI f ∧ X'.2 14 (NN 2 - 1) = nI s
      have x14' : X'.2 14 (NN 2 - 1) = nI (n9 + 2) := by
        rw [hne', show e + 2 - 1 = e + 1 by omega, (fWX 14 (by decide)).2, (hWf 14 (by decide)).2]
        exact z6
      have x2W : X'.2 2 k = Z.2 2 k := by rw [(fWX 2 (by decide)).2, (hWf 2 (by decide)).2]
      have x3W : X'.2 3 k = Z.2 3 k := by rw [(fWX 3 (by decide)).2, (hWf 3 (by decide)).2]
      rw [x14', x3W]
      rw [x2W] at z
      rcases Nat.lt_or_ge k N with y | y
      · have o1 := (p8.tr z2).2.2.1 k y
        rw [o1.1] at z
        rw [o1.2.1]
        obtain ⟨f, s', v1, v2, v3, v4⟩ := u6 k y z
        exact ⟨f, n9 + 2, by omega, by omega, v3, rfl⟩
      · rcases Nat.lt_or_ge k n9 with y' | y'
        · rw [(z2.2.2.1 k y').1] at z
          exact absurd z (p35 k y y')
        · have hk3 : k = n9 ∨ k = n9 + 1 ∨ k = n9 + 2 := by have : k < n9 + 3 := hk; omega
          rcases hk3 with w | w | w
          · subst w
            have := sg_lt hN3 (show s < N by omega)
            exact ⟨sg s, k + 2, by omega, by omega, z8.2.1, rfl⟩
          · rw [w, z8.2.2.1] at z
            exact absurd z (by decide)
          · rw [w, z8.2.2.2] at z
            exact absurd z (by decide)
