/-! ===== the pure part: a commit, behind its path ===== -/
theorem or_0 {a b : Int32} : a ||| b = 0 ↔ a = 0 ∧ b = 0 := by
  constructor
  · intro h
    have q : ∀ i, i < 32 → bt a i = false ∧ bt b i = false := fun i hi => by
      have := congrArg (fun x => bt x i) h
      simp only [bt_or, bt_0, Bool.or_eq_false_iff] at this
      exact this
    exact ⟨bt_ext (fun i hi => by rw [(q i hi).1, bt_0]), bt_ext (fun i hi => by rw [(q i hi).2, bt_0])⟩
  · rintro ⟨rfl, rfl⟩
    decide
/-- where a commit stands behind its path -/
def PF (G : G_T) (X : x_T) (e cl N c : Nat) (L : w_L) (T : List Nat) (P7 : G_T × e_T) (q : (G_T × e_T) × Int32) (X9 : x_T) (N9 c9 cvn : Nat) (L9 : w_L) (T9 : List Nat) (X7 : x_T) : Prop :=
  (TR q.1.2.2.1 X9 (e + 1) ∧ TI q.1.2.2.1 ∧ IDT q.1.2.2.1 N9 ∧ q.1.2.2.1.1 3 = P7.2.2.1.1 3 ∧ q.1.2.2.1.2 = P7.2.2.1.2) ∧ (SQ T.length T (gS q.1.1) N9 L9 T9 ∧ IX X9 N9 c9 L9 ∧ XE X N c X9 N9 c9 ∧ X9.1 1 = nI N9 ∧ X9.1 7 = nI c9) ∧ (N ≤ N9 ∧ N9 ≤ N + 10 ∧ L9.length ≤ L.length + 31 ∧ c9 ≤ c + 22) ∧
  ((∀ i, i ≠ 3 → i ≠ 7 → q.1.2.1 i = P7.2.1 i) ∧ q.1.2.1 3 = X9.2 16 (e + 1) ∧ q.1.2.1 7 = X9.2 20 (e + 1) ∧ q.2 = nI cvn ∧ cvn < N9 ∧ (cvn = 0 ∨ 3 ≤ cvn)) ∧
  (TS (gT G e) q.1.2.2.1 cl (q.1.2.1 3) (P7.2.1 4) (P7.2.1 5) (P7.2.1 6) ∧ ENC q.1.2.2.1 cl (e + 1) (q.1.2.1 3) (P7.2.1 6) X9 c9) ∧
  (∀ l, l < 16 → ∀ u, 1 ≤ u → u ≤ q.1.2.2.1.2 → bt (q.1.2.1 3) (abv l u) = true → ∃ a, 3 ≤ a ∧ a < N9 ∧ r_get 5 q.1.2.2.2 (nI u) = nI a ∧ X9.2 25 (31 * (e + 1) + abv l u) = nI a) ∧
  ((∀ v, v < 31 → ¬ q.1.2.2.1.1 0 v = -1 → q.1.2.2.1.1 0 v = P7.2.2.1.1 0 v ∨ ∃ i, N ≤ i ∧ i < N9 ∧ q.1.2.2.1.1 0 v = nI i) ∧ (∀ v, v < 31 → ∀ v', v' < 31 → ∀ i, N ≤ i → i < N9 → q.1.2.2.1.1 0 v = nI i → q.1.2.2.1.1 0 v' = nI i → v = v') ∧ ∀ l, l < 16 → l ≠ cl → q.1.2.2.1.1 0 (2 * l) = P7.2.2.1.1 0 (2 * l)) ∧
  (gM q.1.1 = gM P7.1 ∧ gK q.1.1 = gK P7.1 ∧ gQ q.1.1 = gQ P7.1 ∧ gE q.1.1 = gE P7.1 ∧ gN q.1.1 = gN P7.1) ∧ (xfr cK9 X X9 ∧ EO (e + 1) X X9 ∧ (X9.2 21 (e + 1) = 0 → X9.2 16 (e + 1) = 0) ∧ ∀ k, N ≤ k → k < N9 → ¬ X9.2 2 k = 6) ∧ (∀ k, 36 ≤ k → k ≤ 41 → X9.2 k = X7.2 k) ∧ (X9.2 15 (e + 1) = nI cl ∧ P7.2.1 4 = X9.2 17 (e + 1) ∧ P7.2.1 5 = X9.2 18 (e + 1) ∧ P7.2.1 6 = X9.2 19 (e + 1)) ∧ KR (gK P7.1) (np G) X9
theorem IDT_7 {G : G_T} {N e cl np' : Nat} {ro cn : Nat → Nat} {X X7 : x_T} {p : G_T × e_T} {nk : Nat → Int32} (hI : RI G N ro cn) (hM : MC G X e cl p X7 nk) (he : e < ne G) : IDT p.2.2.1 N := by
  obtain ⟨⟨t1, t2, t3⟩, -, -, -, -, -, hb5, -⟩ := hM
  obtain ⟨c1, c2, c3, c4, c5, c6⟩ := hI.1 e he
  intro v hv hn
  rcases Nat.eq_zero_or_pos (hgt v) with z | z
  · obtain ⟨q1, q2⟩ := leaf_of v hv z
    rw [← q1] at hn ⊢
    rcases t3.lf (fun l hl z => by obtain ⟨w1, w2, w3, -⟩ := hb5 l hl z; exact ⟨w1, w2, w3⟩) q2 hn with ⟨-, k, k1, k2, k3, k4, k5⟩ | ⟨-, -, y3, -, y4⟩
    · obtain ⟨f, f1, f2, f3, f4, -⟩ := hI.2.1 k k1
      rw [k4, (t3.pk.1 k k1).2.2.1, f4]
      exact ⟨f + 1, by omega, f2, rfl⟩
    · rcases y4 with ⟨y5, y6⟩ | ⟨y5, y6⟩
      · obtain ⟨-, -, -, -, k, k1, k2, k3, k4⟩ := hb5 _ q2 y5
        obtain ⟨i, i1, i2, i3, i4, -⟩ := hI.2.2.2 k k1 k2
        rw [y6, ← k4, i2]
        have := (hI.1 (ne G - 1) (by omega)).2.1
        exact ⟨i, by omega, i1, rfl⟩
      · rw [y6]
        obtain ⟨i, i1, i2, i3, -⟩ := c6 _ (by omega) y3
        exact ⟨i, i1, by omega, i3⟩
  · obtain ⟨w1, -⟩ := t3.inn hv z hn
    rw [w1] at hn ⊢
    obtain ⟨i, i1, i2, i3, -⟩ := c6 v hv hn
    exact ⟨i, i1, by omega, i3⟩
theorem C_path {n : Nat} {G : G_T} {X X7 X9 : x_T} {j cl e D7 n9 N c : Nat} {L : w_L} {T : List Nat} {ro cn : Nat → Nat} {nk : Nat → Int32} {pa cv : Int32} (hA : RA G X) (hI : RI G N ro cn) (hS : RS G X n N c L T) (hN : N + 20 ≤ 2200) (hL : L.length + 40 ≤ 2600) (hcb : c + 48 ≤ 3600) (hM : MC G X e cl (C_3 G j) X7 nk) (hne : ne G = e + 1) (hne2 : e + 1 < 60) (hcl : cl < 16) (hcn : ¬ (gT G e).1 0 (2 * cl) = -1) (h13 : X7.2 13 (e + 1) = nI D7) (hD7 : D7 ≤ 4) (hn9b : n9 ≤ 2600) (hC : q_CH9 X7 cl e D7 n9 pa cv X9) : ∃ c9 cvn L9 T9, cv = nI cvn ∧ PF G X e cl N c L T (C_3 G j) (C_4 G j pa) X9 n9 c9 cvn L9 T9 X7 := by
  classical
  have hid := IDT_7 (np' := 0) hI hM (by omega)
  have hM' := hM
  obtain ⟨⟨s1, s2, s3, s4, s5, s6⟩, ⟨u1, u2, u3, u4⟩, ⟨b1, b2, b3, b4⟩, -⟩ := hS
  obtain ⟨⟨t1, t2, t3⟩, ⟨i0, i1, i3, i4, i5, i6, i7⟩, ⟨g1, g2, g3, g4⟩, -, kr, ⟨fr, eo, x15⟩, hb5, hb4⟩ := hM
  obtain ⟨z13, z16, z17, z18, z19, z20⟩ := hA.2.2 (e + 1) (by omega) (by omega)
  have hb5' : ∀ l, l < 16 → bt ((C_3 G j).2.1 5) l = true → ¬ (gT G e).1 0 (2 * l) = -1 ∧ bt ((C_3 G j).2.1 4) l = false ∧ ¬ nk l = -1 := fun l hl z => by
    obtain ⟨w1, w2, w3, -⟩ := hb5 l hl z
    exact ⟨w1, w2, w3⟩
  have hc5 : bt ((C_3 G j).2.1 5) cl = false := bt_tf (fun z => by
    obtain ⟨-, -, -, w4, -⟩ := hb5 cl hcl z
    exact w4 rfl)
  obtain ⟨Y9, hY, fx, hn9⟩ := hC
  unfold C_4
  generalize hP7 : C_3 G j = P7 at *
  have hDT : D7 = P7.2.2.1.2 := nI_j (by omega) (by have := t2.1; omega) (h13.symm.trans t1.1)
  have hclD : cl < 2 ^ P7.2.2.1.2 := by
    obtain ⟨w1, -⟩ := t3.st hb5' hcl hcn hb4
    have := t2.2.2.2.1 (2 * cl) (by omega) w1
    rw [Nat.pow_succ] at this
    omega
  have hneed : E_need P7.2 pa ↔ ch_P X7 e pa := by
    unfold E_need ch_P
    rw [i4, i5, i6, or_0]
    constructor
    · rintro (z | z | z)
      · exact Or.inl z
      · by_cases y : X7.2 17 (e + 1) = 0
        · exact Or.inr (Or.inr (Or.inl (fun w => z ⟨y, w⟩)))
        · exact Or.inr (Or.inl y)
      · exact Or.inr (Or.inr (Or.inr z))
    · rintro (z | z | z | z)
      · exact Or.inl z
      · exact Or.inr (Or.inl (fun w => z w.1))
      · exact Or.inr (Or.inl (fun w => z w.2))
      · exact Or.inr (Or.inr z)
  -- X8
  have f8 : xfr [21] X7 (ch_8 X7 e pa) := by unfold ch_8; exact xfr.rf.xs 21 _ _ (by decide)
  have v21 : (ch_8 X7 e pa).2 21 (e + 1) = b2i (ch_P X7 e pa) := by unfold ch_8; exact xs_s _ _ _ _
  have eo8 : EO (e + 1) X (ch_8 X7 e pa) := by unfold ch_8; exact eo.xs1 21 _ (by decide)
  have fr8 : xfr cK8 X (ch_8 X7 e pa) := (fr.wk (by decide)).tr (f8.wk (by decide))
  generalize ch_8 X7 e pa = X8 at hY f8 v21 eo8 fr8
  have TR8 : TR P7.2.2.1 X8 (e + 1) := t1.fr f8 (by decide)
  have XE8 : XE X N c X8 N c := XE.of fr8 (by decide)
  have IX8 : IX X8 N c L := s4.grow XE8 (by omega) (fun x hx => hx) (fun k h1 h2 => by omega) (fun j h1 h2 => by omega) (fun f w t hm => Or.inl hm)
  have n8 : X8.1 1 = nI N := by rw [(fr8 1 (by decide)).1]; exact s5
  have c8 : X8.1 7 = nI c := by rw [(fr8 7 (by decide)).1]; exact s6
  have x16 : X8.2 16 (e + 1) = 0 := by rw [(fr8 16 (by decide)).2]; exact z16
  have x20 : X8.2 20 (e + 1) = 0 := by rw [(fr8 20 (by decide)).2]; exact z20
  have hSQ : SQ T.length T (gS P7.1) N L T := by
    rw [g1]
    exact ⟨s1, List.prefix_refl _, snd.rf L T, s2⟩
  have r9 : ∀ k, k ∉ rs_K → X9.2 k = Y9.2 k ∧ X9.1 k = Y9.1 k := fun k hk => ⟨(fx k hk).2, (fx k hk).1⟩
  have KR8 : KR (gK P7.1) (np G) X8 := by
    unfold KR
    rw [(f8 36 (by decide)).2, (f8 37 (by decide)).2, (f8 38 (by decide)).2, (f8 39 (by decide)).2, (f8 40 (by decide)).2, (f8 41 (by decide)).2]
    exact kr
  have q15 : X8.2 15 (e + 1) = nI cl := by rw [(f8 15 (by decide)).2]; exact x15
  have q17 : P7.2.1 4 = X8.2 17 (e + 1) := by rw [(f8 17 (by decide)).2]; exact i4
  have q18 : P7.2.1 5 = X8.2 18 (e + 1) := by rw [(f8 18 (by decide)).2]; exact i5
  have q19 : P7.2.1 6 = X8.2 19 (e + 1) := by rw [(f8 19 (by decide)).2]; exact i6
  rcases hY with ⟨hp, hY1, hcv⟩ | ⟨hp, hY1, hcv⟩
  · rw [if_pos (hneed.mpr hp)]
    have ini := PS.init (E7 := P7.2) (X0 := X8) (c0 := c) hcl hclD i0 i1 b1 hN TR8 t2 hid hSQ IX8 n8 c8 i3 x16 (by rw [i7, x20])
    obtain ⟨Np, cp, Lp, Tp, hPS⟩ := PS.all (e := e + 1) hcl t2.1 hclD i0 i1 q19 b1 hN hL (by omega) P7.2.2.1.2 1 _ _ _ _ _ _ (by omega) (by omega) ini
    have hpath : ES_path P7.2 (gS P7.1) = ES_lay P7.2.2.1.2 1 (ES_q0 P7.2 (gS P7.1)) := rfl
    rw [← hpath] at hPS
    have hrn : rn X8 (e + 1) cl D7 = (mkl (rn_m (e + 1) cl D7 1 (rn_0 X8 (e + 1) cl, -1)).1 (rn_m (e + 1) cl D7 1 (rn_0 X8 (e + 1) cl, -1)).2, (rn_m (e + 1) cl D7 1 (rn_0 X8 (e + 1) cl, -1)).1.1 1) := rfl
    have hWF : WF X8 N := fun k hk => by
      obtain ⟨-, f, s, f1, f2, f3, f4, f5, -⟩ := IX8.1 k hk
      exact ⟨f, f3, f5⟩
    obtain ⟨nr, cr, rn1, rn2, rn3, rn4, rn5, rn6⟩ := rn_all (X := X8) (n := N) (c := c) (e := e + 1) (D := D7) hcl (by rw [(f8 13 (by decide)).2]; exact h13) hD7 n8 (by omega) c8 (by omega) (by rw [(fr8 12 (by decide)).1, hA.1.1, hne]) (uk_of TR8 t2) hWF
    rw [← hY1] at rn1
    rw [hrn] at hY1 hcv
    dsimp only at hY1 hcv
    rw [hDT] at hY1 hcv
    have hlB := lB_le (P7.2.2.1.2 + 1) (by have := t2.1; omega)
    have hTS := TS.path t3 hPS (by omega) hb5' hcl hcn hb4 hc5 t2.1
    have hPS' := hPS
    obtain ⟨⟨a1, a2, a3, a4⟩, ⟨p1, p2, p3, p4, p5⟩, ⟨c1, c2, c3, c4⟩, ⟨d1, d2, d3⟩, e1, ⟨f1, f2, f3⟩, g1', g2', g3', g4', g5'⟩ := hPS
    have hD4 := t2.1
    obtain ⟨w1, w2, L1, TT1, w3, w4, w5, w6, w7, w8, w9⟩ := PS.fin hPS' (by omega) (by omega) b1
    rw [← hY1] at w5 w6 w7 w8 w9
    have eN : n9 = Np + 1 := nI_j (by omega) (by omega) (hn9.symm.trans w7)
    have er : nr = n9 := nI_j (by omega) (by omega) (rn1.2.1.symm.trans hn9)
    subst eN
    subst er
    have fp9 : xfr [1, 2, 3, 4, 48, 49, 50] (rn_m (e + 1) cl P7.2.2.1.2 1 (rn_0 X8 (e + 1) cl, -1)).1 X9 := (w9.wk (by decide)).tr (fx.wk (by decide))
    have XE9 : XE Y9 (Np + 1) cp X9 (Np + 1) cp := XE.of fx (by decide)
    have IX9 : IX X9 (Np + 1) cp L1 := w5.grow XE9 (by omega) (fun x hx => hx) (fun k h1 h2 => by omega) (fun j h1 h2 => by omega) (fun f w t hm => Or.inl hm)
    have hlay : C_lay P7 = ((sS P7.1 (S_nxt (ES_path P7.2 (gS P7.1)).1.2 (ES_path P7.2 (gS P7.1)).2).2, (ES_path P7.2 (gS P7.1)).1.1), (S_nxt (ES_path P7.2 (gS P7.1)).1.2 (ES_path P7.2 (gS P7.1)).2).1) := rfl
    rw [hlay]
    generalize ES_path P7.2 (gS P7.1) = Q at *
    generalize rn_m (e + 1) cl P7.2.2.1.2 1 (rn_0 X8 (e + 1) cl, -1) = p at *
    have F9 : xfr [1, 2, 3, 4, 7, 8, 9, 10, 11, 16, 20, 22, 23, 24, 25, 48, 49, 50] X8 X9 := (g4'.wk (by decide)).tr (fp9.wk (by decide))
    have tp : ∀ v, v < 31 → ab cl v → hgt v < P7.2.2.1.2 + 1 → v = 2 * cl ∨ (1 ≤ hgt v ∧ v = abv cl (hgt v)) := fun v hv ha hh => by
      rcases Nat.eq_zero_or_pos (hgt v) with z | z
      · exact Or.inl ((leaf_0 v hv cl hcl).mp ⟨ha, z⟩)
      · have : abv cl (hgt v) = v := ha
        exact Or.inr ⟨z, this.symm⟩
    have cls : ∀ v, v < 31 → ¬ Q.1.1.2.1.1 0 v = -1 → (¬ (ab cl v ∧ hgt v < P7.2.2.1.2 + 1) ∧ Q.1.1.2.1.1 0 v = P7.2.2.1.1 0 v) ∨ (v = 2 * cl ∧ Q.1.1.2.1.1 0 v = nI N) ∨ ∃ u i, 1 ≤ u ∧ u < P7.2.2.1.2 + 1 ∧ v = abv cl u ∧ N < i ∧ i < Np ∧ Q.1.1.2.1.1 0 v = nI i := fun v hv hn => by
      by_cases y : ab cl v ∧ hgt v < P7.2.2.1.2 + 1
      · rcases tp v hv y.1 y.2 with z | ⟨z1, z2⟩
        · exact Or.inr (Or.inl ⟨z, by rw [z]; exact f3⟩)
        · have ph := g1' (hgt v) z1 y.2
          unfold PH at ph
          rw [← z2] at ph
          by_cases x : ∃ w, inR P7.2.2.1 (hgt v - 1) (sib cl (hgt v)) w
          · obtain ⟨-, ⟨i, j1, j2, j3⟩, -⟩ := ph.1 x
            exact Or.inr (Or.inr ⟨hgt v, i, z1, y.2, z2, j1, j2, j3⟩)
          · exact absurd (ph.2 x).2 hn
      · exact Or.inl ⟨y, (f1 v hv y).1⟩
    refine ⟨cp, Np, L1, TT1, by rw [hcv]; exact w2, ⟨a1.fr fp9 (by decide), a2, fun v hv z => ?_, f2, a3⟩, ⟨w3, IX9, ((XE8.tr p3).tr w6).tr XE9, by rw [(fx 1 (by decide)).1]; exact hn9, by rw [(fx 7 (by decide)).1]; exact w8⟩, ⟨by omega, by omega, by omega, by omega⟩, ⟨d1, by rw [(fp9 16 (by decide)).2]; exact d2, by rw [(fp9 20 (by decide)).2]; exact d3, w1, by omega, Or.inr (by omega)⟩, ⟨hTS.1, fun u h1 h2 z w hw y1 y2 => ?_⟩, fun l hl u h1 h2 z => ?_, ⟨fun v hv hn => ?_, fun v hv v' hv' i h1 h2 h3 h4 => ?_, fun l hl hlc => ?_⟩, ⟨rfl, rfl, rfl, rfl, rfl⟩, ⟨(fr8.wk (by decide)).tr (F9.wk (by decide)), ((eo8.tr g5').tr (EO.of fp9 (by decide))), fun z => ?_, fun k h1 h2 z => ?_⟩, fun k h1 h2 => ((F9 k (by simp; omega)).2).trans (f8 k (by simp; omega)).2, ⟨by rw [(F9 15 (by decide)).2]; exact q15, by rw [(F9 17 (by decide)).2]; exact q17, by rw [(F9 18 (by decide)).2]; exact q18, by rw [(F9 19 (by decide)).2]; exact q19⟩, ?_⟩
    · obtain ⟨i, j1, j2, j3⟩ := a4 v hv z
      exact ⟨i, j1, by omega, j3⟩
    · obtain ⟨k, k1, k2, k3, k4⟩ := hTS.2 u h1 h2 z w hw y1 y2
      exact ⟨k, k1, by rw [(fp9 10 (by decide)).2]; exact k2, by rw [(fp9 11 (by decide)).2]; exact k3, by rw [(fp9 8 (by decide)).2]; exact k4⟩
    · have h2 : u ≤ Q.1.1.2.1.2 := h2
      rw [a3] at h2
      have hv := abv_sib l hl u (by omega) h1
      have hs3 := hTS.1.2.2.1 (abv l u) hv.1 z
      have heq : abv cl u = abv l u := by
        have : abv cl (hgt (abv l u)) = abv l u := hs3.2.1
        rw [hv.2.1] at this
        exact this
      have ph := g1' u h1 (by omega)
      by_cases x : ∃ w, inR P7.2.2.1 (u - 1) (sib cl u) w
      · obtain ⟨-, -, -, ⟨a, j1, j2, j3, j4⟩, -⟩ := ph.1 x
        refine ⟨a, by omega, by omega, ?_, ?_⟩
        · show r_get 5 Q.1.1.2.2 (nI u) = nI a
          rw [r_get_in (by omega) (by decide)]
          exact j3
        · rw [(fp9 25 (by decide)).2, ← heq]
          exact j4
      · have := (ph.2 x).1
        rw [heq] at this
        have z : bt (Q.1.1.1 3) (abv l u) = true := z
        rw [this] at z
        cases z
    · rcases cls v hv hn with ⟨-, z⟩ | ⟨-, z⟩ | ⟨u, i, -, -, -, j1, j2, j3⟩
      · exact Or.inl z
      · exact Or.inr ⟨N, Nat.le_refl _, by omega, z⟩
      · exact Or.inr ⟨i, by omega, by omega, j3⟩
    · have h3 : Q.1.1.2.1.1 0 v = nI i := h3
      have h4 : Q.1.1.2.1.1 0 v' = nI i := h4
      have nb : ¬ nI i = -1 := nI_nm (by omega)
      have fresh : ∀ v, v < 31 → Q.1.1.2.1.1 0 v = nI i → (v = 2 * cl ∧ i = N) ∨ ∃ u, 1 ≤ u ∧ u < P7.2.2.1.2 + 1 ∧ v = abv cl u ∧ N < i := fun v hv h => by
        rcases cls v hv (by rw [h]; exact nb) with ⟨-, z⟩ | ⟨z1, z2⟩ | ⟨u, i', j1, j2, j3, j4, j5, j6⟩
        · exfalso
          obtain ⟨x, x1, x2, x3⟩ := hid v hv (by rw [← z, h]; exact nb)
          rw [← z, h] at x3
          have := nI_j (by omega) (by omega) x3
          omega
        · rw [h] at z2
          exact Or.inl ⟨z1, nI_j (by omega) (by omega) z2⟩
        · rw [h] at j6
          have := nI_j (by omega) (by omega) j6
          subst this
          exact Or.inr ⟨u, j1, j2, j3, j4⟩
      rcases fresh v hv h3 with ⟨x1, x2⟩ | ⟨u, x1, x2, x3, x4⟩
      · rcases fresh v' hv' h4 with ⟨y1, y2⟩ | ⟨u', y1, y2, y3, y4⟩
        · rw [x1, y1]
        · omega
      · rcases fresh v' hv' h4 with ⟨y1, y2⟩ | ⟨u', y1, y2, y3, y4⟩
        · omega
        · rcases Nat.lt_trichotomy u u' with z | z | z
          · refine absurd ?_ (g2' u' u x1 z y2 (by rw [← y3, h4]; exact nb))
            rw [← y3, ← x3, h3, h4]
          · rw [x3, y3, z]
          · refine absurd ?_ (g2' u u' y1 z x2 (by rw [← x3, h3]; exact nb))
            rw [← y3, ← x3, h3, h4]
    · exact (f1 (2 * l) (by omega) (fun z => hlc ((ab_leaf cl hcl l hl).mp z.1).symm)).1
    · rw [(F9 21 (by decide)).2, v21] at z
      unfold b2i at z
      rw [if_pos hp] at z
      exact absurd z (by decide)
    · rw [(fx 2 (by decide)).2] at z
      exact rn1.2.2.2.2.2 k h1 h2 z
    · unfold KR
      rw [(F9 36 (by decide)).2, (F9 37 (by decide)).2, (F9 38 (by decide)).2, (F9 39 (by decide)).2, (F9 40 (by decide)).2, (F9 41 (by decide)).2]
      exact KR8
  · rw [if_neg (fun z => hp (hneed.mp z))]
    rw [hY1] at fx hn9
    have eN : n9 = N := nI_j (by omega) (by omega) (hn9.symm.trans n8)
    subst eN
    have XE9 : XE X8 n9 c X9 n9 c := XE.of fx (by decide)
    have IX9 : IX X9 n9 c L := IX8.grow XE9 (by omega) (fun x hx => hx) (fun k h1 h2 => by omega) (fun j h1 h2 => by omega) (fun f w t hm => Or.inl hm)
    have hTS := TS.no t3 hb5' i3 hcl hcn hb4 hc5 X9 c
    refine ⟨c, 0, L, T, by rw [hcv]; rfl, ⟨TR8.fr fx (by decide), t2, hid, rfl, rfl⟩, ⟨hSQ, IX9, XE8.tr XE9, by rw [(fx 1 (by decide)).1]; exact n8, by rw [(fx 7 (by decide)).1]; exact c8⟩, ⟨by omega, by omega, by omega, by omega⟩, ⟨fun _ _ _ => rfl, by rw [(fx 16 (by decide)).2, x16]; exact i3, by rw [(fx 20 (by decide)).2, x20]; exact i7, rfl, by omega, Or.inl rfl⟩, hTS, fun l hl u h1 h2 z => ?_, ⟨fun v hv hn => Or.inl rfl, fun v hv v' hv' i h1 h2 => by omega, fun _ _ _ => rfl⟩, ⟨rfl, rfl, rfl, rfl, rfl⟩, ⟨(fr8.wk (by decide)).tr (fx.wk (by decide)), eo8.tr (EO.of fx (by decide)), fun _ => by rw [(fx 16 (by decide)).2]; exact x16, fun k h1 h2 => by omega⟩, fun k h1 h2 => ((fx k (by unfold rs_K; simp; omega)).2).trans (f8 k (by simp; omega)).2, ⟨by rw [(fx 15 (by decide)).2]; exact q15, by rw [(fx 17 (by decide)).2]; exact q17, by rw [(fx 18 (by decide)).2]; exact q18, by rw [(fx 19 (by decide)).2]; exact q19⟩, ?_⟩
    · have z : bt (P7.2.1 3) (abv l u) = true := z
      rw [i3, bt_0] at z
      cases z
    · unfold KR
      rw [(fx 36 (by decide)).2, (fx 37 (by decide)).2, (fx 38 (by decide)).2, (fx 39 (by decide)).2, (fx 40 (by decide)).2, (fx 41 (by decide)).2]
      exact KR8
