/-! ===== the pure part: a commit's secrets and its welcomes ===== -/
theorem IX.mi {X : x_T} {n c : Nat} {L : w_L} (h : IX X n c L) (hn : n < 2 ^ 31) (hn3 : 3 ≤ n) (hL : ∀ f w t, (f, w, t) ∈ L → f < n ∧ w < n ∧ t < n) : MI L := fun f w t hm hw => by
  obtain ⟨b1, b2, b3⟩ := hL f w t hm
  have s1 := sg_lt hn3 b1
  have s2 := sg_lt hn3 b2
  rcases h.2.2.1 f w t hm with ⟨z, -⟩ | ⟨a, ⟨z, -⟩ | ⟨a1, a2⟩⟩
  · exact absurd z hw
  · exact absurd z hw
  · obtain ⟨-, f', s', f1, f2, f3, f4, -, -, f7⟩ := h.1 (sg t) a
    obtain ⟨g1, g2⟩ := f7 a1
    rw [sg_sg] at g1 g2
    rcases a2 with ⟨a3, a4⟩ | ⟨a3, a4⟩
    · have e1 : f' = sg f := nI_j (by omega) (by omega) (f3.symm.trans a3)
      have e2 : s' = sg w := nI_j (by omega) (by omega) (f4.symm.trans a4)
      rw [e1, e2, sg_sg, sg_sg] at g2
      exact g2
    · have e1 : f' = sg w := nI_j (by omega) (by omega) (f3.symm.trans a3)
      have e2 : s' = sg f := nI_j (by omega) (by omega) (f4.symm.trans a4)
      rw [e1, e2, sg_sg, sg_sg] at g1
      exact g1
theorem SQ.lt {k N : Nat} {T0 T : List Nat} {S : s_T} {L : w_L} (h : SQ k T0 S N L T) : ∀ f w t, (f, w, t) ∈ L → f < N ∧ w < N ∧ t < N := fun f w t hm => by
  obtain ⟨i, hi⟩ := List.mem_iff_getElem?.mp hm
  obtain ⟨-, -, -, d4, d5, d6⟩ := h.1.2.2.2.2.1 i f w t hi
  exact ⟨d4, d5, d6⟩
theorem enc1 {k N c e f t : Nat} {T0 TT : List Nat} {S : s_T} {L : w_L} {Y : x_T} {nd key : Int32} (h : SQ k T0 S N L TT) (hX : IX Y N c L) (hc : Y.1 7 = nI c) (hN3 : 3 ≤ N) (hN : N < 2 ^ 31) (hL : L.length < 2600) (hf : f < N) (ht : t < N) (ht3 : 3 ≤ t) (hk : key = nI (sg f)) : ∃ TT', SQ k T0 (S_open S (nI f) 0 (nI t)) N (L ++ [(f, 0, t)]) TT' ∧ IX (mo_enc Y c e key (nI t) nd) N (c + 1) (L ++ [(f, 0, t)]) ∧ XE Y N c (mo_enc Y c e key (nI t) nd) N (c + 1) := by
  obtain ⟨TT', h1⟩ := h.opn (f := f) (w := 0) (t := t) hL hf (by omega) ht
  have g8 : ∀ j, (mo_enc Y c e key (nI t) nd).2 8 j = if j = c then key else Y.2 8 j := fun j => rfl
  have g9 : ∀ j, (mo_enc Y c e key (nI t) nd).2 9 j = if j = c then nI t else Y.2 9 j := fun j => rfl
  have g10 : ∀ j, (mo_enc Y c e key (nI t) nd).2 10 j = if j = c then nI e else Y.2 10 j := fun j => rfl
  have g11 : ∀ j, (mo_enc Y c e key (nI t) nd).2 11 j = if j = c then nd else Y.2 11 j := fun j => rfl
  have g2 : (mo_enc Y c e key (nI t) nd).2 2 = Y.2 2 := rfl
  have g3 : (mo_enc Y c e key (nI t) nd).2 3 = Y.2 3 := rfl
  have g4 : (mo_enc Y c e key (nI t) nd).2 4 = Y.2 4 := rfl
  generalize mo_enc Y c e key (nI t) nd = W at g8 g9 g10 g11 g2 g3 g4 ⊢
  have XE1 : XE Y N c W N (c + 1) := ⟨Nat.le_refl _, by omega, fun k _ => by rw [g2, g3, g4]; exact ⟨rfl, rfl, rfl⟩, fun j hj => by
    rw [g8, g9, g10, g11, if_neg (by omega), if_neg (by omega), if_neg (by omega), if_neg (by omega)]
    exact ⟨rfl, rfl, rfl, rfl⟩⟩
  refine ⟨TT', h1, hX.grow XE1 (by omega) (fun x hx => List.mem_append_left _ hx) (fun k h1 h2 => by omega) (fun j h1 h2 => ?_) (fun f' w' t' hm => ?_), XE1⟩
  · have e : j = c := by omega
    refine ⟨sg f, t, sg_lt hN3 hf, ht, by rw [g8, if_pos e]; exact hk, by rw [g9, if_pos e], ?_⟩
    rw [sg_sg, sg_big ht3]
    exact List.mem_append_right _ List.mem_cons_self
  · rcases List.mem_append.mp hm with z | z
    · exact Or.inl z
    · cases List.mem_singleton.mp z
      exact Or.inr (Or.inl ⟨rfl, c, by omega, by rw [g8, if_pos rfl]; exact hk, by rw [g9, if_pos rfl, sg_big ht3]⟩)
/-- init, joiner and the epoch's secret -/
theorem ijs {k N c e s cvn : Nat} {T0 TT : List Nat} {S : s_T} {L : w_L} {Y : x_T} (h : SQ k T0 S N L TT) (hX : IX Y N c L) (hN3 : 3 ≤ N) (hN : N + 3 ≤ 2200) (hL : L.length + 4 ≤ 2600) (hs : s < N) (hs1 : 1 ≤ s) (hcv : cvn < N) (hcv3 : cvn = 0 ∨ 3 ≤ cvn) (h14 : Y.2 14 e = nI (sg s)) (hc : Y.1 7 = nI c) : (S_der S (nI s)).1 = nI N ∧ (S_joi (S_der S (nI s)).2 (nI N) (nI cvn)).1 = nI (N + 1) ∧ (S_der (S_joi (S_der S (nI s)).2 (nI N) (nI cvn)).2 (nI (N + 1))).1 = nI (N + 2) ∧ ∃ L' TT', SQ k T0 (S_der (S_joi (S_der S (nI s)).2 (nI N) (nI cvn)).2 (nI (N + 1))).2 (N + 3) L' TT' ∧ L'.length = L.length + 4 ∧ ∃ Z, ch_z4 Y e N (nI cvn) = Z ∧ IX Z (N + 3) c L' ∧ XE Y N c Z (N + 3) c ∧ Z.1 1 = nI (N + 3) ∧ Z.1 7 = nI c ∧ xfr [1, 2, 3, 4, 14] Y Z ∧ Z.2 14 (e + 1) = nI (N + 2) ∧ (∀ a, a ≠ e + 1 → Z.2 14 a = Y.2 14 a) ∧ (Z.2 2 N = 6 ∧ Z.2 3 N = nI (sg s) ∧ Z.2 2 (N + 1) = 4 ∧ Z.2 2 (N + 2) = 5) := by
  obtain ⟨a1, T1, a2⟩ := h.der (x := s) (by omega) (by omega) hs
  obtain ⟨b1, T2, b2⟩ := a2.joi (i := N) (l := cvn) (by omega) (by rw [List.length_append]; simp only [List.length_singleton]; omega) (by omega) (by omega)
  obtain ⟨c1, T3, c2⟩ := b2.der (x := N + 1) (by omega) (by rw [List.length_append, List.length_append, List.length_append]; simp only [List.length_singleton]; omega) (by omega)
  refine ⟨a1, b1, c1, _, T3, c2, by rw [List.length_append, List.length_append, List.length_append, List.length_append]; simp only [List.length_singleton], _, rfl, ?_⟩
  have g2 : ∀ i, (ch_z4 Y e N (nI cvn)).2 2 i = if i = N + 2 then 5 else if i = N + 1 then 4 else if i = N then 6 else Y.2 2 i := fun i => rfl
  have g3 : ∀ i, (ch_z4 Y e N (nI cvn)).2 3 i = if i = N + 2 then nI (N + 1) else if i = N + 1 then nI N else if i = N then Y.2 14 e else Y.2 3 i := fun i => rfl
  have g4 : ∀ i, (ch_z4 Y e N (nI cvn)).2 4 i = if i = N + 2 then 0 else if i = N + 1 then nI cvn else if i = N then 0 else Y.2 4 i := fun i => rfl
  have g14 : ∀ i, (ch_z4 Y e N (nI cvn)).2 14 i = if i = e + 1 then nI (N + 2) else Y.2 14 i := fun i => rfl
  have g11 : (ch_z4 Y e N (nI cvn)).1 1 = nI (N + 3) := rfl
  have gf : xfr [1, 2, 3, 4, 14] Y (ch_z4 Y e N (nI cvn)) := ((((((((((((xfr.rf.xs 2 _ _ (by decide)).xs 3 _ _ (by decide)).xs 4 _ _ (by decide)).xi 1 _ (by decide)).xs 2 _ _ (by decide)).xs 3 _ _ (by decide)).xs 4 _ _ (by decide)).xi 1 _ (by decide)).xs 2 _ _ (by decide)).xs 3 _ _ (by decide)).xs 4 _ _ (by decide)).xi 1 _ (by decide)).xs 14 _ _ (by decide)
  generalize ch_z4 Y e N (nI cvn) = W at g2 g3 g4 g14 g11 gf ⊢
  have XE1 : XE Y N c W (N + 3) c := ⟨by omega, Nat.le_refl _, fun k hk => by
    rw [g2, g3, g4, if_neg (by omega), if_neg (by omega), if_neg (by omega), if_neg (by omega), if_neg (by omega), if_neg (by omega), if_neg (by omega), if_neg (by omega), if_neg (by omega)]
    exact ⟨rfl, rfl, rfl⟩, fun j hj => by
    rw [(gf 8 (by decide)).2, (gf 9 (by decide)).2, (gf 10 (by decide)).2, (gf 11 (by decide)).2]
    exact ⟨rfl, rfl, rfl, rfl⟩⟩
  have sN : sg N = N := sg_big hN3
  have sN1 : sg (N + 1) = N + 1 := sg_big (by omega)
  have sN2 : sg (N + 2) = N + 2 := sg_big (by omega)
  have scv : sg cvn = cvn := by
    rcases hcv3 with z | z
    · rw [z]; rfl
    · exact sg_big z
  have ss := sg_lt hN3 hs
  refine ⟨hX.grow XE1 (by omega) (fun x hx => List.mem_append_left _ (List.mem_append_left _ (List.mem_append_left _ (List.mem_append_left _ hx)))) (fun k h1 h2 => ?_) (fun j h1 h2 => by omega) (fun f w t hm => ?_), XE1, g11, by rw [(gf 7 (by decide)).1]; exact hc, gf, by rw [g14, if_pos rfl], fun a ha => by rw [g14, if_neg ha], ?_⟩
  · unfold IK
    rw [g2, g3, g4]
    by_cases y2 : k = N + 2
    · rw [if_pos y2, if_pos y2, if_pos y2]
      refine ⟨fun z => absurd z (by decide), N + 1, 0, by omega, by omega, rfl, rfl, by omega, fun _ _ _ => ?_, fun z => absurd z (by decide)⟩
      rw [y2, sN1, sN2]
      exact List.mem_append_right _ List.mem_cons_self
    · rw [if_neg y2, if_neg y2, if_neg y2]
      by_cases y1 : k = N + 1
      · rw [if_pos y1, if_pos y1, if_pos y1]
        refine ⟨fun z => absurd z (by decide), N, cvn, by omega, by omega, rfl, rfl, by omega, fun _ _ z => absurd rfl z, fun _ => ?_⟩
        rw [y1, sN, sN1, scv]
        exact ⟨List.mem_append_left _ (List.mem_append_left _ (List.mem_append_right _ List.mem_cons_self)), List.mem_append_left _ (List.mem_append_right _ List.mem_cons_self)⟩
      · have y0 : k = N := by omega
        rw [if_neg y1, if_neg y1, if_neg y1, if_pos y0, if_pos y0, if_pos y0]
        refine ⟨fun z => absurd z (by decide), sg s, 0, by omega, by omega, h14, rfl, by omega, fun _ _ _ => ?_, fun z => absurd z (by decide)⟩
        rw [y0, sg_sg, sN]
        exact List.mem_append_left _ (List.mem_append_left _ (List.mem_append_left _ (List.mem_append_right _ List.mem_cons_self)))
  · have n1 : ¬ N = N + 2 := by omega
    have n2 : ¬ N = N + 1 := by omega
    have n3 : ¬ N + 1 = N + 2 := by omega
    rcases List.mem_append.mp hm with hm | hm
    · rcases List.mem_append.mp hm with hm | hm
      · rcases List.mem_append.mp hm with hm | hm
        · rcases List.mem_append.mp hm with hm | hm
          · exact Or.inl hm
          · cases List.mem_singleton.mp hm
            refine Or.inr (Or.inr ⟨by rw [sN]; omega, Or.inl ⟨rfl, ?_⟩⟩)
            rw [sN, g2, g3, if_neg n1, if_neg n1, if_neg n2, if_neg n2, if_pos rfl, if_pos rfl]
            exact ⟨by decide, by decide, by decide, h14⟩
        · cases List.mem_singleton.mp hm
          refine Or.inr (Or.inr ⟨by rw [sN1]; omega, Or.inr ?_⟩)
          rw [sN1, g2, g3, g4, if_neg n3, if_neg n3, if_neg n3, if_pos rfl, if_pos rfl, if_pos rfl, sN, scv]
          exact ⟨rfl, Or.inl ⟨rfl, rfl⟩⟩
      · cases List.mem_singleton.mp hm
        refine Or.inr (Or.inr ⟨by rw [sN1]; omega, Or.inr ?_⟩)
        rw [sN1, g2, g3, g4, if_neg n3, if_neg n3, if_neg n3, if_pos rfl, if_pos rfl, if_pos rfl, sN, scv]
        exact ⟨rfl, Or.inr ⟨rfl, rfl⟩⟩
    · cases List.mem_singleton.mp hm
      refine Or.inr (Or.inr ⟨by rw [sN2]; omega, Or.inl ⟨rfl, ?_⟩⟩)
      rw [sN2, g2, g3, if_pos rfl, if_pos rfl, sN1]
      exact ⟨by decide, by decide, by decide, rfl⟩
  · rw [g2, g3, g2, g2]
    have n1 : ¬ N = N + 2 := by omega
    have n2 : ¬ N = N + 1 := by omega
    have n3 : ¬ N + 1 = N + 2 := by omega
    rw [if_neg n1, if_neg n1, if_neg n2, if_neg n2, if_pos rfl, if_pos rfl, if_neg n3, if_pos rfl, if_pos rfl]
    exact ⟨rfl, h14, rfl, rfl⟩
def cE (K : Nat → k_T) (e : Nat) : Nat → Nat → Nat
  | 0, _ => 0
  | m + 1, k => (if (K k).2 2 = nI e then 1 else 0) + cE K e m (k + 1)
/-- the welcomes of both -/
theorem AW_sim {k0 N e D jn np' : Nat} {T0 : List Nat} {Z : x_T} {K : Nat → k_T} {E0 : Nat → Int32} {T : tr_T} {ps : Nat → Int32} (hN3 : 3 ≤ N) (hN : N ≤ 2200) (hD : T.2 = D) (hD4 : D ≤ 4) (hj : jn < N) (hj3 : 3 ≤ jn) (he : E0 0 = nI e) (hcnt : E0 3 = Z.2 16 e) (h21 : Z.2 21 e = 0 → Z.2 16 e = 0) (hK : ∀ k, k < np' → (K k).2 2 = Z.2 39 k ∧ (∃ f, 3 ≤ f ∧ f < N ∧ (K k).2 0 = nI f ∧ Z.2 37 k = nI f) ∧ (Z.2 39 k = nI e → ∃ l, l < 16 ∧ (K k).2 3 = nI l ∧ Z.2 40 k = nI l)) (hps : ∀ l, l < 16 → ∀ u, 1 ≤ u → u ≤ D → bt (E0 3) (abv l u) = true → ∃ a, 3 ≤ a ∧ a < N ∧ r_get 5 ps (nI u) = nI a ∧ Z.2 25 (31 * e + abv l u) = nI a) :
    ∀ (m k : Nat) (p : G_T × e_T) (Y : x_T) (c : Nat) (L : w_L) (TT : List Nat), k + m = np' → gK p.1 = K → p.2.2 = (T, ps) → (∀ i, i ≠ 7 → p.2.1 i = E0 i) → p.2.1 7 = Y.2 20 e → SQ k0 T0 (gS p.1) N L TT → IX Y N c L → Y.1 7 = nI c → xfr en_K Z Y → L.length + 2 * cE K e m k ≤ 2600 → c + 2 * cE K e m k < 2 ^ 31 →
    ∃ c' L' TT', SQ k0 T0 (gS (AW (nI jn) m k p).1) N L' TT' ∧ IX (we_m Z e D (nI jn) m k Y) N c' L' ∧ XE Y N c (we_m Z e D (nI jn) m k Y) N c' ∧ (we_m Z e D (nI jn) m k Y).1 7 = nI c' ∧ L'.length ≤ L.length + 2 * cE K e m k ∧ c' ≤ c + 2 * cE K e m k ∧ (AW (nI jn) m k p).2.1 7 = (we_m Z e D (nI jn) m k Y).2 20 e ∧ ∀ i, i ≠ e → (we_m Z e D (nI jn) m k Y).2 20 i = Y.2 20 i := by
  intro m
  induction m with
  | zero =>
    intro k p Y c L TT _ _ _ _ h7 hS hX hc _ _ _
    exact ⟨c, L, TT, hS, hX, XE.rf Y N c, hc, by omega, by omega, h7, fun _ _ => rfl⟩
  | succ m ih =>
    intro k p Y c L TT hk hgK hp2 hi h7 hS hX hc hf hL hcb
    obtain ⟨q1, ⟨f, f1, f2, f3, f4⟩, q3⟩ := hK k (by omega)
    have hxc : ix (Y.1 7) = c := by rw [hc]; exact ix_nI (by omega)
    have sf : sg f = f := sg_big f1
    have p0 : p.2.1 0 = nI e := (hi 0 (by decide)).trans he
    unfold cE at hL hcb ⊢
    unfold AW we_m
    have step : ∃ c1 L1 TT1 d, SQ k0 T0 (gS (AW_1 (nI jn) k p).1) N L1 TT1 ∧ IX (we_1 Z e D (nI jn) k Y) N c1 L1 ∧ XE Y N c (we_1 Z e D (nI jn) k Y) N c1 ∧ (we_1 Z e D (nI jn) k Y).1 7 = nI c1 ∧ L1.length = L.length + d ∧ c1 = c + d ∧ d ≤ 2 * (if (K k).2 2 = nI e then 1 else 0) ∧ (AW_1 (nI jn) k p).2.1 7 = (we_1 Z e D (nI jn) k Y).2 20 e ∧ (∀ i, i ≠ e → (we_1 Z e D (nI jn) k Y).2 20 i = Y.2 20 i) ∧ (AW_1 (nI jn) k p).1.2 = p.1.2 ∧ (AW_1 (nI jn) k p).2.2 = (T, ps) ∧ (∀ i, i ≠ 7 → (AW_1 (nI jn) k p).2.1 i = E0 i) ∧ xfr en_K Z (we_1 Z e D (nI jn) k Y) := by
      unfold AW_1 we_1
      rw [hgK, p0, q1]
      by_cases cc : Z.2 39 k = nI e
      · obtain ⟨l, hl, l1, l2⟩ := q3 cc
        rw [if_pos cc, if_pos cc, if_pos cc]
        rw [q1, if_pos cc] at hL hcb
        have hE3 : (E_enc p.2).1 3 = E0 3 := (upd_n (f := p.2.1) (i := 7) (k := 3) (a := p.2.1 7 + 1) (by decide)).trans (hi 3 (by decide))
        have hwe : we_v Z e D k = mo_mt (E0 3) l D 1 := by
          unfold we_v
          rw [l2, ix_nI (by omega)]
          by_cases y : Z.2 21 e = 0
          · rw [if_pos y, hcnt, h21 y]
            have := mo_mt_r (c := 0) hl D 1 (by omega)
            rcases this with ⟨z, -⟩ | ⟨u, -, -, -, z, -⟩
            · exact z.symm
            · rw [bt_0] at z; cases z
          · rw [if_neg y, hcnt]
        have hT2 : p.2.2.1 = T := by rw [hp2]
        have hps2 : p.2.2.2 = ps := by rw [hp2]
        obtain ⟨TT1, a1, a2, a3⟩ := enc1 (e := e) (nd := -1) (key := Z.2 37 k) hS hX hc hN3 (by omega) (by omega) f2 hj hj3 (by rw [f4, sf])
        have c1 : (mo_enc Y c e (Z.2 37 k) (nI jn) (-1)).1 7 = nI (c + 1) := rfl
        have e20 : ∀ i, (mo_enc Y c e (Z.2 37 k) (nI jn) (-1)).2 20 i = if i = e then Y.2 20 e + 1 else Y.2 20 i := fun i => rfl
        have ef : xfr en_K Z (mo_enc Y c e (Z.2 37 k) (nI jn) (-1)) := hf.tr (mo_enc_f _ _ _ _ _ _)
        rw [l1, f3, hT2, hD, hxc, hwe]
        have lcm := lc_mt (E := E_enc p.2) hl hD4
        rw [hE3] at lcm
        have e7 : (E_enc p.2).1 7 = p.2.1 7 + 1 := upd_s p.2.1 7 _
        rcases lcm with ⟨x1, x2, -⟩ | ⟨u, u1, u2, u3, u4, u5, -⟩
        · rw [if_pos x1, if_pos x2]
          refine ⟨c + 1, _, TT1, 1, a1, a2, a3, c1, by rw [List.length_append]; rfl, rfl, by omega, ?_, fun i hi' => by rw [e20, if_neg hi'], rfl, by exact hp2, fun i hi' => (upd_n (f := p.2.1) (i := 7) (k := i) (a := p.2.1 7 + 1) hi').trans (hi i hi'), ef⟩
          show (E_enc p.2).1 7 = _
          rw [e7, e20, if_pos rfl, h7]
        · have hv := abv_sib l hl u (by omega) u1
          have x1 : ¬ E_lc (E_enc p.2) (nI l) D 1 = -1 := by rw [u3]; exact nI_nm (by omega)
          have x2 : ¬ mo_mt (E0 3) l D 1 = -1 := by rw [u4]; exact nI_nm (by omega)
          obtain ⟨a, b1, b2, b3, b4⟩ := hps l hl u u1 u2 u5
          rw [if_neg x1, if_neg x2, u3, u4, ix_nI (by omega), b4, hps2, b3]
          obtain ⟨TT2, d1, d2, d3⟩ := enc1 (e := e) (nd := -1) (key := Z.2 37 k) a1 a2 c1 hN3 (by omega) (by rw [List.length_append]; simp only [List.length_singleton]; omega) f2 b2 b1 (by rw [f4, sf])
          have e20' : ∀ i, (mo_enc (mo_enc Y c e (Z.2 37 k) (nI jn) (-1)) (c + 1) e (Z.2 37 k) (nI a) (-1)).2 20 i = if i = e then (mo_enc Y c e (Z.2 37 k) (nI jn) (-1)).2 20 e + 1 else (mo_enc Y c e (Z.2 37 k) (nI jn) (-1)).2 20 i := fun i => rfl
          refine ⟨c + 2, _, TT2, 2, d1, d2, a3.tr d3, rfl, by rw [List.length_append, List.length_append]; rfl, rfl, by omega, ?_, fun i hi' => by rw [e20', if_neg hi', e20, if_neg hi'], rfl, by exact hp2, fun i hi' => ?_, ef.tr (mo_enc_f _ _ _ _ _ _)⟩
          · show (E_enc (E_enc p.2)).1 7 = _
            rw [show (E_enc (E_enc p.2)).1 7 = (E_enc p.2).1 7 + 1 from upd_s (E_enc p.2).1 7 ((E_enc p.2).1 7 + 1), e7, e20', if_pos rfl, e20, if_pos rfl, h7]
          · exact (upd_n (f := (E_enc p.2).1) (i := 7) (k := i) (a := (E_enc p.2).1 7 + 1) hi').trans ((upd_n (f := p.2.1) (i := 7) (k := i) (a := p.2.1 7 + 1) hi').trans (hi i hi'))
      · rw [if_neg cc, if_neg cc, if_neg cc]
        exact ⟨c, L, TT, 0, hS, hX, XE.rf Y N c, hc, rfl, rfl, by omega, h7, fun _ _ => rfl, rfl, hp2, hi, hf⟩
    obtain ⟨c1, L1, TT1, d, s1, s2, s3, s4, s5, s6, s7, s8, s9, s10, s11, s12, s13⟩ := step
    generalize (if (K k).2 2 = nI e then 1 else 0) = w at s7 hL hcb ⊢
    obtain ⟨c2, L2, TT2, r1, r2, r3, r4, r5, r6, r7, r8⟩ := ih (k + 1) (AW_1 (nI jn) k p) (we_1 Z e D (nI jn) k Y) c1 L1 TT1 (by omega) (by show (AW_1 (nI jn) k p).1.2.2.2.1 = K; rw [s10]; exact hgK) s11 s12 s8 s1 s2 s4 s13 (by omega) (by omega)
    exact ⟨c2, L2, TT2, r1, r2, s3.tr r3, r4, by omega, by omega, r7, fun i hi' => (r8 i hi').trans (s9 i hi')⟩
