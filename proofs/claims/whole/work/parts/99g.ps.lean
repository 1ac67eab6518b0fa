/-! ===== the pure part: leaving, following, joining ===== -/
theorem mo_nk_r (mm : Nat) : ∀ (m k : Nat) (X : x_T), k + m ≤ 31 → (∀ v, v < 31 → (mo_nk mm m k X).2 33 (31 * mm + v) = if k ≤ v ∧ v < k + m then -1 else X.2 33 (31 * mm + v)) ∧ ∀ i, (i < 31 * mm ∨ 31 * mm + 31 ≤ i) → (mo_nk mm m k X).2 33 i = X.2 33 i := by
  intro m
  induction m with
  | zero =>
    intro k X _
    refine ⟨fun v hv => ?_, fun i _ => rfl⟩
    rw [if_neg (by omega)]
    rfl
  | succ m ih =>
    intro k X hk
    unfold mo_nk
    obtain ⟨i1, i2⟩ := ih (k + 1) (xs X 33 (31 * mm + k) (-1)) (by omega)
    refine ⟨fun v hv => ?_, fun i hi => ?_⟩
    · rw [i1 v hv]
      by_cases c : k + 1 ≤ v ∧ v < k + 1 + m
      · rw [if_pos c, if_pos (by omega)]
      · rw [if_neg c]
        by_cases d : v = k
        · subst d
          rw [xs_s, if_pos (by omega)]
        · rw [xs_j (by omega), if_neg (by omega)]
    · rw [i2 i hi, xs_j (by omega)]
theorem mo_lv_r (X : x_T) (mm : Nat) : ((mo_lv X mm).2 27 mm = -1 ∧ (mo_lv X mm).2 28 mm = -1 ∧ (mo_lv X mm).2 29 mm = -1 ∧ (mo_lv X mm).2 31 mm = 0 ∧ (mo_lv X mm).2 32 mm = 0 ∧ (mo_lv X mm).2 30 = X.2 30 ∧ ∀ v, v < 31 → (mo_lv X mm).2 33 (31 * mm + v) = -1) ∧ (∀ i, i ≠ mm → ∀ k, 27 ≤ k → k ≤ 32 → (mo_lv X mm).2 k i = X.2 k i) ∧ ∀ i, i ≠ mm → ∀ v, v < 31 → (mo_lv X mm).2 33 (31 * i + v) = X.2 33 (31 * i + v) := by
  have hf := mo_nk_f mm 31 0 (xs (xs (xs (xs (xs X 27 mm (-1)) 28 mm (-1)) 29 mm (-1)) 32 mm 0) 31 mm 0)
  have hr := mo_nk_r mm 31 0 (xs (xs (xs (xs (xs X 27 mm (-1)) 28 mm (-1)) 29 mm (-1)) 32 mm 0) 31 mm 0) (by omega)
  have e27 : ∀ i, (xs (xs (xs (xs (xs X 27 mm (-1)) 28 mm (-1)) 29 mm (-1)) 32 mm 0) 31 mm 0).2 27 i = if i = mm then -1 else X.2 27 i := fun i => rfl
  have e28 : ∀ i, (xs (xs (xs (xs (xs X 27 mm (-1)) 28 mm (-1)) 29 mm (-1)) 32 mm 0) 31 mm 0).2 28 i = if i = mm then -1 else X.2 28 i := fun i => rfl
  have e29 : ∀ i, (xs (xs (xs (xs (xs X 27 mm (-1)) 28 mm (-1)) 29 mm (-1)) 32 mm 0) 31 mm 0).2 29 i = if i = mm then -1 else X.2 29 i := fun i => rfl
  have e30 : (xs (xs (xs (xs (xs X 27 mm (-1)) 28 mm (-1)) 29 mm (-1)) 32 mm 0) 31 mm 0).2 30 = X.2 30 := rfl
  have e31 : ∀ i, (xs (xs (xs (xs (xs X 27 mm (-1)) 28 mm (-1)) 29 mm (-1)) 32 mm 0) 31 mm 0).2 31 i = if i = mm then 0 else X.2 31 i := fun i => rfl
  have e32 : ∀ i, (xs (xs (xs (xs (xs X 27 mm (-1)) 28 mm (-1)) 29 mm (-1)) 32 mm 0) 31 mm 0).2 32 i = if i = mm then 0 else X.2 32 i := fun i => rfl
  have e33 : (xs (xs (xs (xs (xs X 27 mm (-1)) 28 mm (-1)) 29 mm (-1)) 32 mm 0) 31 mm 0).2 33 = X.2 33 := rfl
  have hmo : mo_lv X mm = mo_nk mm 31 0 (xs (xs (xs (xs (xs X 27 mm (-1)) 28 mm (-1)) 29 mm (-1)) 32 mm 0) 31 mm 0) := rfl
  rw [hmo]
  clear hmo
  generalize (xs (xs (xs (xs (xs X 27 mm (-1)) 28 mm (-1)) 29 mm (-1)) 32 mm 0) 31 mm 0) = W at hf hr e27 e28 e29 e30 e31 e32 e33 ⊢
  generalize mo_nk mm 31 0 W = V at hf hr ⊢
  have q : ∀ k, k ≠ 33 → V.2 k = W.2 k := fun k hk => (hf k (by simpa using hk)).2
  refine ⟨⟨?_, ?_, ?_, ?_, ?_, ?_, fun v hv => ?_⟩, fun i hi k h1 h2 => ?_, fun i hi v hv => ?_⟩
  · rw [q 27 (by decide), e27, if_pos rfl]
  · rw [q 28 (by decide), e28, if_pos rfl]
  · rw [q 29 (by decide), e29, if_pos rfl]
  · rw [q 31 (by decide), e31, if_pos rfl]
  · rw [q 32 (by decide), e32, if_pos rfl]
  · rw [q 30 (by decide), e30]
  · rw [hr.1 v hv, if_pos (by omega)]
  · rw [q k (by omega)]
    have : k = 27 ∨ k = 28 ∨ k = 29 ∨ k = 30 ∨ k = 31 ∨ k = 32 := by omega
    rcases this with z | z | z | z | z | z
    · subst z; rw [e27, if_neg hi]
    · subst z; rw [e28, if_neg hi]
    · subst z; rw [e29, if_neg hi]
    · subst z; rw [e30]
    · subst z; rw [e31, if_neg hi]
    · subst z; rw [e32, if_neg hi]
  · rw [hr.2 _ (by omega), e33]
theorem MR_leave {M : m_T} {X : x_T} {j n : Nat} {tr : Nat → tr_T} (h : MR M X j tr n) : MR (M_leave M) (mo_lv X j) j tr n ∧ (M_leave M).1 1 = 0 := by
  obtain ⟨⟨m1, m2, m3, m4, m5, m6⟩, -, -⟩ := h
  obtain ⟨⟨l1, l2, l3, l4, l5, l6, l7⟩, -, -⟩ := mo_lv_r X j
  have o : ∀ q, (M_leave M).1 q = upd (upd (upd (upd M.1 2 (-1)) 3 (-1)) 4 0) 1 0 q := fun q => rfl
  have o0 : (M_leave M).1 0 = M.1 0 := by rw [o, upd_n (by decide), upd_n (by decide), upd_n (by decide), upd_n (by decide)]
  have o1 : (M_leave M).1 1 = 0 := by rw [o, upd_s]
  have o2 : (M_leave M).1 2 = -1 := by rw [o, upd_n (by decide), upd_n (by decide), upd_n (by decide), upd_s]
  have o3 : (M_leave M).1 3 = -1 := by rw [o, upd_n (by decide), upd_n (by decide), upd_s]
  have o4 : (M_leave M).1 4 = 0 := by rw [o, upd_n (by decide), upd_s]
  have o5 : (M_leave M).1 5 = M.1 5 := by rw [o, upd_n (by decide), upd_n (by decide), upd_n (by decide), upd_n (by decide)]
  refine ⟨⟨⟨o0.trans m1, by rw [o2, l1], by rw [o3, l2], by rw [o4, l5], o5.trans m5, by rw [l6]; exact m6⟩, ⟨0, by omega, o1, l4, fun k hk => by omega⟩, Or.inl ⟨l1, l2, o4, o1, l3, fun v hv => ⟨?_, l7 v hv⟩⟩⟩, o1⟩
  show r_fill 31 (M.2 0) (-1) v = -1
  unfold r_fill
  rw [if_pos hv]
theorem fk_ref {T U : tr_T} {cl l mm e : Nat} {cnt rem upt add : Int32} {X : x_T} (hS : TS T U cl cnt rem upt add) (hU : TI U) (hl : l < 16) (hn : ¬ T.1 0 (2 * l) = -1) (hr : bt rem l = false) (x22 : ∀ v, v < 31 → X.2 22 (31 * e + v) = sw (U.1 0 v)) (x33 : ∀ v, v < 31 → X.2 33 (31 * mm + v) = if 0 < hgt v then sw (FK T l v) else -1) : ∀ v, v < 31 → (if ab l v ∧ (1 ≤ hgt v ∧ hgt v < 1 + U.2) ∧ bt cnt v = true then sw (U.1 0 v) else if ¬ ((v < 2 ^ (U.2 + 1) - 1 ∧ 0 < hgt v ∧ abv l (hgt v) = v) ∧ X.2 22 (31 * e + v) = X.2 33 (31 * mm + v)) then -1 else X.2 33 (31 * mm + v)) = if 0 < hgt v then sw (FK U l v) else -1 := by
  intro v hv
  have nx := FK_next (f := fun v => if v = 2 * l then U.1 0 (2 * l) else FK T l v) hS hU hl hn hr (fun v hv hg => if_neg (fun z => by rw [z, hgt_leaf l hl] at hg; omega)) (if_pos rfl) (fun i hi hil => by
    show (if 2 * i = 2 * l then U.1 0 (2 * l) else FK T l (2 * i)) = -1
    rw [if_neg (by omega)]
    unfold FK
    rw [if_neg (fun z => hil ((ab_leaf l hl i hi).mp z.1).symm)]) v hv
  by_cases z : 0 < hgt v
  · have y : ¬ v = 2 * l := fun y => by rw [y, hgt_leaf l hl] at z; omega
    rw [if_neg y] at nx
    rw [if_pos z, ← nx]
    by_cases c1 : ab l v ∧ (1 ≤ hgt v ∧ hgt v < 1 + U.2) ∧ bt cnt v = true
    · rw [if_pos c1, if_pos c1]
    · rw [if_neg c1, if_neg c1, x22 v hv, x33 v hv, if_pos z]
      by_cases c2 : ¬ U.1 0 v = -1 ∧ FK T l v = U.1 0 v
      · have g := FK_nm (T := T) (l := l) (v := v) (by rw [c2.2]; exact c2.1)
        have c3 : (v < 2 ^ (U.2 + 1) - 1 ∧ 0 < hgt v ∧ abv l (hgt v) = v) ∧ sw (U.1 0 v) = sw (FK T l v) := ⟨⟨hU.2.2.2.1 v hv c2.1, z, g.1⟩, by rw [c2.2]⟩
        rw [if_neg (fun w => w c3), if_neg (fun w => w c2)]
      · rw [if_pos c2, sw_m1]
        by_cases c3 : (v < 2 ^ (U.2 + 1) - 1 ∧ 0 < hgt v ∧ abv l (hgt v) = v) ∧ sw (U.1 0 v) = sw (FK T l v)
        · rw [if_neg (fun w => w c3)]
          have e3 := sw_eq.mp c3.2
          have : FK T l v = -1 := Classical.byContradiction fun w => c2 ⟨by rw [e3]; exact w, e3.symm⟩
          rw [this, sw_m1]
        · rw [if_pos c3]
  · have c1 : ¬ (ab l v ∧ (1 ≤ hgt v ∧ hgt v < 1 + U.2) ∧ bt cnt v = true) := fun w => by omega
    have c3 : ¬ ((v < 2 ^ (U.2 + 1) - 1 ∧ 0 < hgt v ∧ abv l (hgt v) = v) ∧ X.2 22 (31 * e + v) = X.2 33 (31 * mm + v)) := fun w => z w.1.2.1
    rw [if_neg z, if_neg c1, if_pos c3]
theorem ad_0_r (X : x_T) (mm e l : Nat) : (∀ i, (ad_0 X mm e l).2 27 i = if i = mm then nI e else X.2 27 i) ∧ (∀ i, (ad_0 X mm e l).2 29 i = if i = mm then X.2 22 (31 * e + 2 * l) else X.2 29 i) ∧ (∀ i, (ad_0 X mm e l).2 31 i = if i = mm then 0 else X.2 31 i) ∧ ∀ k, k ≠ 27 → k ≠ 29 → k ≠ 31 → (ad_0 X mm e l).2 k = X.2 k := ⟨fun _ => rfl, fun _ => rfl, fun _ => rfl, fun k h1 h2 h3 => (if_neg h2).trans ((if_neg h3).trans (if_neg h1))⟩
/-- a member of the reference goes on to the next epoch -/
theorem adv_r {X V : x_T} {mm e l D m t0 : Nat} {cnt : Int32} {P : Prop} (hl : l < 16) (hD : D ≤ 4) (hcn : X.2 16 e = cnt) (ht : P → t0 + m ≤ 5) (hV : (P ∧ V = tl_m mm e l m t0 (kp_m mm e l D 31 0 (ad_0 X mm e l))) ∨ (¬ P ∧ V = kp_m mm e l D 31 0 (ad_0 X mm e l))) (hc : ∀ v, v < 31 → ((ab l v ∧ (1 ≤ hgt v ∧ hgt v < 1 + D) ∧ bt cnt v = true) ↔ (P ∧ ab l v ∧ (t0 ≤ hgt v ∧ hgt v < t0 + m) ∧ bt cnt v = true))) : (V.2 27 mm = nI e ∧ V.2 29 mm = X.2 22 (31 * e + 2 * l) ∧ V.2 31 mm = 0 ∧ V.2 28 = X.2 28 ∧ V.2 30 = X.2 30 ∧ V.2 32 = X.2 32 ∧ ∀ v, v < 31 → V.2 33 (31 * mm + v) = (if ab l v ∧ (1 ≤ hgt v ∧ hgt v < 1 + D) ∧ bt cnt v = true then X.2 22 (31 * e + v) else if ¬ ((v < 2 ^ (D + 1) - 1 ∧ 0 < hgt v ∧ abv l (hgt v) = v) ∧ X.2 22 (31 * e + v) = X.2 33 (31 * mm + v)) then -1 else X.2 33 (31 * mm + v))) ∧ xfr [27, 29, 31, 33] X V ∧ (∀ i, i ≠ mm → ∀ k, 27 ≤ k → k ≤ 32 → V.2 k i = X.2 k i) ∧ ∀ i, i ≠ mm → ∀ v, v < 31 → V.2 33 (31 * i + v) = X.2 33 (31 * i + v) := by
  classical
  obtain ⟨a1, a2, a3, a4⟩ := ad_0_r X mm e l
  have af : xfr [27, 29, 31, 33] X (ad_0 X mm e l) := ((xfr.rf.xs 27 _ _ (by decide)).xs 31 _ _ (by decide)).xs 29 _ _ (by decide)
  generalize ad_0 X mm e l = W at a1 a2 a3 a4 af hV
  obtain ⟨k1, k2, k3⟩ := kp_m_r mm e l D 31 0 W (by omega)
  generalize kp_m mm e l D 31 0 W = Y at k1 k2 k3 hV
  have w22 : W.2 22 = X.2 22 := a4 22 (by decide) (by decide) (by decide)
  have w33 : W.2 33 = X.2 33 := a4 33 (by decide) (by decide) (by decide)
  have y16 : Y.2 16 = X.2 16 := (k1 16 (by decide)).2.trans (a4 16 (by decide) (by decide) (by decide))
  have y22 : Y.2 22 = X.2 22 := (k1 22 (by decide)).2.trans w22
  have y33 : ∀ v, v < 31 → Y.2 33 (31 * mm + v) = if ¬ ((v < 2 ^ (D + 1) - 1 ∧ 0 < hgt v ∧ abv l (hgt v) = v) ∧ X.2 22 (31 * e + v) = X.2 33 (31 * mm + v)) then -1 else X.2 33 (31 * mm + v) := fun v hv => by
    rw [k2 v hv, w22, w33]
    by_cases c : ¬ ((v < 2 ^ (D + 1) - 1 ∧ 0 < hgt v ∧ abv l (hgt v) = v) ∧ X.2 22 (31 * e + v) = X.2 33 (31 * mm + v))
    · rw [if_pos c, if_pos ⟨by omega, c⟩]
    · rw [if_neg c, if_neg (fun z => c z.2)]
  have fin : ∀ V, xfr [33] Y V → (∀ v, v < 31 → V.2 33 (31 * mm + v) = if ab l v ∧ (1 ≤ hgt v ∧ hgt v < 1 + D) ∧ bt cnt v = true then X.2 22 (31 * e + v) else Y.2 33 (31 * mm + v)) → (∀ i, (i < 31 * mm ∨ 31 * mm + 31 ≤ i) → V.2 33 i = Y.2 33 i) → ((V.2 27 mm = nI e ∧ V.2 29 mm = X.2 22 (31 * e + 2 * l) ∧ V.2 31 mm = 0 ∧ V.2 28 = X.2 28 ∧ V.2 30 = X.2 30 ∧ V.2 32 = X.2 32 ∧ ∀ v, v < 31 → V.2 33 (31 * mm + v) = (if ab l v ∧ (1 ≤ hgt v ∧ hgt v < 1 + D) ∧ bt cnt v = true then X.2 22 (31 * e + v) else if ¬ ((v < 2 ^ (D + 1) - 1 ∧ 0 < hgt v ∧ abv l (hgt v) = v) ∧ X.2 22 (31 * e + v) = X.2 33 (31 * mm + v)) then -1 else X.2 33 (31 * mm + v))) ∧ xfr [27, 29, 31, 33] X V ∧ (∀ i, i ≠ mm → ∀ k, 27 ≤ k → k ≤ 32 → V.2 k i = X.2 k i) ∧ ∀ i, i ≠ mm → ∀ v, v < 31 → V.2 33 (31 * i + v) = X.2 33 (31 * i + v)) := fun V v1 v2 v3 => by
    have q : ∀ k, k ≠ 33 → V.2 k = W.2 k := fun k hk => (v1 k (by simpa using hk)).2.trans (k1 k (by simpa using hk)).2
    refine ⟨⟨by rw [q 27 (by decide), a1, if_pos rfl], by rw [q 29 (by decide), a2, if_pos rfl], by rw [q 31 (by decide), a3, if_pos rfl], by rw [q 28 (by decide), a4 28 (by decide) (by decide) (by decide)], by rw [q 30 (by decide), a4 30 (by decide) (by decide) (by decide)], by rw [q 32 (by decide), a4 32 (by decide) (by decide) (by decide)], fun v hv => by rw [v2 v hv, y33 v hv]⟩, (af.tr (k1.wk (by decide))).tr (v1.wk (by decide)), fun i hi k h1 h2 => ?_, fun i hi v hv => ?_⟩
    · rw [q k (by omega)]
      have : k = 27 ∨ k = 29 ∨ k = 31 ∨ (k ≠ 27 ∧ k ≠ 29 ∧ k ≠ 31) := by omega
      rcases this with z | z | z | z
      · subst z; rw [a1, if_neg hi]
      · subst z; rw [a2, if_neg hi]
      · subst z; rw [a3, if_neg hi]
      · rw [a4 k z.1 z.2.1 z.2.2]
    · rw [v3 _ (by omega), k3 _ (by omega), w33]
  rcases hV with ⟨hp, rfl⟩ | ⟨hp, rfl⟩
  · obtain ⟨t1, t2, t3⟩ := tl_m_r mm e l hl m t0 Y (ht hp)
    refine fin _ t1 (fun v hv => ?_) t3
    rw [t2 v hv, y16, y22, hcn]
    by_cases c : ab l v ∧ (t0 ≤ hgt v ∧ hgt v < t0 + m) ∧ bt cnt v = true
    · rw [if_pos c, if_pos ((hc v hv).mpr ⟨hp, c⟩)]
    · rw [if_neg c, if_neg (fun z => c ((hc v hv).mp z).2)]
  · refine fin _ xfr.rf (fun v hv => ?_) (fun _ _ => rfl)
    rw [if_neg (fun z => hp ((hc v hv).mp z).1)]
/-- a member that stands at leaf l of the tree T is at leaf l of the tree U -/
theorem MR_next {M M' : m_T} {X V : x_T} {j a e l n n' cl : Nat} {tr tr' : Nat → tr_T} {cnt rem upt add : Int32} {D : Nat} (h : MR M X j tr n) (hat : X.2 27 j = nI a) (hlf : X.2 28 j = nI l) (ha : a < n) (hn60 : n ≤ 60) (hl : l < 16) (he : e < n') (hS : TS (tr a) (tr' e) cl cnt rem upt add) (hU : TI (tr' e)) (hr : bt rem l = false) (hD : (tr' e).2 = D) (x22 : ∀ v, v < 31 → X.2 22 (31 * e + v) = sw ((tr' e).1 0 v))
    (hM0 : M'.1 0 = M.1 0) (hM1 : M'.1 1 = 0) (hM2 : M'.1 2 = nI e) (hM3 : M'.1 3 = M.1 3) (hM4 : M'.1 4 = 1) (hM5 : M'.1 5 = M.1 5) (hMk : ∀ v, v < 31 → M'.2 0 v = FK (tr' e) l v)
    (hV : V.2 27 j = nI e ∧ V.2 29 j = X.2 22 (31 * e + 2 * l) ∧ V.2 31 j = 0 ∧ V.2 28 = X.2 28 ∧ V.2 30 = X.2 30 ∧ V.2 32 = X.2 32 ∧ ∀ v, v < 31 → V.2 33 (31 * j + v) = (if ab l v ∧ (1 ≤ hgt v ∧ hgt v < 1 + D) ∧ bt cnt v = true then X.2 22 (31 * e + v) else if ¬ ((v < 2 ^ (D + 1) - 1 ∧ 0 < hgt v ∧ abv l (hgt v) = v) ∧ X.2 22 (31 * e + v) = X.2 33 (31 * j + v)) then -1 else X.2 33 (31 * j + v))) : MR M' V j tr' n' := by
  obtain ⟨⟨m1, m2, m3, m4, m5, m6⟩, -, mc⟩ := h
  obtain ⟨v1, v2, v3, v4, v5, v6, v7⟩ := hV
  rcases mc with ⟨c1, -⟩ | ⟨a', l', c1, c2, c3, c4, c5, c6, c7, c8, c9⟩
  · exact absurd (hat.symm.trans c1) (nI_nm (by omega))
  have ea : a' = a := nI_j (by omega) (by omega) (c3.symm.trans hat)
  have el : l' = l := nI_j (by omega) (by omega) (c4.symm.trans hlf)
  subst ea
  subst el
  obtain ⟨l1, l2, l3, l4⟩ := hS.1 l' hl c6 hr
  refine ⟨⟨hM0.trans m1, by rw [hM2, v1], by rw [hM3, v4]; exact m3, by rw [hM4, v6, ← m4, c5], hM5.trans m5, by rw [v5]; exact m6⟩, ⟨0, by omega, hM1, v3, fun k hk => by omega⟩, Or.inr ⟨e, l', he, hl, v1, by rw [v4]; exact c4, hM4, l1, l2.trans c7, by rw [v2, x22 _ (by omega)], fun v hv => ⟨hMk v hv, ?_⟩⟩⟩
  rw [v7 v hv, ← fk_ref hS hU hl c6 hr x22 (fun v hv => (c9 v hv).2) v hv, hD, x22 v hv]
