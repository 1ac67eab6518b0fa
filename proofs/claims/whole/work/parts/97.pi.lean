/-! ===== the pure part: members lead, join and follow, both sides ===== -/
theorem E_lc_r {E : e_T} {l : Nat} (hl : l < 16) : ∀ (m k : Nat), k + m ≤ 5 → (E_lc E (nI l) m k = -1 ∧ ∀ u, k ≤ u → u < k + m → bt (E.1 3) (abv l u) = false) ∨ ∃ u, k ≤ u ∧ u < k + m ∧ E_lc E (nI l) m k = nI u ∧ bt (E.1 3) (abv l u) = true ∧ ∀ u', k ≤ u' → u' < u → bt (E.1 3) (abv l u') = false := by
  classical
  intro m
  induction m with
  | zero => intro k _; exact Or.inl ⟨rfl, fun u h1 h2 => by omega⟩
  | succ m ih =>
    intro k hk
    have ha := abv_ok l hl k (by omega)
    unfold E_lc
    rw [ha.1]
    by_cases c : j_in (E.1 3) (nI (abv l k))
    · rw [if_pos c]
      exact Or.inr ⟨k, Nat.le_refl _, by omega, rfl, (j_in_bt (by omega)).mp c, fun u' h1 h2 => by omega⟩
    · rw [if_neg c]
      have c2 : bt (E.1 3) (abv l k) = false := bt_tf (fun z => c ((j_in_bt (by omega)).mpr z))
      rcases ih (k + 1) (by omega) with ⟨a, b⟩ | ⟨u, u1, u2, u3, u4, u5⟩
      · refine Or.inl ⟨a, fun u h1 h2 => ?_⟩
        by_cases e : u = k
        · rw [e]; exact c2
        · exact b u (by omega) (by omega)
      · refine Or.inr ⟨u, by omega, by omega, u3, u4, fun u' h1 h2 => ?_⟩
        by_cases e : u' = k
        · rw [e]; exact c2
        · exact u5 u' (by omega) h2
theorem mo_mt_r {c : Int32} {l : Nat} (hl : l < 16) : ∀ (m k : Nat), k + m ≤ 5 → (mo_mt c l m k = -1 ∧ ∀ u, k ≤ u → u < k + m → bt c (abv l u) = false) ∨ ∃ u, k ≤ u ∧ u < k + m ∧ mo_mt c l m k = nI (abv l u) ∧ bt c (abv l u) = true ∧ ∀ u', k ≤ u' → u' < u → bt c (abv l u') = false := by
  intro m
  induction m with
  | zero => intro k _; exact Or.inl ⟨rfl, fun u h1 h2 => by omega⟩
  | succ m ih =>
    intro k hk
    have ha := abv_ok l hl k (by omega)
    unfold mo_mt
    have hb : ((c >>> (nI (abv l k) &&& 31)) &&& 1 = 1) ↔ bt c (abv l k) = true := bit_eq1 (by omega)
    by_cases d : (c >>> (nI (abv l k) &&& 31)) &&& 1 = 1
    · rw [if_pos d]
      exact Or.inr ⟨k, Nat.le_refl _, by omega, rfl, hb.mp d, fun u' h1 h2 => by omega⟩
    · rw [if_neg d]
      have c2 : bt c (abv l k) = false := bt_tf (fun z => d (hb.mpr z))
      rcases ih (k + 1) (by omega) with ⟨a, b⟩ | ⟨u, u1, u2, u3, u4, u5⟩
      · refine Or.inl ⟨a, fun u h1 h2 => ?_⟩
        by_cases e : u = k
        · rw [e]; exact c2
        · exact b u (by omega) (by omega)
      · refine Or.inr ⟨u, by omega, by omega, u3, u4, fun u' h1 h2 => ?_⟩
        by_cases e : u' = k
        · rw [e]; exact c2
        · exact u5 u' (by omega) h2
/-- both look for the same node -/
theorem lc_mt {E : e_T} {l D : Nat} (hl : l < 16) (hD : D ≤ 4) : (E_lc E (nI l) D 1 = -1 ∧ mo_mt (E.1 3) l D 1 = -1 ∧ ∀ u, 1 ≤ u → u ≤ D → bt (E.1 3) (abv l u) = false) ∨ ∃ u, 1 ≤ u ∧ u ≤ D ∧ E_lc E (nI l) D 1 = nI u ∧ mo_mt (E.1 3) l D 1 = nI (abv l u) ∧ bt (E.1 3) (abv l u) = true ∧ ∀ u', 1 ≤ u' → u' < u → bt (E.1 3) (abv l u') = false := by
  rcases E_lc_r (E := E) hl D 1 (by omega) with ⟨a, b⟩ | ⟨u, u1, u2, u3, u4, u5⟩
  · rcases mo_mt_r (c := E.1 3) hl D 1 (by omega) with ⟨c, d⟩ | ⟨w, w1, w2, w3, w4, w5⟩
    · exact Or.inl ⟨a, c, fun u h1 h2 => b u h1 (by omega)⟩
    · rw [b w w1 w2] at w4; cases w4
  · rcases mo_mt_r (c := E.1 3) hl D 1 (by omega) with ⟨c, d⟩ | ⟨w, w1, w2, w3, w4, w5⟩
    · rw [d u u1 u2] at u4; cases u4
    · have e : w = u := by
        rcases Nat.lt_trichotomy w u with z | z | z
        · rw [u5 w w1 z] at w4; cases w4
        · exact z
        · rw [w5 u u1 z] at u4; cases u4
      subst e
      exact Or.inr ⟨w, u1, by omega, u3, w3, u4, u5⟩
theorem M_tk_r {M : m_T} {T : tr_T} {l : Nat} (hl : l < 16) : (M_tk M T (j_node (nI l) 0)).1 = M.1 ∧ (M_tk M T (j_node (nI l) 0)).2 1 = M.2 1 ∧ ∀ v, (M_tk M T (j_node (nI l) 0)).2 0 v = if v = 2 * l then T.1 0 (2 * l) else M.2 0 v := by
  have ha := abv_ok l hl 0 (by decide)
  rw [abv_0] at ha
  have hn : j_node (nI l) 0 = nI (2 * l) := ha.1
  rw [hn]
  unfold M_tk
  refine ⟨rfl, rfl, fun v => ?_⟩
  rw [M_put_r ha.2, T_get 0 (by decide) ha.2]
theorem M_lead_r {M : m_T} {E : e_T} {l : Nat} (hl : l < 16) (h3 : M.1 3 = nI l) (hD : E.2.1.2 ≤ 4) : (M_lead M E).1 = upd (upd (upd M.1 2 (E.1 0)) 4 1) 1 0 ∧ (M_lead M E).2 1 = M.2 1 ∧ ∀ v, v < 31 → (M_lead M E).2 0 v = if ab l v ∧ (1 ≤ hgt v ∧ hgt v < 1 + E.2.1.2) ∧ bt (E.1 3) v = true then E.2.1.1 0 v else if v = 2 * l then E.2.1.1 0 (2 * l) else if ¬ (¬ E.2.1.1 0 v = -1 ∧ M.2 0 v = E.2.1.1 0 v) then -1 else M.2 0 v := by
  have d := M_drop_r (T := E.2.1) 31 0 (M_int (M_int (M_int M 2 (E.1 0)) 4 1) 1 0) (by omega)
  have d3 : (M_l0 M E).1 3 = nI l := by
    unfold M_l0
    rw [d.1]
    show upd (upd (upd M.1 2 (E.1 0)) 4 1) 1 0 3 = _
    rw [upd_n (by decide), upd_n (by decide), upd_n (by decide)]
    exact h3
  have k := M_tk_r (M := M_l0 M E) (T := E.2.1) hl
  have d0 : ∀ v, v < 31 → (M_l0 M E).2 0 v = if ¬ (¬ E.2.1.1 0 v = -1 ∧ M.2 0 v = E.2.1.1 0 v) then -1 else M.2 0 v := fun v hv => by
    unfold M_l0
    rw [d.2.2 v hv]
    by_cases c : ¬ (¬ E.2.1.1 0 v = -1 ∧ M.2 0 v = E.2.1.1 0 v)
    · rw [if_pos c, if_pos ⟨⟨by omega, by omega⟩, c⟩]
    · rw [if_neg c, if_neg (fun z => c z.2)]
      rfl
  unfold M_lead
  rw [d3]
  have t := M_tck_r (E := E) hl E.2.1.2 1 (M_tk (M_l0 M E) E.2.1 (j_node (nI l) 0)) (by omega) (by rw [k.1]; exact d3)
  refine ⟨?_, ?_, fun v hv => ?_⟩
  · rw [t.1, k.1]
    unfold M_l0
    rw [d.1]
    rfl
  · rw [t.2.1, k.2.1]
    unfold M_l0
    rw [d.2.1]
    rfl
  · rw [t.2.2 v hv, k.2.2, d0 v hv]
/-- the class's follower is never stuck -/
theorem M_fol_r {M : m_T} {E : e_T} {T : tr_T} {cl l : Nat} {rem add : Int32} (hS : TS T E.2.1 cl (E.1 3) rem (E.1 5) add) (h6 : add = E.1 6) (h1 : E.1 1 = nI cl) (hU : TI E.2.1) (hl : l < 16) (h3 : M.1 3 = nI l) (hlc : l ≠ cl) (hn : ¬ T.1 0 (2 * l) = -1) (hr : bt rem l = false) (hT7 : TI T) (hf : ∀ v, v < 31 → M.2 0 v = FK T l v) : (M_fol M E).1 = upd (upd M.1 2 (E.1 0)) 1 0 ∧ (M_fol M E).2 1 = M.2 1 ∧ ∀ v, v < 31 → (M_fol M E).2 0 v = FK E.2.1 l v := by
  classical
  have hD := hU.1
  have f1 : (M_f1 M E).1 3 = nI l := by
    show upd (upd M.1 2 (E.1 0)) 1 0 3 = _
    rw [upd_n (by decide), upd_n (by decide)]
    exact h3
  have hab : ab l (2 * l) := (ab_leaf l hl l hl).mpr rfl
  have f2 : (M_f2 M E).1 = upd (upd M.1 2 (E.1 0)) 1 0 ∧ (M_f2 M E).2 1 = M.2 1 ∧ ∀ v, (M_f2 M E).2 0 v = if v = 2 * l ∧ bt (E.1 5) l = true then E.2.1.1 0 (2 * l) else M.2 0 v := by
    unfold M_f2
    rw [f1]
    by_cases c : j_in (E.1 5) (nI l)
    · have c2 := (j_in_bt (by omega)).mp c
      rw [if_pos c]
      have k := M_tk_r (M := M_f1 M E) (T := E.2.1) hl
      refine ⟨k.1, k.2.1, fun v => ?_⟩
      rw [k.2.2 v]
      by_cases d : v = 2 * l
      · rw [if_pos d, if_pos ⟨d, c2⟩]
      · rw [if_neg d, if_neg (fun z => d z.1)]
        rfl
    · rw [if_neg c]
      refine ⟨rfl, rfl, fun v => ?_⟩
      rw [if_neg (fun z => c ((j_in_bt (by omega)).mpr z.2))]
      rfl
  have d := M_drop_r (T := E.2.1) 31 0 (M_f2 M E) (by omega)
  have d3 : (M_f3 M E).1 3 = nI l := by
    unfold M_f3
    rw [d.1, f2.1, upd_n (by decide), upd_n (by decide)]
    exact h3
  have d0 : ∀ v, v < 31 → (M_f3 M E).2 0 v = if ¬ (¬ E.2.1.1 0 v = -1 ∧ (M_f2 M E).2 0 v = E.2.1.1 0 v) then -1 else (M_f2 M E).2 0 v := fun v hv => by
    unfold M_f3
    rw [d.2.2 v hv]
    by_cases c : ¬ (¬ E.2.1.1 0 v = -1 ∧ (M_f2 M E).2 0 v = E.2.1.1 0 v)
    · rw [if_pos c, if_pos ⟨⟨by omega, by omega⟩, c⟩]
    · rw [if_neg c, if_neg (fun z => c z.2)]
  have d1 : (M_f3 M E).1 = upd (upd M.1 2 (E.1 0)) 1 0 ∧ (M_f3 M E).2 1 = M.2 1 := by
    unfold M_f3
    exact ⟨d.1.trans f2.1, d.2.1.trans f2.2.1⟩
  obtain ⟨l1, l2, l3, l4⟩ := hS.1 l hl hn hr
  have nx := FK_next (f := (M_f2 M E).2 0) hS hU hl hn hr (fun v hv hg => by
    rw [f2.2.2 v, if_neg (fun z => by rw [z.1, hgt_leaf l hl] at hg; omega)]
    exact hf v hv) (by
    rw [f2.2.2]
    by_cases c : bt (E.1 5) l = true
    · rw [if_pos ⟨rfl, c⟩]
    · rw [if_neg (fun z => c z.2), l4 (bt_tf c) hlc, hf _ (by omega)]
      exact FK_y hab hn (by rw [hT7.2.2.2.2.2.2 l hl]; exact bt_0 l)) (fun i hi hil => by
    rw [f2.2.2, if_neg (fun z => by omega), hf _ (by omega)]
    unfold FK
    rw [if_neg (fun z => hil ((ab_leaf l hl i hi).mp z.1).symm)])
  unfold M_fol M_flc
  rw [d3]
  have hmin : ∀ v, v < 31 → ab l v → (1 ≤ hgt v ∧ hgt v < 1 + E.2.1.2) → abv l (hgt v) = v := fun v _ h _ => h
  rcases lc_mt (E := E) hl hD with ⟨q1, -, q3⟩ | ⟨u, u1, u2, u3, -, u5, u6⟩
  · rw [if_pos q1]
    refine ⟨d1.1, d1.2, fun v hv => ?_⟩
    rw [d0 v hv, ← nx v hv]
    have c1 : ¬ (ab l v ∧ (1 ≤ hgt v ∧ hgt v < 1 + E.2.1.2) ∧ bt (E.1 3) v = true) := fun z => by
      have y := q3 (hgt v) (by omega) (by omega)
      rw [hmin v hv z.1 z.2.1, z.2.2] at y
      cases y
    rw [if_neg c1]
  · have q1 : ¬ E_lc E (nI l) E.2.1.2 1 = -1 := by rw [u3]; exact nI_nm (by omega)
    rw [if_neg q1, u3]
    obtain ⟨heq, w, w1, w2, w3, w4, w5, w6, w7⟩ := reader hS hU hl hlc hn hr u1 u2 u5 u6
    have hh : M_hof (M_f3 M E) (E_rdr E (nI u)) E.2.1 := by
      refine ⟨w, w1, (j_in_bt (by omega)).mpr ((rdr_bt hS.2.2.2.2.2.1 (by omega) u1 h1 w1).mpr ⟨w2, by rw [← h6]; exact w3⟩), (M_hk_r w1).mpr ⟨w5, ?_⟩⟩
      have y := nx w w1
      rw [if_neg (fun z => by rw [w6] at z; cases z.2.2), w4] at y
      rw [d0 w w1]
      exact y
    rw [if_pos hh]
    have t := M_tck_r (E := E) hl E.2.1.2 1 (M_f3 M E) (by omega) d3
    refine ⟨t.1.trans d1.1, t.2.1.trans d1.2, fun v hv => ?_⟩
    rw [t.2.2 v hv, d0 v hv]
    exact nx v hv
theorem kp_m_r (mm e l D : Nat) : ∀ (m k : Nat) (X : x_T), k + m ≤ 31 → xfr [33] X (kp_m mm e l D m k X) ∧ (∀ v, v < 31 → (kp_m mm e l D m k X).2 33 (31 * mm + v) = if (k ≤ v ∧ v < k + m) ∧ ¬ ((v < 2 ^ (D + 1) - 1 ∧ 0 < hgt v ∧ abv l (hgt v) = v) ∧ X.2 22 (31 * e + v) = X.2 33 (31 * mm + v)) then -1 else X.2 33 (31 * mm + v)) ∧ ∀ i, (i < 31 * mm ∨ 31 * mm + 31 ≤ i) → (kp_m mm e l D m k X).2 33 i = X.2 33 i := by
  classical
  intro m
  induction m with
  | zero =>
    intro k X _
    refine ⟨xfr.rf, fun v hv => ?_, fun i _ => rfl⟩
    rw [if_neg (fun z => by omega)]
    rfl
  | succ m ih =>
    intro k X hk
    unfold kp_m
    have step : ∃ Y, (if kp_b X mm e l D k then X else xs X 33 (31 * mm + k) (-1)) = Y ∧ xfr [33] X Y ∧ (∀ v, v < 31 → Y.2 33 (31 * mm + v) = if v = k ∧ ¬ ((v < 2 ^ (D + 1) - 1 ∧ 0 < hgt v ∧ abv l (hgt v) = v) ∧ X.2 22 (31 * e + v) = X.2 33 (31 * mm + v)) then -1 else X.2 33 (31 * mm + v)) ∧ ∀ i, (i < 31 * mm ∨ 31 * mm + 31 ≤ i) → Y.2 33 i = X.2 33 i := by
      refine ⟨_, rfl, ?_⟩
      by_cases c : kp_b X mm e l D k
      · rw [if_pos c]
        refine ⟨xfr.rf, fun v hv => ?_, fun _ _ => rfl⟩
        rw [if_neg]
        rintro ⟨rfl, z⟩
        exact z c
      · rw [if_neg c]
        refine ⟨xfr.rf.xs 33 _ _ (by decide), fun v hv => ?_, fun i hi => xs_j (by omega)⟩
        by_cases d : v = k
        · subst d
          rw [xs_s, if_pos ⟨rfl, c⟩]
        · rw [xs_j (by omega), if_neg (fun z => d z.1)]
    obtain ⟨Y, y0, y1, y2, y3⟩ := step
    rw [y0]
    obtain ⟨i1, i2, i3⟩ := ih (k + 1) Y (by omega)
    refine ⟨y1.tr i1, fun v hv => ?_, fun i hi => (i3 i hi).trans (y3 i hi)⟩
    rw [i2 v hv, (y1 22 (by decide)).2, y2 v hv]
    by_cases d : v = k
    · rw [if_neg (fun z => by omega)]
      by_cases c : (v < 2 ^ (D + 1) - 1 ∧ 0 < hgt v ∧ abv l (hgt v) = v) ∧ X.2 22 (31 * e + v) = X.2 33 (31 * mm + v)
      · rw [if_neg (fun z => z.2 c), if_neg (fun z => z.2 c)]
      · rw [if_pos ⟨d, c⟩, if_pos ⟨⟨by omega, by omega⟩, c⟩]
    · have e1 : (if v = k ∧ ¬ ((v < 2 ^ (D + 1) - 1 ∧ 0 < hgt v ∧ abv l (hgt v) = v) ∧ X.2 22 (31 * e + v) = X.2 33 (31 * mm + v)) then -1 else X.2 33 (31 * mm + v)) = X.2 33 (31 * mm + v) := if_neg (fun z => d z.1)
      rw [e1]
      by_cases c : (v < 2 ^ (D + 1) - 1 ∧ 0 < hgt v ∧ abv l (hgt v) = v) ∧ X.2 22 (31 * e + v) = X.2 33 (31 * mm + v)
      · rw [if_neg (fun z => z.2 c), if_neg (fun z => z.2 c)]
      · by_cases y : k + 1 ≤ v ∧ v < k + 1 + m
        · rw [if_pos ⟨y, c⟩, if_pos ⟨⟨by omega, by omega⟩, c⟩]
        · rw [if_neg (fun z => y z.1), if_neg (fun z => y ⟨by omega, by omega⟩)]
theorem tl_m_r (mm e l : Nat) (hl : l < 16) : ∀ (m k : Nat) (X : x_T), k + m ≤ 5 → xfr [33] X (tl_m mm e l m k X) ∧ (∀ v, v < 31 → (tl_m mm e l m k X).2 33 (31 * mm + v) = if ab l v ∧ (k ≤ hgt v ∧ hgt v < k + m) ∧ bt (X.2 16 e) v = true then X.2 22 (31 * e + v) else X.2 33 (31 * mm + v)) ∧ ∀ i, (i < 31 * mm ∨ 31 * mm + 31 ≤ i) → (tl_m mm e l m k X).2 33 i = X.2 33 i := by
  intro m
  induction m with
  | zero =>
    intro k X _
    refine ⟨xfr.rf, fun v hv => ?_, fun i _ => rfl⟩
    rw [if_neg (fun z => by omega)]
    rfl
  | succ m ih =>
    intro k X hk
    have ha := abv_ok l hl k (by omega)
    have hb : ((X.2 16 e >>> (nI (abv l k) &&& 31)) &&& 1 = 1) ↔ bt (X.2 16 e) (abv l k) = true := bit_eq1 (by omega)
    unfold tl_m
    have step : ∃ Y, (if (X.2 16 e >>> (nI (abv l k) &&& 31)) &&& 1 = 1 then xs X 33 (31 * mm + abv l k) (X.2 22 (31 * e + abv l k)) else X) = Y ∧ xfr [33] X Y ∧ (∀ v, v < 31 → Y.2 33 (31 * mm + v) = if v = abv l k ∧ bt (X.2 16 e) v = true then X.2 22 (31 * e + v) else X.2 33 (31 * mm + v)) ∧ ∀ i, (i < 31 * mm ∨ 31 * mm + 31 ≤ i) → Y.2 33 i = X.2 33 i := by
      refine ⟨_, rfl, ?_⟩
      by_cases c : (X.2 16 e >>> (nI (abv l k) &&& 31)) &&& 1 = 1
      · rw [if_pos c]
        refine ⟨xfr.rf.xs 33 _ _ (by decide), fun v hv => ?_, fun i hi => xs_j (by omega)⟩
        by_cases d : v = abv l k
        · subst d
          rw [xs_s, if_pos ⟨rfl, hb.mp c⟩]
        · rw [xs_j (by omega), if_neg (fun z => d z.1)]
      · rw [if_neg c]
        refine ⟨xfr.rf, fun v hv => ?_, fun _ _ => rfl⟩
        rw [if_neg]
        rintro ⟨rfl, z⟩
        exact c (hb.mpr z)
    obtain ⟨Y, y0, y1, y2, y3⟩ := step
    rw [y0]
    obtain ⟨i1, i2, i3⟩ := ih (k + 1) Y (by omega)
    refine ⟨y1.tr i1, fun v hv => ?_, fun i hi => (i3 i hi).trans (y3 i hi)⟩
    have hiff : v = abv l k ↔ ab l v ∧ hgt v = k := ⟨fun h => (abv_iff hl (by omega)).mp h.symm, fun h => ((abv_iff hl (by omega)).mpr h).symm⟩
    rw [i2 v hv, (y1 16 (by decide)).2, (y1 22 (by decide)).2, y2 v hv]
    by_cases c1 : ab l v ∧ (k + 1 ≤ hgt v ∧ hgt v < k + 1 + m) ∧ bt (X.2 16 e) v = true
    · rw [if_pos c1, if_pos ⟨c1.1, ⟨by omega, by omega⟩, c1.2.2⟩]
    · rw [if_neg c1]
      by_cases c2 : v = abv l k ∧ bt (X.2 16 e) v = true
      · have := hiff.mp c2.1
        rw [if_pos c2, if_pos ⟨this.1, ⟨by omega, by omega⟩, c2.2⟩]
      · rw [if_neg c2, if_neg]
        rintro ⟨y1, y2, y3⟩
        by_cases y4 : hgt v = k
        · exact c2 ⟨hiff.mpr ⟨y1, y4⟩, y3⟩
        · exact c1 ⟨y1, ⟨by omega, by omega⟩, y3⟩
theorem ins_mem {L : List Int32} {x y : Int32} : y ∈ ins L x ↔ y ∈ L ∨ y = x := by
  unfold ins
  by_cases c : x ∈ L
  · rw [if_pos c]
    exact ⟨Or.inl, fun z => z.elim id (fun q => by rw [q]; exact c)⟩
  · rw [if_neg c]
    simp
theorem ins_nd {L : List Int32} {x : Int32} (h : L.Nodup) : (ins L x).Nodup := by
  unfold ins
  by_cases c : x ∈ L
  · rw [if_pos c]; exact h
  · rw [if_neg c, List.nodup_append]
    refine ⟨h, by simp, fun a ha b hb e => ?_⟩
    rw [List.mem_singleton.mp hb] at e
    exact c (e ▸ ha)
theorem gt_3_r (X : x_T) (mm : Nat) (y : Int32) : ∀ (m k : Nat) (L : List Int32), (L.Nodup → (gt_3 X mm m k L).Nodup) ∧ (y ∈ gt_3 X mm m k L ↔ y ∈ L ∨ ∃ v, k ≤ v ∧ v < k + m ∧ ¬ X.2 33 (31 * mm + v) = -1 ∧ y = X.2 33 (31 * mm + v)) := by
  intro m
  induction m with
  | zero => intro k L; exact ⟨id, ⟨Or.inl, fun z => z.elim id (fun ⟨v, h1, h2, _⟩ => by omega)⟩⟩
  | succ m ih =>
    intro k L
    unfold gt_3
    by_cases c : X.2 33 (31 * mm + k) = -1
    · rw [if_pos c]
      obtain ⟨i1, i2⟩ := ih (k + 1) L
      refine ⟨i1, i2.trans ⟨fun z => z.imp id (fun ⟨v, h1, h2, h3⟩ => ⟨v, by omega, by omega, h3⟩), fun z => z.imp id (fun ⟨v, h1, h2, h3, h4⟩ => ⟨v, ?_, by omega, h3, h4⟩)⟩⟩
      by_cases e : v = k
      · rw [e] at h3; exact absurd c h3
      · omega
    · rw [if_neg c]
      obtain ⟨i1, i2⟩ := ih (k + 1) (ins L (X.2 33 (31 * mm + k)))
      refine ⟨fun h => i1 (ins_nd h), i2.trans ?_⟩
      rw [ins_mem]
      constructor
      · rintro ((z | z) | ⟨v, h1, h2, h3⟩)
        · exact Or.inl z
        · exact Or.inr ⟨k, by omega, by omega, c, z⟩
        · exact Or.inr ⟨v, by omega, by omega, h3⟩
      · rintro (z | ⟨v, h1, h2, h3, h4⟩)
        · exact Or.inl (Or.inl z)
        · by_cases e : v = k
          · subst e
            exact Or.inl (Or.inr h4)
          · exact Or.inr ⟨v, by omega, by omega, h3, h4⟩
theorem gt_4_r (X : x_T) (mm : Nat) (y : Int32) : ∀ (m k : Nat) (L : List Int32), (L.Nodup → (gt_4 X mm m k L).Nodup) ∧ (y ∈ gt_4 X mm m k L ↔ y ∈ L ∨ ∃ v, k ≤ v ∧ v < k + m ∧ y = X.2 34 (20 * mm + v)) := by
  intro m
  induction m with
  | zero => intro k L; exact ⟨id, ⟨Or.inl, fun z => z.elim id (fun ⟨v, h1, h2, _⟩ => by omega)⟩⟩
  | succ m ih =>
    intro k L
    unfold gt_4
    obtain ⟨i1, i2⟩ := ih (k + 1) (ins L (X.2 34 (20 * mm + k)))
    refine ⟨fun h => i1 (ins_nd h), i2.trans ?_⟩
    rw [ins_mem]
    constructor
    · rintro ((z | z) | ⟨v, h1, h2, h3⟩)
      · exact Or.inl z
      · exact Or.inr ⟨k, by omega, by omega, z⟩
      · exact Or.inr ⟨v, by omega, by omega, h3⟩
    · rintro (z | ⟨v, h1, h2, h4⟩)
      · exact Or.inl (Or.inl z)
      · by_cases e : v = k
        · subst e
          exact Or.inl (Or.inr h4)
        · exact Or.inr ⟨v, by omega, by omega, h4⟩
theorem gt_5_r (X : x_T) (mm : Nat) (y : Int32) : ∀ (m k : Nat) (L : List Int32), (L.Nodup → (gt_5 X mm m k L).Nodup) ∧ (y ∈ gt_5 X mm m k L ↔ y ∈ L ∨ ∃ p, k ≤ p ∧ p < k + m ∧ (X.2 36 p = nI mm ∧ X.2 41 p = 0) ∧ (y = X.2 37 p ∨ y = X.2 38 p)) := by
  intro m
  induction m with
  | zero => intro k L; exact ⟨id, ⟨Or.inl, fun z => z.elim id (fun ⟨v, h1, h2, _⟩ => by omega)⟩⟩
  | succ m ih =>
    intro k L
    unfold gt_5
    by_cases c : X.2 36 k = nI mm ∧ X.2 41 k = 0
    · rw [if_pos c]
      obtain ⟨i1, i2⟩ := ih (k + 1) (ins (ins L (X.2 37 k)) (X.2 38 k))
      refine ⟨fun h => i1 (ins_nd (ins_nd h)), i2.trans ?_⟩
      rw [ins_mem, ins_mem]
      constructor
      · rintro (((z | z) | z) | ⟨v, h1, h2, h3⟩)
        · exact Or.inl z
        · exact Or.inr ⟨k, by omega, by omega, c, Or.inl z⟩
        · exact Or.inr ⟨k, by omega, by omega, c, Or.inr z⟩
        · exact Or.inr ⟨v, by omega, by omega, h3⟩
      · rintro (z | ⟨v, h1, h2, h3, h4⟩)
        · exact Or.inl (Or.inl (Or.inl z))
        · by_cases e : v = k
          · subst e
            rcases h4 with z | z
            · exact Or.inl (Or.inl (Or.inr z))
            · exact Or.inl (Or.inr z)
          · exact Or.inr ⟨v, by omega, by omega, h3, h4⟩
    · rw [if_neg c]
      obtain ⟨i1, i2⟩ := ih (k + 1) L
      refine ⟨i1, i2.trans ⟨fun z => z.imp id (fun ⟨v, h1, h2, h3⟩ => ⟨v, by omega, by omega, h3⟩), fun z => z.imp id (fun ⟨v, h1, h2, h3, h4⟩ => ⟨v, ?_, by omega, h3, h4⟩)⟩⟩
      by_cases e : v = k
      · rw [e] at h3; exact absurd h3 c
      · omega
theorem gat_r {X : x_T} {mm u p : Nat} (hu : X.2 31 mm = nI u) (hu2 : u < 2 ^ 31) (hp : X.1 35 = nI p) (hp2 : p < 2 ^ 31) : (gat X mm).Nodup ∧ ∀ y, y ∈ gat X mm ↔ (¬ X.2 32 mm = 0 ∧ y = X.2 14 (ix (X.2 27 mm))) ∨ (¬ X.2 29 mm = -1 ∧ y = X.2 29 mm) ∨ (∃ v, v < 31 ∧ ¬ X.2 33 (31 * mm + v) = -1 ∧ y = X.2 33 (31 * mm + v)) ∨ (∃ k, k < u ∧ y = X.2 34 (20 * mm + k)) ∨ ∃ k, k < p ∧ (X.2 36 k = nI mm ∧ X.2 41 k = 0) ∧ (y = X.2 37 k ∨ y = X.2 38 k) := by
  have x1 : ix (X.1 35) = p := by rw [hp]; exact ix_nI hp2
  have x2 : ix (X.2 31 mm) = u := by rw [hu]; exact ix_nI hu2
  have n1 : (gt_1 X mm).Nodup := by
    unfold gt_1
    by_cases c : X.2 32 mm = 0
    · rw [if_pos c]; exact List.nodup_nil
    · rw [if_neg c]; exact ins_nd List.nodup_nil
  have m1 : ∀ y, y ∈ gt_1 X mm ↔ (¬ X.2 32 mm = 0 ∧ y = X.2 14 (ix (X.2 27 mm))) := fun y => by
    unfold gt_1
    by_cases c : X.2 32 mm = 0
    · rw [if_pos c]
      exact ⟨fun z => (by cases z), fun z => absurd c z.1⟩
    · rw [if_neg c, ins_mem]
      exact ⟨fun z => z.elim (fun q => (by cases q)) (fun q => ⟨c, q⟩), fun z => Or.inr z.2⟩
  have n2 : (gt_2 X mm (gt_1 X mm)).Nodup := by
    unfold gt_2
    by_cases c : X.2 29 mm = -1
    · rw [if_pos c]; exact n1
    · rw [if_neg c]; exact ins_nd n1
  have m2 : ∀ y, y ∈ gt_2 X mm (gt_1 X mm) ↔ (¬ X.2 32 mm = 0 ∧ y = X.2 14 (ix (X.2 27 mm))) ∨ (¬ X.2 29 mm = -1 ∧ y = X.2 29 mm) := fun y => by
    unfold gt_2
    by_cases c : X.2 29 mm = -1
    · rw [if_pos c, m1]
      exact ⟨Or.inl, fun z => z.elim id (fun q => absurd c q.1)⟩
    · rw [if_neg c, ins_mem, m1]
      exact ⟨fun z => z.imp id (fun q => ⟨c, q⟩), fun z => z.imp id (fun q => q.2)⟩
  unfold gat
  rw [x1, x2]
  refine ⟨(gt_5_r X mm 0 p 0 _).1 ((gt_4_r X mm 0 u 0 _).1 ((gt_3_r X mm 0 31 0 _).1 n2)), fun y => ?_⟩
  rw [(gt_5_r X mm y p 0 _).2, (gt_4_r X mm y u 0 _).2, (gt_3_r X mm y 31 0 _).2, m2]
  constructor
  · rintro (((z | ⟨v, h1, h2, h3⟩) | ⟨k, h1, h2, h3⟩) | ⟨k, h1, h2, h3⟩)
    · exact z.elim Or.inl (fun q => Or.inr (Or.inl q))
    · exact Or.inr (Or.inr (Or.inl ⟨v, by omega, h3⟩))
    · exact Or.inr (Or.inr (Or.inr (Or.inl ⟨k, by omega, h3⟩)))
    · exact Or.inr (Or.inr (Or.inr (Or.inr ⟨k, by omega, h3⟩)))
  · rintro (z | z | ⟨v, h1, h3⟩ | ⟨k, h1, h3⟩ | ⟨k, h1, h3⟩)
    · exact Or.inl (Or.inl (Or.inl (Or.inl z)))
    · exact Or.inl (Or.inl (Or.inl (Or.inr z)))
    · exact Or.inl (Or.inl (Or.inr ⟨v, by omega, by omega, h3⟩))
    · exact Or.inl (Or.inr ⟨k, by omega, by omega, h3⟩)
    · exact Or.inr ⟨k, by omega, by omega, h3⟩
