/-! ===== the pure part: a leaf is seated ===== -/
theorem T_um_r (l : Nat) (hl : l < 16) (v : Nat) (hv : v < 31) : ∀ (m k : Nat) (T : tr_T), k + m ≤ 5 → (T_um (nI l) m k T).1 0 = T.1 0 ∧ (T_um (nI l) m k T).1 2 = T.1 2 ∧ (T_um (nI l) m k T).1 3 = T.1 3 ∧ (T_um (nI l) m k T).2 = T.2 ∧ (T_um (nI l) m k T).1 1 v = (if ab l v ∧ (k ≤ hgt v ∧ hgt v < k + m) ∧ ¬ T.1 0 v = -1 then T.1 1 v ||| ((1 : Int32) <<< (nI l &&& 31)) else T.1 1 v) := by
  intro m
  induction m with
  | zero =>
    intro k T _
    rw [if_neg (fun z => by omega)]
    exact ⟨rfl, rfl, rfl, rfl, rfl⟩
  | succ m ih =>
    intro k T hk
    have ha := abv_ok l hl k (by omega)
    have hiff : v = abv l k ↔ ab l v ∧ hgt v = k := ⟨fun h => (abv_iff hl (by omega)).mp h.symm, fun h => ((abv_iff hl (by omega)).mpr h).symm⟩
    have step : (T_um1 T (nI l) (nI (abv l k))).1 0 = T.1 0 ∧ (T_um1 T (nI l) (nI (abv l k))).1 2 = T.1 2 ∧ (T_um1 T (nI l) (nI (abv l k))).1 3 = T.1 3 ∧ (T_um1 T (nI l) (nI (abv l k))).2 = T.2 ∧ (T_um1 T (nI l) (nI (abv l k))).1 1 v = (if v = abv l k ∧ ¬ T.1 0 v = -1 then T.1 1 v ||| ((1 : Int32) <<< (nI l &&& 31)) else T.1 1 v) := by
      unfold T_um1
      by_cases c : T_isB T (nI (abv l k))
      · rw [if_pos c]
        refine ⟨rfl, rfl, rfl, rfl, ?_⟩
        rw [if_neg]
        rintro ⟨z1, z2⟩
        rw [T_isB_n ha.2, ← z1] at c
        exact z2 c
      · rw [if_neg c, T_get 1 (by decide) ha.2]
        refine ⟨rfl, rfl, rfl, rfl, ?_⟩
        show r_put 31 (T.1 1) (nI (abv l k)) _ v = _
        rw [r_put_in ha.2 (by decide)]
        rw [T_isB_n ha.2] at c
        by_cases q : v = abv l k
        · subst q
          rw [upd_s, if_pos ⟨rfl, c⟩]
        · rw [upd_n q, if_neg (fun z => q z.1)]
    obtain ⟨i0, i2, i3, i4, i1⟩ := ih (k + 1) (T_um1 T (nI l) (nI (abv l k))) (by omega)
    obtain ⟨s0, s2, s3, s4, s1⟩ := step
    unfold T_um
    rw [ha.1]
    refine ⟨i0.trans s0, i2.trans s2, i3.trans s3, i4.trans s4, ?_⟩
    rw [i1, s0, s1]
    by_cases c1 : ab l v ∧ (k + 1 ≤ hgt v ∧ hgt v < k + 1 + m) ∧ ¬ T.1 0 v = -1
    · have c3 : ¬ (v = abv l k ∧ ¬ T.1 0 v = -1) := fun z => by
        have := hiff.mp z.1
        omega
      rw [if_pos c1, if_neg c3, if_pos ⟨c1.1, by omega, c1.2.2⟩]
    · rw [if_neg c1]
      by_cases c3 : v = abv l k ∧ ¬ T.1 0 v = -1
      · have q := hiff.mp c3.1
        rw [if_pos c3, if_pos ⟨q.1, by omega, c3.2⟩]
      · rw [if_neg c3, if_neg]
        rintro ⟨z1, z2, z3⟩
        by_cases c4 : hgt v = k
        · exact c3 ⟨hiff.mpr ⟨z1, c4⟩, z3⟩
        · exact c1 ⟨z1, by omega, z3⟩
theorem da_u_r (e l : Nat) (hl : l < 16) : ∀ (m k : Nat) (X : x_T), k + m ≤ 5 → (∀ v, v < 31 → (da_u e l m k X).2 23 (31 * e + v) = (if ab l v ∧ (k ≤ hgt v ∧ hgt v < k + m) ∧ ¬ X.2 22 (31 * e + v) = -1 then X.2 23 (31 * e + v) ||| ((1 : Int32) <<< (nI l &&& 31)) else X.2 23 (31 * e + v))) ∧ EO e X (da_u e l m k X) := by
  intro m
  induction m with
  | zero =>
    intro k X _
    refine ⟨fun v hv => ?_, EO.rf⟩
    rw [if_neg (fun z => by omega)]
    rfl
  | succ m ih =>
    intro k X hk
    have ha := abv_ok l hl k (by omega)
    unfold da_u
    have step : ∃ Y, (if X.2 22 (31 * e + abv l k) = -1 then X else xs X 23 (31 * e + abv l k) (X.2 23 (31 * e + abv l k) ||| ((1 : Int32) <<< (nI l &&& 31)))) = Y ∧ Y.2 22 = X.2 22 ∧ EO e X Y ∧ ∀ v, Y.2 23 (31 * e + v) = if v = abv l k ∧ ¬ X.2 22 (31 * e + v) = -1 then X.2 23 (31 * e + v) ||| ((1 : Int32) <<< (nI l &&& 31)) else X.2 23 (31 * e + v) := by
      refine ⟨_, rfl, ?_⟩
      by_cases c : X.2 22 (31 * e + abv l k) = -1
      · rw [if_pos c]
        refine ⟨rfl, EO.rf, fun v => ?_⟩
        rw [if_neg]
        rintro ⟨z1, z2⟩
        rw [z1] at z2
        exact z2 c
      · rw [if_neg c]
        refine ⟨rfl, EO.rf.xs31 23 _ _ (by decide) (by decide) ha.2, fun v => ?_⟩
        by_cases q : v = abv l k
        · subst q
          rw [if_pos ⟨rfl, c⟩, xs_s]
        · rw [if_neg (fun z => q z.1), xs_j (by omega)]
    obtain ⟨Y, hY, y1, y2, y3⟩ := step
    rw [hY]
    obtain ⟨i1, i2⟩ := ih (k + 1) Y (by omega)
    refine ⟨fun v hv => ?_, y2.tr i2⟩
    have hiff : v = abv l k ↔ ab l v ∧ hgt v = k := ⟨fun h => (abv_iff hl (by omega)).mp h.symm, fun h => ((abv_iff hl (by omega)).mpr h).symm⟩
    rw [i1 v hv, y1, y3]
    by_cases c1 : ab l v ∧ (k + 1 ≤ hgt v ∧ hgt v < k + 1 + m) ∧ ¬ X.2 22 (31 * e + v) = -1
    · have c3 : ¬ (v = abv l k ∧ ¬ X.2 22 (31 * e + v) = -1) := fun z => by
        have := hiff.mp z.1
        omega
      rw [if_pos c1, if_neg c3, if_pos ⟨c1.1, by omega, c1.2.2⟩]
    · rw [if_neg c1]
      by_cases c3 : v = abv l k ∧ ¬ X.2 22 (31 * e + v) = -1
      · have q := hiff.mp c3.1
        rw [if_pos c3, if_pos ⟨q.1, by omega, c3.2⟩]
      · rw [if_neg c3, if_neg]
        rintro ⟨z1, z2, z3⟩
        by_cases c4 : hgt v = k
        · exact c3 ⟨hiff.mpr ⟨z1, c4⟩, z3⟩
        · exact c1 ⟨z1, by omega, z3⟩
/-- the tree with member m at leaf l, which was free -/
def SE (T : tr_T) (l D' : Nat) (m k e : Int32) (T' : tr_T) : Prop := T'.2 = D' ∧ (∀ v, v < 31 → T'.1 0 v = (if v = 2 * l then k else T.1 0 v) ∧ T'.1 2 v = (if v = 2 * l then e else T.1 2 v) ∧ T'.1 1 v = (if v = 2 * l then 0 else if ab l v ∧ hgt v ≤ D' ∧ ¬ T.1 0 v = -1 then T.1 1 v ||| ((1 : Int32) <<< (nI l &&& 31)) else T.1 1 v)) ∧ ∀ i, i < 16 → T'.1 3 i = if i = l then m else T.1 3 i
theorem leaf_0 : ∀ v, v < 31 → ∀ l, l < 16 → (ab l v ∧ hgt v = 0 ↔ v = 2 * l) := by decide +kernel
theorem T_seat_r {T : tr_T} {l : Nat} {m k e : Int32} (hl : l < 16) (hD : T.2 ≤ 4) : SE T l (T_gr l (5 - T.2) T.2) m k e (T_seat T l m k e) := by
  have ha := abv_ok l hl 0 (by decide)
  rw [abv_0] at ha
  have hn : j_node (nI l) 0 = nI (2 * l) := ha.1
  have hD' := T_gr_le l (5 - T.2) T.2 hD
  unfold T_seat
  generalize T_gr l (5 - T.2) T.2 = D' at hD' ⊢
  rw [hn]
  have e3 : r_put (tr_len 3) (T.1 3) (nI l) m = upd (T.1 3) l m := r_put_in (by show l < 16; exact hl) (by decide)
  rw [e3]
  have g0 : ∀ v, (T_give (va_up T.1 3 (upd (T.1 3) l m), D') (nI (2 * l)) k e).1 0 v = if v = 2 * l then k else T.1 0 v := fun v => T_give_0 ha.2 v
  have g1 : ∀ v, (T_give (va_up T.1 3 (upd (T.1 3) l m), D') (nI (2 * l)) k e).1 1 v = if v = 2 * l then 0 else T.1 1 v := fun v => T_give_1 ha.2 v
  have g2 : ∀ v, (T_give (va_up T.1 3 (upd (T.1 3) l m), D') (nI (2 * l)) k e).1 2 v = if v = 2 * l then e else T.1 2 v := fun v => T_give_2 ha.2 v
  have g3 : (T_give (va_up T.1 3 (upd (T.1 3) l m), D') (nI (2 * l)) k e).1 3 = upd (T.1 3) l m := rfl
  have g4 : (T_give (va_up T.1 3 (upd (T.1 3) l m), D') (nI (2 * l)) k e).2 = D' := rfl
  generalize T_give (va_up T.1 3 (upd (T.1 3) l m), D') (nI (2 * l)) k e = B at g0 g1 g2 g3 g4 ⊢
  have hr := fun v hv => T_um_r l hl v hv D' 1 B (by omega)
  refine ⟨(hr 0 (by decide)).2.2.2.1.trans g4, fun v hv => ?_, fun i hi => ?_⟩
  · obtain ⟨r0, r2, r3, r4, r1⟩ := hr v hv
    rw [r0, r2, r1, g0, g1, g2]
    refine ⟨rfl, rfl, ?_⟩
    by_cases c : v = 2 * l
    · have c2 : ¬ (ab l v ∧ (1 ≤ hgt v ∧ hgt v < 1 + D') ∧ ¬ (if v = 2 * l then k else T.1 0 v) = -1) := fun z => by
        have := hgt_leaf l hl
        rw [c] at z
        omega
      rw [if_neg c2, if_pos c, if_pos c]
    · rw [if_neg c, if_neg c, if_neg c]
      have hh : ab l v → 1 ≤ hgt v := fun z => Nat.pos_of_ne_zero (fun y => c ((leaf_0 v hv l hl).mp ⟨z, y⟩))
      by_cases c1 : ab l v ∧ hgt v ≤ D' ∧ ¬ T.1 0 v = -1
      · rw [if_pos c1, if_pos ⟨c1.1, ⟨hh c1.1, by omega⟩, c1.2.2⟩]
      · rw [if_neg c1, if_neg (fun z => c1 ⟨z.1, by omega, z.2.2⟩)]
  · rw [(hr 0 (by decide)).2.2.1, g3]
    rfl
theorem SE.ti {T T' : tr_T} {l D' : Nat} {m k e : Int32} (h : SE T l D' m k e T') (hT : TI T) (hl : l < 16) (hD : T.2 ≤ D') (hD4 : D' ≤ 4) (hk : ¬ k = -1) (hlD : l < 2 ^ D') : TI T' := by
  have hT' := hT
  obtain ⟨t1, t2, t3, t4, t5, t6, t7⟩ := hT
  obtain ⟨h2, hv, h3⟩ := h
  have hp : 2 ^ (T.2 + 1) ≤ 2 ^ (D' + 1) := Nat.pow_le_pow_right (by decide) (by omega)
  have hp2 : 2 ^ (D' + 1) = 2 * 2 ^ D' := by rw [Nat.pow_succ]; omega
  have leaf : ∀ i, i < 16 → ¬ T.1 0 (2 * i) = -1 → ¬ T'.1 0 (2 * i) = -1 := fun i hi z => by
    rw [(hv (2 * i) (by omega)).1]
    by_cases c : 2 * i = 2 * l
    · rw [if_pos c]
      exact hk
    · rw [if_neg c]
      exact z
  have lself : ¬ T'.1 0 (2 * l) = -1 := by
    rw [(hv (2 * l) (by omega)).1, if_pos rfl]
    exact hk
  refine ⟨by omega, fun v hv' z => ?_, fun i hi z => ?_, fun v hv' z => ?_, fun v hv' z => ?_, fun v hv' i hi z => ?_, fun i hi => ?_⟩
  · rw [(hv v hv').1] at z
    rw [(hv v hv').2.2]
    by_cases c : v = 2 * l
    · rw [if_pos c]
    · rw [if_neg c] at z ⊢
      rw [if_neg (fun y => y.2.2 z)]
      exact t2 v hv' z
  · rw [(hv (2 * i) (by omega)).1] at z
    rw [h3 i hi]
    by_cases c : i = l
    · rw [if_pos (by omega)] at z
      exact absurd z hk
    · rw [if_neg c]
      rw [if_neg (by omega)] at z
      exact t3 i hi z
  · rw [(hv v hv').1] at z
    rw [h2]
    by_cases c : v = 2 * l
    · omega
    · rw [if_neg c] at z
      have := t4 v hv' z
      omega
  · rw [(hv v hv').1] at z
    by_cases c : v = 2 * l
    · subst c
      exact ⟨l, hl, lself, (ab_leaf l hl l hl).mpr rfl⟩
    · rw [if_neg c] at z
      obtain ⟨i, hi, g1, g2⟩ := t5 v hv' z
      exact ⟨i, hi, leaf i hi g1, g2⟩
  · rw [(hv v hv').2.2] at z
    by_cases c : v = 2 * l
    · rw [if_pos c, bt_0] at z
      cases z
    · rw [if_neg c] at z
      by_cases c1 : ab l v ∧ hgt v ≤ D' ∧ ¬ T.1 0 v = -1
      · rw [if_pos c1] at z
        rcases (bt_add hl hi).mp z with y | y
        · exact ⟨(t6 v hv' i hi y).1, leaf i hi (t6 v hv' i hi y).2⟩
        · subst y
          exact ⟨c1.1, lself⟩
      · rw [if_neg c1] at z
        exact ⟨(t6 v hv' i hi z).1, leaf i hi (t6 v hv' i hi z).2⟩
  · rw [(hv (2 * i) (by omega)).2.2]
    by_cases c : 2 * i = 2 * l
    · rw [if_pos c]
    · rw [if_neg c, if_neg (fun z => c (by have := (ab_leaf l hl i hi).mp z.1; omega))]
      exact t7 i hi
/-- the reference's seating -/
theorem da_do_TR {T T' : tr_T} {X : x_T} {e p fl j D' : Nat} (hR : TR T X e) (hfl : fl < 16) (hD4 : D' ≤ 4) (hk : ¬ X.2 38 p = -1) (hS : SE T fl D' (nI j) (sw (X.2 38 p)) (nI e) T') (h13 : X.2 13 e = nI D' ∨ True) (Y : x_T) (hY : Y = xs X 13 e (nI D')) : TR T' (da_do Y e p fl j D') e ∧ EO e X (da_do Y e p fl j D') := by
  have hYE : EO e X Y := by rw [hY]; exact EO.rf.xs1 13 _ (by decide)
  have y22 : Y.2 22 = X.2 22 := by rw [hY]; exact xs_k (by decide)
  have y23 : Y.2 23 = X.2 23 := by rw [hY]; exact xs_k (by decide)
  have y24 : Y.2 24 = X.2 24 := by rw [hY]; exact xs_k (by decide)
  have y26 : Y.2 26 = X.2 26 := by rw [hY]; exact xs_k (by decide)
  have y38 : Y.2 38 = X.2 38 := by rw [hY]; exact xs_k (by decide)
  have y13 : Y.2 13 e = nI D' := by rw [hY]; exact xs_s _ _ _ _
  clear hY
  have s0 : ∀ i, (mo_set Y e (2 * fl) (Y.2 38 p)).2 22 i = if i = 31 * e + 2 * fl then Y.2 38 p else Y.2 22 i := fun i => rfl
  have s1 : ∀ i, (mo_set Y e (2 * fl) (Y.2 38 p)).2 23 i = if i = 31 * e + 2 * fl then 0 else Y.2 23 i := fun i => rfl
  have s2 : ∀ i, (mo_set Y e (2 * fl) (Y.2 38 p)).2 24 i = if i = 31 * e + 2 * fl then nI e else Y.2 24 i := fun i => rfl
  have sf := mo_set_f Y e (2 * fl) (Y.2 38 p)
  have sE : EO e X (mo_set Y e (2 * fl) (Y.2 38 p)) := hYE.set (2 * fl) _ (by omega)
  unfold da_do
  generalize mo_set Y e (2 * fl) (Y.2 38 p) = B at s0 s1 s2 sf sE ⊢
  have hu := da_u_r e fl hfl D' 1 B (by omega)
  have uf := da_u_f e fl D' 1 B
  have uE : EO e X (da_u e fl D' 1 B) := sE.tr hu.2
  have hu1 := hu.1
  generalize da_u e fl D' 1 B = C at hu1 uf uE ⊢
  obtain ⟨h2, hv, h3⟩ := hS
  refine ⟨⟨?_, fun v hv' => ?_, fun i hi => ?_⟩, ?_⟩
  · rw [xs_k (by decide), xs_k (by decide), xs_k (by decide), xs_k (by decide), (uf 13 (by decide)).2, (sf 13 (by decide)).2, y13, h2]
  · obtain ⟨a1, a2, a3, a4⟩ := hR.2.1 v hv'
    rw [xs_k (by decide), xs_k (by decide), xs_k (by decide), xs_k (by decide), xs_k (by decide), xs_k (by decide), xs_k (by decide), xs_k (by decide), xs_k (by decide), xs_k (by decide), xs_k (by decide), xs_k (by decide)]
    rw [hu1 v hv', (uf 22 (by decide)).2, (uf 24 (by decide)).2, s0, s1, s2, y22, y23, y24, y38, (hv v hv').1, (hv v hv').2.1, (hv v hv').2.2]
    by_cases c : v = 2 * fl
    · have c0 : 31 * e + v = 31 * e + 2 * fl := by omega
      have c2 : ¬ (ab fl v ∧ (1 ≤ hgt v ∧ hgt v < 1 + D') ∧ ¬ (if 31 * e + v = 31 * e + 2 * fl then X.2 38 p else X.2 22 (31 * e + v)) = -1) := fun z => by
        have := hgt_leaf fl hfl
        rw [c] at z
        omega
      rw [if_neg c2, if_pos c0, if_pos c0, if_pos c0, if_pos c, if_pos c, if_pos c]
      exact ⟨rfl, rfl, fun z => absurd (sw_n1.mp z) hk, fun _ => rfl⟩
    · have c0 : ¬ 31 * e + v = 31 * e + 2 * fl := by omega
      rw [if_neg c0, if_neg c0, if_neg c0, if_neg c, if_neg c, if_neg c]
      have hh : ab fl v → 1 ≤ hgt v := fun z => Nat.pos_of_ne_zero (fun y => c ((leaf_0 v hv' fl hfl).mp ⟨z, y⟩))
      refine ⟨a1, ?_, a3, a4⟩
      have hb : X.2 22 (31 * e + v) = -1 ↔ T.1 0 v = -1 := by rw [a1, sw_n1]
      by_cases c1 : ab fl v ∧ hgt v ≤ D' ∧ ¬ T.1 0 v = -1
      · rw [if_pos c1, if_pos ⟨c1.1, ⟨hh c1.1, by omega⟩, fun z => c1.2.2 (hb.mp z)⟩, a2]
      · rw [if_neg c1, if_neg (fun z => c1 ⟨z.1, by omega, fun y => z.2.2 (hb.mpr y)⟩), a2]
  · rw [xs_k (by decide), xs_k (by decide), xs_k (by decide), h3 i hi]
    by_cases c : i = fl
    · subst c
      rw [if_pos rfl, xs_s]
    · rw [if_neg c, xs_j (by omega), (uf 26 (by decide)).2, (sf 26 (by decide)).2, y26]
      exact hR.2.2 i hi
  · exact ((((uE.xs16 fl _ hfl).xs1 19 _ (by decide))).tr (EO.of ((xfr.rf (K := [39, 40])).xs 39 _ _ (by decide)) (by decide))).tr (EO.of ((xfr.rf (K := [39, 40])).xs 40 _ _ (by decide)) (by decide))
