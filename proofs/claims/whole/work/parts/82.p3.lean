/-! ===== the pure part: trees, node by node ===== -/
def sw (x : Int32) : Int32 := if x = 1 then 2 else if x = 2 then 1 else x
theorem sw_m1 : sw (-1) = -1 := by decide
theorem sw_sw (x : Int32) : sw (sw x) = x := by
  unfold sw
  by_cases h1 : x = 1
  · subst h1
    decide
  · by_cases h2 : x = 2
    · subst h2
      decide
    · rw [if_neg h1, if_neg h2, if_neg h1, if_neg h2]
theorem sw_eq {x y : Int32} : sw x = sw y ↔ x = y := ⟨fun h => by rw [← sw_sw x, h, sw_sw], fun h => by rw [h]⟩
theorem sw_n1 {x : Int32} : sw x = -1 ↔ x = -1 := by
  rw [← sw_m1, sw_eq, sw_m1]
/-- the node v lies on the way from leaf l to the top -/
abbrev ab (l v : Nat) : Prop := abv l (hgt v) = v
theorem ab_leaf : ∀ l, l < 16 → ∀ i, i < 16 → (ab l (2 * i) ↔ l = i) := by decide +kernel
theorem ab_abv : ∀ l, l < 16 → ∀ t, t < 5 → hgt (abv l t) = t ∧ ab l (abv l t) := by decide +kernel
theorem abv_iff {l t v : Nat} (hl : l < 16) (ht : t < 5) : abv l t = v ↔ ab l v ∧ hgt v = t := by
  constructor
  · intro h
    subst h
    exact ⟨(ab_abv l hl t ht).2, (ab_abv l hl t ht).1⟩
  · intro h
    rw [← h.2]
    exact h.1
theorem hgt_leaf : ∀ i, i < 16 → hgt (2 * i) = 0 := by decide +kernel
theorem leaf_of : ∀ v, v < 31 → hgt v = 0 → 2 * (v / 2) = v ∧ v / 2 < 16 := by decide +kernel
theorem tl0 : tr_len 0 = 31 := rfl
theorem T_get {T : tr_T} {v : Nat} (i : Nat) (hi : i ≠ 3) (hv : v < 31) : r_get (tr_len i) (T.1 i) (nI v) = T.1 i v := by
  have : tr_len i = 31 := if_neg hi
  rw [this]
  exact r_get_in hv (by decide)
theorem T_get3 {T : tr_T} {l : Nat} (hl : l < 16) : r_get (tr_len 3) (T.1 3) (nI l) = T.1 3 l := r_get_in (by show l < 16; exact hl) (by decide)
theorem T_give_0 {T : tr_T} {v : Nat} {k e : Int32} (hv : v < 31) (w : Nat) : (T_give T (nI v) k e).1 0 w = if w = v then k else T.1 0 w := by
  show r_put 31 (T.1 0) (nI v) k w = _
  rw [r_put_in hv (by decide)]
  rfl
theorem T_give_1 {T : tr_T} {v : Nat} {k e : Int32} (hv : v < 31) (w : Nat) : (T_give T (nI v) k e).1 1 w = if w = v then 0 else T.1 1 w := by
  show r_put 31 (T.1 1) (nI v) 0 w = _
  rw [r_put_in hv (by decide)]
  rfl
theorem T_give_2 {T : tr_T} {v : Nat} {k e : Int32} (hv : v < 31) (w : Nat) : (T_give T (nI v) k e).1 2 w = if w = v then e else T.1 2 w := by
  show r_put 31 (T.1 2) (nI v) e w = _
  rw [r_put_in hv (by decide)]
  rfl
theorem T_give_3 {T : tr_T} {v k e : Int32} : (T_give T v k e).1 3 = T.1 3 := rfl
theorem T_isB_n {T : tr_T} {v : Nat} (hv : v < 31) : T_isB T (nI v) ↔ T.1 0 v = -1 := by
  unfold T_isB
  rw [T_get 0 (by decide) hv]
/-- a row's value at v behind a change that lays x where c holds -/
theorem T_bp_r (l : Nat) (hl : l < 16) (v : Nat) (hv : v < 31) : ∀ (m k : Nat) (T : tr_T), k + m ≤ 5 → (T_bp (nI l) m k T).1 3 = T.1 3 ∧ (T_bp (nI l) m k T).2 = T.2 ∧
    (T_bp (nI l) m k T).1 0 v = (if ab l v ∧ k ≤ hgt v ∧ hgt v < k + m then -1 else T.1 0 v) ∧ (T_bp (nI l) m k T).1 1 v = (if ab l v ∧ k ≤ hgt v ∧ hgt v < k + m then 0 else T.1 1 v) ∧ (T_bp (nI l) m k T).1 2 v = (if ab l v ∧ k ≤ hgt v ∧ hgt v < k + m then -1 else T.1 2 v) := by
  intro m
  induction m with
  | zero =>
    intro k T _
    have hno : ¬ (ab l v ∧ k ≤ hgt v ∧ hgt v < k + 0) := fun z => by omega
    rw [if_neg hno, if_neg hno, if_neg hno]
    exact ⟨rfl, rfl, rfl, rfl, rfl⟩
  | succ m ih =>
    intro k T hk
    have ha := abv_ok l hl k (by omega)
    obtain ⟨i3, i2, i0, i1, i4⟩ := ih (k + 1) (T_blank T (nI (abv l k))) (by omega)
    unfold T_bp
    rw [ha.1]
    have e0 : (T_blank T (nI (abv l k))).1 0 v = if v = abv l k then -1 else T.1 0 v := T_give_0 ha.2 v
    have e1 : (T_blank T (nI (abv l k))).1 1 v = if v = abv l k then 0 else T.1 1 v := T_give_1 ha.2 v
    have e2 : (T_blank T (nI (abv l k))).1 2 v = if v = abv l k then -1 else T.1 2 v := T_give_2 ha.2 v
    rw [i3, i2, i0, i1, i4, e0, e1, e2]
    have hiff : v = abv l k ↔ ab l v ∧ hgt v = k := ⟨fun h => (abv_iff hl (by omega)).mp h.symm, fun h => ((abv_iff hl (by omega)).mpr h).symm⟩
    refine ⟨rfl, rfl, ?_⟩
    by_cases c1 : ab l v ∧ k + 1 ≤ hgt v ∧ hgt v < k + 1 + m
    · have c2 : ab l v ∧ k ≤ hgt v ∧ hgt v < k + (m + 1) := ⟨c1.1, by omega, by omega⟩
      rw [if_pos c1, if_pos c1, if_pos c1, if_pos c2, if_pos c2, if_pos c2]
      exact ⟨rfl, rfl, rfl⟩
    · rw [if_neg c1, if_neg c1, if_neg c1]
      by_cases c3 : v = abv l k
      · have q := hiff.mp c3
        have c2 : ab l v ∧ k ≤ hgt v ∧ hgt v < k + (m + 1) := ⟨q.1, by omega, by omega⟩
        rw [if_pos c3, if_pos c3, if_pos c3, if_pos c2, if_pos c2, if_pos c2]
        exact ⟨rfl, rfl, rfl⟩
      · have c2 : ¬ (ab l v ∧ k ≤ hgt v ∧ hgt v < k + (m + 1)) := fun z => by
          by_cases c4 : hgt v = k
          · exact c3 (hiff.mpr ⟨z.1, c4⟩)
          · exact c1 ⟨z.1, by omega, by omega⟩
        rw [if_neg c3, if_neg c3, if_neg c3, if_neg c2, if_neg c2, if_neg c2]
        exact ⟨rfl, rfl, rfl⟩
theorem T_path_r {T : tr_T} {l v : Nat} (hl : l < 16) (hv : v < 31) (hD : T.2 ≤ 4) : (T_path T (nI l)).1 3 = T.1 3 ∧ (T_path T (nI l)).2 = T.2 ∧
    (T_path T (nI l)).1 0 v = (if ab l v ∧ hgt v ≤ T.2 then -1 else T.1 0 v) ∧ (T_path T (nI l)).1 1 v = (if ab l v ∧ hgt v ≤ T.2 then 0 else T.1 1 v) ∧ (T_path T (nI l)).1 2 v = (if ab l v ∧ hgt v ≤ T.2 then -1 else T.1 2 v) := by
  have h := T_bp_r l hl v hv (T.2 + 1) 0 T (by omega)
  have hiff : (ab l v ∧ 0 ≤ hgt v ∧ hgt v < 0 + (T.2 + 1)) ↔ (ab l v ∧ hgt v ≤ T.2) := ⟨fun z => ⟨z.1, by omega⟩, fun z => ⟨z.1, by omega, by omega⟩⟩
  simp only [hiff] at h
  exact h
/-- the same of the reference's blanking of a path -/
theorem mo_bp_r (e l : Nat) (hl : l < 16) : ∀ (m k : Nat) (X : x_T), k + m ≤ 5 → (∀ v, v < 31 → (mo_bp e l m k X).2 22 (31 * e + v) = (if ab l v ∧ k ≤ hgt v ∧ hgt v < k + m then -1 else X.2 22 (31 * e + v)) ∧ (mo_bp e l m k X).2 23 (31 * e + v) = (if ab l v ∧ k ≤ hgt v ∧ hgt v < k + m then 0 else X.2 23 (31 * e + v))) ∧ ∀ i, (i < 31 * e ∨ 31 * e + 31 ≤ i) → (mo_bp e l m k X).2 22 i = X.2 22 i ∧ (mo_bp e l m k X).2 23 i = X.2 23 i := by
  intro m
  induction m with
  | zero =>
    intro k X _
    refine ⟨fun v hv => ?_, fun i _ => ⟨rfl, rfl⟩⟩
    have hno : ¬ (ab l v ∧ k ≤ hgt v ∧ hgt v < k + 0) := fun z => by omega
    rw [if_neg hno, if_neg hno]
    exact ⟨rfl, rfl⟩
  | succ m ih =>
    intro k X hk
    have ha := abv_ok l hl k (by omega)
    obtain ⟨i1, i2⟩ := ih (k + 1) (mo_bl X e (abv l k)) (by omega)
    have e0 : ∀ i, (mo_bl X e (abv l k)).2 22 i = if i = 31 * e + abv l k then -1 else X.2 22 i := fun i => rfl
    have e1 : ∀ i, (mo_bl X e (abv l k)).2 23 i = if i = 31 * e + abv l k then 0 else X.2 23 i := fun i => rfl
    unfold mo_bp
    refine ⟨fun v hv => ?_, fun i hi => ?_⟩
    · have hiff : v = abv l k ↔ ab l v ∧ hgt v = k := ⟨fun h => (abv_iff hl (by omega)).mp h.symm, fun h => ((abv_iff hl (by omega)).mpr h).symm⟩
      have hn : (31 * e + v = 31 * e + abv l k) ↔ v = abv l k := by omega
      rw [(i1 v hv).1, (i1 v hv).2, e0, e1]
      simp only [hn]
      by_cases c1 : ab l v ∧ k + 1 ≤ hgt v ∧ hgt v < k + 1 + m
      · have c2 : ab l v ∧ k ≤ hgt v ∧ hgt v < k + (m + 1) := ⟨c1.1, by omega, by omega⟩
        rw [if_pos c1, if_pos c1, if_pos c2, if_pos c2]
        exact ⟨rfl, rfl⟩
      · rw [if_neg c1, if_neg c1]
        by_cases c3 : v = abv l k
        · have q := hiff.mp c3
          have c2 : ab l v ∧ k ≤ hgt v ∧ hgt v < k + (m + 1) := ⟨q.1, by omega, by omega⟩
          rw [if_pos c3, if_pos c3, if_pos c2, if_pos c2]
          exact ⟨rfl, rfl⟩
        · have c2 : ¬ (ab l v ∧ k ≤ hgt v ∧ hgt v < k + (m + 1)) := fun z => by
            by_cases c4 : hgt v = k
            · exact c3 (hiff.mpr ⟨z.1, c4⟩)
            · exact c1 ⟨z.1, by omega, by omega⟩
          rw [if_neg c3, if_neg c3, if_neg c2, if_neg c2]
          exact ⟨rfl, rfl⟩
    · have := abv_ok l hl k (by omega)
      rw [(i2 i hi).1, (i2 i hi).2, e0, e1, if_neg (by omega), if_neg (by omega)]
      exact ⟨rfl, rfl⟩
/-- class's tree and the reference's of epoch e -/
def TR (T : tr_T) (X : x_T) (e : Nat) : Prop := X.2 13 e = nI T.2 ∧ (∀ v, v < 31 → T.1 0 v = sw (X.2 22 (31 * e + v)) ∧ T.1 1 v = X.2 23 (31 * e + v) ∧ (T.1 0 v = -1 → T.1 2 v = -1) ∧ (¬ T.1 0 v = -1 → T.1 2 v = X.2 24 (31 * e + v))) ∧ ∀ l, l < 16 → T.1 3 l = X.2 26 (16 * e + l)
/-- what a tree keeps to -/
def TI (T : tr_T) : Prop := T.2 ≤ 4 ∧ (∀ v, v < 31 → T.1 0 v = -1 → T.1 1 v = 0) ∧ (∀ l, l < 16 → T.1 0 (2 * l) = -1 → T.1 3 l = -1) ∧ (∀ v, v < 31 → ¬ T.1 0 v = -1 → v < 2 ^ (T.2 + 1) - 1) ∧ (∀ v, v < 31 → ¬ T.1 0 v = -1 → ∃ l, l < 16 ∧ ¬ T.1 0 (2 * l) = -1 ∧ ab l v) ∧ (∀ v, v < 31 → ∀ l, l < 16 → bt (T.1 1 v) l = true → ab l v ∧ ¬ T.1 0 (2 * l) = -1) ∧ ∀ l, l < 16 → T.1 1 (2 * l) = 0
/-- nodes that go with the leaves b -/
def rb (b : Int32) (D v : Nat) : Prop := hgt v ≤ D ∧ ∃ l, l < 16 ∧ bt b l = true ∧ ab l v
theorem rb_leaf {b : Int32} {D l : Nat} (hl : l < 16) : rb b D (2 * l) ↔ bt b l = true := by
  unfold rb
  rw [hgt_leaf l hl]
  constructor
  · rintro ⟨-, i, hi, h1, h2⟩
    rw [← (ab_leaf i hi l hl).mp h2]
    exact h1
  · intro h
    exact ⟨Nat.zero_le _, l, hl, h, (ab_leaf l hl l hl).mpr rfl⟩
theorem rb_0 {D v : Nat} : ¬ rb 0 D v := fun ⟨_, l, _, h, _⟩ => by
  rw [bt_0] at h
  cases h
theorem bt_add {b : Int32} {l i : Nat} (hl : l < 16) (hi : i < 16) : bt (b ||| ((1 : Int32) <<< (nI l &&& 31))) i = true ↔ bt b i = true ∨ i = l := by
  rw [bt_or, bt_1 l (by omega) i (by omega)]
  simp
theorem rb_add {b : Int32} {D v l : Nat} (hl : l < 16) : rb (b ||| ((1 : Int32) <<< (nI l &&& 31))) D v ↔ rb b D v ∨ (ab l v ∧ hgt v ≤ D) := by
  unfold rb
  constructor
  · rintro ⟨h0, i, hi, h1, h2⟩
    rcases (bt_add hl hi).mp h1 with z | z
    · exact Or.inl ⟨h0, i, hi, z, h2⟩
    · subst z
      exact Or.inr ⟨h2, h0⟩
  · rintro (⟨h0, i, hi, h1, h2⟩ | ⟨h1, h2⟩)
    · exact ⟨h0, i, hi, (bt_add hl hi).mpr (Or.inl h1), h2⟩
    · exact ⟨h2, l, hl, (bt_add hl hl).mpr (Or.inr rfl), h1⟩
