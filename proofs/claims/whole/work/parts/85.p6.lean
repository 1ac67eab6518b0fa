/-! ===== the pure part: updates ===== -/
def UM (T0 : tr_T) (b : Int32) (nk : Nat → Int32) (e : Int32) (T : tr_T) : Prop := T.2 = T0.2 ∧ T.1 3 = T0.1 3 ∧ (∀ l, l < 16 → bt b l = true → T.1 0 (2 * l) = nk l ∧ T.1 1 (2 * l) = 0 ∧ T.1 2 (2 * l) = e) ∧ ∀ v, v < 31 → (0 < hgt v → rb b T0.2 v → T.1 0 v = -1 ∧ T.1 1 v = 0 ∧ T.1 2 v = -1) ∧ (¬ rb b T0.2 v → T.1 0 v = T0.1 0 v ∧ T.1 1 v = T0.1 1 v ∧ T.1 2 v = T0.1 2 v)
theorem UM.rf (T0 : tr_T) (nk : Nat → Int32) (e : Int32) : UM T0 0 nk e T0 := ⟨rfl, rfl, fun l _ z => absurd z (by rw [bt_0]; decide), fun v _ => ⟨fun _ z => absurd z rb_0, fun _ => ⟨rfl, rfl, rfl⟩⟩⟩
theorem abv_0 (l : Nat) : abv l 0 = 2 * l := by
  unfold abv
  omega
theorem UM.ren {T0 T : tr_T} {b key e : Int32} {nk : Nat → Int32} {l : Nat} (h : UM T0 b nk e T) (hl : l < 16) (hD : T0.2 ≤ 4) : UM T0 (b ||| ((1 : Int32) <<< (nI l &&& 31))) (upd nk l key) e (T_ren T (nI l) key e) := by
  obtain ⟨h2, h3, hlf, hv⟩ := h
  have ha := abv_ok l hl 0 (by decide)
  rw [abv_0] at ha
  have hn : j_node (nI l) 0 = nI (2 * l) := ha.1
  have k0 : ∀ v, v < 31 → (T_ren T (nI l) key e).1 0 v = if v = 2 * l then key else if ab l v ∧ hgt v ≤ T.2 then -1 else T.1 0 v := fun v hv' => by
    unfold T_ren
    rw [hn, T_give_0 ha.2, (T_path_r hl hv' (by omega)).2.2.1]
  have k1 : ∀ v, v < 31 → (T_ren T (nI l) key e).1 1 v = if v = 2 * l then 0 else if ab l v ∧ hgt v ≤ T.2 then 0 else T.1 1 v := fun v hv' => by
    unfold T_ren
    rw [hn, T_give_1 ha.2, (T_path_r hl hv' (by omega)).2.2.2.1]
  have k2 : ∀ v, v < 31 → (T_ren T (nI l) key e).1 2 v = if v = 2 * l then e else if ab l v ∧ hgt v ≤ T.2 then -1 else T.1 2 v := fun v hv' => by
    unfold T_ren
    rw [hn, T_give_2 ha.2, (T_path_r hl hv' (by omega)).2.2.2.2]
  have k3 : (T_ren T (nI l) key e).1 3 = T.1 3 := (T_path_r (T := T) (v := 0) hl (by decide) (by omega)).1
  have k4 : (T_ren T (nI l) key e).2 = T.2 := (T_path_r (T := T) (v := 0) hl (by decide) (by omega)).2.1
  generalize T_ren T (nI l) key e = W at k0 k1 k2 k3 k4 ⊢
  refine ⟨k4.trans h2, k3.trans h3, fun i hi hb => ?_, fun v hv' => ⟨fun hg hb => ?_, fun hb => ?_⟩⟩
  · rw [k0 _ (by omega), k1 _ (by omega), k2 _ (by omega)]
    by_cases c : i = l
    · subst c
      rw [if_pos rfl, if_pos rfl, if_pos rfl, upd_s]
      exact ⟨rfl, rfl, rfl⟩
    · have c2 : ¬ (ab l (2 * i) ∧ hgt (2 * i) ≤ T.2) := fun z => c ((ab_leaf l hl i hi).mp z.1).symm
      have c3 : ¬ 2 * i = 2 * l := by omega
      rw [if_neg c3, if_neg c3, if_neg c3, if_neg c2, if_neg c2, if_neg c2, upd_n c]
      exact hlf i hi (((bt_add hl hi).mp hb).resolve_right c)
  · have c : ¬ v = 2 * l := fun z => by
      rw [z, hgt_leaf l hl] at hg
      omega
    rw [k0 v hv', k1 v hv', k2 v hv', if_neg c, if_neg c, if_neg c, h2]
    by_cases q : ab l v ∧ hgt v ≤ T0.2
    · rw [if_pos q, if_pos q, if_pos q]
      exact ⟨rfl, rfl, rfl⟩
    · rw [if_neg q, if_neg q, if_neg q]
      exact (hv v hv').1 hg (((rb_add hl).mp hb).resolve_right q)
  · have q : ¬ (ab l v ∧ hgt v ≤ T0.2) := fun z => hb ((rb_add hl).mpr (Or.inr z))
    have c : ¬ v = 2 * l := fun z => by
      subst z
      exact q ⟨(ab_leaf l hl l hl).mpr rfl, by rw [hgt_leaf l hl]; omega⟩
    rw [k0 v hv', k1 v hv', k2 v hv', if_neg c, if_neg c, if_neg c, h2, if_neg q, if_neg q, if_neg q]
    exact (hv v hv').2 (fun z => hb ((rb_add hl).mpr (Or.inl z)))
theorem UM.ti {T0 T : tr_T} {b e : Int32} {nk : Nat → Int32} (h : UM T0 b nk e T) (hT : TI T0) (hb : ∀ l, l < 16 → bt b l = true → ¬ T0.1 0 (2 * l) = -1 ∧ ¬ nk l = -1) : TI T := by
  have hT' := hT
  obtain ⟨t1, t2, t3, t4, t5, t6, t7⟩ := hT
  obtain ⟨h2, h3, hlf, hv⟩ := h
  have leaf : ∀ l, l < 16 → (¬ T.1 0 (2 * l) = -1 ↔ ¬ T0.1 0 (2 * l) = -1) := fun l hl => by
    cases c : bt b l with
    | true =>
      rw [(hlf l hl c).1]
      exact ⟨fun _ => (hb l hl c).1, fun _ => (hb l hl c).2⟩
    | false => rw [((hv (2 * l) (by omega)).2 (fun z => by rw [(rb_leaf hl).mp z] at c; cases c)).1]
  have inner : ∀ v, v < 31 → 0 < hgt v → ¬ T.1 0 v = -1 → ¬ rb b T0.2 v := fun v hv' hg hk z => hk ((hv v hv').1 hg z).1
  have old : ∀ v, v < 31 → ¬ T.1 0 v = -1 → ¬ T0.1 0 v = -1 := fun v hv' hk => by
    rcases Nat.eq_zero_or_pos (hgt v) with z | z
    · obtain ⟨q1, q2⟩ := leaf_of v hv' z
      rw [← q1] at hk ⊢
      exact (leaf _ q2).mp hk
    · rw [← ((hv v hv').2 (inner v hv' z hk)).1]
      exact hk
  refine ⟨by omega, fun v hv' hk => ?_, fun l hl hk => ?_, fun v hv' hk => by rw [h2]; exact t4 v hv' (old v hv' hk), fun v hv' hk => ?_, fun v hv' l hl hb' => ?_, fun l hl => ?_⟩
  · rcases Nat.eq_zero_or_pos (hgt v) with z | z
    · obtain ⟨q1, q2⟩ := leaf_of v hv' z
      rw [← q1] at hk ⊢
      have q3 : T0.1 0 (2 * (v / 2)) = -1 := Classical.byContradiction fun y => ((leaf _ q2).mpr y) hk
      cases c : bt b (v / 2) with
      | true => exact (hlf _ q2 c).2.1
      | false =>
        rw [((hv (2 * (v / 2)) (by omega)).2 (fun y => by rw [(rb_leaf q2).mp y] at c; cases c)).2.1]
        exact t2 _ (by omega) q3
    · by_cases c : rb b T0.2 v
      · exact ((hv v hv').1 z c).2.1
      · have q := (hv v hv').2 c
        rw [q.2.1]
        exact t2 v hv' (by rw [← q.1]; exact hk)
  · rw [h3]
    exact t3 l hl (Classical.byContradiction fun y => ((leaf l hl).mpr y) hk)
  · obtain ⟨l, hl, g1, g2⟩ := t5 v hv' (old v hv' hk)
    exact ⟨l, hl, (leaf l hl).mpr g1, g2⟩
  · rcases Nat.eq_zero_or_pos (hgt v) with z | z
    · obtain ⟨q1, q2⟩ := leaf_of v hv' z
      have : T.1 1 v = 0 := by
        rw [← q1]
        cases c : bt b (v / 2) with
        | true => exact (hlf _ q2 c).2.1
        | false =>
          rw [((hv (2 * (v / 2)) (by omega)).2 (fun y => by rw [(rb_leaf q2).mp y] at c; cases c)).2.1]
          exact t7 _ q2
      rw [this, bt_0] at hb'
      cases hb'
    · by_cases c : rb b T0.2 v
      · rw [((hv v hv').1 z c).2.1, bt_0] at hb'
        cases hb'
      · rw [((hv v hv').2 c).2.1] at hb'
        obtain ⟨g1, g2⟩ := t6 v hv' l hl hb'
        exact ⟨g1, (leaf l hl).mpr g2⟩
  · cases c : bt b l with
    | true => exact (hlf _ hl c).2.1
    | false =>
      rw [((hv (2 * l) (by omega)).2 (fun y => by rw [(rb_leaf hl).mp y] at c; cases c)).2.1]
      exact t7 _ hl
/-- the reference's updates -/
def UX (X0 : x_T) (e D : Nat) (P : Nat → Prop) (nk : Nat → Int32) (X : x_T) : Prop := (∀ l, l < 16 → P l → X.2 22 (31 * e + 2 * l) = nk l ∧ X.2 23 (31 * e + 2 * l) = 0 ∧ X.2 24 (31 * e + 2 * l) = nI e) ∧ (∀ v, v < 31 → (0 < hgt v → gone P D v → X.2 22 (31 * e + v) = -1 ∧ X.2 23 (31 * e + v) = 0) ∧ (¬ gone P D v → X.2 22 (31 * e + v) = X0.2 22 (31 * e + v) ∧ X.2 23 (31 * e + v) = X0.2 23 (31 * e + v) ∧ X.2 24 (31 * e + v) = X0.2 24 (31 * e + v))) ∧ xfr [22, 23, 24] X0 X ∧ EO e X0 X
theorem UX.cg {X0 X : x_T} {e D : Nat} {nk : Nat → Int32} {P P' : Nat → Prop} (h : UX X0 e D P nk X) (hp : ∀ l, l < 16 → (P l ↔ P' l)) : UX X0 e D P' nk X := by
  have hg : ∀ v, gone P D v ↔ gone P' D v := fun v => ⟨fun ⟨a, l, hl, b, c⟩ => ⟨a, l, hl, (hp l hl).mp b, c⟩, fun ⟨a, l, hl, b, c⟩ => ⟨a, l, hl, (hp l hl).mpr b, c⟩⟩
  exact ⟨fun l hl z => h.1 l hl ((hp l hl).mpr z), fun v hv => ⟨fun y z => (h.2.1 v hv).1 y ((hg v).mpr z), fun z => (h.2.1 v hv).2 (fun y => z ((hg v).mp y))⟩, h.2.2⟩
theorem UX.add {X0 X : x_T} {e D l : Nat} {nk : Nat → Int32} {P : Nat → Prop} (h : UX X0 e D P nk X) (hl : l < 16) (hD : D ≤ 4) : UX X0 e D (fun i => P i ∨ i = l) nk (mo_bp e l D 1 (mo_set X e (2 * l) (nk l))) := by
  obtain ⟨hlf, hv, hf, hE⟩ := h
  have e0 : ∀ i, (mo_set X e (2 * l) (nk l)).2 22 i = if i = 31 * e + 2 * l then nk l else X.2 22 i := fun i => rfl
  have e1 : ∀ i, (mo_set X e (2 * l) (nk l)).2 23 i = if i = 31 * e + 2 * l then 0 else X.2 23 i := fun i => rfl
  have e2 : ∀ i, (mo_set X e (2 * l) (nk l)).2 24 i = if i = 31 * e + 2 * l then nI e else X.2 24 i := fun i => rfl
  have hp := (mo_bp_r e l hl D 1 (mo_set X e (2 * l) (nk l)) (by omega)).1
  have h24 : (mo_bp e l D 1 (mo_set X e (2 * l) (nk l))).2 24 = (mo_set X e (2 * l) (nk l)).2 24 := ((mo_bp_f e l D 1 _) 24 (by decide)).2
  have hff : xfr [22, 23, 24] X0 (mo_bp e l D 1 (mo_set X e (2 * l) (nk l))) := (hf.tr (mo_set_f X e (2 * l) (nk l))).tr ((mo_bp_f e l D 1 _).wk (by decide))
  have hEE : EO e X0 (mo_bp e l D 1 (mo_set X e (2 * l) (nk l))) := EO.bp hl D 1 X0 _ (by omega) (hE.set (2 * l) _ (by omega))
  have hg : ∀ v, gone (fun i => P i ∨ i = l) D v ↔ gone P D v ∨ (ab l v ∧ hgt v ≤ D) := fun v => by
    unfold gone
    constructor
    · rintro ⟨a, i, hi, b | b, c⟩
      · exact Or.inl ⟨a, i, hi, b, c⟩
      · subst b
        exact Or.inr ⟨c, a⟩
    · rintro (⟨a, i, hi, b, c⟩ | ⟨a, b⟩)
      · exact ⟨a, i, hi, Or.inl b, c⟩
      · exact ⟨b, l, hl, Or.inr rfl, a⟩
  generalize mo_bp e l D 1 (mo_set X e (2 * l) (nk l)) = W at hp h24 hff hEE ⊢
  refine ⟨fun i hi hP => ?_, fun v hv' => ⟨fun hg0 hgo => ?_, fun hgo => ?_⟩, hff, hEE⟩
  · have c1 : ¬ (ab l (2 * i) ∧ 1 ≤ hgt (2 * i) ∧ hgt (2 * i) < 1 + D) := fun z => by
      have := hgt_leaf i hi
      omega
    rw [(hp (2 * i) (by omega)).1, (hp (2 * i) (by omega)).2, h24, if_neg c1, if_neg c1, e0, e1, e2]
    by_cases c : i = l
    · subst c
      rw [if_pos rfl, if_pos rfl, if_pos rfl]
      exact ⟨rfl, rfl, rfl⟩
    · rw [if_neg (by omega), if_neg (by omega), if_neg (by omega)]
      exact hlf i hi (hP.resolve_right c)
  · have c2 : ¬ 31 * e + v = 31 * e + 2 * l := fun z => by
      have z2 : v = 2 * l := by omega
      rw [z2, hgt_leaf l hl] at hg0
      omega
    rw [(hp v hv').1, (hp v hv').2, e0, e1, if_neg c2, if_neg c2]
    by_cases c1 : ab l v ∧ 1 ≤ hgt v ∧ hgt v < 1 + D
    · rw [if_pos c1, if_pos c1]
      exact ⟨rfl, rfl⟩
    · rw [if_neg c1, if_neg c1]
      exact (hv v hv').1 hg0 (((hg v).mp hgo).resolve_right (fun z => c1 ⟨z.1, by omega, by omega⟩))
  · have q : ¬ (ab l v ∧ hgt v ≤ D) := fun z => hgo ((hg v).mpr (Or.inr z))
    have c1 : ¬ (ab l v ∧ 1 ≤ hgt v ∧ hgt v < 1 + D) := fun z => q ⟨z.1, by omega⟩
    have c2 : ¬ 31 * e + v = 31 * e + 2 * l := fun z => by
      have z2 : v = 2 * l := by omega
      subst z2
      exact q ⟨(ab_leaf l hl l hl).mpr rfl, by rw [hgt_leaf l hl]; omega⟩
    rw [(hp v hv').1, (hp v hv').2, h24, if_neg c1, if_neg c1, e0, e1, e2, if_neg c2, if_neg c2, if_neg c2]
    exact (hv v hv').2 (fun z => hgo ((hg v).mpr (Or.inl z)))
theorem du_m_r {X0 : x_T} {e D : Nat} {b : Int32} {nk : Nat → Int32} (hD : D ≤ 4) : ∀ (m l : Nat) (X : x_T), l + m = 16 → UX X0 e D (fun i => i < l ∧ bt b i = true) nk X → UX X0 e D (fun i => bt b i = true) nk (du_m e D b nk m l X) := by
  intro m
  induction m with
  | zero =>
    intro l X hl h
    exact h.cg (fun i hi => ⟨fun z => z.2, fun z => ⟨by omega, z⟩⟩)
  | succ m ih =>
    intro l X hl h
    unfold du_m
    refine ih (l + 1) _ (by omega) ?_
    by_cases c : bit b l = 0
    · rw [if_pos c]
      have c2 := (bit_eq0 (by omega)).mp c
      refine h.cg (fun i hi => ⟨fun z => ⟨by omega, z.2⟩, fun z => ⟨?_, z.2⟩⟩)
      rcases Nat.lt_or_ge i l with y | y
      · exact y
      · rw [show i = l by omega, c2] at z
        cases z.2
    · rw [if_neg c]
      have c2 := (bit_ne (by omega)).mp c
      refine (h.add (by omega) hD).cg (fun i hi => ⟨fun z => ?_, fun z => ?_⟩)
      · rcases z with z | z
        · exact ⟨by omega, z.2⟩
        · subst z
          exact ⟨by omega, c2⟩
      · rcases Nat.lt_or_ge i l with y | y
        · exact Or.inl ⟨y, z.2⟩
        · exact Or.inr (by omega)
theorem upd_TR {T0 T : tr_T} {X0 : x_T} {e : Nat} {b : Int32} {nk : Nat → Int32} (h0 : TR T0 X0 e) (hD : T0.2 ≤ 4) (hU : UM T0 b (fun l => sw (nk l)) (nI e) T) (hnk : ∀ l, l < 16 → bt b l = true → ¬ nk l = -1) : TR T (du_m e T0.2 b nk 16 0 X0) e ∧ EO e X0 (du_m e T0.2 b nk 16 0 X0) := by
  have hX := du_m_r (X0 := X0) (e := e) (b := b) (nk := nk) hD 16 0 X0 rfl ⟨fun l hl z => by omega, fun v hv => ⟨fun _ ⟨_, l, _, z, _⟩ => by omega, fun _ => ⟨rfl, rfl, rfl⟩⟩, xfr.rf, EO.rf⟩
  generalize du_m e T0.2 b nk 16 0 X0 = Y at hX ⊢
  obtain ⟨x1, x2, x3, x4⟩ := hX
  obtain ⟨u1, u2, u3, u4⟩ := hU
  refine ⟨⟨?_, fun v hv => ?_, fun l hl => ?_⟩, x4⟩
  · rw [(x3 13 (by decide)).2, u1]
    exact h0.1
  · obtain ⟨a1, a2, a3, a4⟩ := h0.2.1 v hv
    by_cases c : rb b T0.2 v
    · rcases Nat.eq_zero_or_pos (hgt v) with z | z
      · obtain ⟨q1, q2⟩ := leaf_of v hv z
        rw [← q1] at c ⊢
        have cb := (rb_leaf q2).mp c
        obtain ⟨b1, b2, b3⟩ := u3 _ q2 cb
        obtain ⟨c1, c2, c3⟩ := x1 _ q2 cb
        rw [b1, b2, b3, c1, c2, c3]
        exact ⟨rfl, rfl, fun y => absurd (sw_n1.mp y) (hnk _ q2 cb), fun _ => rfl⟩
      · obtain ⟨b1, b2, b3⟩ := (u4 v hv).1 z c
        obtain ⟨c1, c2⟩ := (x2 v hv).1 z c
        rw [b1, b2, b3, c1, c2]
        exact ⟨sw_m1.symm, rfl, fun _ => rfl, fun y => absurd rfl y⟩
    · obtain ⟨b1, b2, b3⟩ := (u4 v hv).2 c
      obtain ⟨c1, c2, c3⟩ := (x2 v hv).2 c
      rw [b1, b2, b3, c1, c2, c3]
      exact ⟨a1, a2, a3, a4⟩
  · rw [u2, (x3 26 (by decide)).2]
    exact h0.2.2 l hl
/-- class's updates beside the reference's search -/
def q_up2 (Q : Nat → p_T) (X : x_T) (k : Nat) : Prop := X.2 43 k = nI (Q k).1 ∧ (Q k).1 < 3 ∧ ((Q k).1 = 2 → (Q k).2.2.1 = fu_l X k ∧ (∃ l, l < 16 ∧ fu_l X k = nI l) ∧ (Q k).2.2.2 = sw (X.2 45 k))
theorem AN_sim {X : x_T} {T0 : tr_T} {e cl : Nat} {en : Int32} {Q : Nat → p_T} (hcl : cl < 16) (hD : T0.2 ≤ 4) : ∀ (m k : Nat) (p : G_T × e_T) (nk : Nat → Int32), (∀ i, k ≤ i → i < k + m → q_up2 Q X i) → gQ p.1 = Q → p.2.1 0 = en → p.2.1 1 = nI cl → p.2.1 4 = X.2 17 e → UM T0 (p.2.1 5) (fun l => sw (nk l)) en p.2.2.1 →
    (AN m k p).2.1 5 = (fu_m X e (nI cl) m k (p.2.1 5, nk)).1 ∧ UM T0 (fu_m X e (nI cl) m k (p.2.1 5, nk)).1 (fun l => sw ((fu_m X e (nI cl) m k (p.2.1 5, nk)).2 l)) en (AN m k p).2.2.1 ∧ (∀ i, i ≠ 5 → (AN m k p).2.1 i = p.2.1 i) ∧ (AN m k p).2.2.2 = p.2.2.2 := by
  classical
  intro m
  induction m with
  | zero =>
    intro k p nk _ _ _ _ _ hU
    exact ⟨rfl, hU, fun _ _ => rfl, rfl⟩
  | succ m ih =>
    intro k p nk hq hQ h0 h1 h4 hU
    have hk := hq k (Nat.le_refl _) (by omega)
    unfold AN fu_m
    have step : ∃ nk', (if fu_b X e (nI cl) k then (p.2.1 5 ||| ((1 : Int32) <<< (fu_l X k &&& 31)), upd nk (ix (fu_l X k)) (X.2 45 k)) else (p.2.1 5, nk)) = ((AN_1 k p).2.1 5, nk') ∧ UM T0 ((AN_1 k p).2.1 5) (fun l => sw (nk' l)) en (AN_1 k p).2.2.1 ∧ (∀ i, i ≠ 5 → (AN_1 k p).2.1 i = p.2.1 i) ∧ (AN_1 k p).2.2.2 = p.2.2.2 ∧ (AN_1 k p).1 = p.1 := by
      unfold AN_1
      rw [hQ]
      by_cases c1 : (Q k).1 = 2
      · obtain ⟨e1, ⟨l, hl, e2⟩, e3⟩ := hk.2.2 c1
        have hx : ix (fu_l X k) = l := by rw [e2]; exact ix_nI (by omega)
        have hfu : fu_b X e (nI cl) k ↔ E_lets p.2 (Q k).2.2.1 := by
          unfold fu_b E_lets
          rw [e1, e2, h1, h4, hk.1, c1, j_in_bt (by omega)]
          have : ((X.2 17 e >>> (nI l &&& 31)) &&& 1 = 1) ↔ bt (X.2 17 e) l = true := bit_eq1 (by omega)
          rw [this]
          exact ⟨fun z => z.2, fun z => ⟨rfl, z⟩⟩
        by_cases c2 : fu_b X e (nI cl) k
        · rw [if_pos c2, if_pos ⟨c1, hfu.mp c2⟩, e1, e2, e3]
          refine ⟨upd nk l (X.2 45 k), ?_, ?_, fun i hi => upd_n hi, rfl, rfl⟩
          · rw [← e2, hx]
            exact Prod.ext (upd_s p.2.1 5 _).symm rfl
          · show UM T0 (upd p.2.1 5 (p.2.1 5 ||| ((1 : Int32) <<< (nI l &&& 31))) 5) _ _ (T_ren p.2.2.1 (nI l) (sw (X.2 45 k)) (p.2.1 0))
            rw [upd_s, h0]
            have h5 := hU.ren (key := sw (X.2 45 k)) hl hD
            have : (fun i => sw (upd nk l (X.2 45 k) i)) = upd (fun i => sw (nk i)) l (sw (X.2 45 k)) := by
              funext i
              by_cases z : i = l
              · subst z
                rw [upd_s, upd_s]
              · rw [upd_n z, upd_n z]
            rw [this]
            exact h5
        · rw [if_neg c2, if_neg (fun z => c2 (hfu.mpr z.2))]
          exact ⟨nk, rfl, hU, fun _ _ => rfl, rfl, rfl⟩
      · have c2 : ¬ fu_b X e (nI cl) k := fun z => by
          have z1 := z.1
          rw [hk.1] at z1
          have := hk.2.1
          exact c1 ((nI_eq (by omega) (by decide)).mp z1)
        rw [if_neg c2, if_neg (fun z => c1 z.1)]
        exact ⟨nk, rfl, hU, fun _ _ => rfl, rfl, rfl⟩
    obtain ⟨nk', s1, s2, s3, s4, s5⟩ := step
    rw [s1]
    obtain ⟨r1, r2, r3, r4⟩ := ih (k + 1) (AN_1 k p) nk' (fun i h1 h2 => hq i (by omega) (by omega)) (by rw [s5]; exact hQ) ((s3 0 (by decide)).trans h0) ((s3 1 (by decide)).trans h1) ((s3 4 (by decide)).trans h4) s2
    exact ⟨r1, r2, fun i hi => (r3 i hi).trans (s3 i hi), r4.trans s4⟩
theorem fu_m_or {X : x_T} {e : Nat} {mine : Int32} : ∀ (m k : Nat) (p : Int32 × (Nat → Int32)) (wt : Nat), k + m ≤ wt → (∀ i, i < wt → X.2 43 i = 2 → ∃ l, l < 16 ∧ fu_l X i = nI l) → ∀ l, l < 16 → bt (fu_m X e mine m k p).1 l = true → (bt p.1 l = true ∧ (fu_m X e mine m k p).2 l = p.2 l) ∨ ∃ i, i < wt ∧ fu_b X e mine i ∧ fu_l X i = nI l ∧ (fu_m X e mine m k p).2 l = X.2 45 i := by
  classical
  intro m
  induction m with
  | zero => intro k p wt _ _ l _ h; exact Or.inl ⟨h, rfl⟩
  | succ m ih =>
    intro k p wt hk hL l hl h
    unfold fu_m at h ⊢
    by_cases c : fu_b X e mine k
    · rw [if_pos c] at h ⊢
      obtain ⟨i, hi, e1⟩ := hL k (by omega) c.1
      rcases ih (k + 1) _ wt (by omega) hL l hl h with ⟨a, b⟩ | z
      · have hx : ix (fu_l X k) = i := by rw [e1]; exact ix_nI (by omega)
        have a : bt (p.1 ||| ((1 : Int32) <<< (fu_l X k &&& 31))) l = true := a
        rw [e1] at a
        by_cases q : l = i
        · refine Or.inr ⟨k, by omega, c, by rw [e1, q], ?_⟩
          rw [b, q]
          show upd p.2 (ix (fu_l X k)) (X.2 45 k) i = _
          rw [hx, upd_s]
        · refine Or.inl ⟨((bt_add hi hl).mp a).resolve_right q, ?_⟩
          rw [b]
          show upd p.2 (ix (fu_l X k)) (X.2 45 k) l = _
          rw [hx, upd_n q]
      · exact Or.inr z
    · rw [if_neg c] at h ⊢
      exact ih (k + 1) p wt (by omega) hL l hl h
