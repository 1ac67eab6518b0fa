/-! ===== the pure part: the copy of a tree ===== -/
theorem cp_row (T U : tr_T) (i j : Nat) (hj : j < tr_len i) : T_cpr T U i j = U.1 i j := by
  have h1 : tr_len i < 2 ^ 31 := by
    unfold tr_len
    by_cases c : i = 3
    · rw [if_pos c]; decide
    · rw [if_neg c]; decide
  unfold T_cpr r_copy
  rw [if_pos hj]
  exact r_get_in hj h1
theorem T_copy_r (T U : tr_T) : (T_copy T U).2 = U.2 ∧ (∀ v, v < 31 → (T_copy T U).1 0 v = U.1 0 v ∧ (T_copy T U).1 1 v = U.1 1 v ∧ (T_copy T U).1 2 v = U.1 2 v) ∧ ∀ l, l < 16 → (T_copy T U).1 3 l = U.1 3 l :=
  ⟨rfl, fun v hv => ⟨cp_row T U 0 v hv, cp_row T U 1 v hv, cp_row T U 2 v hv⟩, fun l hl => cp_row T U 3 l hl⟩
theorem TI.cg {T U : tr_T} (h : TI U) (h2 : T.2 = U.2) (hv : ∀ v, v < 31 → T.1 0 v = U.1 0 v ∧ T.1 1 v = U.1 1 v) (h3 : ∀ l, l < 16 → T.1 3 l = U.1 3 l) : TI T := by
  obtain ⟨t1, t2, t3, t4, t5, t6, t7⟩ := h
  refine ⟨by rw [h2]; exact t1, fun v hv' z => ?_, fun l hl z => ?_, fun v hv' z => ?_, fun v hv' z => ?_, fun v hv' l hl z => ?_, fun l hl => ?_⟩
  · rw [(hv v hv').1] at z
    rw [(hv v hv').2]
    exact t2 v hv' z
  · rw [(hv _ (by omega)).1] at z
    rw [h3 l hl]
    exact t3 l hl z
  · rw [(hv v hv').1] at z
    rw [h2]
    exact t4 v hv' z
  · rw [(hv v hv').1] at z
    obtain ⟨l, hl, a, b⟩ := t5 v hv' z
    exact ⟨l, hl, by rw [(hv _ (by omega)).1]; exact a, b⟩
  · rw [(hv v hv').2] at z
    rw [(hv _ (by omega)).1]
    exact t6 v hv' l hl z
  · rw [(hv _ (by omega)).2]
    exact t7 l hl
theorem copy_TR {T U : tr_T} {X X1 : x_T} {e : Nat} (h : TR U X e) (hI : TI U) (hc : q_cp X e (e + 1) U.2 31 16 X1) : TR (T_copy T U) X1 (e + 1) ∧ TI (T_copy T U) ∧ EO (e + 1) X X1 := by
  obtain ⟨c1, c2, c3, c4, c5, c6, c7⟩ := T_copy_r T U |> fun z => hc
  obtain ⟨k2, kv, k3⟩ := T_copy_r T U
  have i31 : ∀ (f w : Nat → Int32) v, v < 31 → cpF f w (31 * (e + 1)) 31 (31 * (e + 1) + v) = w v := fun f w v hv => by
    unfold cpF
    rw [if_pos (by omega), show 31 * (e + 1) + v - 31 * (e + 1) = v by omega]
  have i16 : ∀ (f w : Nat → Int32) v, v < 16 → cpF f w (16 * (e + 1)) 16 (16 * (e + 1) + v) = w v := fun f w v hv => by
    unfold cpF
    rw [if_pos (by omega), show 16 * (e + 1) + v - 16 * (e + 1) = v by omega]
  have o31 : ∀ (f w : Nat → Int32) i, (i < 31 * (e + 1) ∨ 31 * (e + 1) + 31 ≤ i) → cpF f w (31 * (e + 1)) 31 i = f i := fun f w i hi => by
    unfold cpF
    rw [if_neg (by omega)]
  have o16 : ∀ (f w : Nat → Int32) i, (i < 16 * (e + 1) ∨ 16 * (e + 1) + 16 ≤ i) → cpF f w (16 * (e + 1)) 16 i = f i := fun f w i hi => by
    unfold cpF
    rw [if_neg (by omega)]
  refine ⟨⟨by rw [c2, upd_s, k2], fun v hv => ?_, fun l hl => ?_⟩, hI.cg k2 (fun v hv => ⟨(kv v hv).1, (kv v hv).2.1⟩) k3, ⟨fun k h1 h2 i hi => ?_, fun k h1 h2 i hi => ?_, fun i hi => ?_⟩⟩
  · obtain ⟨a1, a2, a3, a4⟩ := h.2.1 v hv
    rw [(kv v hv).1, (kv v hv).2.1, (kv v hv).2.2, c3, c4, c5, i31 _ _ v hv, i31 _ _ v hv, i31 _ _ v hv]
    unfold cp_k cp_u cp_s
    by_cases q : v < 2 ^ (U.2 + 1) - 1
    · rw [if_pos q, if_pos q]
      exact ⟨a1, a2, a3, a4⟩
    · have b0 : U.1 0 v = -1 := Classical.byContradiction fun z => q (hI.2.2.2.1 v hv z)
      rw [if_neg q, if_neg q]
      exact ⟨by rw [b0, sw_m1], hI.2.1 v hv b0, a3, a4⟩
  · rw [k3 l hl, c7, i16 _ _ l hl]
    exact h.2.2 l hl
  · by_cases q : k = 13
    · subst q
      rw [c2, upd_n hi]
    · rw [(c1 k (by simp; omega)).2]
  · have : k = 22 ∨ k = 23 ∨ k = 24 ∨ k = 25 := by omega
    rcases this with q | q | q | q
    · subst q; rw [c3, o31 _ _ i hi]
    · subst q; rw [c4, o31 _ _ i hi]
    · subst q; rw [c5, o31 _ _ i hi]
    · subst q; rw [c6, o31 _ _ i hi]
  · rw [c7, o16 _ _ i hi]
/-! ===== the pure part: the resolution of a node ===== -/
/-- w is of the resolution of v at height t -/
def inR (T : tr_T) : Nat → Nat → Nat → Prop
  | 0, v, w => ¬ T.1 0 v = -1 ∧ (w = v ∨ ∃ l, l < 16 ∧ bt (T.1 1 v) l = true ∧ w = 2 * l)
  | t + 1, v, w => (¬ T.1 0 v = -1 ∧ (w = v ∨ ∃ l, l < 16 ∧ bt (T.1 1 v) l = true ∧ w = 2 * l)) ∨ (T.1 0 v = -1 ∧ (inR T t (v - 2 ^ t) w ∨ inR T t (v + 2 ^ t) w))
theorem j_nl_bt (x : Int32) : ∀ (m k : Nat) (a : Int32), k + m ≤ 16 → ∀ i, i < 32 → (bt (j_nl x m k a) i = true ↔ bt a i = true ∨ ∃ l, k ≤ l ∧ l < k + m ∧ bt x l = true ∧ i = 2 * l) := by
  intro m
  induction m with
  | zero => intro k a _ i _; exact ⟨Or.inl, fun z => z.elim id (fun ⟨l, h1, h2, _⟩ => by omega)⟩
  | succ m ih =>
    intro k a hk i hi
    unfold j_nl
    rw [ih (k + 1) _ (by omega) i hi, bt_or]
    have h1 : bt ((j_ushr x (nI k) &&& 1) <<< ((2 * nI k) &&& 31)) i = true ↔ (bt x k = true ∧ i = 2 * k) := by
      have h2 : (j_ushr x (nI k) &&& 1) = if bt x k then 1 else 0 := by
        rw [and1]
        have h3 : bt (j_ushr x (nI k)) 0 = bt x k := by
          have h4 := j_in_bt (b := x) (i := k) (by omega)
          unfold j_in at h4
          rw [and1] at h4
          cases c : bt x k with
          | true =>
            have := (h4.mpr c).2
            cases d : bt (j_ushr x (nI k)) 0 with
            | true => rfl
            | false => rw [d] at this; simp at this
          | false =>
            cases d : bt (j_ushr x (nI k)) 0 with
            | false => rfl
            | true =>
              rw [d] at h4
              have := h4.mp ⟨nI_pos (by omega), by simp⟩
              rw [c] at this
              cases this
        rw [h3]
      rw [h2]
      have h5 : ∀ k, k < 16 → ∀ i, i < 32 → bt ((1 : Int32) <<< ((2 * nI k) &&& 31)) i = decide (i = 2 * k) := by decide +kernel
      have h6 : ∀ k, k < 16 → ((0 : Int32) <<< ((2 * nI k) &&& 31)) = 0 := by decide +kernel
      cases c : bt x k with
      | true =>
        simp only [if_true]
        rw [h5 k (by omega) i hi]
        simp
      | false =>
        rw [if_neg (by simp), h6 k (by omega), bt_0]
        simp
    rw [Bool.or_eq_true, h1]
    constructor
    · rintro ((z | z) | ⟨l, a1, a2, a3⟩)
      · exact Or.inl z
      · exact Or.inr ⟨k, by omega, by omega, z⟩
      · exact Or.inr ⟨l, by omega, by omega, a3⟩
    · rintro (z | ⟨l, a1, a2, a3, a4⟩)
      · exact Or.inl (Or.inl z)
      · by_cases c : l = k
        · subst c
          exact Or.inl (Or.inr ⟨a3, a4⟩)
        · exact Or.inr ⟨l, by omega, by omega, a3, a4⟩
theorem T_own_bt {T : tr_T} {v : Nat} (hv : v < 31) (i : Nat) (hi : i < 32) : bt (T_own T (nI v)) i = true ↔ (i = v ∨ ∃ l, l < 16 ∧ bt (T.1 1 v) l = true ∧ i = 2 * l) := by
  unfold T_own
  rw [bt_or, Bool.or_eq_true, bt_1 v (by omega) i hi, T_get 1 (by decide) hv, j_nl_bt _ 16 0 0 (by omega) i hi, bt_0]
  constructor
  · rintro (z | z | ⟨l, a1, a2, a3, a4⟩)
    · exact Or.inl (of_decide_eq_true z)
    · cases z
    · exact Or.inr ⟨l, by omega, a3, a4⟩
  · rintro (z | ⟨l, a2, a3, a4⟩)
    · exact Or.inl (decide_eq_true z)
    · exact Or.inr (Or.inr ⟨l, by omega, by omega, a3, a4⟩)
theorem kidB : ∀ t, t < 4 → ∀ v, v < 31 → hgt v = t + 1 → (2 ^ t ≤ v ∧ v + 2 ^ t < 31 ∧ nI v - ((1 : Int32) <<< (nI t &&& 31)) = nI (v - 2 ^ t) ∧ nI v + ((1 : Int32) <<< (nI t &&& 31)) = nI (v + 2 ^ t) ∧ hgt (v - 2 ^ t) = t ∧ hgt (v + 2 ^ t) = t) := by decide +kernel
theorem hgtB : ∀ v, v < 31 → hgt v ≤ 4 := by decide +kernel
theorem T_res_bt (T : tr_T) : ∀ (t v : Nat), v < 31 → hgt v = t → ∀ i, i < 32 → (bt (T_res T t (nI v)) i = true ↔ inR T t v i) := by
  classical
  intro t
  induction t with
  | zero =>
    intro v hv ht i hi
    unfold T_res inR
    by_cases c : T.1 0 v = -1
    · rw [if_pos ((T_isB_n hv).mpr c), bt_0]
      exact ⟨fun z => (by cases z), fun z => absurd c z.1⟩
    · rw [if_neg (fun z => c ((T_isB_n hv).mp z)), T_own_bt hv i hi]
      exact ⟨fun z => ⟨c, z⟩, fun z => z.2⟩
  | succ t ih =>
    intro v hv ht i hi
    have h4 := hgtB v hv
    obtain ⟨k1, k2, k3, k4, k5, k6⟩ := kidB t (by omega) v hv ht
    have hp2 := Nat.one_le_two_pow (n := t)
    unfold T_res inR
    by_cases c : T.1 0 v = -1
    · rw [if_pos ((T_isB_n hv).mpr c), k3, k4, bt_or, Bool.or_eq_true, ih _ (by omega) k5 i hi, ih _ (by omega) k6 i hi]
      exact ⟨fun z => Or.inr ⟨c, z⟩, fun z => z.elim (fun y => absurd c y.1) (fun y => y.2)⟩
    · rw [if_neg (fun z => c ((T_isB_n hv).mp z)), T_own_bt hv i hi]
      exact ⟨fun z => Or.inl ⟨c, z⟩, fun z => z.elim (fun y => y.2) (fun y => absurd y.1 c)⟩
theorem j_ht_v : ∀ v, v < 31 → hgt v < 5 ∧ (∀ k, k < hgt v → bt (nI v) k = true) ∧ (hgt v < 4 → bt (nI v) (hgt v) = false) := by decide +kernel
theorem j_ht_r (v : Nat) (hv : v < 31) : ∀ (m k : Nat), k + m = 4 → k ≤ hgt v → j_ht (nI v) m k = hgt v := by
  classical
  intro m
  induction m with
  | zero =>
    intro k hk hl
    have := (j_ht_v v hv).1
    unfold j_ht
    omega
  | succ m ih =>
    intro k hk hl
    unfold j_ht
    rcases Nat.lt_or_ge k (hgt v) with c | c
    · rw [if_pos ((j_in_bt (by omega)).mpr ((j_ht_v v hv).2.1 k c))]
      exact ih (k + 1) (by omega) (by omega)
    · have e : k = hgt v := by omega
      have := (j_ht_v v hv).2.2 (by omega)
      rw [if_neg (fun z => by
        have z2 := (j_in_bt (by omega)).mp z
        rw [e, this] at z2
        cases z2)]
      exact e
theorem T_reso_bt {T : tr_T} {v : Nat} (hv : v < 31) (i : Nat) (hi : i < 32) : bt (T_reso T (nI v)) i = true ↔ inR T (hgt v) v i := by
  unfold T_reso
  rw [j_ht_r v hv 4 0 rfl (Nat.zero_le _)]
  exact T_res_bt T (hgt v) v hv rfl i hi
theorem um_m_mem (b : Int32) (w : Nat) : ∀ (m l : Nat), l + m ≤ 16 → (w ∈ um_m b m l ↔ ∃ i, l ≤ i ∧ i < l + m ∧ bt b i = true ∧ w = 2 * i) := by
  intro m
  induction m with
  | zero => intro l _; unfold um_m; exact ⟨fun z => (by cases z), fun ⟨i, h1, h2, _⟩ => by omega⟩
  | succ m ih =>
    intro l hl
    unfold um_m
    rw [List.mem_append, ih (l + 1) (by omega)]
    by_cases c : bit b l = 0
    · rw [if_pos c]
      have c2 := (bit_eq0 (by omega)).mp c
      constructor
      · rintro (z | ⟨i, a1, a2, a3⟩)
        · cases z
        · exact ⟨i, by omega, by omega, a3⟩
      · rintro ⟨i, a1, a2, a3, a4⟩
        refine Or.inr ⟨i, ?_, by omega, a3, a4⟩
        rcases Nat.lt_or_ge l i with y | y
        · omega
        · rw [show i = l by omega, c2] at a3
          cases a3
    · rw [if_neg c]
      have c2 := (bit_ne (by omega)).mp c
      constructor
      · rintro (z | ⟨i, a1, a2, a3⟩)
        · exact ⟨l, by omega, by omega, c2, List.mem_singleton.mp z⟩
        · exact ⟨i, by omega, by omega, a3⟩
      · rintro ⟨i, a1, a2, a3, a4⟩
        by_cases y : i = l
        · subst y
          exact Or.inl (List.mem_singleton.mpr a4)
        · exact Or.inr ⟨i, by omega, by omega, a3, a4⟩
theorem um_m_nd (b : Int32) : ∀ (m l : Nat), l + m ≤ 16 → (um_m b m l).Nodup := by
  intro m
  induction m with
  | zero => intro l _; exact List.nodup_nil
  | succ m ih =>
    intro l hl
    unfold um_m
    rw [List.nodup_append]
    refine ⟨?_, ih (l + 1) (by omega), fun x hx y hy e => ?_⟩
    · by_cases c : bit b l = 0
      · rw [if_pos c]; exact List.nodup_nil
      · rw [if_neg c]; simp
    · obtain ⟨i, h1, h2, h3, h4⟩ := (um_m_mem b y m (l + 1) (by omega)).mp hy
      by_cases c : bit b l = 0
      · rw [if_pos c] at hx; cases hx
      · rw [if_neg c] at hx
        have := List.mem_singleton.mp hx
        omega
/-- w lies at or below v, of height t -/
def blw (t v w : Nat) : Prop := v + 1 ≤ w + 2 ^ t ∧ w + 1 ≤ v + 2 ^ t
theorem blw_leaf : ∀ l, l < 16 → ∀ v, v < 31 → (ab l v ↔ (v + 1 ≤ 2 * l + 2 ^ hgt v ∧ 2 * l + 1 ≤ v + 2 ^ hgt v)) := by decide +kernel
theorem inR_blw {T : tr_T} (hI : TI T) : ∀ (t v w : Nat), v < 31 → hgt v = t → inR T t v w → blw t v w ∧ w < 31 := by
  have own : ∀ t v w, v < 31 → hgt v = t → (w = v ∨ ∃ l, l < 16 ∧ bt (T.1 1 v) l = true ∧ w = 2 * l) → blw t v w ∧ w < 31 := fun t v w hv ht h => by
    unfold blw
    have := Nat.one_le_two_pow (n := t)
    rcases h with z | ⟨l, hl, z1, z2⟩
    · omega
    · have q := (blw_leaf l hl v hv).mp (hI.2.2.2.2.2.1 v hv l hl z1).1
      rw [ht] at q
      omega
  intro t
  induction t with
  | zero => intro v w hv ht h; exact own 0 v w hv ht h.2
  | succ t ih =>
    intro v w hv ht h
    have h4 := hgtB v hv
    obtain ⟨k1, k2, k3, k4, k5, k6⟩ := kidB t (by omega) v hv ht
    have hp2 := Nat.one_le_two_pow (n := t)
    rcases h with z | ⟨-, z | z⟩
    · exact own (t + 1) v w hv ht z.2
    · have := ih _ w (by omega) k5 z
      unfold blw at this ⊢
      rw [Nat.pow_succ]
      omega
    · have := ih _ w (by omega) k6 z
      unfold blw at this ⊢
      rw [Nat.pow_succ]
      omega
/-- the reference's list is the class's set -/
theorem rsl_sim {T : tr_T} {X : x_T} {e : Nat} (hR : TR T X e) (hI : TI T) : ∀ (t v : Nat), v < 31 → hgt v = t → (rsl X e t v).Nodup ∧ ∀ w, w ∈ rsl X e t v ↔ inR T t v w := by
  have own : ∀ t v, v < 31 → hgt v = t → (rs_k X e t v).Nodup ∧ ∀ w, w ∈ rs_k X e t v ↔ (w = v ∨ ∃ l, l < 16 ∧ bt (T.1 1 v) l = true ∧ w = 2 * l) := fun t v hv ht => by
    unfold rs_k
    by_cases c : t = 0
    · rw [if_pos c]
      refine ⟨by simp, fun w => ⟨fun z => Or.inl (List.mem_singleton.mp z), fun z => ?_⟩⟩
      rcases z with z | ⟨l, hl, z1, z2⟩
      · exact List.mem_singleton.mpr z
      · obtain ⟨q1, q2⟩ := leaf_of v hv (by omega)
        rw [← q1, hI.2.2.2.2.2.2 _ q2, bt_0] at z1
        cases z1
    · rw [if_neg c]
      have hu : X.2 23 (31 * e + v) = T.1 1 v := (hR.2.1 v hv).2.1.symm
      rw [hu]
      refine ⟨List.nodup_cons.mpr ⟨fun z => ?_, um_m_nd _ 16 0 (by omega)⟩, fun w => ?_⟩
      · obtain ⟨i, h1, h2, h3, h4⟩ := (um_m_mem _ _ 16 0 (by omega)).mp z
        have := hgt_leaf i (by omega)
        rw [← h4] at this
        omega
      · rw [List.mem_cons, um_m_mem _ _ 16 0 (by omega)]
        constructor
        · rintro (z | ⟨i, h1, h2, h3, h4⟩)
          · exact Or.inl z
          · exact Or.inr ⟨i, by omega, h3, h4⟩
        · rintro (z | ⟨i, h2, h3, h4⟩)
          · exact Or.inl z
          · exact Or.inr ⟨i, by omega, by omega, h3, h4⟩
  have hb : ∀ v, v < 31 → (X.2 22 (31 * e + v) = -1 ↔ T.1 0 v = -1) := fun v hv => by rw [(hR.2.1 v hv).1, sw_n1]
  intro t
  induction t with
  | zero =>
    intro v hv ht
    unfold rsl inR
    by_cases c : X.2 22 (31 * e + v) = -1
    · rw [if_pos c]
      exact ⟨List.nodup_nil, fun w => ⟨fun z => (by cases z), fun z => absurd ((hb v hv).mp c) z.1⟩⟩
    · rw [if_neg c]
      refine ⟨(own 0 v hv ht).1, fun w => ?_⟩
      rw [(own 0 v hv ht).2 w]
      exact ⟨fun z => ⟨fun y => c ((hb v hv).mpr y), z⟩, fun z => z.2⟩
  | succ t ih =>
    intro v hv ht
    have h4 := hgtB v hv
    obtain ⟨k1, k2, k3, k4, k5, k6⟩ := kidB t (by omega) v hv ht
    have hp2 := Nat.one_le_two_pow (n := t)
    obtain ⟨i1, i2⟩ := ih (v - 2 ^ t) (by omega) k5
    obtain ⟨j1, j2⟩ := ih (v + 2 ^ t) (by omega) k6
    unfold rsl inR
    by_cases c : X.2 22 (31 * e + v) = -1
    · rw [if_pos c]
      refine ⟨List.nodup_append.mpr ⟨j1, i1, fun x hx y hy e => ?_⟩, fun w => ?_⟩
      · have a1 := (inR_blw hI t _ x (by omega) k6 ((j2 x).mp hx)).1
        have a2 := (inR_blw hI t _ y (by omega) k5 ((i2 y).mp hy)).1
        unfold blw at a1 a2
        omega
      · rw [List.mem_append, i2, j2]
        exact ⟨fun z => Or.inr ⟨(hb v hv).mp c, z.symm⟩, fun z => z.elim (fun y => absurd ((hb v hv).mp c) y.1) (fun y => y.2.symm)⟩
    · rw [if_neg c]
      refine ⟨(own (t + 1) v hv ht).1, fun w => ?_⟩
      rw [(own (t + 1) v hv ht).2 w]
      exact ⟨fun z => Or.inl ⟨fun y => c ((hb v hv).mpr y), z⟩, fun z => z.elim (fun y => y.2) (fun y => absurd ((hb v hv).mpr y.1) c)⟩
