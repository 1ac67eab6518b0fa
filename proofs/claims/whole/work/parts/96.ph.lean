/-! ===== the pure part: what a member holds is a function of its epoch's tree and its leaf ===== -/
def FK (T : tr_T) (l v : Nat) : Int32 := if ab l v ∧ ¬ T.1 0 v = -1 ∧ bt (T.1 1 v) l = false then T.1 0 v else -1
theorem FK_nm {T : tr_T} {l v : Nat} (h : ¬ FK T l v = -1) : ab l v ∧ ¬ T.1 0 v = -1 ∧ bt (T.1 1 v) l = false ∧ FK T l v = T.1 0 v := by
  unfold FK at h ⊢
  by_cases c : ab l v ∧ ¬ T.1 0 v = -1 ∧ bt (T.1 1 v) l = false
  · rw [if_pos c]
    exact ⟨c.1, c.2.1, c.2.2, rfl⟩
  · rw [if_neg c] at h
    exact absurd rfl h
theorem FK_y {T : tr_T} {l v : Nat} (h1 : ab l v) (h2 : ¬ T.1 0 v = -1) (h3 : bt (T.1 1 v) l = false) : FK T l v = T.1 0 v := if_pos ⟨h1, h2, h3⟩
theorem M_put_r {M : m_T} {v : Nat} {x : Int32} (hv : v < 31) (w : Nat) : (M_put M (nI v) x).2 0 w = if w = v then x else M.2 0 w := by
  show r_put 31 (M.2 0) (nI v) x w = _
  rw [r_put_in hv (by decide)]
  rfl
theorem M_hk_r {M : m_T} {T : tr_T} {v : Nat} (hv : v < 31) : M_hk M T (nI v) ↔ ¬ T.1 0 v = -1 ∧ M.2 0 v = T.1 0 v := by
  unfold M_hk
  rw [T_get 0 (by decide) hv, show r_get (m_len 0) (M.2 0) (nI v) = M.2 0 v from r_get_in hv (by decide)]
theorem M_drop_r {T : tr_T} : ∀ (m k : Nat) (M : m_T), k + m ≤ 31 → (M_drop T m k M).1 = M.1 ∧ (M_drop T m k M).2 1 = M.2 1 ∧ ∀ v, v < 31 → (M_drop T m k M).2 0 v = if (k ≤ v ∧ v < k + m) ∧ ¬ (¬ T.1 0 v = -1 ∧ M.2 0 v = T.1 0 v) then -1 else M.2 0 v := by
  classical
  intro m
  induction m with
  | zero =>
    intro k M _
    refine ⟨rfl, rfl, fun v hv => ?_⟩
    rw [if_neg (fun z => by omega)]
    rfl
  | succ m ih =>
    intro k M hk
    unfold M_drop
    have step : (M_d1 T k M).1 = M.1 ∧ (M_d1 T k M).2 1 = M.2 1 ∧ ∀ v, v < 31 → (M_d1 T k M).2 0 v = if v = k ∧ ¬ (¬ T.1 0 v = -1 ∧ M.2 0 v = T.1 0 v) then -1 else M.2 0 v := by
      unfold M_d1
      by_cases c : M_hk M T (nI k)
      · rw [if_pos c]
        refine ⟨rfl, rfl, fun v hv => ?_⟩
        rw [if_neg]
        rintro ⟨rfl, z⟩
        exact z ((M_hk_r hv).mp c)
      · rw [if_neg c]
        refine ⟨rfl, rfl, fun v hv => ?_⟩
        rw [M_put_r (by omega)]
        by_cases d : v = k
        · subst d
          rw [if_pos rfl, if_pos ⟨rfl, fun z => c ((M_hk_r hv).mpr z)⟩]
        · rw [if_neg d, if_neg (fun z => d z.1)]
    obtain ⟨s1, s2, s3⟩ := step
    obtain ⟨i1, i2, i3⟩ := ih (k + 1) (M_d1 T k M) (by omega)
    refine ⟨i1.trans s1, i2.trans s2, fun v hv => ?_⟩
    rw [i3 v hv, s3 v hv]
    by_cases c : ¬ T.1 0 v = -1 ∧ M.2 0 v = T.1 0 v
    · have e1 : (if v = k ∧ ¬ (¬ T.1 0 v = -1 ∧ M.2 0 v = T.1 0 v) then (-1 : Int32) else M.2 0 v) = M.2 0 v := if_neg (fun z => z.2 c)
      rw [e1, if_neg (fun z => z.2 c), if_neg (fun z => z.2 c)]
    · by_cases d : v = k
      · have e1 : (if v = k ∧ ¬ (¬ T.1 0 v = -1 ∧ M.2 0 v = T.1 0 v) then (-1 : Int32) else M.2 0 v) = -1 := if_pos ⟨d, c⟩
        rw [e1, if_neg (fun z => by omega), if_pos ⟨⟨by omega, by omega⟩, c⟩]
      · have e1 : (if v = k ∧ ¬ (¬ T.1 0 v = -1 ∧ M.2 0 v = T.1 0 v) then (-1 : Int32) else M.2 0 v) = M.2 0 v := if_neg (fun z => d z.1)
        rw [e1]
        by_cases y : k + 1 ≤ v ∧ v < k + 1 + m
        · rw [if_pos ⟨y, c⟩, if_pos ⟨⟨by omega, by omega⟩, c⟩]
        · rw [if_neg (fun z => y z.1), if_neg (fun z => y ⟨by omega, by omega⟩)]
theorem M_tck_r {E : e_T} {l : Nat} (hl : l < 16) : ∀ (m k : Nat) (M : m_T), k + m ≤ 5 → M.1 3 = nI l → (M_tck E m k M).1 = M.1 ∧ (M_tck E m k M).2 1 = M.2 1 ∧ ∀ v, v < 31 → (M_tck E m k M).2 0 v = if ab l v ∧ (k ≤ hgt v ∧ hgt v < k + m) ∧ bt (E.1 3) v = true then E.2.1.1 0 v else M.2 0 v := by
  classical
  intro m
  induction m with
  | zero =>
    intro k M _ _
    refine ⟨rfl, rfl, fun v hv => ?_⟩
    rw [if_neg (fun z => by omega)]
    rfl
  | succ m ih =>
    intro k M hk h3
    have ha := abv_ok l hl k (by omega)
    unfold M_tck
    have step : (M_c1 E k M).1 = M.1 ∧ (M_c1 E k M).2 1 = M.2 1 ∧ ∀ v, v < 31 → (M_c1 E k M).2 0 v = if v = abv l k ∧ bt (E.1 3) v = true then E.2.1.1 0 v else M.2 0 v := by
      unfold M_c1
      rw [h3, ha.1]
      by_cases c : j_in (E.1 3) (nI (abv l k))
      · rw [if_pos c]
        unfold M_tk
        refine ⟨rfl, rfl, fun v hv => ?_⟩
        rw [M_put_r ha.2, T_get 0 (by decide) ha.2]
        have c2 := (j_in_bt (by omega)).mp c
        by_cases d : v = abv l k
        · subst d
          rw [if_pos rfl, if_pos ⟨rfl, c2⟩]
        · rw [if_neg d, if_neg (fun z => d z.1)]
      · rw [if_neg c]
        refine ⟨rfl, rfl, fun v hv => ?_⟩
        rw [if_neg]
        rintro ⟨rfl, z⟩
        exact c ((j_in_bt (by omega)).mpr z)
    obtain ⟨s1, s2, s3⟩ := step
    obtain ⟨i1, i2, i3⟩ := ih (k + 1) (M_c1 E k M) (by omega) (by rw [s1]; exact h3)
    refine ⟨i1.trans s1, i2.trans s2, fun v hv => ?_⟩
    have hiff : v = abv l k ↔ ab l v ∧ hgt v = k := ⟨fun h => (abv_iff hl (by omega)).mp h.symm, fun h => ((abv_iff hl (by omega)).mpr h).symm⟩
    rw [i3 v hv, s3 v hv]
    by_cases c1 : ab l v ∧ (k + 1 ≤ hgt v ∧ hgt v < k + 1 + m) ∧ bt (E.1 3) v = true
    · rw [if_pos c1, if_pos ⟨c1.1, ⟨by omega, by omega⟩, c1.2.2⟩]
    · rw [if_neg c1]
      by_cases c2 : v = abv l k ∧ bt (E.1 3) v = true
      · have := hiff.mp c2.1
        rw [if_pos c2, if_pos ⟨this.1, ⟨by omega, by omega⟩, c2.2⟩]
      · rw [if_neg c2, if_neg]
        rintro ⟨y1, y2, y3⟩
        by_cases y4 : hgt v = k
        · exact c2 ⟨hiff.mpr ⟨y1, y4⟩, y3⟩
        · exact c1 ⟨y1, ⟨by omega, by omega⟩, y3⟩
/-- what a member that held T's keys comes to, once it took its leaf's key where that is new, dropped and took the counting keys -/
theorem FK_next {T U : tr_T} {cl l : Nat} {cnt rem upt add : Int32} {f : Nat → Int32} (hS : TS T U cl cnt rem upt add) (hU : TI U) (hl : l < 16) (hn : ¬ T.1 0 (2 * l) = -1) (hr : bt rem l = false) (hf : ∀ v, v < 31 → 0 < hgt v → f v = FK T l v) (hf0 : f (2 * l) = U.1 0 (2 * l)) (hf1 : ∀ i, i < 16 → i ≠ l → f (2 * i) = -1) : ∀ v, v < 31 → (if ab l v ∧ (1 ≤ hgt v ∧ hgt v < 1 + U.2) ∧ bt cnt v = true then U.1 0 v else if ¬ (¬ U.1 0 v = -1 ∧ f v = U.1 0 v) then -1 else f v) = FK U l v := by
  obtain ⟨s1, s2, s3, s4, s5, s6⟩ := hS
  obtain ⟨l1, l2, l3, l4⟩ := s1 l hl hn hr
  intro v hv
  rcases Nat.eq_zero_or_pos (hgt v) with z | z
  · obtain ⟨q1, q2⟩ := leaf_of v hv z
    have c1 : ¬ (ab l v ∧ (1 ≤ hgt v ∧ hgt v < 1 + U.2) ∧ bt cnt v = true) := fun y => by omega
    rw [if_neg c1]
    by_cases y : v = 2 * l
    · subst y
      have c2 : ¬ ¬ (¬ U.1 0 (2 * l) = -1 ∧ f (2 * l) = U.1 0 (2 * l)) := fun w => w ⟨l1, hf0⟩
      rw [if_neg c2, hf0, FK_y ((ab_leaf l hl l hl).mpr rfl) l1 (by rw [hU.2.2.2.2.2.2 l hl]; exact bt_0 l)]
    · have e1 : f v = -1 := by rw [← q1]; exact hf1 (v / 2) q2 (by omega)
      have c2 : ¬ (¬ U.1 0 v = -1 ∧ f v = U.1 0 v) := fun w => w.1 (by rw [← w.2]; exact e1)
      rw [if_pos c2]
      unfold FK
      rw [if_neg (fun w => y ((leaf_0 v hv l hl).mp ⟨w.1, z⟩))]
  · by_cases c : bt cnt v = true
    · obtain ⟨t1, t2, t3, t4, t5⟩ := s3 v hv c
      by_cases a : ab l v
      · rw [if_pos ⟨a, ⟨by omega, by omega⟩, c⟩, FK_y a t4 (by rw [t5]; exact bt_0 l)]
      · have c1 : ¬ (ab l v ∧ (1 ≤ hgt v ∧ hgt v < 1 + U.2) ∧ bt cnt v = true) := fun y => a y.1
        have e1 : f v = -1 := by rw [hf v hv z]; unfold FK; rw [if_neg (fun w => a w.1)]
        have c2 : ¬ (¬ U.1 0 v = -1 ∧ f v = U.1 0 v) := fun w => w.1 (by rw [← w.2]; exact e1)
        rw [if_neg c1, if_pos c2]
        unfold FK
        rw [if_neg (fun w => a w.1)]
    · have c' := bt_tf c
      have c1 : ¬ (ab l v ∧ (1 ≤ hgt v ∧ hgt v < 1 + U.2) ∧ bt cnt v = true) := fun y => c y.2.2
      rw [if_neg c1]
      by_cases b : U.1 0 v = -1
      · have c2 : ¬ (¬ U.1 0 v = -1 ∧ f v = U.1 0 v) := fun w => w.1 b
        rw [if_pos c2]
        unfold FK
        rw [if_neg (fun w => w.2.1 b)]
      · obtain ⟨t1, t2⟩ := s2 v hv z b c'
        have t3 := t2 l hl l3
        rw [hf v hv z]
        have e : FK U l v = FK T l v := by
          unfold FK
          rw [t1, t3]
        by_cases d : FK T l v = -1
        · have c2 : ¬ (¬ U.1 0 v = -1 ∧ FK T l v = U.1 0 v) := fun w => w.1 (by rw [← w.2]; exact d)
          rw [if_pos c2, e, d]
        · have g := FK_nm d
          have c2 : ¬ ¬ (¬ U.1 0 v = -1 ∧ FK T l v = U.1 0 v) := fun w => w ⟨b, by rw [g.2.2.2, t1]⟩
          rw [if_neg c2, e]
/-- who joins -/
theorem FK_join {T U : tr_T} {cl l : Nat} {cnt rem upt add : Int32} (hS : TS T U cl cnt rem upt add) (hU : TI U) (hl : l < 16) (ha : bt add l = true) (hn : ¬ U.1 0 (2 * l) = -1) : ∀ v, v < 31 → (if ab l v ∧ (1 ≤ hgt v ∧ hgt v < 1 + U.2) ∧ bt cnt v = true then U.1 0 v else if v = 2 * l then U.1 0 (2 * l) else -1) = FK U l v := by
  obtain ⟨s1, s2, s3, s4, s5, s6⟩ := hS
  intro v hv
  rcases Nat.eq_zero_or_pos (hgt v) with z | z
  · have c1 : ¬ (ab l v ∧ (1 ≤ hgt v ∧ hgt v < 1 + U.2) ∧ bt cnt v = true) := fun y => by omega
    rw [if_neg c1]
    by_cases y : v = 2 * l
    · subst y
      rw [if_pos rfl, FK_y ((ab_leaf l hl l hl).mpr rfl) hn (by rw [hU.2.2.2.2.2.2 l hl]; exact bt_0 l)]
    · rw [if_neg y]
      unfold FK
      rw [if_neg (fun w => y ((leaf_0 v hv l hl).mp ⟨w.1, z⟩))]
  · have y : ¬ v = 2 * l := fun y => by rw [y, hgt_leaf l hl] at z; omega
    rw [if_neg y]
    by_cases c : bt cnt v = true
    · obtain ⟨t1, t2, t3, t4, t5⟩ := s3 v hv c
      by_cases a : ab l v
      · rw [if_pos ⟨a, ⟨by omega, by omega⟩, c⟩, FK_y a t4 (by rw [t5]; exact bt_0 l)]
      · rw [if_neg (fun w => a w.1)]
        unfold FK
        rw [if_neg (fun w => a w.1)]
    · rw [if_neg (fun w => c w.2.2)]
      unfold FK
      rw [if_neg]
      rintro ⟨w1, w2, w3⟩
      rw [s5 l hl ha v hv z w1 w2 (bt_tf c)] at w3
      cases w3
theorem kid_ab : ∀ t, t < 4 → ∀ v, v < 31 → ∀ l, l < 16 → (hgt v = t + 1 ∧ ab l v) → ab l (v - 2 ^ t) ∨ ab l (v + 2 ^ t) := by decide +kernel
/-- a leaf with a key has a node that covers it in each resolution over it -/
theorem inR_cov {U : tr_T} {l : Nat} (hl : l < 16) (hn : ¬ U.1 0 (2 * l) = -1) : ∀ (t s : Nat), s < 31 → hgt s = t → ab l s → ∃ w, inR U t s w ∧ (w = 2 * l ∨ (0 < hgt w ∧ bt (U.1 1 w) l = false ∧ ab l w ∧ ¬ U.1 0 w = -1)) := by
  intro t
  induction t with
  | zero =>
    intro s hs ht ha
    have := (leaf_0 s hs l hl).mp ⟨ha, ht⟩
    subst this
    exact ⟨2 * l, ⟨hn, Or.inl rfl⟩, Or.inl rfl⟩
  | succ t ih =>
    intro s hs ht ha
    have h4 := hgtB s hs
    obtain ⟨k1, k2, k3, k4, k5, k6⟩ := kidB t (by omega) s hs ht
    have hp2 := Nat.one_le_two_pow (n := t)
    by_cases c : U.1 0 s = -1
    · rcases kid_ab t (by omega) s hs l hl ⟨ht, ha⟩ with z | z
      · obtain ⟨w, w1, w2⟩ := ih (s - 2 ^ t) (by omega) k5 z
        exact ⟨w, Or.inr ⟨c, Or.inl w1⟩, w2⟩
      · obtain ⟨w, w1, w2⟩ := ih (s + 2 ^ t) (by omega) k6 z
        exact ⟨w, Or.inr ⟨c, Or.inr w1⟩, w2⟩
    · by_cases d : bt (U.1 1 s) l = true
      · exact ⟨2 * l, Or.inl ⟨c, Or.inr ⟨l, hl, d, rfl⟩⟩, Or.inl rfl⟩
      · exact ⟨s, Or.inl ⟨c, Or.inl rfl⟩, Or.inr ⟨by omega, bt_tf d, ha, c⟩⟩
theorem meet_a : ∀ l, l < 16 → ∀ cl, cl < 16 → l = cl ∨ ab l (sib cl 1) ∨ ab l (sib cl 2) ∨ ab l (sib cl 3) ∨ ab l (sib cl 4) := by decide +kernel
theorem meet_b : ∀ l, l < 16 → ∀ cl, cl < 16 → ∀ u, u < 5 → (1 ≤ u ∧ ab l (sib cl u)) → abv l u = abv cl u := by decide +kernel
theorem meet_d : ∀ l, l < 16 → ∀ cl, cl < 16 → ∀ i, i < 25 → (i / 5 < i % 5 ∧ ab l (sib cl (i % 5))) → ¬ abv l (i / 5) = abv cl (i / 5) := by decide +kernel
theorem meet_c (l : Nat) (hl : l < 16) (cl : Nat) (hcl : cl < 16) (u : Nat) (hu : u < 5) (x : Nat) (hx : x < 5) (h : u < x ∧ ab l (sib cl x)) : ¬ abv l u = abv cl u := by
  have := meet_d l hl cl hcl (5 * u + x) (by omega)
  rw [show (5 * u + x) / 5 = u by omega, show (5 * u + x) % 5 = x by omega] at this
  exact this h
theorem meet_ok {l cl u : Nat} (hl : l < 16) (hcl : cl < 16) (hu : u < 5) (h : 1 ≤ u ∧ l ≠ cl ∧ abv l u = abv cl u) : ∃ u0, u0 < 5 ∧ (1 ≤ u0 ∧ u0 ≤ u ∧ ab l (sib cl u0) ∧ abv l u0 = abv cl u0) := by
  have q : ∀ x, x < 5 → 1 ≤ x → ab l (sib cl x) → ∃ u0, u0 < 5 ∧ (1 ≤ u0 ∧ u0 ≤ u ∧ ab l (sib cl u0) ∧ abv l u0 = abv cl u0) := fun x hx h1 ha => by
    refine ⟨x, hx, h1, ?_, ha, meet_b l hl cl hcl x hx ⟨h1, ha⟩⟩
    rcases Nat.lt_or_ge u x with z | z
    · exact absurd h.2.2 (meet_c l hl cl hcl u hu x hx ⟨z, ha⟩)
    · exact z
  rcases meet_a l hl cl hcl with z | z | z | z | z
  · exact absurd z h.2.1
  · exact q 1 (by omega) (by omega) z
  · exact q 2 (by omega) (by omega) z
  · exact q 3 (by omega) (by omega) z
  · exact q 4 (by omega) (by omega) z
/-- where the lowest counting node over a leaf is, one of its readers is held by who has that leaf -/
theorem reader {T U : tr_T} {cl l u : Nat} {cnt rem upt add : Int32} (hS : TS T U cl cnt rem upt add) (hU : TI U) (hl : l < 16) (hlc : l ≠ cl) (hn : ¬ T.1 0 (2 * l) = -1) (hr : bt rem l = false) (hu1 : 1 ≤ u) (hu2 : u ≤ U.2) (hb : bt cnt (abv l u) = true) (hmin : ∀ u', 1 ≤ u' → u' < u → bt cnt (abv l u') = false) : abv l u = abv cl u ∧ ∃ w, w < 31 ∧ inR U (u - 1) (sib cl u) w ∧ ¬ (w % 2 = 0 ∧ bt add (w / 2) = true) ∧ FK U l w = U.1 0 w ∧ ¬ U.1 0 w = -1 ∧ bt cnt w = false ∧ (w = 2 * l ∨ 0 < hgt w) := by
  have hU4 := hU.1
  obtain ⟨s1, s2, s3, s4, s5, s6⟩ := hS
  have hcl := s6.1
  obtain ⟨l1, l2, l3, l4⟩ := s1 l hl hn hr
  obtain ⟨v1, v2, v3, v4, v5, v6⟩ := abv_sib l hl u (by omega) hu1
  obtain ⟨v1', v2', v3', v4', v5', v6'⟩ := abv_sib cl hcl u (by omega) hu1
  have hm := (s3 _ v1 hb).2.1
  have heq : abv l u = abv cl u := by
    have : abv cl (hgt (abv l u)) = abv l u := hm
    rw [v2] at this
    exact this.symm
  obtain ⟨u0, a0, a1, a2, a3, a4⟩ := meet_ok hl hcl (by omega) ⟨hu1, hlc, heq⟩
  have cov : ∀ x, 1 ≤ x → x < 5 → ab l (sib cl x) → ∃ w, inR U (x - 1) (sib cl x) w ∧ (w = 2 * l ∨ (0 < hgt w ∧ bt (U.1 1 w) l = false ∧ ab l w ∧ ¬ U.1 0 w = -1)) := fun x x1 x2 x3 => by
    obtain ⟨-, -, y3, y4, -, -⟩ := abv_sib cl hcl x x2 x1
    exact inR_cov hl l1 (x - 1) (sib cl x) y3 y4 x3
  have e0 : u0 = u := by
    rcases Nat.lt_or_ge u0 u with z | z
    · exfalso
      rcases s4 with y | y
      · rw [y _ v1] at hb; cases hb
      · obtain ⟨w, w1, -⟩ := cov u0 a1 a0 a3
        have := y u0 a1 (by omega) ⟨w, w1⟩
        rw [← a4, hmin u0 a1 z] at this
        cases this
    · omega
  subst e0
  obtain ⟨w, w1, w2⟩ := cov u0 hu1 (by omega) a3
  obtain ⟨w3, w4⟩ := inR_blw hU _ _ w v3' v4' w1
  refine ⟨heq, w, w4, w1, ?_, ?_, ?_, ?_, ?_⟩
  · rcases w2 with z | z
    · subst z
      rintro ⟨-, y⟩
      rw [show 2 * l / 2 = l by omega, l3] at y
      cases y
    · rintro ⟨y, -⟩
      have := z.1
      unfold hgt at this
      rw [if_pos y] at this
      omega
  · rcases w2 with z | z
    · subst z
      exact FK_y ((ab_leaf l hl l hl).mpr rfl) l1 (by rw [hU.2.2.2.2.2.2 l hl]; exact bt_0 l)
    · exact FK_y z.2.2.1 z.2.2.2 z.2.1
  · rcases w2 with z | z
    · subst z; exact l1
    · exact z.2.2.2
  · refine bt_tf (fun z => ?_)
    exact sib_off cl hcl u0 (by omega) w w4 ⟨hu1, w3.1, w3.2⟩ (s3 w w4 z).2.1
  · rcases w2 with z | z
    · exact Or.inl z
    · exact Or.inr z.1
