/-! ===== the pure part: encryptions of both; a node is given a key ===== -/
def bl (b : Int32) : Nat → Nat → List Nat
  | 0, _ => []
  | m + 1, k => (if bt b k = true then [k] else []) ++ bl b m (k + 1)
theorem bl_mem (b : Int32) (w : Nat) : ∀ (m k : Nat), w ∈ bl b m k ↔ k ≤ w ∧ w < k + m ∧ bt b w = true := by
  intro m
  induction m with
  | zero => intro k; unfold bl; exact ⟨fun z => (by cases z), fun z => by omega⟩
  | succ m ih =>
    intro k
    unfold bl
    rw [List.mem_append, ih (k + 1)]
    by_cases c : bt b k = true
    · rw [if_pos c]
      constructor
      · rintro (z | z)
        · have := List.mem_singleton.mp z
          subst this
          exact ⟨by omega, by omega, c⟩
        · exact ⟨by omega, by omega, z.2.2⟩
      · rintro ⟨z1, z2, z3⟩
        by_cases q : w = k
        · exact Or.inl (List.mem_singleton.mpr q)
        · exact Or.inr ⟨by omega, by omega, z3⟩
    · rw [if_neg c]
      constructor
      · rintro (z | z)
        · cases z
        · exact ⟨by omega, by omega, z.2.2⟩
      · rintro ⟨z1, z2, z3⟩
        by_cases q : w = k
        · rw [q] at z3
          exact absurd z3 c
        · exact Or.inr ⟨by omega, by omega, z3⟩
theorem bl_nd (b : Int32) : ∀ (m k : Nat), (bl b m k).Nodup := by
  intro m
  induction m with
  | zero => intro k; exact List.nodup_nil
  | succ m ih =>
    intro k
    unfold bl
    rw [List.nodup_append]
    refine ⟨?_, ih (k + 1), fun x hx y hy e => ?_⟩
    · by_cases c : bt b k = true
      · rw [if_pos c]; simp
      · rw [if_neg c]; exact List.nodup_nil
    · have h1 := (bl_mem b y m (k + 1)).mp hy
      by_cases c : bt b k = true
      · rw [if_pos c] at hx
        have := List.mem_singleton.mp hx
        omega
      · rw [if_neg c] at hx
        cases hx
theorem len_eq {A B : List Nat} (h1 : A.Nodup) (h2 : B.Nodup) (h : ∀ a, a ∈ A ↔ a ∈ B) : A.length = B.length := ((List.perm_ext_iff_of_nodup h1 h2).mpr h).length_eq
theorem ES_enc_r {k0 N a h : Nat} {T0 : List Nat} {rd : Int32} (ha : a < N) : ∀ (m k : Nat) (p : e_T × s_T) (L : w_L) (TT : List Nat), k + m ≤ 31 → (∀ w, w < 31 → bt rd w = true → ∃ i, i < N ∧ p.1.2.1.1 0 w = nI i) → r_get 5 p.1.2.2 (nI h) = nI a → SQ k0 T0 p.2 N L TT → L.length + (bl rd m k).length ≤ 2600 → ∃ TT', SQ k0 T0 (ES_enc rd (nI h) m k p).2 N (L ++ (bl rd m k).map (fun w => (ix (p.1.2.1.1 0 w), 0, a))) TT' ∧ (ES_enc rd (nI h) m k p).1.2 = p.1.2 ∧ (∀ i, i ≠ 7 → (ES_enc rd (nI h) m k p).1.1 i = p.1.1 i) ∧ (ES_enc rd (nI h) m k p).1.1 7 = p.1.1 7 + nI (bl rd m k).length := by
  classical
  intro m
  induction m with
  | zero =>
    intro k p L TT _ _ _ hS _
    unfold ES_enc bl
    refine ⟨TT, by simpa using hS, rfl, fun _ _ => rfl, ?_⟩
    rw [List.length_nil, nI_0, Int32.add_zero]
  | succ m ih =>
    intro k p L TT hk hw hx hS hL
    have hN := hS.1.2.1.2.1
    unfold ES_enc bl
    unfold bl at hL
    by_cases c : bt rd k = true
    · have c2 : j_in rd (nI k) := (j_in_bt (by omega)).mpr c
      rw [if_pos c] at hL ⊢
      obtain ⟨i, hi, e1⟩ := hw k (by omega) c
      have hg : r_get (tr_len 0) (p.1.2.1.1 0) (nI k) = nI i := (T_get 0 (by decide) (by omega)).trans e1
      have h1 : ES_1 rd (nI h) k p = (E_enc p.1, S_open p.2 (nI i) 0 (nI a)) := by
        unfold ES_1
        rw [if_pos c2, hg, hx]
      rw [h1]
      rw [List.length_append] at hL
      simp only [List.length_singleton] at hL
      obtain ⟨T1, s1⟩ := hS.opn (f := i) (w := 0) (t := a) (by omega) hi (by omega) ha
      obtain ⟨T2, r1, r2, r3, r4⟩ := ih (k + 1) (E_enc p.1, S_open p.2 (nI i) 0 (nI a)) (L ++ [(i, 0, a)]) T1 (by omega) hw hx s1 (by rw [List.length_append]; simp only [List.length_singleton]; omega)
      refine ⟨T2, ?_, r2, fun j hj => (r3 j hj).trans (upd_n hj), ?_⟩
      · have e2 : ix (p.1.2.1.1 0 k) = i := by rw [e1]; exact ix_nI (by omega)
        rw [List.map_append, ← List.append_assoc]
        simp only [List.map_cons, List.map_nil]
        rw [e2]
        exact r1
      · rw [r4, List.length_append]
        show upd p.1.1 7 (p.1.1 7 + 1) 7 + _ = _
        rw [upd_s, Int32.add_assoc]
        congr 1
        exact nI_add 1 _
    · have c2 : ¬ j_in rd (nI k) := fun z => c ((j_in_bt (by omega)).mp z)
      rw [if_neg c] at hL ⊢
      have h1 : ES_1 rd (nI h) k p = p := by
        unfold ES_1
        rw [if_neg c2]
      rw [h1, List.nil_append]
      rw [List.nil_append] at hL
      exact ih (k + 1) p L TT (by omega) hw hx hS hL
def flt (b : Int32) (L : List Nat) : List Nat := L.filter (fun r => !(r % 2 == 0 && bt b (r / 2)))
theorem flt_mem {b : Int32} {L : List Nat} {r : Nat} : r ∈ flt b L ↔ r ∈ L ∧ ¬ (r % 2 = 0 ∧ bt b (r / 2) = true) := by
  unfold flt
  rw [List.mem_filter]
  have : (!(r % 2 == 0 && bt b (r / 2))) = true ↔ ¬ (r % 2 = 0 ∧ bt b (r / 2) = true) := by
    cases bt b (r / 2) <;> simp
  rw [this]
theorem rn_e_r (e v : Nat) (la : Int32) : ∀ (L : List Nat) (Y : x_T) (c : Nat), (∀ r, r ∈ L → r < 31) → Y.1 7 = nI c → c + L.length < 2 ^ 31 → (rn_e e v la L Y).1 7 = nI (c + (flt (Y.2 19 e) L).length) ∧ (rn_e e v la L Y).2 20 e = Y.2 20 e + nI (flt (Y.2 19 e) L).length ∧ (∀ i, i ≠ e → (rn_e e v la L Y).2 20 i = Y.2 20 i) ∧ (∀ j, j < c → (rn_e e v la L Y).2 8 j = Y.2 8 j ∧ (rn_e e v la L Y).2 9 j = Y.2 9 j ∧ (rn_e e v la L Y).2 10 j = Y.2 10 j ∧ (rn_e e v la L Y).2 11 j = Y.2 11 j) ∧ ∀ i r, (flt (Y.2 19 e) L)[i]? = some r → (rn_e e v la L Y).2 8 (c + i) = Y.2 22 (31 * e + r) ∧ (rn_e e v la L Y).2 9 (c + i) = la ∧ (rn_e e v la L Y).2 10 (c + i) = nI e ∧ (rn_e e v la L Y).2 11 (c + i) = nI v := by
  classical
  intro L
  induction L with
  | nil =>
    intro Y c _ hc _
    refine ⟨by simpa [flt, rn_e] using hc, ?_, fun _ _ => rfl, fun _ _ => ⟨rfl, rfl, rfl, rfl⟩, fun i r z => by simp [flt] at z⟩
    unfold rn_e flt
    rw [List.filter_nil, List.length_nil, nI_0, Int32.add_zero]
  | cons r L ih =>
    intro Y c hr hc hl
    have hr31 := hr r List.mem_cons_self
    have hrL : ∀ x, x ∈ L → x < 31 := fun x hx => hr x (List.mem_cons_of_mem _ hx)
    rw [List.length_cons] at hl
    have hsk : rn_sk Y e r ↔ (r % 2 = 0 ∧ bt (Y.2 19 e) (r / 2) = true) := by
      unfold rn_sk
      rw [bit_eq1 (by omega)]
    unfold rn_e
    by_cases c1 : rn_sk Y e r
    · have hf : flt (Y.2 19 e) (r :: L) = flt (Y.2 19 e) L := by
        unfold flt
        rw [List.filter_cons_of_neg]
        have := hsk.mp c1
        simp [this.1, this.2]
      rw [if_pos c1, hf]
      exact ih Y c hrL hc (by omega)
    · have hf : flt (Y.2 19 e) (r :: L) = r :: flt (Y.2 19 e) L := by
        unfold flt
        rw [List.filter_cons_of_pos]
        have : ¬ (r % 2 = 0 ∧ bt (Y.2 19 e) (r / 2) = true) := fun z => c1 (hsk.mpr z)
        simp at this ⊢
        by_cases q : r % 2 = 0
        · exact Or.inr (this q)
        · exact Or.inl (by omega)
      have hx : ix (Y.1 7) = c := by rw [hc]; exact ix_nI (by omega)
      rw [if_neg c1, hf, hx]
      have g7 : (mo_enc Y c e (Y.2 22 (31 * e + r)) la (nI v)).1 7 = nI (c + 1) := rfl
      have g8 : ∀ j, (mo_enc Y c e (Y.2 22 (31 * e + r)) la (nI v)).2 8 j = if j = c then Y.2 22 (31 * e + r) else Y.2 8 j := fun j => rfl
      have g9 : ∀ j, (mo_enc Y c e (Y.2 22 (31 * e + r)) la (nI v)).2 9 j = if j = c then la else Y.2 9 j := fun j => rfl
      have g10 : ∀ j, (mo_enc Y c e (Y.2 22 (31 * e + r)) la (nI v)).2 10 j = if j = c then nI e else Y.2 10 j := fun j => rfl
      have g11 : ∀ j, (mo_enc Y c e (Y.2 22 (31 * e + r)) la (nI v)).2 11 j = if j = c then nI v else Y.2 11 j := fun j => rfl
      have g20 : ∀ j, (mo_enc Y c e (Y.2 22 (31 * e + r)) la (nI v)).2 20 j = if j = e then Y.2 20 e + 1 else Y.2 20 j := fun j => rfl
      have g19 : (mo_enc Y c e (Y.2 22 (31 * e + r)) la (nI v)).2 19 = Y.2 19 := rfl
      have g22 : (mo_enc Y c e (Y.2 22 (31 * e + r)) la (nI v)).2 22 = Y.2 22 := rfl
      generalize mo_enc Y c e (Y.2 22 (31 * e + r)) la (nI v) = W at g7 g8 g9 g10 g11 g20 g19 g22 ⊢
      obtain ⟨i1, i2, i3, i4, i5⟩ := ih W (c + 1) hrL g7 (by omega)
      rw [g19] at i1 i2 i5
      refine ⟨?_, ?_, fun j hj => ?_, fun j hj => ?_, fun i x hi => ?_⟩
      · rw [i1, List.length_cons]
        congr 1
        omega
      · rw [i2, g20, if_pos rfl, List.length_cons, Int32.add_assoc]
        congr 1
        rw [Nat.add_comm]
        exact nI_add 1 _
      · rw [i3 j hj, g20, if_neg hj]
      · obtain ⟨a, b, c', d⟩ := i4 j (by omega)
        rw [a, b, c', d, g8, g9, g10, g11, if_neg (by omega), if_neg (by omega), if_neg (by omega), if_neg (by omega)]
        exact ⟨rfl, rfl, rfl, rfl⟩
      · cases i with
        | zero =>
          simp at hi
          subst hi
          obtain ⟨a, b, c', d⟩ := i4 c (by omega)
          rw [Nat.add_zero, a, b, c', d, g8, g9, g10, g11, if_pos rfl, if_pos rfl, if_pos rfl, if_pos rfl]
          exact ⟨rfl, rfl, rfl, rfl⟩
        | succ i =>
          rw [List.getElem?_cons_succ] at hi
          have := i5 i x hi
          rw [g22] at this
          rw [show c + (i + 1) = c + 1 + i by omega]
          exact this
/-- a leaf or an inner node over a leaf with a key is given one, or an inner node is blanked -/
theorem TI_give {T : tr_T} {v cl : Nat} {k e : Int32} (h : TI T) (hv : v < 31) (hcl : cl < 16) (hab : ab cl v) (hD : hgt v ≤ T.2) (hleaf : v = 2 * cl ∨ ¬ T.1 0 (2 * cl) = -1) (hk : k = -1 → 0 < hgt v) (hclD : cl < 2 ^ T.2) : TI (T_give T (nI v) k e) := by
  have g0 := fun w => T_give_0 (T := T) (k := k) (e := e) hv w
  have g1 := fun w => T_give_1 (T := T) (k := k) (e := e) hv w
  have g3 : (T_give T (nI v) k e).1 3 = T.1 3 := rfl
  have g4 : (T_give T (nI v) k e).2 = T.2 := rfl
  generalize T_give T (nI v) k e = W at g0 g1 g3 g4 ⊢
  obtain ⟨t1, t2, t3, t4, t5, t6, t7⟩ := h
  have nl : hgt v = 0 → v = 2 * cl := fun z => (leaf_0 v hv cl hcl).mp ⟨hab, z⟩
  have leaf : ∀ l, l < 16 → ¬ T.1 0 (2 * l) = -1 → ¬ W.1 0 (2 * l) = -1 := fun l hl z => by
    rw [g0]
    by_cases c : 2 * l = v
    · rw [if_pos c]
      intro q
      have := hk q
      rw [← c, hgt_leaf l hl] at this
      omega
    · rw [if_neg c]; exact z
  have wid : ∀ D, D < 5 → ∀ l, l < 16 → ∀ v, v < 31 → (l < 2 ^ D ∧ ab l v ∧ hgt v ≤ D) → v < 2 ^ (D + 1) - 1 := by decide +kernel
  have cl0 : ¬ k = -1 → ¬ W.1 0 (2 * cl) = -1 := fun q => by
    rcases hleaf with z | z
    · rw [g0, if_pos z.symm]; exact q
    · exact leaf cl hcl z
  refine ⟨by omega, fun w hw z => ?_, fun l hl z => ?_, fun w hw z => ?_, fun w hw z => ?_, fun w hw l hl z => ?_, fun l hl => ?_⟩
  · rw [g0] at z
    rw [g1]
    by_cases c : w = v
    · rw [if_pos c]
    · rw [if_neg c] at z ⊢
      exact t2 w hw z
  · rw [g3]
    exact t3 l hl (Classical.byContradiction fun q => leaf l hl q z)
  · rw [g4]
    rw [g0] at z
    by_cases c : w = v
    · subst c
      exact wid T.2 (by omega) cl hcl w hw ⟨hclD, hab, hD⟩
    · rw [if_neg c] at z
      exact t4 w hw z
  · rw [g0] at z
    by_cases c : w = v
    · subst c
      rw [if_pos rfl] at z
      exact ⟨cl, hcl, cl0 z, hab⟩
    · rw [if_neg c] at z
      obtain ⟨l, hl, a, b⟩ := t5 w hw z
      exact ⟨l, hl, leaf l hl a, b⟩
  · rw [g1] at z
    by_cases c : w = v
    · rw [if_pos c, bt_0] at z
      cases z
    · rw [if_neg c] at z
      obtain ⟨a, b⟩ := t6 w hw l hl z
      exact ⟨a, leaf l hl b⟩
  · rw [g1]
    by_cases c : 2 * l = v
    · rw [if_pos c]
    · rw [if_neg c]
      exact t7 l hl
theorem set_TR {T : tr_T} {X : x_T} {e v : Nat} {k : Int32} (h : TR T X e) (hv : v < 31) (hk : ¬ k = -1) : TR (T_give T (nI v) (sw k) (nI e)) (mo_set X e v k) e := by
  have g0 := fun w => T_give_0 (T := T) (k := sw k) (e := nI e) hv w
  have g1 := fun w => T_give_1 (T := T) (k := sw k) (e := nI e) hv w
  have g2 := fun w => T_give_2 (T := T) (k := sw k) (e := nI e) hv w
  have e0 : ∀ i, (mo_set X e v k).2 22 i = if i = 31 * e + v then k else X.2 22 i := fun i => rfl
  have e1 : ∀ i, (mo_set X e v k).2 23 i = if i = 31 * e + v then 0 else X.2 23 i := fun i => rfl
  have e2 : ∀ i, (mo_set X e v k).2 24 i = if i = 31 * e + v then nI e else X.2 24 i := fun i => rfl
  refine ⟨h.1, fun w hw => ?_, h.2.2⟩
  rw [g0, g1, g2, e0, e1, e2]
  by_cases c : w = v
  · rw [if_pos c, if_pos c, if_pos c, if_pos (by omega), if_pos (by omega), if_pos (by omega)]
    exact ⟨rfl, rfl, fun z => absurd (sw_n1.mp z) hk, fun _ => rfl⟩
  · rw [if_neg c, if_neg c, if_neg c, if_neg (by omega), if_neg (by omega), if_neg (by omega)]
    exact h.2.1 w hw
theorem bl_TR {T : tr_T} {X : x_T} {e v : Nat} (h : TR T X e) (hv : v < 31) : TR (T_blank T (nI v)) (mo_bl X e v) e := by
  have g0 := fun w => T_give_0 (T := T) (k := -1) (e := -1) hv w
  have g1 := fun w => T_give_1 (T := T) (k := -1) (e := -1) hv w
  have g2 := fun w => T_give_2 (T := T) (k := -1) (e := -1) hv w
  have e0 : ∀ i, (mo_bl X e v).2 22 i = if i = 31 * e + v then -1 else X.2 22 i := fun i => rfl
  have e1 : ∀ i, (mo_bl X e v).2 23 i = if i = 31 * e + v then 0 else X.2 23 i := fun i => rfl
  have e2 : (mo_bl X e v).2 24 = X.2 24 := rfl
  refine ⟨h.1, fun w hw => ?_, h.2.2⟩
  show (T_give T (nI v) (-1) (-1)).1 0 w = _ ∧ (T_give T (nI v) (-1) (-1)).1 1 w = _ ∧ ((T_give T (nI v) (-1) (-1)).1 0 w = -1 → (T_give T (nI v) (-1) (-1)).1 2 w = -1) ∧ (¬ (T_give T (nI v) (-1) (-1)).1 0 w = -1 → (T_give T (nI v) (-1) (-1)).1 2 w = _)
  rw [g0, g1, g2, e0, e1, e2]
  by_cases c : w = v
  · rw [if_pos c, if_pos c, if_pos c, if_pos (by omega), if_pos (by omega)]
    exact ⟨sw_m1.symm, rfl, fun _ => rfl, fun z => absurd rfl z⟩
  · rw [if_neg c, if_neg c, if_neg c, if_neg (by omega), if_neg (by omega)]
    exact h.2.1 w hw
theorem TR.fr {T : tr_T} {X Y : x_T} {e : Nat} {K : List Nat} (h : TR T X e) (f : xfr K X Y) (hK : ∀ k, k ∈ K → k ≠ 13 ∧ k ≠ 22 ∧ k ≠ 23 ∧ k ≠ 24 ∧ k ≠ 26) : TR T Y e := by
  have q : ∀ k, (k = 13 ∨ k = 22 ∨ k = 23 ∨ k = 24 ∨ k = 26) → Y.2 k = X.2 k := fun k hk => (f k (fun z => by have := hK k z; omega)).2
  unfold TR
  rw [q 13 (by omega), q 22 (by omega), q 23 (by omega), q 24 (by omega), q 26 (by omega)]
  exact h
theorem inR_cg {T U : tr_T} : ∀ (t v w : Nat), v < 31 → hgt v = t → (∀ u, u < 31 → blw t v u → T.1 0 u = U.1 0 u ∧ T.1 1 u = U.1 1 u) → (inR T t v w ↔ inR U t v w) := by
  intro t
  induction t with
  | zero =>
    intro v w hv ht h
    have := h v hv (by unfold blw; omega)
    unfold inR
    rw [this.1, this.2]
  | succ t ih =>
    intro v w hv ht h
    have h4 := hgtB v hv
    obtain ⟨k1, k2, k3, k4, k5, k6⟩ := kidB t (by omega) v hv ht
    have hp2 := Nat.one_le_two_pow (n := t)
    have h0 := h v hv (by unfold blw; rw [Nat.pow_succ]; omega)
    have i1 := ih (v - 2 ^ t) w (by omega) k5 (fun u hu hb => h u hu (by unfold blw at hb ⊢; rw [Nat.pow_succ]; omega))
    have i2 := ih (v + 2 ^ t) w (by omega) k6 (fun u hu hb => h u hu (by unfold blw at hb ⊢; rw [Nat.pow_succ]; omega))
    unfold inR
    rw [h0.1, h0.2, i1, i2]
theorem uk_of {T : tr_T} {X : x_T} {e : Nat} (h : TR T X e) (hI : TI T) : uk (X.2 23) e := fun v hv l hl hb => by
  have q : ∀ l, l < 16 → ∀ v, v < 31 → ab l v → l / 2 ^ hgt v = v / 2 ^ (hgt v + 1) := by decide +kernel
  rw [← (h.2.1 v hv).2.1] at hb
  exact q l hl v hv (hI.2.2.2.2.2.1 v hv l hl ((bit_ne (by omega)).mp hb)).1
theorem bes_ok : ∀ l, l < 16 → ∀ t, t < 5 → 1 ≤ t → j_node (nI l ^^^ ((1 : Int32) <<< ((nI t - 1) &&& 31))) (nI t - 1) = nI (sib l t) := by decide +kernel
theorem sib_off : ∀ l, l < 16 → ∀ t, t < 5 → ∀ u, u < 31 → (1 ≤ t ∧ sib l t + 1 ≤ u + 2 ^ (t - 1) ∧ u + 1 ≤ sib l t + 2 ^ (t - 1)) → ¬ ab l u := by decide +kernel
theorem mk_r (Y : x_T) (n : Nat) (kd a b : Int32) : (mk Y n kd a b).1 1 = nI (n + 1) ∧ (∀ i, i ≠ 1 → (mk Y n kd a b).1 i = Y.1 i) ∧ (∀ k, (mk Y n kd a b).2 2 k = if k = n then kd else Y.2 2 k) ∧ (∀ k, (mk Y n kd a b).2 3 k = if k = n then a else Y.2 3 k) ∧ (∀ k, (mk Y n kd a b).2 4 k = if k = n then b else Y.2 4 k) ∧ ∀ i, i ≠ 2 → i ≠ 3 → i ≠ 4 → (mk Y n kd a b).2 i = Y.2 i :=
  ⟨rfl, fun i hi => if_neg hi, fun _ => rfl, fun _ => rfl, fun _ => rfl, fun i h2 h3 h4 => (if_neg h4).trans ((if_neg h3).trans (if_neg h2))⟩
