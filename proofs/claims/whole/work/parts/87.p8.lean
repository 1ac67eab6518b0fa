/-! ===== the pure part: additions ===== -/
def KR (K : Nat → k_T) (n : Nat) (X : x_T) : Prop := ∀ k, k < n → (K k).1 < 16 ∧ X.2 36 k = nI (K k).1 ∧ (K k).2 0 = sw (X.2 37 k) ∧ (K k).2 1 = sw (X.2 38 k) ∧ ¬ X.2 38 k = -1 ∧ (K k).2 2 = X.2 39 k ∧ (¬ X.2 39 k = -1 → (K k).2 3 = X.2 40 k) ∧ (K k).2 4 = X.2 41 k
/-- no member has two leaves -/
def DJ (T : tr_T) : Prop := ∀ l, l < 16 → ∀ l', l' < 16 → ¬ T.1 3 l = -1 → T.1 3 l = T.1 3 l' → l = l'
/-- what the additions of a commit leave: the tree was T1, the packages K1; the members are M -/
def AF (T1 : tr_T) (K1 : Nat → k_T) (M : Nat → m_T) (n e : Nat) (K : Nat → k_T) (b : Int32) (T : tr_T) : Prop :=
  (∀ v, v < 31 → 0 < hgt v → T.1 0 v = T1.1 0 v ∧ ∀ i, i < 16 → (bt (T1.1 1 v) i = true → bt (T.1 1 v) i = true) ∧ (bt (T.1 1 v) i = true → bt (T1.1 1 v) i = true ∨ bt b i = true)) ∧
  (∀ l, l < 16 → bt b l = false → T.1 0 (2 * l) = T1.1 0 (2 * l) ∧ T.1 3 l = T1.1 3 l) ∧
  (∀ l, l < 16 → bt b l = true → T1.1 0 (2 * l) = -1 ∧ (∀ v, v < 31 → 0 < hgt v → ab l v → ¬ T.1 0 v = -1 → bt (T.1 1 v) l = true) ∧ ∃ k, k < n ∧ (K k).2 2 = nI e ∧ (K k).2 3 = nI l ∧ T.1 0 (2 * l) = (K k).2 1 ∧ T.1 3 l = nI (K k).1) ∧
  (∀ k, k < n → (K k).1 = (K1 k).1 ∧ (K k).2 0 = (K1 k).2 0 ∧ (K k).2 1 = (K1 k).2 1 ∧ (K k).2 4 = (K1 k).2 4 ∧ (((K k).2 2 = (K1 k).2 2 ∧ (K k).2 3 = (K1 k).2 3) ∨ ((K1 k).2 2 = -1 ∧ (K k).2 2 = nI e ∧ (M (K k).1).1 2 = -1 ∧ ∃ l, l < 16 ∧ bt b l = true ∧ (K k).2 3 = nI l ∧ T.1 3 l = nI (K k).1 ∧ T.1 0 (2 * l) = (K k).2 1))) ∧
  (∀ k, k < n → ∀ k', k' < n → (K k).2 2 = nI e → (K k').2 2 = nI e → (K k).1 = (K k').1 → k = k') ∧ T1.2 ≤ T.2 ∧ (DJ T1 → DJ T)
theorem AF.rf (T : tr_T) (K : Nat → k_T) (M : Nat → m_T) (n e : Nat) (h : ∀ k, k < n → ¬ (K k).2 2 = nI e) : AF T K M n e K 0 T := ⟨fun _ _ _ => ⟨rfl, fun _ _ => ⟨fun z => z, Or.inl⟩⟩, fun _ _ _ => ⟨rfl, rfl⟩, fun l _ z => absurd z (by rw [bt_0]; decide), fun _ _ => ⟨rfl, rfl, rfl, rfl, Or.inl ⟨rfl, rfl⟩⟩, fun k hk _ _ z => absurd z (h k hk), Nat.le_refl _, fun z => z⟩
theorem AF.step {T1 T T' : tr_T} {K1 K : Nat → k_T} {M : Nat → m_T} {n e i fl D' : Nat} {b : Int32} (h : AF T1 K1 M n e K b T) (hK1 : ∀ k, k < n → ¬ (K1 k).2 2 = nI e) (hnk : ∀ k, k < n → ¬ (K k).2 1 = -1) (h16 : ∀ k, k < n → (K k).1 < 16) (hi : i < n) (hfl : fl < 16) (hS : SE T fl D' (nI (K i).1) ((K i).2 1) (nI e) T') (hb0 : T.1 0 (2 * fl) = -1) (hu : (K i).2 2 = -1) (hM : (M (K i).1).1 2 = -1) (hseat : ∀ l, l < 16 → ¬ T.1 3 l = nI (K i).1) (hD : T.2 ≤ D') (hT' : TI T') : AF T1 K1 M n e (va_up K i ((K i).1, upd (upd (K i).2 2 (nI e)) 3 (nI fl))) (b ||| ((1 : Int32) <<< (nI fl &&& 31))) T' := by
  obtain ⟨f1, f2, f3, f4, f5, f6, f7⟩ := h
  obtain ⟨h2, hv, h3⟩ := hS
  have hbl : bt b fl = false := by
    cases c : bt b fl with
    | false => rfl
    | true =>
      obtain ⟨-, -, k, hk, -, -, g, -⟩ := f3 fl hfl c
      rw [hb0] at g
      exact absurd g.symm (hnk k hk)
  have hne : ∀ l, bt b l = true → l ≠ fl := fun l z y => by
    rw [y, hbl] at z
    cases z
  have vl : ∀ v, v < 31 → 0 < hgt v → ¬ v = 2 * fl := fun v _ hg z => by
    rw [z, hgt_leaf fl hfl] at hg
    omega
  have ki : ∀ k, va_up K i ((K i).1, upd (upd (K i).2 2 (nI e)) 3 (nI fl)) k = if k = i then ((K i).1, upd (upd (K i).2 2 (nI e)) 3 (nI fl)) else K k := fun k => rfl
  have k1 : ∀ k, (va_up K i ((K i).1, upd (upd (K i).2 2 (nI e)) 3 (nI fl)) k).1 = (K k).1 := fun k => by
    rw [ki]
    by_cases c : k = i
    · rw [if_pos c, c]
    · rw [if_neg c]
  have k2 : ∀ k j, j ≠ 2 → j ≠ 3 → (va_up K i ((K i).1, upd (upd (K i).2 2 (nI e)) 3 (nI fl)) k).2 j = (K k).2 j := fun k j j2 j3 => by
    rw [ki]
    by_cases c : k = i
    · rw [if_pos c, c]
      show upd (upd (K i).2 2 (nI e)) 3 (nI fl) j = _
      rw [upd_n j3, upd_n j2]
    · rw [if_neg c]
  have k3 : (va_up K i ((K i).1, upd (upd (K i).2 2 (nI e)) 3 (nI fl)) i).2 2 = nI e ∧ (va_up K i ((K i).1, upd (upd (K i).2 2 (nI e)) 3 (nI fl)) i).2 3 = nI fl := by
    rw [ki, if_pos rfl]
    exact ⟨(upd_n (f := upd (K i).2 2 (nI e)) (i := 3) (k := 2) (a := nI fl) (by decide)).trans (upd_s (K i).2 2 (nI e)), upd_s (upd (K i).2 2 (nI e)) 3 (nI fl)⟩
  have k4 : ∀ k, k ≠ i → va_up K i ((K i).1, upd (upd (K i).2 2 (nI e)) 3 (nI fl)) k = K k := fun k c => by rw [ki, if_neg c]
  generalize va_up K i ((K i).1, upd (upd (K i).2 2 (nI e)) 3 (nI fl)) = K' at ki k1 k2 k3 k4 ⊢
  have oth : ∀ l, l < 16 → l ≠ fl → T'.1 0 (2 * l) = T.1 0 (2 * l) ∧ T'.1 3 l = T.1 3 l := fun l hl c => ⟨by rw [(hv (2 * l) (by omega)).1, if_neg (by omega)], by rw [h3 l hl, if_neg c]⟩
  refine ⟨fun v hv' hg => ?_, fun l hl z => ?_, fun l hl z => ?_, fun k hk => ?_, fun k hk k' hk' e1 e2 e3 => ?_, by omega, fun z => ?_⟩
  · rw [(hv v hv').1, (hv v hv').2.2, if_neg (vl v hv' hg), if_neg (vl v hv' hg)]
    refine ⟨(f1 v hv' hg).1, fun j hj => ?_⟩
    obtain ⟨z1, z2⟩ := (f1 v hv' hg).2 j hj
    by_cases c : ab fl v ∧ hgt v ≤ D' ∧ ¬ T.1 0 v = -1
    · rw [if_pos c]
      refine ⟨fun z => (bt_add hfl hj).mpr (Or.inl (z1 z)), fun z => ?_⟩
      rcases (bt_add hfl hj).mp z with y | y
      · exact (z2 y).imp id (fun w => (bt_add hfl hj).mpr (Or.inl w))
      · exact Or.inr ((bt_add hfl hj).mpr (Or.inr y))
    · rw [if_neg c]
      exact ⟨z1, fun z => (z2 z).imp id (fun w => (bt_add hfl hj).mpr (Or.inl w))⟩
  · have c : l ≠ fl := fun y => by
      rw [y, (bt_add hfl hfl).mpr (Or.inr rfl)] at z
      cases z
    have z2 : bt b l = false := by
      cases q : bt b l with
      | false => rfl
      | true => rw [(bt_add hfl hl).mpr (Or.inl q)] at z; cases z
    rw [(oth l hl c).1, (oth l hl c).2]
    exact f2 l hl z2
  · by_cases c : l = fl
    · subst c
      refine ⟨?_, fun v hv' hg ha hk => ?_, i, hi, k3.1, k3.2, ?_, ?_⟩
      · rw [← (f2 l hl hbl).1]
        exact hb0
      · have hk2 := hk
        rw [(hv v hv').1, if_neg (vl v hv' hg)] at hk2
        have hh := hT'.hgt hv' hk
        rw [h2] at hh
        rw [(hv v hv').2.2, if_neg (vl v hv' hg), if_pos ⟨ha, hh, hk2⟩]
        exact (bt_add hl hl).mpr (Or.inr rfl)
      · rw [(hv (2 * l) (by omega)).1, if_pos rfl, k2 i 1 (by decide) (by decide)]
      · rw [h3 l hl, if_pos rfl, k1]
    · obtain ⟨g1, g2, k, hk, g3, g4, g5, g6⟩ := f3 l hl (((bt_add hfl hl).mp z).resolve_right c)
      have hki : k ≠ i := fun y => hseat l hl (by rw [← y]; exact g6)
      refine ⟨g1, fun v hv' hg ha hk' => ?_, k, hk, ?_, ?_, ?_, ?_⟩
      · have hk2 := hk'
        rw [(hv v hv').1, if_neg (vl v hv' hg)] at hk2
        rw [(hv v hv').2.2, if_neg (vl v hv' hg)]
        have z2 := g2 v hv' hg ha hk2
        by_cases c2 : ab fl v ∧ hgt v ≤ D' ∧ ¬ T.1 0 v = -1
        · rw [if_pos c2]
          exact (bt_add hfl hl).mpr (Or.inl z2)
        · rw [if_neg c2]
          exact z2
      · rw [k4 k hki]; exact g3
      · rw [k4 k hki]; exact g4
      · rw [k4 k hki, (oth l hl c).1]; exact g5
      · rw [k4 k hki, (oth l hl c).2]; exact g6
  · obtain ⟨g1, g2, g3, g4, g5⟩ := f4 k hk
    refine ⟨(k1 k).trans g1, (k2 k 0 (by decide) (by decide)).trans g2, (k2 k 1 (by decide) (by decide)).trans g3, (k2 k 4 (by decide) (by decide)).trans g4, ?_⟩
    by_cases c : k = i
    · subst c
      refine Or.inr ⟨?_, k3.1, by rw [k1]; exact hM, fl, hfl, (bt_add hfl hfl).mpr (Or.inr rfl), k3.2, by rw [h3 fl hfl, if_pos rfl, k1], by rw [(hv (2 * fl) (by omega)).1, if_pos rfl, k2 k 1 (by decide) (by decide)]⟩
      rcases g5 with ⟨q, -⟩ | ⟨q, -⟩
      · rw [← q]; exact hu
      · exact q
    · rw [k4 k c]
      rcases g5 with q | ⟨q1, q2, q3, l, hl, q4, q5, q6, q7⟩
      · exact Or.inl q
      · have := hne l q4
        exact Or.inr ⟨q1, q2, q3, l, hl, (bt_add hfl hl).mpr (Or.inl q4), q5, by rw [(oth l hl this).2]; exact q6, by rw [(oth l hl this).1]; exact q7⟩
  · have key : ∀ q, q < n → q ≠ i → (K q).2 2 = nI e → (K q).1 = (K i).1 → False := fun q hq c z1 z2 => by
      rcases (f4 q hq).2.2.2.2 with ⟨y, -⟩ | ⟨-, -, -, l, hl, -, -, y, -⟩
      · exact hK1 q hq (by rw [← y]; exact z1)
      · rw [z2] at y
        exact hseat l hl y
    by_cases c : k = i
    · by_cases c' : k' = i
      · rw [c, c']
      · rw [k4 k' c'] at e2 e3
        rw [k1, c] at e3
        exact (key k' hk' c' e2 e3.symm).elim
    · by_cases c' : k' = i
      · rw [k4 k c] at e1 e3
        rw [k1, c'] at e3
        exact (key k hk c e1 e3).elim
      · rw [k4 k c] at e1 e3
        rw [k4 k' c'] at e2 e3
        exact f5 k hk k' hk' e1 e2 e3
  · intro l hl l' hl' n1 n2
    rw [h3 l hl] at n1 n2
    rw [h3 l' hl'] at n2
    by_cases c : l = fl
    · by_cases c' : l' = fl
      · rw [c, c']
      · rw [if_pos c, if_neg c'] at n2
        exact absurd n2.symm (hseat l' hl')
    · rw [if_neg c] at n1 n2
      by_cases c' : l' = fl
      · rw [if_pos c'] at n2
        exact absurd n2 (hseat l hl)
      · rw [if_neg c'] at n2
        exact f7 z l hl l' hl' n1 n2
theorem mo_lo_r {f : Nat → Int32} {mm : Int32} : ∀ (m k : Nat), k + m < 2 ^ 31 → (mo_lo f mm m k = -1 ↔ ∀ i, k ≤ i → i < k + m → ¬ f i = mm) := by
  intro m
  induction m with
  | zero => intro k _; exact ⟨fun _ i h1 h2 => by omega, fun _ => rfl⟩
  | succ m ih =>
    intro k hk
    unfold mo_lo
    by_cases c : f k = mm
    · rw [if_pos c]
      exact ⟨fun z => absurd z (nI_nm (by omega)), fun z => absurd c (z k (by omega) (by omega))⟩
    · rw [if_neg c, ih (k + 1) (by omega)]
      constructor
      · intro z i h1 h2
        by_cases e : i = k
        · rw [e]; exact c
        · exact z i (by omega) (by omega)
      · intro z i h1 h2
        exact z i (by omega) (by omega)
theorem mo_fr_r {f : Nat → Int32} : ∀ (m k : Nat), (∀ i, k ≤ i → i < mo_fr f m k → ¬ f i = -1) ∧ (mo_fr f m k < k + m → f (mo_fr f m k) = -1) := by
  intro m
  induction m with
  | zero => intro k; exact ⟨fun i h1 h2 => by unfold mo_fr at h2; omega, fun z => by unfold mo_fr at z; omega⟩
  | succ m ih =>
    intro k
    unfold mo_fr
    by_cases c : f k = -1
    · rw [if_pos c]
      exact ⟨fun i h1 h2 => by omega, fun _ => c⟩
    · rw [if_neg c]
      obtain ⟨i1, i2⟩ := ih (k + 1)
      refine ⟨fun i h1 h2 => ?_, fun z => i2 (by omega)⟩
      by_cases e : i = k
      · rw [e]; exact c
      · exact i1 i (by omega) h2
theorem T_low_r {T : tr_T} : ∀ (m k : Nat), k + m = 16 → (T_low T m k = -1 ∧ ∀ i, k ≤ i → i < 16 → ¬ T.1 0 (2 * i) = -1) ∨ ∃ r, k ≤ r ∧ r < 16 ∧ T_low T m k = nI r ∧ T.1 0 (2 * r) = -1 ∧ ∀ i, k ≤ i → i < r → ¬ T.1 0 (2 * i) = -1 := by
  intro m
  induction m with
  | zero => intro k hk; exact Or.inl ⟨rfl, fun i h1 h2 => by omega⟩
  | succ m ih =>
    intro k hk
    have ha := abv_ok k (by omega) 0 (by decide)
    rw [abv_0] at ha
    have hn : j_node (nI k) 0 = nI (2 * k) := ha.1
    unfold T_low
    rw [hn]
    by_cases c : T_isB T (nI (2 * k))
    · rw [if_pos c]
      exact Or.inr ⟨k, Nat.le_refl _, by omega, rfl, (T_isB_n ha.2).mp c, fun i h1 h2 => by omega⟩
    · rw [if_neg c]
      have c2 : ¬ T.1 0 (2 * k) = -1 := fun z => c ((T_isB_n ha.2).mpr z)
      rcases ih (k + 1) (by omega) with ⟨a, b⟩ | ⟨r, h1, h2, h3, h4, h5⟩
      · refine Or.inl ⟨a, fun i h1 h2 => ?_⟩
        by_cases e : i = k
        · rw [e]; exact c2
        · exact b i (by omega) h2
      · refine Or.inr ⟨r, by omega, h2, h3, h4, fun i g1 g2 => ?_⟩
        by_cases e : i = k
        · rw [e]; exact c2
        · exact h5 i (by omega) g2
theorem T_gr_r {l D : Nat} (hD : D ≤ 4) (hl : l ≤ 2 ^ D) (hl16 : l < 16) : T_gr l (5 - D) D = if l = 2 ^ D then D + 1 else D := by
  have hp : 2 ^ (D + 1) = 2 * 2 ^ D := by rw [Nat.pow_succ]; omega
  have hp1 : 1 ≤ 2 ^ D := Nat.one_le_two_pow
  obtain ⟨m, hm⟩ : ∃ m, 5 - D = m + 1 := ⟨4 - D, by omega⟩
  rw [hm]
  unfold T_gr
  by_cases c : l = 2 ^ D
  · have hD4 : D < 4 := by
      rcases Nat.lt_or_ge D 4 with z | z
      · exact z
      · have : D = 4 := by omega
        subst this
        omega
    rw [if_pos c, if_pos ⟨hD4, by omega⟩]
    cases m with
    | zero => rfl
    | succ m =>
      unfold T_gr
      rw [if_neg (by omega)]
  · rw [if_neg c, if_neg (by omega)]
theorem xs_self (X : x_T) (k j : Nat) (v : Int32) (h : X.2 k j = v) : xs X k j v = X := by
  refine Prod.ext rfl ?_
  funext i
  show va_up X.2 k (upd (X.2 k) j v) i = X.2 i
  unfold va_up
  by_cases c : i = k
  · subst c
    rw [if_pos rfl, ← h, upd_self]
  · rw [if_neg c]
