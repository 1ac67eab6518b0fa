/-! ===== the pure part: removals and the shrinking of the tree ===== -/
def RM (T0 : tr_T) (b : Int32) (T : tr_T) : Prop := T.2 = T0.2 ∧ (∀ v, v < 31 → (rb b T0.2 v → T.1 0 v = -1 ∧ T.1 1 v = 0 ∧ T.1 2 v = -1) ∧ (¬ rb b T0.2 v → T.1 0 v = T0.1 0 v ∧ T.1 1 v = T0.1 1 v ∧ T.1 2 v = T0.1 2 v)) ∧ ∀ l, l < 16 → (bt b l = true → T.1 3 l = -1) ∧ (bt b l = false → T.1 3 l = T0.1 3 l)
theorem RM.rf (T0 : tr_T) : RM T0 0 T0 := ⟨rfl, fun v _ => ⟨fun z => absurd z rb_0, fun _ => ⟨rfl, rfl, rfl⟩⟩, fun l _ => ⟨fun z => absurd z (by rw [bt_0]; decide), fun _ => rfl⟩⟩
theorem RM.vac {T0 T : tr_T} {b : Int32} {l : Nat} (h : RM T0 b T) (hl : l < 16) (hD : T0.2 ≤ 4) : RM T0 (b ||| ((1 : Int32) <<< (nI l &&& 31))) (T_vac T (nI l)) := by
  obtain ⟨h2, hv, h3⟩ := h
  have e3 : r_put (tr_len 3) (T.1 3) (nI l) (-1) = upd (T.1 3) l (-1) := r_put_in (by show l < 16; exact hl) (by decide)
  have key : ∀ v, v < 31 → (T_vac T (nI l)).1 3 = upd (T.1 3) l (-1) ∧ (T_vac T (nI l)).2 = T.2 ∧ (T_vac T (nI l)).1 0 v = (if ab l v ∧ hgt v ≤ T.2 then -1 else T.1 0 v) ∧ (T_vac T (nI l)).1 1 v = (if ab l v ∧ hgt v ≤ T.2 then 0 else T.1 1 v) ∧ (T_vac T (nI l)).1 2 v = (if ab l v ∧ hgt v ≤ T.2 then -1 else T.1 2 v) := fun v hv => by
    unfold T_vac
    rw [e3]
    exact T_path_r (T := (va_up T.1 3 (upd (T.1 3) l (-1)), T.2)) hl hv (by show T.2 ≤ 4; omega)
  refine ⟨(key 0 (by decide)).2.1.trans h2, fun v hv' => ?_, fun i hi => ?_⟩
  · obtain ⟨-, -, k0, k1, k2⟩ := key v hv'
    rw [k0, k1, k2, h2]
    constructor
    · intro z
      rcases (rb_add hl).mp z with z | z
      · obtain ⟨a, b, c⟩ := (hv v hv').1 z
        by_cases q : ab l v ∧ hgt v ≤ T0.2
        · rw [if_pos q, if_pos q, if_pos q]
          exact ⟨rfl, rfl, rfl⟩
        · rw [if_neg q, if_neg q, if_neg q]
          exact ⟨a, b, c⟩
      · rw [if_pos z, if_pos z, if_pos z]
        exact ⟨rfl, rfl, rfl⟩
    · intro z
      have q : ¬ (ab l v ∧ hgt v ≤ T0.2) := fun y => z ((rb_add hl).mpr (Or.inr y))
      rw [if_neg q, if_neg q, if_neg q]
      exact (hv v hv').2 (fun y => z ((rb_add hl).mpr (Or.inl y)))
  · rw [(key 0 (by decide)).1]
    by_cases e : i = l
    · subst e
      rw [upd_s]
      refine ⟨fun _ => rfl, fun z => ?_⟩
      rw [(bt_add hi hi).mpr (Or.inr rfl)] at z
      cases z
    · rw [upd_n e]
      refine ⟨fun z => (h3 i hi).1 (((bt_add hl hi).mp z).resolve_right e), fun z => (h3 i hi).2 ?_⟩
      cases q : bt b i with
      | false => rfl
      | true => rw [(bt_add hl hi).mpr (Or.inl q)] at z; cases z
theorem hgt_le : ∀ D, D < 5 → ∀ v, v < 31 → v < 2 ^ (D + 1) - 1 → hgt v ≤ D := by decide +kernel
theorem TI.hgt {T : tr_T} (h : TI T) {v : Nat} (hv : v < 31) (hk : ¬ T.1 0 v = -1) : hgt v ≤ T.2 := hgt_le T.2 (by have := h.1; omega) v hv (h.2.2.2.1 v hv hk)
theorem RM.ti {T0 T : tr_T} {b : Int32} (h : RM T0 b T) (hT : TI T0) : TI T := by
  have hT' := hT
  obtain ⟨t1, t2, t3, t4, t5, t6, t7⟩ := hT
  obtain ⟨h2, hv, h3⟩ := h
  have nb : ∀ v, v < 31 → ¬ T.1 0 v = -1 → ¬ rb b T0.2 v := fun v hv' hk z => hk ((hv v hv').1 z).1
  have old : ∀ v, v < 31 → ¬ T.1 0 v = -1 → ¬ T0.1 0 v = -1 := fun v hv' hk => by
    rw [← ((hv v hv').2 (nb v hv' hk)).1]
    exact hk
  have leaf : ∀ v, v < 31 → ¬ T.1 0 v = -1 → ∀ l, l < 16 → ab l v → ¬ T0.1 0 (2 * l) = -1 → ¬ T.1 0 (2 * l) = -1 := fun v hv' hk l hl ha hn => by
    have : ¬ rb b T0.2 (2 * l) := fun z => nb v hv' hk ⟨hT'.hgt hv' (old v hv' hk), l, hl, (rb_leaf hl).mp z, ha⟩
    rw [((hv (2 * l) (by omega)).2 this).1]
    exact hn
  refine ⟨by omega, fun v hv' hk => ?_, fun l hl hk => ?_, fun v hv' hk => by rw [h2]; exact t4 v hv' (old v hv' hk), fun v hv' hk => ?_, fun v hv' l hl hb => ?_, fun l hl => ?_⟩
  · by_cases z : rb b T0.2 v
    · exact ((hv v hv').1 z).2.1
    · have q := (hv v hv').2 z
      rw [q.2.1]
      exact t2 v hv' (by rw [← q.1]; exact hk)
  · cases z : bt b l with
    | true => exact (h3 l hl).1 z
    | false =>
      rw [(h3 l hl).2 z]
      refine t3 l hl ?_
      rw [← ((hv (2 * l) (by omega)).2 (fun y => by rw [(rb_leaf hl).mp y] at z; cases z)).1]
      exact hk
  · obtain ⟨l, hl, g1, g2⟩ := t5 v hv' (old v hv' hk)
    exact ⟨l, hl, leaf v hv' hk l hl g2 g1, g2⟩
  · by_cases z : rb b T0.2 v
    · rw [((hv v hv').1 z).2.1, bt_0] at hb
      cases hb
    · have q := (hv v hv').2 z
      rw [q.2.1] at hb
      obtain ⟨g1, g2⟩ := t6 v hv' l hl hb
      have hk : ¬ T.1 0 v = -1 := fun y => by
        rw [q.1] at y
        rw [t2 v hv' y, bt_0] at hb
        cases hb
      exact ⟨g1, leaf v hv' hk l hl g1 g2⟩
  · by_cases z : rb b T0.2 (2 * l)
    · exact ((hv _ (by omega)).1 z).2.1
    · rw [((hv _ (by omega)).2 z).2.1]
      exact t7 l hl
/-- a member behind the removal of the leaves b from the epoch n -/
noncomputable def ML (b n : Int32) (M : m_T) : m_T := by
  classical exact if M.1 2 = n ∧ ∃ l, l < 16 ∧ M.1 3 = nI l ∧ bt b l = true then M_leave M else M
theorem ML_0 (n : Int32) (M : m_T) : ML 0 n M = M := if_neg (fun ⟨_, l, _, _, h⟩ => by rw [bt_0] at h; cases h)
theorem ML_add {b n : Int32} {l : Nat} (hl : l < 16) (hn : ¬ n = -1) (M : m_T) : ML (b ||| ((1 : Int32) <<< (nI l &&& 31))) n M = if (ML b n M).1 2 = n ∧ (ML b n M).1 3 = nI l then M_leave (ML b n M) else ML b n M := by
  unfold ML
  by_cases c : M.1 2 = n ∧ ∃ l, l < 16 ∧ M.1 3 = nI l ∧ bt b l = true
  · rw [if_pos c]
    obtain ⟨h1, i, hi, h2, h3⟩ := c
    rw [if_pos ⟨h1, i, hi, h2, (bt_add hl hi).mpr (Or.inl h3)⟩, if_neg (fun z => hn (z.1.symm.trans rfl))]
  · rw [if_neg c]
    by_cases d : M.1 2 = n ∧ M.1 3 = nI l
    · rw [if_pos d, if_pos ⟨d.1, l, hl, d.2, (bt_add hl hl).mpr (Or.inr rfl)⟩]
    · rw [if_neg d, if_neg]
      rintro ⟨h1, i, hi, h2, h3⟩
      rcases (bt_add hl hi).mp h3 with z | z
      · exact c ⟨h1, i, hi, h2, z⟩
      · subst z
        exact d ⟨h1, h2⟩
theorem RL_m_M (l n : Int32) : ∀ (m k : Nat) (G : G_T), gH (RL_m l n m k G) = gH G ∧ ∀ j, gM (RL_m l n m k G) j = if (k ≤ j ∧ j < k + m) ∧ (gM G j).1 2 = n ∧ (gM G j).1 3 = l then M_leave (gM G j) else gM G j := by
  intro m
  induction m with
  | zero => intro k G; exact ⟨rfl, fun j => (if_neg (fun z => by omega)).symm⟩
  | succ m ih =>
    intro k G
    obtain ⟨i1, i2⟩ := ih (k + 1) (RL_1 l n k G)
    have s1 : gH (RL_1 l n k G) = gH G := by
      unfold RL_1
      by_cases c : (gM G k).1 2 = n ∧ (gM G k).1 3 = l
      · rw [if_pos c]
      · rw [if_neg c]
    have s2 : ∀ j, gM (RL_1 l n k G) j = if j = k ∧ (gM G j).1 2 = n ∧ (gM G j).1 3 = l then M_leave (gM G j) else gM G j := fun j => by
      unfold RL_1
      by_cases c : (gM G k).1 2 = n ∧ (gM G k).1 3 = l
      · rw [if_pos c]
        show va_up (gM G) k (M_leave (gM G k)) j = _
        unfold va_up
        by_cases e : j = k
        · subst e
          rw [if_pos rfl, if_pos ⟨rfl, c⟩]
        · rw [if_neg e, if_neg (fun z => e z.1)]
      · rw [if_neg c, if_neg]
        rintro ⟨e, z⟩
        subst e
        exact c z
    unfold RL_m
    refine ⟨i1.trans s1, fun j => ?_⟩
    rw [i2 j, s2 j]
    by_cases e : j = k
    · subst e
      rw [if_neg (fun z => by omega)]
      by_cases c : (gM G j).1 2 = n ∧ (gM G j).1 3 = l
      · rw [if_pos ⟨rfl, c⟩, if_pos ⟨⟨by omega, by omega⟩, c⟩]
      · rw [if_neg (fun z => c z.2), if_neg (fun z => c z.2)]
    · have h1 : (if j = k ∧ (gM G j).1 2 = n ∧ (gM G j).1 3 = l then M_leave (gM G j) else gM G j) = gM G j := if_neg (fun z => e z.1)
      rw [h1]
      by_cases c : (k + 1 ≤ j ∧ j < k + 1 + m) ∧ (gM G j).1 2 = n ∧ (gM G j).1 3 = l
      · rw [if_pos c, if_pos ⟨⟨by omega, by omega⟩, c.2⟩]
      · rw [if_neg c, if_neg (fun z => c ⟨⟨by omega, by omega⟩, z.2⟩)]
/-- the class's removals, proposal by proposal, beside the reference's search -/
def q_re (Q : Nat → p_T) (X : x_T) (k : Nat) : Prop := X.2 43 k = nI (Q k).1 ∧ (Q k).1 < 3 ∧ ((Q k).1 = 1 → (Q k).2.2.1 = X.2 45 k ∧ ∃ l, l < 16 ∧ X.2 45 k = nI l)
theorem AR_sim {X : x_T} {T0 : tr_T} {M0 : Nat → m_T} {e cl : Nat} {G0 : G_T} (hne : (gE G0 (ne G0 - 1)).1 0 = nI e) (he : e < 60) (hcl : cl < 16) (hD : T0.2 ≤ 4) (hK : ∀ v, v < 31 → T0.1 0 v = sw (X.2 22 (31 * e + v))) (hW : ∀ l, l < 16 → ¬ T0.1 0 (2 * l) = -1 → l < 2 ^ T0.2) : ∀ (m k : Nat) (p : G_T × e_T), (∀ i, k ≤ i → i < k + m → q_re (gQ G0) X i) → gN p.1 = gN G0 → gQ p.1 = gQ G0 → gE p.1 = gE G0 → gH p.1 = gH G0 → p.2.1 1 = nI cl → RM T0 (p.2.1 4) p.2.2.1 → (∀ j, j < 16 → gM p.1 j = ML (p.2.1 4) (nI e) (M0 j)) →
    RM T0 ((AR m k p).2.1 4) (AR m k p).2.2.1 ∧ (AR m k p).2.1 4 = fr_m X e T0.2 (nI cl) m k (p.2.1 4) ∧ (∀ i, i ≠ 4 → (AR m k p).2.1 i = p.2.1 i) ∧ (AR m k p).2.2.2 = p.2.2.2 ∧ gH (AR m k p).1 = gH G0 ∧ ∀ j, j < 16 → gM (AR m k p).1 j = ML ((AR m k p).2.1 4) (nI e) (M0 j) := by
  classical
  intro m
  induction m with
  | zero =>
    intro k p _ _ _ _ hH _ hR hM
    exact ⟨hR, rfl, fun _ _ => rfl, rfl, hH, hM⟩
  | succ m ih =>
    intro k p hq hN hQ hE hH h1 hR hM
    have hk := hq k (Nat.le_refl _) (by omega)
    unfold AR fr_m
    have step : gN (AR_1 k p).1 = gN G0 ∧ gQ (AR_1 k p).1 = gQ G0 ∧ gE (AR_1 k p).1 = gE G0 ∧ gH (AR_1 k p).1 = gH G0 ∧ (AR_1 k p).2.1 1 = nI cl ∧ RM T0 ((AR_1 k p).2.1 4) (AR_1 k p).2.2.1 ∧ (∀ j, j < 16 → gM (AR_1 k p).1 j = ML ((AR_1 k p).2.1 4) (nI e) (M0 j)) ∧ (∀ i, i ≠ 4 → (AR_1 k p).2.1 i = p.2.1 i) ∧ (AR_1 k p).2.2.2 = p.2.2.2 ∧ (AR_1 k p).2.1 4 = (if fr_b X e T0.2 (nI cl) k then p.2.1 4 ||| ((1 : Int32) <<< (X.2 45 k &&& 31)) else p.2.1 4) := by
      unfold AR_1
      rw [hQ]
      by_cases c1 : (gQ G0 k).1 = 1
      · rw [if_pos c1]
        obtain ⟨e1, l, hl, e2⟩ := hk.2.2 c1
        rw [e1, e2]
        have hx : ix (X.2 45 k) = l := by rw [e2]; exact ix_nI (by omega)
        have hb : T_isB p.2.2.1 (j_node (nI l) 0) ↔ p.2.2.1.1 0 (2 * l) = -1 := by
          have ha := abv_ok l hl 0 (by decide)
          rw [show (0 : Int32) = nI 0 from rfl, ha.1, T_isB_n ha.2, show abv l 0 = 2 * l from by unfold abv; omega]
        have hfr : fr_b X e T0.2 (nI cl) k ↔ ¬ T0.1 0 (2 * l) = -1 ∧ ¬ l = cl := by
          unfold fr_b
          rw [hx, e2, hk.1, c1, nI_ltI (by omega) (by have := p2_le hD; omega), nI_eq (by omega) (by omega), hK (2 * l) (by omega), sw_n1]
          constructor
          · rintro ⟨-, -, a, b⟩
            exact ⟨a, b⟩
          · rintro ⟨a, b⟩
            exact ⟨rfl, hW l hl (by rw [hK (2 * l) (by omega), sw_n1]; exact a), a, b⟩
        unfold RL
        have hne' : (gE p.1 (ne p.1 - 1)).1 0 = nI e := by
          show (gE p.1 (gN p.1 2 - 1)).1 0 = _
          rw [hN, hE]
          exact hne
        rw [h1, hne', hb]
        by_cases c2 : nI l = nI cl ∨ p.2.2.1.1 0 (2 * l) = -1
        · rw [if_pos c2]
          refine ⟨hN, hQ, hE, hH, h1, hR, hM, fun _ _ => rfl, rfl, ?_⟩
          by_cases c3 : fr_b X e T0.2 (nI cl) k
          · rw [if_pos c3]
            obtain ⟨a, b⟩ := hfr.mp c3
            have hbl : bt (p.2.1 4) l = true := by
              rcases c2 with z | z
              · exact absurd ((nI_eq (by omega) (by omega)).mp z) b
              · by_cases y : rb (p.2.1 4) T0.2 (2 * l)
                · exact (rb_leaf hl).mp y
                · exact absurd (((hR.2.1 (2 * l) (by omega)).2 y).1.symm.trans z) a
            apply bt_ext
            intro i hi
            rw [bt_or, bt_1 l (by omega) i hi]
            by_cases z : i = l
            · subst z
              rw [hbl]
              rfl
            · simp [z]
          · rw [if_neg c3]
        · rw [if_neg c2]
          have c3 : fr_b X e T0.2 (nI cl) k := by
            refine hfr.mpr ⟨fun z => c2 (Or.inr ?_), fun z => c2 (Or.inl (by rw [z]))⟩
            by_cases y : rb (p.2.1 4) T0.2 (2 * l)
            · exact ((hR.2.1 (2 * l) (by omega)).1 y).1
            · rw [((hR.2.1 (2 * l) (by omega)).2 y).1]
              exact z
          rw [if_pos c3]
          have k1 := RL_m_k (nI l) (nI e) 16 0 p.1
          have k2 := RL_m_M (nI l) (nI e) 16 0 p.1
          generalize RL_m (nI l) (nI e) 16 0 p.1 = W at k1 k2 ⊢
          refine ⟨k1.1.trans hN, k1.2.1.trans hQ, k1.2.2.1.trans hE, k2.1.trans hH, h1, ?_, fun j hj => ?_, fun i hi => upd_n hi, rfl, upd_s p.2.1 4 _⟩
          · show RM T0 (upd p.2.1 4 _ 4) _
            rw [upd_s]
            exact hR.vac hl hD
          · show gM W j = ML (p.2.1 4 ||| ((1 : Int32) <<< (nI l &&& 31))) (nI e) (M0 j)
            rw [ML_add hl (nI_nm (by omega)), k2.2 j, hM j hj]
            by_cases c4 : (ML (p.2.1 4) (nI e) (M0 j)).1 2 = nI e ∧ (ML (p.2.1 4) (nI e) (M0 j)).1 3 = nI l
            · rw [if_pos c4, if_pos ⟨⟨by omega, by omega⟩, c4⟩]
            · rw [if_neg c4, if_neg (fun z => c4 z.2)]
      · rw [if_neg c1]
        refine ⟨hN, hQ, hE, hH, h1, hR, hM, fun _ _ => rfl, rfl, ?_⟩
        rw [if_neg]
        rintro ⟨z, -⟩
        rw [hk.1] at z
        have := hk.2.1
        exact c1 ((nI_eq (by omega) (by decide)).mp z)
    obtain ⟨s1, s2, s3, s4, s5, s6, s7, s8, s9, s10⟩ := step
    obtain ⟨r1, r2, r3, r4, r5, r6⟩ := ih (k + 1) (AR_1 k p) (fun i h1 h2 => hq i (by omega) (by omega)) s1 s2 s3 s4 s5 s6 s7
    exact ⟨r1, by rw [r2, s10], fun i hi => (r3 i hi).trans (s8 i hi), r4.trans s9, r5, r6⟩
