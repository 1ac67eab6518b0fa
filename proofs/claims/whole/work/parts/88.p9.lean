/-! ===== the pure part: additions of both ===== -/
/-- class and reference in the midst of a commit's additions -/
def AS (T1 : tr_T) (K1 : Nat → k_T) (n e : Nat) (p : G_T × e_T) (X : x_T) : Prop := TR p.2.2.1 X e ∧ TI p.2.2.1 ∧ KR (gK p.1) n X ∧ p.2.1 6 = X.2 19 e ∧ p.2.1 0 = nI e ∧ AF T1 K1 (gM p.1) n e (gK p.1) (p.2.1 6) p.2.2.1
/-- who may be added -/
def MM (M : Nat → m_T) (X : x_T) (e : Nat) : Prop := ∀ j, j < 16 → (M j).1 0 = nI j ∧ ((M j).1 2 = -1 ↔ (X.2 27 j = -1 ∨ (X.2 27 j = nI e - 1 ∧ (X.2 17 e >>> (X.2 28 j &&& 31)) &&& 1 = 1)))
theorem GL_sim {T1 : tr_T} {K1 : Nat → k_T} {n e : Nat} {p : G_T × e_T} {X : x_T} {i : Nat} (h : AS T1 K1 n e p X) (hK1 : ∀ k, k < n → ¬ (K1 k).2 2 = nI e) (he : e < 60) (hM : MM (gM p.1) X e) (hi : i < n) (hn : n ≤ 60) : ∃ X', da_1 X e i (ix (X.2 36 i)) (ix (X.2 13 e)) = X' ∧ AS T1 K1 n e (GL p i) X' ∧ EO e X X' ∧ gH (GL p i).1 = gH p.1 ∧ (∀ j, j ≠ 6 → (GL p i).2.1 j = p.2.1 j) ∧ (GL p i).2.2.2 = p.2.2.2 := by
  classical
  refine ⟨_, rfl, ?_⟩
  have h' := h
  obtain ⟨hR, hI, hK, h6, h0, hF⟩ := h
  obtain ⟨q1, q2, q3, q4, q5, q6, q7, q8⟩ := hK i hi
  obtain ⟨m1, m2⟩ := hM _ q1
  have hI' := hI
  obtain ⟨t1, t2, t3, t4, t5, t6, t7⟩ := hI
  have hj : ix (X.2 36 i) = (gK p.1 i).1 := by rw [q2]; exact ix_nI (by omega)
  have hDx : ix (X.2 13 e) = p.2.2.1.2 := by rw [hR.1]; exact ix_nI (by omega)
  rw [hj, hDx]
  have hp16 := p2_le t1
  have hlo : ∀ l, l < 16 → ¬ p.2.2.1.1 0 (2 * l) = -1 → l < 2 ^ p.2.2.1.2 := fun l hl z => by
    have := t4 (2 * l) (by omega) z
    rw [Nat.pow_succ] at this
    omega
  have hseat : T_seats p.2.2.1 (nI (gK p.1 i).1) ↔ ¬ mo_lo (fun l => X.2 26 (16 * e + l)) (nI (gK p.1 i).1) (2 ^ p.2.2.1.2) 0 = -1 := by
    rw [mo_lo_r _ _ (by omega)]
    unfold T_seats
    constructor
    · rintro ⟨l, hl, z⟩ y
      rw [T_get3 hl] at z
      have hl2 : l < 2 ^ p.2.2.1.2 := hlo l hl (fun w => by
        rw [t3 l hl w] at z
        exact nI_nm (by omega) z.symm)
      exact y l (Nat.zero_le _) (by omega) (by rw [← hR.2.2 l hl]; exact z)
    · intro y
      refine Classical.byContradiction fun w => y fun l _ hl z => w ⟨l, by omega, ?_⟩
      rw [T_get3 (by omega), hR.2.2 l (by omega)]
      exact z
  have hfr := mo_fr_r (f := fun l => X.2 22 (31 * e + 2 * l)) (2 ^ p.2.2.1.2) 0
  have hfl := mo_fr_le (fun l => X.2 22 (31 * e + 2 * l)) (2 ^ p.2.2.1.2) 0
  have hb : ∀ l, l < 16 → (X.2 22 (31 * e + 2 * l) = -1 ↔ p.2.2.1.1 0 (2 * l) = -1) := fun l hl => by rw [(hR.2.1 (2 * l) (by omega)).1, sw_n1]
  have hmay : m_may X e i (gK p.1 i).1 p.2.2.1.2 ↔ ¬ (¬ (gK p.1 i).2 2 = -1 ∨ ¬ (gM p.1 (gK p.1 i).1).1 2 = -1 ∨ T_seats p.2.2.1 (nI (gK p.1 i).1)) := by
    unfold m_may
    rw [hseat, q6, ← m2]
    constructor
    · rintro ⟨a, b, c⟩ (z | z | z)
      · exact z a
      · exact z c
      · exact z b
    · intro z
      exact ⟨Classical.byContradiction fun y => z (Or.inl y), Classical.byContradiction fun y => z (Or.inr (Or.inr y)), Classical.byContradiction fun y => z (Or.inr (Or.inl y))⟩
  unfold da_1 GL
  rw [m1]
  have hdf : da_fl X e p.2.2.1.2 = mo_fr (fun l => X.2 22 (31 * e + 2 * l)) (2 ^ p.2.2.1.2) 0 := rfl
  rw [hdf]
  generalize mo_fr (fun l => X.2 22 (31 * e + 2 * l)) (2 ^ p.2.2.1.2) 0 = fl at hfr hfl ⊢
  have hfl2 : fl ≤ 2 ^ p.2.2.1.2 := by omega
  by_cases c1 : m_may X e i (gK p.1 i).1 p.2.2.1.2
  · rw [if_neg (hmay.mp c1)]
    rcases T_low_r (T := p.2.2.1) 16 0 rfl with ⟨a, b⟩ | ⟨r, r1, r2, r3, r4, r5⟩
    · have c2 : fl = 16 := by
        rcases Nat.lt_or_ge fl 16 with z | z
        · exfalso
          rcases Nat.lt_or_ge fl (2 ^ p.2.2.1.2) with y | y
          · exact b fl (Nat.zero_le _) z ((hb fl z).mp (hfr.2 (by omega)))
          · have := hlo fl z (b fl (Nat.zero_le _) z)
            omega
        · omega
      have d0 : ¬ (m_may X e i (gK p.1 i).1 p.2.2.1.2 ∧ ¬ fl = 16) := fun z => z.2 c2
      rw [if_neg d0, if_pos a]
      exact ⟨h', EO.rf, rfl, fun _ _ => rfl, rfl⟩
    · have c2 : r = fl := by
        rcases Nat.lt_trichotomy r fl with z | z | z
        · exact absurd ((hb r r2).mpr r4) (hfr.1 r (Nat.zero_le _) z)
        · exact z
        · exfalso
          have z16 : fl < 16 := by omega
          rcases Nat.lt_or_ge fl (2 ^ p.2.2.1.2) with y | y
          · exact r5 fl (Nat.zero_le _) z ((hb fl z16).mp (hfr.2 (by omega)))
          · have := hlo fl z16 (r5 fl (Nat.zero_le _) z)
            omega
      subst c2
      have c3 : ¬ nI r = -1 := nI_nm (by omega)
      have hx : ix (nI r) = r := ix_nI (by omega)
      have d0 : m_may X e i (gK p.1 i).1 p.2.2.1.2 ∧ ¬ r = 16 := ⟨c1, by omega⟩
      rw [if_pos d0, r3, if_neg c3, hx, h0]
      have hSE := T_seat_r (T := p.2.2.1) (l := r) (m := nI (gK p.1 i).1) (k := (gK p.1 i).2 1) (e := nI e) r2 t1
      generalize T_seat p.2.2.1 r (nI (gK p.1 i).1) ((gK p.1 i).2 1) (nI e) = T' at hSE ⊢
      rw [T_gr_r t1 hfl2 r2] at hSE
      have hD' : ∃ D', (if r = 2 ^ p.2.2.1.2 then p.2.2.1.2 + 1 else p.2.2.1.2) = D' ∧ p.2.2.1.2 ≤ D' ∧ D' ≤ 4 ∧ r < 2 ^ D' ∧ (if r = 2 ^ p.2.2.1.2 then da_do (xs X 13 e (nI (p.2.2.1.2 + 1))) e i r (gK p.1 i).1 (p.2.2.1.2 + 1) else da_do X e i r (gK p.1 i).1 p.2.2.1.2) = da_do (xs X 13 e (nI D')) e i r (gK p.1 i).1 D' := by
        refine ⟨_, rfl, ?_⟩
        by_cases c4 : r = 2 ^ p.2.2.1.2
        · rw [if_pos c4, if_pos c4]
          have hD4 : p.2.2.1.2 < 4 := by
            rcases Nat.lt_or_ge p.2.2.1.2 4 with z | z
            · exact z
            · have : p.2.2.1.2 = 4 := by omega
              rw [this] at c4
              omega
          refine ⟨by omega, by omega, ?_, rfl⟩
          have hp1 : 1 ≤ 2 ^ p.2.2.1.2 := Nat.one_le_two_pow
          rw [Nat.pow_succ]
          omega
        · rw [if_neg c4, if_neg c4, xs_self X 13 e _ hR.1]
          exact ⟨by omega, by omega, by omega, rfl⟩
      obtain ⟨D', d1, d2, d3, d4, d5⟩ := hD'
      rw [d1] at hSE
      rw [d5]
      have hkk : ¬ (gK p.1 i).2 1 = -1 := by rw [q4]; exact fun z => q5 (sw_n1.mp z)
      have hTI : TI T' := hSE.ti hI' r2 d2 d3 hkk d4
      have hTR := da_do_TR (j := (gK p.1 i).1) (p := i) hR r2 d3 q5 (by rw [← q4]; exact hSE) (Or.inr trivial) (xs X 13 e (nI D')) rfl
      have hff := da_do_f (xs X 13 e (nI D')) e i r (gK p.1 i).1 D'
      have v39 : ∀ k, (da_do (xs X 13 e (nI D')) e i r (gK p.1 i).1 D').2 39 k = if k = i then nI e else X.2 39 k := fun k => by
        unfold da_do
        rw [xs_k (by decide)]
        by_cases c : k = i
        · rw [if_pos c, c, xs_s]
        · rw [if_neg c, xs_j c, xs_k (by decide), xs_k (by decide), (da_u_f e r D' 1 _ 39 (by decide)).2, (mo_set_f _ e (2 * r) _ 39 (by decide)).2, xs_k (by decide)]
      have v40 : ∀ k, (da_do (xs X 13 e (nI D')) e i r (gK p.1 i).1 D').2 40 k = if k = i then nI r else X.2 40 k := fun k => by
        unfold da_do
        by_cases c : k = i
        · rw [if_pos c, c, xs_s]
        · rw [if_neg c, xs_j c, xs_k (by decide), xs_k (by decide), xs_k (by decide), (da_u_f e r D' 1 _ 40 (by decide)).2, (mo_set_f _ e (2 * r) _ 40 (by decide)).2, xs_k (by decide)]
      have v19 : (da_do (xs X 13 e (nI D')) e i r (gK p.1 i).1 D').2 19 e = X.2 19 e ||| ((1 : Int32) <<< (nI r &&& 31)) := by
        unfold da_do
        rw [xs_k (by decide), xs_k (by decide), xs_s, (da_u_f e r D' 1 _ 19 (by decide)).2, (mo_set_f _ e (2 * r) _ 19 (by decide)).2, xs_k (by decide)]
      have vf : ∀ k, k ∉ da_K → (da_do (xs X 13 e (nI D')) e i r (gK p.1 i).1 D').2 k = X.2 k := fun k hk => by
        rw [(hff k hk).2]
        exact xs_k (fun z => hk (by rw [z]; decide))
      generalize da_do (xs X 13 e (nI D')) e i r (gK p.1 i).1 D' = Y at hTR v39 v40 v19 vf ⊢
      have hnk : ∀ k, k < n → ¬ (gK p.1 k).2 1 = -1 := fun k hk z => by
        obtain ⟨-, -, -, w1, w2, -⟩ := hK k hk
        rw [w1] at z
        exact w2 (sw_n1.mp z)
      have hmn := Classical.not_not.mp (fun z => (hmay.mp c1) (Or.inl z))
      have hmn2 : (gM p.1 (gK p.1 i).1).1 2 = -1 := Classical.not_not.mp (fun z => (hmay.mp c1) (Or.inr (Or.inl z)))
      have hns : ∀ l, l < 16 → ¬ p.2.2.1.1 3 l = nI (gK p.1 i).1 := fun l hl z => (hmay.mp c1) (Or.inr (Or.inr ⟨l, hl, by rw [T_get3 hl]; exact z⟩))
      have hAF := hF.step hK1 hnk (fun k hk => (hK k hk).1) hi r2 hSE r4 hmn hmn2 hns d2 hTI
      refine ⟨⟨hTR.1, hTI, fun k hk => ?_, ?_, h0, ?_⟩, hTR.2, rfl, fun j hj => upd_n hj, rfl⟩
      · obtain ⟨w1, w2, w3, w4, w5, w6, w7, w8⟩ := hK k hk
        rw [vf 36 (by decide), vf 37 (by decide), vf 38 (by decide), vf 41 (by decide), v39, v40]
        have kk : gK ((sK p.1 i ((gK p.1 i).1, upd (upd (gK p.1 i).2 2 (nI e)) 3 (nI r)), upd p.2.1 6 (p.2.1 6 ||| ((1 : Int32) <<< (nI r &&& 31))), T', p.2.2.2) : G_T × e_T).1 k = if k = i then ((gK p.1 i).1, upd (upd (gK p.1 i).2 2 (nI e)) 3 (nI r)) else gK p.1 k := rfl
        rw [kk]
        by_cases c : k = i
        · subst c
          rw [if_pos rfl, if_pos rfl, if_pos rfl]
          exact ⟨w1, w2, w3, w4, w5, rfl, fun _ => rfl, w8⟩
        · rw [if_neg c, if_neg c, if_neg c]
          exact ⟨w1, w2, w3, w4, w5, w6, w7, w8⟩
      · rw [v19, ← h6]
        exact upd_s p.2.1 6 _
      · show AF T1 K1 (gM p.1) n e _ (upd p.2.1 6 (p.2.1 6 ||| ((1 : Int32) <<< (nI r &&& 31))) 6) T'
        rw [upd_s]
        exact hAF
  · rw [if_pos (Classical.not_not.mp (fun z => c1 (hmay.mpr z))), if_neg (fun z => c1 z.1)]
    exact ⟨h', EO.rf, rfl, fun _ _ => rfl, rfl⟩
def q_ad2 (Q : Nat → p_T) (X : x_T) (n k : Nat) : Prop := X.2 43 k = nI (Q k).1 ∧ (Q k).1 < 3 ∧ ((Q k).1 = 0 → (Q k).2.1 < n ∧ X.2 45 k = nI (Q k).2.1)
theorem AA_sim {T1 : tr_T} {K1 : Nat → k_T} {n e : Nat} {Q : Nat → p_T} (hK1 : ∀ k, k < n → ¬ (K1 k).2 2 = nI e) (he : e < 60) (hn : n ≤ 60) : ∀ (m k : Nat) (p : G_T × e_T) (X : x_T), (∀ i, k ≤ i → i < k + m → q_ad2 Q X n i) → gQ p.1 = Q → MM (gM p.1) X e → AS T1 K1 n e p X → AS T1 K1 n e (AA m k p) (da_m e m k X) ∧ EO e X (da_m e m k X) ∧ gH (AA m k p).1 = gH p.1 ∧ (∀ j, j ≠ 6 → (AA m k p).2.1 j = p.2.1 j) ∧ (AA m k p).2.2.2 = p.2.2.2 := by
  intro m
  induction m with
  | zero =>
    intro k p X _ _ _ h
    exact ⟨h, EO.rf, rfl, fun _ _ => rfl, rfl⟩
  | succ m ih =>
    intro k p X hq hQ hM h
    have hk := hq k (Nat.le_refl _) (by omega)
    unfold AA da_m
    have step : ∃ Y, (if X.2 43 k = 0 then da_1 X e (ix (X.2 45 k)) (ix (X.2 36 (ix (X.2 45 k)))) (ix (X.2 13 e)) else X) = Y ∧ AS T1 K1 n e (AA_1 k p) Y ∧ EO e X Y ∧ gH (AA_1 k p).1 = gH p.1 ∧ (∀ j, j ≠ 6 → (AA_1 k p).2.1 j = p.2.1 j) ∧ (AA_1 k p).2.2.2 = p.2.2.2 ∧ gQ (AA_1 k p).1 = Q ∧ gM (AA_1 k p).1 = gM p.1 ∧ xfr da_K X Y := by
      unfold AA_1
      rw [hQ]
      by_cases c : (Q k).1 = 0
      · have c2 : X.2 43 k = 0 := by rw [hk.1, c]; rfl
        rw [if_pos c2, if_pos c]
        obtain ⟨e1, e2⟩ := hk.2.2 c
        have hx : ix (X.2 45 k) = (Q k).2.1 := by rw [e2]; exact ix_nI (by omega)
        rw [hx]
        obtain ⟨Y, y1, y2, y3, y4, y5, y6⟩ := GL_sim h hK1 he hM e1 hn
        have g := GL_k p (Q k).2.1
        refine ⟨Y, y1, y2, y3, y4, y5, y6, g.2.1.trans hQ, g.2.2.2.1, ?_⟩
        rw [← y1]
        exact da_1_f _ _ _ _ _
      · have c2 : ¬ X.2 43 k = 0 := fun z => by
          rw [hk.1, show (0 : Int32) = nI 0 from rfl] at z
          have := hk.2.1
          exact c ((nI_eq (by omega) (by decide)).mp z)
        rw [if_neg c2, if_neg c]
        exact ⟨X, rfl, h, EO.rf, rfl, fun _ _ => rfl, rfl, hQ, rfl, xfr.rf⟩
    obtain ⟨Y, y1, y2, y3, y4, y5, y6, y7, y8, y9⟩ := step
    rw [y1]
    obtain ⟨r1, r2, r3, r4, r5⟩ := ih (k + 1) (AA_1 k p) Y (fun i h1 h2 => by
      have := hq i (by omega) (by omega)
      unfold q_ad2 at this ⊢
      rw [(y9 43 (by decide)).2, (y9 45 (by decide)).2]
      exact this) y7 (by
      rw [y8]
      unfold MM
      rw [(y9 27 (by decide)).2, (y9 28 (by decide)).2, (y9 17 (by decide)).2]
      exact hM) y2
    exact ⟨r1, y3.tr r2, r3.trans y4, fun j hj => (r4 j hj).trans (y5 j hj), r5.trans y6⟩
