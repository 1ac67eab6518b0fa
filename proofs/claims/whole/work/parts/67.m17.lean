/-! ===== the reference: what change wants, pure ===== -/
theorem and_or_1 (x y z : Int32) : (x ||| y) &&& z = (x &&& z) ||| (y &&& z) := by
  apply Int32.toBitVec_inj.mp
  rw [Int32.toBitVec_and, Int32.toBitVec_or, Int32.toBitVec_or, Int32.toBitVec_and, Int32.toBitVec_and]
  apply BitVec.eq_of_getLsbD_eq
  intro k hk
  rw [BitVec.getLsbD_and, BitVec.getLsbD_or, BitVec.getLsbD_or, BitVec.getLsbD_and, BitVec.getLsbD_and]
  cases x.toBitVec.getLsbD k <;> cases y.toBitVec.getLsbD k <;> cases z.toBitVec.getLsbD k <;> rfl
theorem bit_or (a b : Int32) (i : Nat) : bit (a ||| b) i = bit a i ||| bit b i := by
  unfold bit
  rw [Int32.shiftRight_or, and_or_1]
theorem bit_1 : ∀ l, l < 16 → ∀ i, i < 16 → bit ((1 : Int32) <<< (nI l &&& 31)) i = if i = l then 1 else 0 := by decide +kernel
theorem bit_add {a : Int32} {l i : Nat} (hl : l < 16) (hi : i < 16) (h : ¬ bit (a ||| ((1 : Int32) <<< (nI l &&& 31))) i = 0) : i = l ∨ ¬ bit a i = 0 := by
  by_cases e : i = l
  · exact Or.inl e
  · rw [bit_or, bit_1 l hl i hi, if_neg e, Int32.or_zero] at h
    exact Or.inr h
theorem mo_bl_f (X : x_T) (e v : Nat) : xfr [22, 23] X (mo_bl X e v) := (xfr.rf.xs 22 _ _ (by decide)).xs 23 _ _ (by decide)
theorem mo_set_f (X : x_T) (e v : Nat) (x : Int32) : xfr [22, 23, 24] X (mo_set X e v x) := ((xfr.rf.xs 22 _ _ (by decide)).xs 23 _ _ (by decide)).xs 24 _ _ (by decide)
theorem mo_bp_f (e l : Nat) : ∀ (m k : Nat) (X : x_T), xfr [22, 23] X (mo_bp e l m k X) := by
  intro m
  induction m with
  | zero => intro k X; exact xfr.rf
  | succ m ih => intro k X; exact (mo_bl_f X e (abv l k)).tr (ih (k + 1) _)
theorem dr_m_f (e D : Nat) (b : Int32) : ∀ (m l : Nat) (X : x_T), xfr [22, 23, 26] X (dr_m e D b m l X) := by
  intro m
  induction m with
  | zero => intro l X; exact xfr.rf
  | succ m ih =>
    intro l X
    rw [dr_m]
    refine xfr.tr ?_ (ih (l + 1) _)
    split
    · exact xfr.rf
    · exact (((mo_bl_f X e (2 * l)).tr (mo_bp_f e l D 1 _)).wk (by decide)).xs 26 _ _ (by decide)
theorem dr_v_f (e : Nat) : ∀ (m v : Nat) (X : x_T), xfr [22, 23] X (dr_v e m v X) := by
  intro m
  induction m with
  | zero => intro k X; exact xfr.rf
  | succ m ih => intro k X; exact (mo_bl_f X e k).tr (ih (k + 1) _)
theorem dr_s_f (e : Nat) : ∀ (D : Nat) (X : x_T), xfr [13, 22, 23] X (dr_s e D X) := by
  intro D
  induction D with
  | zero => intro X; exact xfr.rf
  | succ D ih =>
    intro X
    rw [dr_s]
    split
    · exact ((xfr.rf.xs 13 _ _ (by decide)).tr ((dr_v_f e _ _ _).wk (by decide))).tr (ih _)
    · exact xfr.rf
theorem du_m_f (e D : Nat) (b : Int32) (nk : Nat → Int32) : ∀ (m l : Nat) (X : x_T), xfr [22, 23, 24] X (du_m e D b nk m l X) := by
  intro m
  induction m with
  | zero => intro l X; exact xfr.rf
  | succ m ih =>
    intro l X
    rw [du_m]
    refine xfr.tr ?_ (ih (l + 1) _)
    split
    · exact xfr.rf
    · exact (mo_set_f X e (2 * l) _).tr ((mo_bp_f e l D 1 _).wk (by decide))
theorem da_1_f (X : x_T) (e p j D : Nat) : xfr da_K X (da_1 X e p j D) := by
  unfold da_1
  split
  · split
    · exact (xfr.rf.xs 13 _ _ (by decide)).tr (da_do_f _ _ _ _ _ _)
    · exact da_do_f _ _ _ _ _ _
  · exact xfr.rf
theorem da_m_f (e : Nat) : ∀ (m k : Nat) (X : x_T), xfr da_K X (da_m e m k X) := by
  intro m
  induction m with
  | zero => intro k X; exact xfr.rf
  | succ m ih =>
    intro k X
    rw [da_m]
    refine xfr.tr ?_ (ih (k + 1) _)
    split
    · exact da_1_f _ _ _ _ _
    · exact xfr.rf
theorem dr_s_D (e : Nat) : ∀ (D : Nat) (X : x_T), X.2 13 e = nI D → ∃ D5, D5 ≤ D ∧ (dr_s e D X).2 13 e = nI D5 := by
  intro D
  induction D with
  | zero => intro X h; exact ⟨0, Nat.le_refl _, h⟩
  | succ D ih =>
    intro X h
    rw [dr_s]
    split
    · obtain ⟨D5, h1, h2⟩ := ih (dr_v e (31 - (2 ^ (D + 1) - 1)) (2 ^ (D + 1) - 1) (xs X 13 e (nI D))) (by rw [(dr_v_f e _ _ _ 13 (by decide)).2, xs_s])
      exact ⟨D5, by omega, h2⟩
    · exact ⟨D + 1, Nat.le_refl _, h⟩
theorem da_1_D {X : x_T} {e p j D : Nat} (h : X.2 13 e = nI D) (h4 : D ≤ 4) : ∃ D7, D7 ≤ 4 ∧ (da_1 X e p j D).2 13 e = nI D7 := by
  have hd : ∀ (Y : x_T) (fl D2 : Nat), Y.2 13 e = nI D2 → (da_do Y e p fl j D2).2 13 e = nI D2 := fun Y fl D2 hy => by
    show (da_u e fl D2 1 (mo_set Y e (2 * fl) (Y.2 38 p))).2 13 e = nI D2
    rw [(da_u_f e fl D2 1 _ 13 (by decide)).2]
    exact hy
  unfold da_1
  split
  · rename_i hc
    split
    · rename_i hf
      refine ⟨D + 1, ?_, hd _ _ _ (xs_s _ _ _ _)⟩
      rcases (show D ≤ 3 ∨ D = 4 by omega) with z | z
      · omega
      · rw [z] at hf hc
        exact absurd hf hc.2
    · exact ⟨D, h4, hd _ _ _ h⟩
  · exact ⟨D, h4, h⟩
theorem da_m_D (e : Nat) : ∀ (m k D : Nat) (X : x_T), X.2 13 e = nI D → D ≤ 4 → ∃ D7, D7 ≤ 4 ∧ (da_m e m k X).2 13 e = nI D7 := by
  intro m
  induction m with
  | zero => intro k D X h h4; exact ⟨D, h4, h⟩
  | succ m ih =>
    intro k D X h h4
    rw [da_m]
    split
    · rw [h, ix_nI (by omega)]
      obtain ⟨D2, h1, h2⟩ := da_1_D (p := ix (X.2 45 k)) (j := ix (X.2 36 (ix (X.2 45 k)))) h h4
      exact ih (k + 1) D2 _ h2 h1
    · exact ih (k + 1) D X h h4
/-- the leaves named -/
theorem abv_in : ∀ l, l < 16 → ∀ t, t < 5 → hgt (abv l t) = t ∧ abv l t / 2 ^ (t + 1) = l / 2 ^ t := by decide +kernel
theorem uk_cp {X : x_T} {f t D : Nat} (h : uk (X.2 23) f) : uk (cpF (X.2 23) (cp_u X f D) (31 * t) 31) t := fun v hv l hl hb => by
  rw [cpF_i hv] at hb
  unfold cp_u at hb
  split at hb
  · exact h v hv l hl hb
  · exact absurd (bit_0 l hl) hb
theorem uk_bp {e : Nat} (l : Nat) : ∀ (m k : Nat) (X : x_T), uk (X.2 23) e → uk ((mo_bp e l m k X).2 23) e := by
  intro m
  induction m with
  | zero => intro k X h; exact h
  | succ m ih => intro k X h; exact ih (k + 1) _ (uk.put h (abv l k))
theorem uk_dr {e D : Nat} {b : Int32} : ∀ (m l : Nat) (X : x_T), uk (X.2 23) e → uk ((dr_m e D b m l X).2 23) e := by
  intro m
  induction m with
  | zero => intro l X h; exact h
  | succ m ih =>
    intro l X h
    rw [dr_m]
    refine ih (l + 1) _ ?_
    split
    · exact h
    · exact uk_bp l D 1 _ (uk.put h (2 * l))
theorem uk_v {e : Nat} : ∀ (m v : Nat) (X : x_T), uk (X.2 23) e → uk ((dr_v e m v X).2 23) e := by
  intro m
  induction m with
  | zero => intro k X h; exact h
  | succ m ih => intro k X h; exact ih (k + 1) _ (uk.put h k)
theorem uk_s {e : Nat} : ∀ (D : Nat) (X : x_T), uk (X.2 23) e → uk ((dr_s e D X).2 23) e := by
  intro D
  induction D with
  | zero => intro X h; exact h
  | succ D ih =>
    intro X h
    rw [dr_s]
    split
    · exact ih _ (uk_v _ _ _ h)
    · exact h
theorem uk_du {e D : Nat} {b : Int32} {nk : Nat → Int32} : ∀ (m l : Nat) (X : x_T), uk (X.2 23) e → uk ((du_m e D b nk m l X).2 23) e := by
  intro m
  induction m with
  | zero => intro l X h; exact h
  | succ m ih =>
    intro l X h
    rw [du_m]
    refine ih (l + 1) _ ?_
    split
    · exact h
    · exact uk_bp l D 1 _ (uk.put h (2 * l))
theorem uk_u {e l : Nat} (hl : l < 16) : ∀ (m t : Nat) (X : x_T), t + m ≤ 5 → uk (X.2 23) e → uk ((da_u e l m t X).2 23) e := by
  intro m
  induction m with
  | zero => intro t X ht h; exact h
  | succ m ih =>
    intro t X ht h
    rw [da_u]
    refine ih (t + 1) _ (by omega) ?_
    split
    · exact h
    · intro v hv i hi hb
      have e23 : (xs X 23 (31 * e + abv l t) (X.2 23 (31 * e + abv l t) ||| ((1 : Int32) <<< (nI l &&& 31)))).2 23 = upd (X.2 23) (31 * e + abv l t) (X.2 23 (31 * e + abv l t) ||| ((1 : Int32) <<< (nI l &&& 31))) := show va_up X.2 23 _ 23 = _ from if_pos rfl
      rw [e23] at hb
      by_cases z : 31 * e + v = 31 * e + abv l t
      · rw [z, upd_s] at hb
        have hv2 : v = abv l t := by omega
        rcases bit_add hl hi hb with q | q
        · rw [q, hv2, (abv_in l hl t (by omega)).1, (abv_in l hl t (by omega)).2]
        · rw [← z] at q
          exact h v hv i hi q
      · rw [upd_n z] at hb
        exact h v hv i hi hb
theorem uk_da {e p j : Nat} {X : x_T} {D : Nat} (h4 : D ≤ 4) (h : uk (X.2 23) e) : uk ((da_1 X e p j D).2 23) e := by
  have hd : ∀ (Y : x_T) (fl D2 : Nat), fl < 16 → D2 ≤ 4 → uk (Y.2 23) e → uk ((da_do Y e p fl j D2).2 23) e := fun Y fl D2 hf hD hy => uk_u hf D2 1 _ (by omega) (uk.put hy (2 * fl))
  have hle : da_fl X e D ≤ 16 := by
    have q := (mo_fr_le (fun l => X.2 22 (31 * e + 2 * l)) (2 ^ D) 0).2
    have q2 := p2_le h4
    show mo_fr (fun l => X.2 22 (31 * e + 2 * l)) (2 ^ D) 0 ≤ 16
    omega
  unfold da_1
  split
  · rename_i hc
    have hlt : da_fl X e D < 16 := by
      have := hc.2
      omega
    split
    · rename_i hf
      refine hd _ _ _ hlt ?_ h
      rcases (show D ≤ 3 ∨ D = 4 by omega) with z | z
      · omega
      · rw [z] at hf hc
        exact absurd hf hc.2
    · exact hd _ _ _ hlt h4 h
  · exact h
theorem uk_am {e : Nat} : ∀ (m k D : Nat) (X : x_T), X.2 13 e = nI D → D ≤ 4 → uk (X.2 23) e → uk ((da_m e m k X).2 23) e := by
  intro m
  induction m with
  | zero => intro k D X hD h4 h; exact h
  | succ m ih =>
    intro k D X hD h4 h
    rw [da_m]
    split
    · rw [hD, ix_nI (by omega)]
      obtain ⟨D2, h1, h2⟩ := da_1_D (p := ix (X.2 45 k)) (j := ix (X.2 36 (ix (X.2 45 k)))) hD h4
      exact ih (k + 1) D2 _ h2 h1 (uk_da h4 h)
    · exact ih (k + 1) D X hD h4 h
/-- packages used in this epoch have a leaf -/
theorem da_us {e : Nat} : ∀ (m k D : Nat) (X : x_T), X.2 13 e = nI D → D ≤ 4 → (∀ q, X.2 39 q = nI e → ∃ l, l < 16 ∧ X.2 40 q = nI l) → ∀ q, (da_m e m k X).2 39 q = nI e → ∃ l, l < 16 ∧ (da_m e m k X).2 40 q = nI l := by
  have hd : ∀ (Y : x_T) (p fl j D2 : Nat), fl < 16 → (∀ q, Y.2 39 q = nI e → ∃ l, l < 16 ∧ Y.2 40 q = nI l) → ∀ q, (da_do Y e p fl j D2).2 39 q = nI e → ∃ l, l < 16 ∧ (da_do Y e p fl j D2).2 40 q = nI l := fun Y p fl j D2 hf hy q hq => by
    have e39 : (da_do Y e p fl j D2).2 39 = upd (Y.2 39) p (nI e) := by
      show upd ((da_u e fl D2 1 (mo_set Y e (2 * fl) (Y.2 38 p))).2 39) p (nI e) = _
      rw [(da_u_f e fl D2 1 _ 39 (by decide)).2]
      rfl
    have e40 : (da_do Y e p fl j D2).2 40 = upd (Y.2 40) p (nI fl) := by
      show upd ((da_u e fl D2 1 (mo_set Y e (2 * fl) (Y.2 38 p))).2 40) p (nI fl) = _
      rw [(da_u_f e fl D2 1 _ 40 (by decide)).2]
      rfl
    rw [e39] at hq
    rw [e40]
    by_cases z : q = p
    · rw [z, upd_s]
      exact ⟨fl, hf, rfl⟩
    · rw [upd_n z] at hq ⊢
      exact hy q hq
  intro m
  induction m with
  | zero => intro k D X hD h4 h; exact h
  | succ m ih =>
    intro k D X hD h4 h
    rw [da_m]
    split
    · rw [hD, ix_nI (by omega)]
      obtain ⟨D2, h1, h2⟩ := da_1_D (p := ix (X.2 45 k)) (j := ix (X.2 36 (ix (X.2 45 k)))) hD h4
      refine ih (k + 1) D2 _ h2 h1 ?_
      have hle : da_fl X e D ≤ 16 := by
        have q := (mo_fr_le (fun l => X.2 22 (31 * e + 2 * l)) (2 ^ D) 0).2
        have q2 := p2_le h4
        show mo_fr (fun l => X.2 22 (31 * e + 2 * l)) (2 ^ D) 0 ≤ 16
        omega
      unfold da_1
      split
      · rename_i hc
        have hlt : da_fl X e D < 16 := by
          have := hc.2
          omega
        split
        · exact hd _ _ _ _ _ hlt h
        · exact hd _ _ _ _ _ hlt h
      · exact h
    · exact ih (k + 1) D X hD h4 h
theorem fr_mine {X : x_T} {e D l : Nat} (hl : l < 16) : ∀ (m k wt : Nat) (r : Int32), k + m ≤ wt → (∀ k, k < wt → X.2 43 k = 1 → ∃ l, l < 16 ∧ X.2 45 k = nI l) → bit r l = 0 → bit (fr_m X e D (nI l) m k r) l = 0 := by
  intro m
  induction m with
  | zero => intro k wt r hk hR h; exact h
  | succ m ih =>
    intro k wt r hk hR h
    rw [fr_m]
    refine ih (k + 1) wt _ (by omega) hR ?_
    split
    · rename_i hb
      obtain ⟨i, hi, hii⟩ := hR k (by omega) hb.1
      rw [hii, bit_or, h, bit_1 i hi l hl, if_neg (fun z => hb.2.2.2 (by rw [hii, z]))]
      rfl
    · exact h
def ch_l (e : Nat) : Nat → Nat → x_T → x_T
  | 0, _, X => X
  | m + 1, k, X => ch_l e m (k + 1) (if X.2 27 k = nI e ∧ (X.2 17 (e + 1) >>> (X.2 28 k &&& 31)) &&& 1 = 1 then mo_lv X k else X)
theorem ch_l_f (e : Nat) : ∀ (m k : Nat) (X : x_T), xfr lv_K X (ch_l e m k X) := by
  intro m
  induction m with
  | zero => intro k X; exact xfr.rf
  | succ m ih =>
    intro k X
    rw [ch_l]
    refine xfr.tr ?_ (ih (k + 1) _)
    split
    · exact mo_lv_f X k
    · exact xfr.rf
theorem mo_lv_o (X : x_T) {k j : Nat} (h : j ≠ k) : (mo_lv X k).2 28 j = X.2 28 j := by
  show (mo_nk k 31 0 (xs (xs (xs (xs (xs X 27 k (-1)) 28 k (-1)) 29 k (-1)) 32 k 0) 31 k 0)).2 28 j = _
  rw [(mo_nk_f k 31 0 _ 28 (by decide)).2]
  exact upd_n h
theorem ch_l_28 {e mm l : Nat} : ∀ (m k : Nat) (X : x_T), bit (X.2 17 (e + 1)) l = 0 → X.2 28 mm = nI l → (ch_l e m k X).2 28 mm = nI l := by
  intro m
  induction m with
  | zero => intro k X h1 h2; exact h2
  | succ m ih =>
    intro k X h1 h2
    rw [ch_l]
    split
    · rename_i hc
      refine ih (k + 1) _ (by rw [(mo_lv_f X k 17 (by decide)).2]; exact h1) ?_
      have hne : mm ≠ k := fun z => by
        rw [← z, h2] at hc
        have q : bit (X.2 17 (e + 1)) l = 1 := hc.2
        rw [h1] at q
        exact absurd q (by decide)
      rw [mo_lv_o X hne]
      exact h2
    · exact ih (k + 1) X h1 h2
/-- what renew leaves -/
def rn_K : List Nat := [1, 2, 3, 4, 7, 8, 9, 10, 11, 16, 20, 22, 23, 24, 25]
def q_RN (X : x_T) (n : Nat) (Y : x_T) (n1 : Nat) : Prop := xfr rn_K X Y ∧ Y.1 1 = nI n1 ∧ n ≤ n1 ∧ WF Y n1 ∧ (∀ k, k < n → Y.2 2 k = X.2 2 k ∧ Y.2 3 k = X.2 3 k ∧ Y.2 4 k = X.2 4 k) ∧ ∀ k, n ≤ k → k < n1 → ¬ Y.2 2 k = 6
theorem q_RN_mk {X Y : x_T} {n n1 : Nat} (h : q_RN X n Y n1) {kd : Int32} {f : Nat} (hk : ¬ kd = 6) (hf : f < n1 ∨ f = 0) : q_RN X n (mk Y n1 kd (nI f) 0) (n1 + 1) := by
  obtain ⟨h1, h2, h3, h4, h5, h6⟩ := h
  refine ⟨(((h1.xs 2 _ _ (by decide)).xs 3 _ _ (by decide)).xs 4 _ _ (by decide)).xi 1 _ (by decide), rfl, by omega, WF_mk h4 kd 0 hf, fun k hk2 => ?_, fun k hk1 hk2 => ?_⟩
  · have q := h5 k hk2
    refine ⟨?_, ?_, ?_⟩
    · exact (upd_n (f := Y.2 2) (a := kd) (show k ≠ n1 by omega)).trans q.1
    · exact (upd_n (f := Y.2 3) (a := nI f) (show k ≠ n1 by omega)).trans q.2.1
    · exact (upd_n (f := Y.2 4) (a := 0) (show k ≠ n1 by omega)).trans q.2.2
  · by_cases z : k = n1
    · show ¬ upd (Y.2 2) n1 kd k = 6
      rw [z, upd_s]
      exact hk
    · show ¬ upd (Y.2 2) n1 kd k = 6
      rw [upd_n z]
      exact h6 k hk1 (by omega)
theorem q_RN.fr {X Y W : x_T} {n n1 : Nat} (h : q_RN X n Y n1) {K : List Nat} (f : xfr K Y W) (hK : ∀ k, k ∈ K → k ∈ rn_K) (h1 : 1 ∉ K) (h2 : 2 ∉ K) (h3 : 3 ∉ K) (h4 : 4 ∉ K) : q_RN X n W n1 := by
  obtain ⟨g1, g2, g3, g4, g5, g6⟩ := h
  refine ⟨g1.tr (f.wk hK), (f 1 h1).1.trans g2, g3, ?_, ?_, ?_⟩
  · intro k hk
    rw [(f 3 h3).2]
    exact g4 k hk
  · rw [(f 2 h2).2, (f 3 h3).2, (f 4 h4).2]
    exact g5
  · rw [(f 2 h2).2]
    exact g6
