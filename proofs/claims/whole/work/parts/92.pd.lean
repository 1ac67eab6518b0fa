/-! ===== the pure part: the committer's path, height by height ===== -/
def lB (t : Nat) : Nat := if t ≤ 1 then 0 else if t = 2 then 3 else if t = 3 then 8 else if t = 4 then 16 else 30
def cB (t : Nat) : Nat := if t ≤ 1 then 0 else if t = 2 then 1 else if t = 3 then 4 else if t = 4 then 10 else 22
theorem lB_s : ∀ t, t < 5 → 1 ≤ t → lB t + 2 + fB (t - 1) = lB (t + 1) ∧ cB t + fB (t - 1) = cB (t + 1) := by decide
theorem lB_le : ∀ t, t < 6 → lB t ≤ 30 ∧ cB t ≤ 22 := by decide
theorem abv_sib : ∀ l, l < 16 → ∀ t, t < 5 → 1 ≤ t → abv l t < 31 ∧ hgt (abv l t) = t ∧ sib l t < 31 ∧ hgt (sib l t) = t - 1 ∧ ab l (abv l t) ∧ ¬ abv l t = 2 * l := by decide +kernel
theorem abv_ne : ∀ l, l < 16 → ∀ t, t < 5 → ∀ u, u < 5 → abv l t = abv l u → t = u := by decide +kernel
def IDT (T : tr_T) (N : Nat) : Prop := ∀ v, v < 31 → ¬ T.1 0 v = -1 → ∃ i, 1 ≤ i ∧ i < N ∧ T.1 0 v = nI i
theorem inR_nb {T : tr_T} (hI : TI T) : ∀ (t v w : Nat), v < 31 → hgt v = t → inR T t v w → ¬ T.1 0 w = -1 := by
  have own : ∀ v w, v < 31 → (¬ T.1 0 v = -1 ∧ (w = v ∨ ∃ l, l < 16 ∧ bt (T.1 1 v) l = true ∧ w = 2 * l)) → ¬ T.1 0 w = -1 := fun v w hv h => by
    rcases h.2 with z | ⟨l, hl, z1, z2⟩
    · rw [z]; exact h.1
    · rw [z2]
      exact (hI.2.2.2.2.2.1 v hv l hl z1).2
  intro t
  induction t with
  | zero => intro v w hv ht h; exact own v w hv h
  | succ t ih =>
    intro v w hv ht h
    have h4 := hgtB v hv
    obtain ⟨k1, k2, k3, k4, k5, k6⟩ := kidB t (by omega) v hv ht
    have hp2 := Nat.one_le_two_pow (n := t)
    rcases h with z | ⟨-, z | z⟩
    · exact own v w hv z
    · exact ih _ w (by omega) k5 z
    · exact ih _ w (by omega) k6 z
/-- what a height of the path has become -/
def PH (T7 T : tr_T) (b6 E3 : Int32) (ps : Nat → Int32) (Y : x_T) (e cl n0 N c t : Nat) : Prop :=
  ((∃ w, inR T7 (t - 1) (sib cl t) w) → bt E3 (abv cl t) = true ∧ (∃ i, n0 < i ∧ i < N ∧ T.1 0 (abv cl t) = nI i) ∧ T.1 1 (abv cl t) = 0 ∧ (∃ a, n0 < a ∧ a < N ∧ ps t = nI a ∧ Y.2 25 (31 * e + abv cl t) = nI a) ∧ ∀ w, w < 31 → inR T7 (t - 1) (sib cl t) w → ¬ (w % 2 = 0 ∧ bt b6 (w / 2) = true) → ∃ j, j < c ∧ Y.2 10 j = nI e ∧ Y.2 11 j = nI (abv cl t) ∧ Y.2 8 j = sw (T7.1 0 w)) ∧ ((¬ ∃ w, inR T7 (t - 1) (sib cl t) w) → bt E3 (abv cl t) = false ∧ T.1 0 (abv cl t) = -1)
theorem PH.mono {T7 T T' : tr_T} {b6 E3 E3' : Int32} {ps ps' : Nat → Int32} {Y Y' : x_T} {e cl n0 N c N' c' t n1 c1 : Nat} (h : PH T7 T b6 E3 ps Y e cl n0 N c t) (hN : N ≤ N') (h0 : T'.1 0 (abv cl t) = T.1 0 (abv cl t)) (h1 : T'.1 1 (abv cl t) = T.1 1 (abv cl t)) (hb : bt E3' (abv cl t) = bt E3 (abv cl t)) (hp : ps' t = ps t) (h25 : Y'.2 25 (31 * e + abv cl t) = Y.2 25 (31 * e + abv cl t)) (hx : XE Y n1 c Y' c1 c') : PH T7 T' b6 E3' ps' Y' e cl n0 N' c' t := by
  obtain ⟨x1, x2, x3, x4⟩ := hx
  unfold PH at h ⊢
  rw [h0, h1, hb, hp, h25]
  refine ⟨fun z => ?_, h.2⟩
  obtain ⟨a1, ⟨i, a2, a3, a4⟩, a5, ⟨a, a6, a7, a8⟩, a9⟩ := h.1 z
  refine ⟨a1, ⟨i, a2, by omega, a4⟩, a5, ⟨a, a6, by omega, a8⟩, fun w hw y1 y2 => ?_⟩
  obtain ⟨j, j1, j2, j3, j4⟩ := a9 w hw y1 y2
  exact ⟨j, by omega, by rw [(x4 j j1).2.2.1]; exact j2, by rw [(x4 j j1).2.2.2]; exact j3, by rw [(x4 j j1).1]; exact j4⟩
/-- class and reference before height t of the path -/
def PS (E7 : e_T) (e cl k : Nat) (T0 : List Nat) (X0 : x_T) (n0 c0 l0 t : Nat) (q : (e_T × s_T) × Int32) (p : x_T × Int32) (N c : Nat) (L : w_L) (TT : List Nat) : Prop :=
  (TR q.1.1.2.1 p.1 e ∧ TI q.1.1.2.1 ∧ q.1.1.2.1.2 = E7.2.1.2 ∧ IDT q.1.1.2.1 N) ∧ (SQ k T0 q.1.2 N L TT ∧ IX p.1 N c L ∧ XE X0 n0 c0 p.1 N c ∧ p.1.1 1 = nI N ∧ p.1.1 7 = nI c) ∧ (n0 < N ∧ N ≤ n0 + 1 + 2 * (t - 1) ∧ L.length ≤ l0 + lB t ∧ c ≤ c0 + cB t) ∧ ((∀ i, i ≠ 3 → i ≠ 7 → q.1.1.1 i = E7.1 i) ∧ q.1.1.1 3 = p.1.2 16 e ∧ q.1.1.1 7 = p.1.2 20 e) ∧ ((q.2 = -1 ∧ p.2 = -1) ∨ ∃ a, n0 < a ∧ a < N ∧ q.2 = nI a ∧ p.2 = nI a) ∧
  ((∀ v, v < 31 → ¬ (ab cl v ∧ hgt v < t) → q.1.1.2.1.1 0 v = E7.2.1.1 0 v ∧ q.1.1.2.1.1 1 v = E7.2.1.1 1 v) ∧ q.1.1.2.1.1 3 = E7.2.1.1 3 ∧ q.1.1.2.1.1 0 (2 * cl) = nI n0) ∧
  (∀ u, 1 ≤ u → u < t → PH E7.2.1 q.1.1.2.1 (E7.1 6) (q.1.1.1 3) q.1.1.2.2 p.1 e cl n0 N c u) ∧ (∀ u u', 1 ≤ u' → u' < u → u < t → ¬ q.1.1.2.1.1 0 (abv cl u) = -1 → ¬ q.1.1.2.1.1 0 (abv cl u) = q.1.1.2.1.1 0 (abv cl u')) ∧ (∀ w, w < 31 → bt (q.1.1.1 3) w = true → ∃ u, 1 ≤ u ∧ u < t ∧ w = abv cl u) ∧ xfr rn_K X0 p.1 ∧ EO e X0 p.1
theorem nxt_r {k N : Nat} {T0 TT : List Nat} {S : s_T} {L : w_L} {last : Int32} (h : SQ k T0 S N L TT) (hN : N < 2200) (hL : L.length < 2600) (hl : last = -1 ∨ ∃ a, a < N ∧ last = nI a) : (S_nxt S last).1 = nI N ∧ ∃ L1 TT1, SQ k T0 (S_nxt S last).2 (N + 1) L1 TT1 ∧ L1.length ≤ L.length + 1 ∧ (∀ x, x ∈ L → x ∈ L1) ∧ (∀ x, x ∈ L1 → x ∈ L ∨ ∃ a, a < N ∧ last = nI a ∧ x = (a, 0, N)) ∧ ∀ a, a < N → last = nI a → (a, 0, N) ∈ L1 := by
  unfold S_nxt
  rcases hl with z | ⟨a, ha, z⟩
  · rw [if_pos z]
    obtain ⟨h1, h2⟩ := h.fresh hN
    exact ⟨h1, L, TT, h2, by omega, fun x hx => hx, fun x hx => Or.inl hx, fun a ha y => absurd (y.symm.trans z) (nI_nm (by omega))⟩
  · have hn : ¬ last = -1 := by rw [z]; exact nI_nm (by omega)
    rw [if_neg hn, z]
    obtain ⟨h1, T1, h2⟩ := h.der (x := a) hN hL ha
    refine ⟨h1, _, T1, h2, by rw [List.length_append]; simp, fun x hx => List.mem_append_left _ hx, fun x hx => ?_, fun a' ha' y => ?_⟩
    · rcases List.mem_append.mp hx with q | q
      · exact Or.inl q
      · exact Or.inr ⟨a, ha, rfl, List.mem_singleton.mp q⟩
    · rw [← (nI_eq (by omega) (by omega)).mp y]
      exact List.mem_append_right _ List.mem_cons_self
theorem mkl_r {Y : x_T} {N : Nat} (hN : Y.1 1 = nI N) (hN2 : N < 2600) (la : Int32) : (mkl Y la).1 1 = nI (N + 1) ∧ (∀ i, i ≠ 1 → (mkl Y la).1 i = Y.1 i) ∧ (∀ k, (mkl Y la).2 2 k = if k = N then (if la = -1 then 1 else 2) else Y.2 2 k) ∧ (∀ k, (mkl Y la).2 3 k = if k = N then (if la = -1 then 0 else la) else Y.2 3 k) ∧ (∀ k, (mkl Y la).2 4 k = if k = N then 0 else Y.2 4 k) ∧ ∀ i, i ≠ 2 → i ≠ 3 → i ≠ 4 → (mkl Y la).2 i = Y.2 i := by
  rw [mkl_of hN hN2]
  by_cases c : la = -1
  · rw [if_pos c, if_pos c, if_pos c]
    exact mk_r Y N 1 0 0
  · rw [if_neg c, if_neg c, if_neg c]
    exact mk_r Y N 2 la 0
/-- what a counting height does to the reference -/
theorem rn_r {Y : x_T} {la : Int32} {N c e v : Nat} {Lr : List Nat} (hN : Y.1 1 = nI N) (hN2 : N < 2500) (hc : Y.1 7 = nI c) (hl : c + Lr.length < 2 ^ 31) (hr : ∀ r, r ∈ Lr → r < 31) : ∃ W, mk (rn_y3 e v Y la Lr) (N + 1) 3 (nI N) 0 = W ∧ W.1 1 = nI (N + 2) ∧ W.1 7 = nI (c + (flt (Y.2 19 e) Lr).length) ∧ (∀ k, W.2 2 k = if k = N + 1 then 3 else if k = N then (if la = -1 then 1 else 2) else Y.2 2 k) ∧ (∀ k, W.2 3 k = if k = N + 1 then nI N else if k = N then (if la = -1 then 0 else la) else Y.2 3 k) ∧ (∀ k, W.2 4 k = if k = N + 1 then 0 else if k = N then 0 else Y.2 4 k) ∧ W.2 20 e = Y.2 20 e + nI (flt (Y.2 19 e) Lr).length ∧ (∀ i, i ≠ e → W.2 20 i = Y.2 20 i) ∧ (∀ j, j < c → W.2 8 j = Y.2 8 j ∧ W.2 9 j = Y.2 9 j ∧ W.2 10 j = Y.2 10 j ∧ W.2 11 j = Y.2 11 j) ∧ (∀ i r, (flt (Y.2 19 e) Lr)[i]? = some r → W.2 8 (c + i) = Y.2 22 (31 * e + r) ∧ W.2 9 (c + i) = nI N ∧ W.2 10 (c + i) = nI e ∧ W.2 11 (c + i) = nI v) ∧ (∀ i, W.2 16 i = if i = e then Y.2 16 e ||| ((1 : Int32) <<< (nI v &&& 31)) else Y.2 16 i) ∧ (∀ i, W.2 25 i = if i = 31 * e + v then nI N else Y.2 25 i) ∧ xfr [1, 2, 3, 4, 7, 8, 9, 10, 11, 16, 20, 25] Y W := by
  obtain ⟨m1, m2, m3, m4, m5, m6⟩ := mkl_r hN (by omega) la
  refine ⟨_, rfl, ?_⟩
  have y1 : ∀ i, (rn_y2 e v Y la).1 i = (mkl Y la).1 i := fun i => rfl
  have y16 : ∀ i, (rn_y2 e v Y la).2 16 i = if i = e then Y.2 16 e ||| ((1 : Int32) <<< (nI v &&& 31)) else (mkl Y la).2 16 i := fun i => rfl
  have y25 : ∀ i, (rn_y2 e v Y la).2 25 i = if i = 31 * e + v then Y.1 1 else (mkl Y la).2 25 i := fun i => rfl
  have yo : ∀ k, k ≠ 16 → k ≠ 25 → (rn_y2 e v Y la).2 k = (mkl Y la).2 k := fun k h1 h2 => (if_neg h1).trans (if_neg h2)
  unfold rn_y3
  rw [hN]
  rw [hN] at y25
  generalize rn_y2 e v Y la = Y2 at y1 y16 y25 yo ⊢
  have hc2 : Y2.1 7 = nI c := by rw [y1, m2 7 (by decide)]; exact hc
  have h19 : Y2.2 19 = Y.2 19 := by rw [yo 19 (by decide) (by decide), m6 19 (by decide) (by decide) (by decide)]
  obtain ⟨r1, r2, r3, r4, r5⟩ := rn_e_r e v (nI N) Lr Y2 c hr hc2 hl
  have rf := rn_e_f e v (nI N) Lr Y2
  rw [h19] at r1 r2 r5
  generalize rn_e e v (nI N) Lr Y2 = Y3 at r1 r2 r3 r4 r5 rf ⊢
  obtain ⟨k1, k2, k3, k4, k5, k6⟩ := mk_r Y3 (N + 1) 3 (nI N) 0
  generalize mk Y3 (N + 1) 3 (nI N) 0 = W at k1 k2 k3 k4 k5 k6 ⊢
  have o2 : ∀ k, 8 ≤ k → k ≤ 11 → Y2.2 k = Y.2 k := fun k h1 h2 => by rw [yo k (by omega) (by omega), m6 k (by omega) (by omega) (by omega)]
  have h20 : Y2.2 20 = Y.2 20 := by rw [yo 20 (by decide) (by decide), m6 20 (by decide) (by decide) (by decide)]
  have h22 : Y2.2 22 = Y.2 22 := by rw [yo 22 (by decide) (by decide), m6 22 (by decide) (by decide) (by decide)]
  refine ⟨k1, by rw [k2 7 (by decide)]; exact r1, fun k => ?_, fun k => ?_, fun k => ?_, ?_, fun i hi => ?_, fun j hj => ?_, fun i r hi => ?_, fun i => ?_, fun i => ?_, fun k hk => ?_⟩
  · rw [k3, (rf 2 (by decide)).2, yo 2 (by decide) (by decide), m3]
  · rw [k4, (rf 3 (by decide)).2, yo 3 (by decide) (by decide), m4]
  · rw [k5, (rf 4 (by decide)).2, yo 4 (by decide) (by decide), m5]
  · rw [k6 20 (by decide) (by decide) (by decide), r2, h20]
  · rw [k6 20 (by decide) (by decide) (by decide), r3 i hi, h20]
  · rw [k6 8 (by decide) (by decide) (by decide), k6 9 (by decide) (by decide) (by decide), k6 10 (by decide) (by decide) (by decide), k6 11 (by decide) (by decide) (by decide)]
    have := r4 j hj
    rw [o2 8 (by decide) (by decide), o2 9 (by decide) (by decide), o2 10 (by decide) (by decide), o2 11 (by decide) (by decide)] at this
    exact this
  · rw [k6 8 (by decide) (by decide) (by decide), k6 9 (by decide) (by decide) (by decide), k6 10 (by decide) (by decide) (by decide), k6 11 (by decide) (by decide) (by decide)]
    have := r5 i r hi
    rw [h22] at this
    exact this
  · rw [k6 16 (by decide) (by decide) (by decide), (rf 16 (by decide)).2, y16, m6 16 (by decide) (by decide) (by decide)]
  · rw [k6 25 (by decide) (by decide) (by decide), (rf 25 (by decide)).2, y25, m6 25 (by decide) (by decide) (by decide)]
  · simp only [List.mem_cons, List.not_mem_nil, or_false, not_or] at hk
    obtain ⟨n1, n2, n3, n4, n7, n8, n9, n10, n11, n16, n20, n25⟩ := hk
    have he : k ∉ en_K := by
      unfold en_K
      simp only [List.mem_cons, List.not_mem_nil, or_false, not_or]
      exact ⟨n7, n8, n9, n10, n11, n20⟩
    exact ⟨by rw [k2 k n1, (rf k he).1, y1, m2 k n1], by rw [k6 k n2 n3 n4, (rf k he).2, yo k n16 n25, m6 k n2 n3 n4]⟩
