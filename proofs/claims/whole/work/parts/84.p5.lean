/-! ===== the pure part: the reference's removals, and shrinking ===== -/
/-- nothing changes but what is of the epoch e -/
def EO (e : Nat) (X X' : x_T) : Prop := (∀ k, 13 ≤ k → k ≤ 21 → ∀ i, i ≠ e → X'.2 k i = X.2 k i) ∧ (∀ k, 22 ≤ k → k ≤ 25 → ∀ i, (i < 31 * e ∨ 31 * e + 31 ≤ i) → X'.2 k i = X.2 k i) ∧ ∀ i, (i < 16 * e ∨ 16 * e + 16 ≤ i) → X'.2 26 i = X.2 26 i
theorem EO.rf {e : Nat} {X : x_T} : EO e X X := ⟨fun _ _ _ _ _ => rfl, fun _ _ _ _ _ => rfl, fun _ _ => rfl⟩
theorem EO.tr {e : Nat} {X Y W : x_T} (a : EO e X Y) (b : EO e Y W) : EO e X W := ⟨fun k h1 h2 i hi => (b.1 k h1 h2 i hi).trans (a.1 k h1 h2 i hi), fun k h1 h2 i hi => (b.2.1 k h1 h2 i hi).trans (a.2.1 k h1 h2 i hi), fun i hi => (b.2.2 i hi).trans (a.2.2 i hi)⟩
theorem EO.of {e : Nat} {K : List Nat} {X Y : x_T} (f : xfr K X Y) (hK : ∀ k, k ∈ K → k < 13 ∨ 26 < k) : EO e X Y := by
  have q : ∀ k, 13 ≤ k → k ≤ 26 → Y.2 k = X.2 k := fun k h1 h2 => (f k (fun z => by have := hK k z; omega)).2
  exact ⟨fun k h1 h2 i _ => by rw [q k h1 (by omega)], fun k h1 h2 i _ => by rw [q k (by omega) (by omega)], fun i _ => by rw [q 26 (by decide) (by decide)]⟩
theorem EO.xs1 {e : Nat} {X Y : x_T} (a : EO e X Y) (k : Nat) (v : Int32) (hk : k ≤ 21) : EO e X (xs Y k e v) := by
  refine a.tr ⟨fun k' h1 h2 i hi => ?_, fun k' h1 h2 i _ => ?_, fun i _ => ?_⟩
  · show va_up Y.2 k (upd (Y.2 k) e v) k' i = _
    unfold va_up
    by_cases c : k' = k
    · subst c
      rw [if_pos rfl, upd_n hi]
    · rw [if_neg c]
  · rw [xs_k (by omega)]
  · rw [xs_k (by omega)]
theorem EO.xs31 {e : Nat} {X Y : x_T} (a : EO e X Y) (k v : Nat) (x : Int32) (h1 : 22 ≤ k) (h2 : k ≤ 25) (hv : v < 31) : EO e X (xs Y k (31 * e + v) x) := by
  refine a.tr ⟨fun k' h1 h2 i hi => ?_, fun k' h1 h2 i hi => ?_, fun i _ => ?_⟩
  · rw [xs_k (by omega)]
  · show va_up Y.2 k (upd (Y.2 k) (31 * e + v) x) k' i = _
    unfold va_up
    by_cases c : k' = k
    · subst c
      rw [if_pos rfl, upd_n (by omega)]
    · rw [if_neg c]
  · rw [xs_k (by omega)]
theorem EO.xs16 {e : Nat} {X Y : x_T} (a : EO e X Y) (l : Nat) (x : Int32) (hl : l < 16) : EO e X (xs Y 26 (16 * e + l) x) := by
  refine a.tr ⟨fun k' h1 h2 i hi => ?_, fun k' h1 h2 i hi => ?_, fun i hi => ?_⟩
  · rw [xs_k (by omega)]
  · rw [xs_k (by omega)]
  · exact xs_j (by omega)
theorem EO.bl {e : Nat} {X Y : x_T} (a : EO e X Y) (v : Nat) (hv : v < 31) : EO e X (mo_bl Y e v) := (a.xs31 22 v _ (by decide) (by decide) hv).xs31 23 v _ (by decide) (by decide) hv
theorem EO.set {e : Nat} {X Y : x_T} (a : EO e X Y) (v : Nat) (x : Int32) (hv : v < 31) : EO e X (mo_set Y e v x) := ((a.xs31 22 v _ (by decide) (by decide) hv).xs31 23 v _ (by decide) (by decide) hv).xs31 24 v _ (by decide) (by decide) hv
theorem EO.bp {e l : Nat} (hl : l < 16) : ∀ (m k : Nat) (X Y : x_T), k + m ≤ 5 → EO e X Y → EO e X (mo_bp e l m k Y) := by
  intro m
  induction m with
  | zero => intro k X Y _ a; exact a
  | succ m ih =>
    intro k X Y hk a
    unfold mo_bp
    exact ih (k + 1) X _ (by omega) (a.bl _ (abv_ok l hl k (by omega)).2)
theorem TR.eo {T : tr_T} {X Y : x_T} {e a : Nat} (h : TR T X a) (f : EO e X Y) (ha : a ≠ e) : TR T Y a := by
  have h22 : ∀ k, 22 ≤ k → k ≤ 25 → ∀ v, v < 31 → Y.2 k (31 * a + v) = X.2 k (31 * a + v) := fun k h1 h2 v hv => f.2.1 k h1 h2 _ (by omega)
  refine ⟨by rw [f.1 13 (by decide) (by decide) a ha]; exact h.1, fun v hv => ?_, fun l hl => by rw [f.2.2 _ (by omega)]; exact h.2.2 l hl⟩
  rw [h22 22 (by decide) (by decide) v hv, h22 23 (by decide) (by decide) v hv, h22 24 (by decide) (by decide) v hv]
  exact h.2.1 v hv
/-- the leaves of P are gone, with their paths -/
def gone (P : Nat → Prop) (D v : Nat) : Prop := hgt v ≤ D ∧ ∃ l, l < 16 ∧ P l ∧ ab l v
def RX (X0 : x_T) (e D : Nat) (P : Nat → Prop) (X : x_T) : Prop := (∀ v, v < 31 → (gone P D v → X.2 22 (31 * e + v) = -1 ∧ X.2 23 (31 * e + v) = 0) ∧ (¬ gone P D v → X.2 22 (31 * e + v) = X0.2 22 (31 * e + v) ∧ X.2 23 (31 * e + v) = X0.2 23 (31 * e + v))) ∧ (∀ l, l < 16 → (P l → X.2 26 (16 * e + l) = -1) ∧ (¬ P l → X.2 26 (16 * e + l) = X0.2 26 (16 * e + l))) ∧ xfr [22, 23, 26] X0 X ∧ EO e X0 X
theorem RX.cg {X0 X : x_T} {e D : Nat} {P P' : Nat → Prop} (h : RX X0 e D P X) (hp : ∀ l, l < 16 → (P l ↔ P' l)) : RX X0 e D P' X := by
  have hg : ∀ v, gone P D v ↔ gone P' D v := fun v => ⟨fun ⟨a, l, hl, b, c⟩ => ⟨a, l, hl, (hp l hl).mp b, c⟩, fun ⟨a, l, hl, b, c⟩ => ⟨a, l, hl, (hp l hl).mpr b, c⟩⟩
  exact ⟨fun v hv => ⟨fun z => (h.1 v hv).1 ((hg v).mpr z), fun z => (h.1 v hv).2 (fun y => z ((hg v).mp y))⟩, fun l hl => ⟨fun z => (h.2.1 l hl).1 ((hp l hl).mpr z), fun z => (h.2.1 l hl).2 (fun y => z ((hp l hl).mp y))⟩, h.2.2⟩
theorem RX.add {X0 X : x_T} {e D l : Nat} {P : Nat → Prop} (h : RX X0 e D P X) (hl : l < 16) (hD : D ≤ 4) : RX X0 e D (fun i => P i ∨ i = l) (xs (mo_bp e l D 1 (mo_bl X e (2 * l))) 26 (16 * e + l) (-1)) := by
  obtain ⟨hv, ho, hf, hE⟩ := h
  have e0 : ∀ i, (mo_bl X e (2 * l)).2 22 i = if i = 31 * e + 2 * l then -1 else X.2 22 i := fun i => rfl
  have e1 : ∀ i, (mo_bl X e (2 * l)).2 23 i = if i = 31 * e + 2 * l then 0 else X.2 23 i := fun i => rfl
  have hp := (mo_bp_r e l hl D 1 (mo_bl X e (2 * l)) (by omega)).1
  have hg : ∀ v, gone (fun i => P i ∨ i = l) D v ↔ gone P D v ∨ (ab l v ∧ hgt v ≤ D) := fun v => by
    unfold gone
    constructor
    · rintro ⟨a, i, hi, b | b, c⟩
      · exact Or.inl ⟨a, i, hi, b, c⟩
      · subst b
        exact Or.inr ⟨c, a⟩
    · rintro (⟨a, i, hi, b, c⟩ | ⟨a, b⟩)
      · exact ⟨a, i, hi, Or.inl b, c⟩
      · exact ⟨b, l, hl, Or.inr rfl, a⟩
  refine ⟨fun v hv' => ?_, fun i hi => ?_, ?_, ?_⟩
  · rw [xs_k (by decide), xs_k (by decide), (hp v hv').1, (hp v hv').2, e0, e1]
    have hc : (31 * e + v = 31 * e + 2 * l) ↔ (ab l v ∧ hgt v = 0) := by
      rw [← abv_iff hl (by decide)]
      unfold abv
      omega
    by_cases c1 : ab l v ∧ 1 ≤ hgt v ∧ hgt v < 1 + D
    · rw [if_pos c1, if_pos c1]
      exact ⟨fun _ => ⟨rfl, rfl⟩, fun z => absurd ((hg v).mpr (Or.inr ⟨c1.1, by omega⟩)) z⟩
    · rw [if_neg c1, if_neg c1]
      by_cases c2 : 31 * e + v = 31 * e + 2 * l
      · rw [if_pos c2, if_pos c2]
        have := hc.mp c2
        exact ⟨fun _ => ⟨rfl, rfl⟩, fun z => absurd ((hg v).mpr (Or.inr ⟨this.1, by omega⟩)) z⟩
      · rw [if_neg c2, if_neg c2]
        have c3 : ¬ (ab l v ∧ hgt v ≤ D) := fun z => by
          by_cases y : hgt v = 0
          · exact c2 (hc.mpr ⟨z.1, y⟩)
          · exact c1 ⟨z.1, by omega, by omega⟩
        exact ⟨fun z => (hv v hv').1 (((hg v).mp z).resolve_right c3), fun z => (hv v hv').2 (fun y => z ((hg v).mpr (Or.inl y)))⟩
  · have h26 : (mo_bp e l D 1 (mo_bl X e (2 * l))).2 26 = X.2 26 := ((mo_bp_f e l D 1 _) 26 (by decide)).2.trans ((mo_bl_f X e (2 * l)) 26 (by decide)).2
    by_cases c : i = l
    · subst c
      rw [xs_s]
      exact ⟨fun _ => rfl, fun z => absurd (Or.inr rfl) z⟩
    · rw [xs_j (by omega), h26]
      exact ⟨fun z => (ho i hi).1 (z.resolve_right c), fun z => (ho i hi).2 (fun y => z (Or.inl y))⟩
  · exact ((hf.tr ((mo_bl_f X e (2 * l)).wk (by decide))).tr ((mo_bp_f e l D 1 _).wk (by decide))).xs 26 _ _ (by decide)
  · exact (EO.bp hl D 1 X0 _ (by omega) (hE.bl (2 * l) (by omega))).xs16 l _ hl
theorem dr_m_r {X0 : x_T} {e D : Nat} {b : Int32} (hD : D ≤ 4) : ∀ (m l : Nat) (X : x_T), l + m = 16 → RX X0 e D (fun i => i < l ∧ bt b i = true) X → RX X0 e D (fun i => bt b i = true) (dr_m e D b m l X) := by
  intro m
  induction m with
  | zero =>
    intro l X hl h
    exact h.cg (fun i hi => ⟨fun z => z.2, fun z => ⟨by omega, z⟩⟩)
  | succ m ih =>
    intro l X hl h
    unfold dr_m
    refine ih (l + 1) _ (by omega) ?_
    by_cases c : bit b l = 0
    · rw [if_pos c]
      have c2 := (bit_eq0 (by omega)).mp c
      refine h.cg (fun i hi => ⟨fun z => ⟨by omega, z.2⟩, fun z => ⟨?_, z.2⟩⟩)
      rcases Nat.lt_or_ge i l with y | y
      · exact y
      · rw [show i = l by omega, c2] at z
        cases z.2
    · rw [if_neg c]
      have c2 := (bit_ne (by omega)).mp c
      refine (h.add (by omega) hD).cg (fun i hi => ⟨fun z => ?_, fun z => ?_⟩)
      · rcases z with z | z
        · exact ⟨by omega, z.2⟩
        · subst z
          exact ⟨by omega, c2⟩
      · rcases Nat.lt_or_ge i l with y | y
        · exact Or.inl ⟨y, z.2⟩
        · exact Or.inr (by omega)
theorem rem_TR {T0 T : tr_T} {X0 : x_T} {e : Nat} {b : Int32} (h0 : TR T0 X0 e) (hD : T0.2 ≤ 4) (hR : RM T0 b T) : TR T (dr_m e T0.2 b 16 0 X0) e ∧ EO e X0 (dr_m e T0.2 b 16 0 X0) := by
  have hX := dr_m_r (X0 := X0) (e := e) (b := b) hD 16 0 X0 rfl ⟨fun v hv => ⟨fun ⟨_, l, _, z, _⟩ => by omega, fun _ => ⟨rfl, rfl⟩⟩, fun l hl => ⟨fun z => by omega, fun _ => rfl⟩, xfr.rf, EO.rf⟩
  generalize dr_m e T0.2 b 16 0 X0 = Y at hX ⊢
  obtain ⟨x1, x2, x3, x4⟩ := hX
  obtain ⟨r1, r2, r3⟩ := hR
  refine ⟨⟨?_, fun v hv => ?_, fun l hl => ?_⟩, x4⟩
  · rw [(x3 13 (by decide)).2, r1]
    exact h0.1
  · obtain ⟨a1, a2, a3, a4⟩ := h0.2.1 v hv
    rw [(x3 24 (by decide)).2]
    by_cases c : rb b T0.2 v
    · obtain ⟨b1, b2, b3⟩ := (r2 v hv).1 c
      obtain ⟨c1, c2⟩ := (x1 v hv).1 c
      rw [b1, b2, b3, c1, c2]
      exact ⟨sw_m1.symm, rfl, fun _ => rfl, fun z => absurd rfl z⟩
    · obtain ⟨b1, b2, b3⟩ := (r2 v hv).2 c
      obtain ⟨c1, c2⟩ := (x1 v hv).2 c
      rw [b1, b2, b3, c1, c2]
      exact ⟨a1, a2, a3, a4⟩
  · cases c : bt b l with
    | true => rw [(r3 l hl).1 c, (x2 l hl).1 c]
    | false =>
      rw [(r3 l hl).2 c, (x2 l hl).2 (fun z => by
        have z : bt b l = true := z
        rw [c] at z
        cases z)]
      exact h0.2.2 l hl
/-- what a shrinking leaves -/
def SH (T T' : tr_T) : Prop := (∀ v, v < 31 → T'.1 0 v = -1 ∨ (T'.1 0 v = T.1 0 v ∧ T'.1 1 v = T.1 1 v)) ∧ (∀ l, l < 16 → T'.1 0 (2 * l) = T.1 0 (2 * l)) ∧ T'.1 3 = T.1 3
theorem SH.rf (T : tr_T) : SH T T := ⟨fun _ _ => Or.inr ⟨rfl, rfl⟩, fun _ _ => rfl, rfl⟩
theorem SH.tr {T U W : tr_T} (a : SH T U) (b : SH U W) : SH T W := ⟨fun v hv => by
  rcases b.1 v hv with z | ⟨z1, z2⟩
  · exact Or.inl z
  · rcases a.1 v hv with y | ⟨y1, y2⟩
    · exact Or.inl (z1.trans y)
    · exact Or.inr ⟨z1.trans y1, z2.trans y2⟩, fun l hl => (b.2.1 l hl).trans (a.2.1 l hl), b.2.2.trans a.2.2⟩
theorem dr_v_r (e : Nat) : ∀ (m w : Nat) (X : x_T), (∀ v, v < 31 → (dr_v e m w X).2 22 (31 * e + v) = (if w ≤ v ∧ v < w + m then -1 else X.2 22 (31 * e + v)) ∧ (dr_v e m w X).2 23 (31 * e + v) = (if w ≤ v ∧ v < w + m then 0 else X.2 23 (31 * e + v))) ∧ (w + m ≤ 31 → EO e X (dr_v e m w X)) := by
  intro m
  induction m with
  | zero =>
    intro w X
    refine ⟨fun v hv => ?_, fun _ => EO.rf⟩
    rw [if_neg (by omega), if_neg (by omega)]
    exact ⟨rfl, rfl⟩
  | succ m ih =>
    intro w X
    obtain ⟨i1, i2⟩ := ih (w + 1) (mo_bl X e w)
    have e0 : ∀ i, (mo_bl X e w).2 22 i = if i = 31 * e + w then -1 else X.2 22 i := fun i => rfl
    have e1 : ∀ i, (mo_bl X e w).2 23 i = if i = 31 * e + w then 0 else X.2 23 i := fun i => rfl
    unfold dr_v
    refine ⟨fun v hv => ?_, fun hw => ?_⟩
    · rw [(i1 v hv).1, (i1 v hv).2, e0, e1]
      by_cases c1 : w + 1 ≤ v ∧ v < w + 1 + m
      · rw [if_pos c1, if_pos c1, if_pos (by omega), if_pos (by omega)]
        exact ⟨rfl, rfl⟩
      · rw [if_neg c1, if_neg c1]
        by_cases c2 : v = w
        · rw [if_pos (by omega), if_pos (by omega), if_pos (by omega), if_pos (by omega)]
          exact ⟨rfl, rfl⟩
        · rw [if_neg (by omega), if_neg (by omega), if_neg (by omega), if_neg (by omega)]
          exact ⟨rfl, rfl⟩
    · exact (EO.rf.bl w (by omega)).tr (i2 (by omega))
theorem right_leaf : ∀ D, D < 4 → ∀ v, v < 31 → ∀ l, l < 16 → (2 ^ (D + 1) - 1 < v ∧ v < 2 ^ (D + 2) - 1 ∧ ab l v) → 2 ^ D ≤ l ∧ l < 2 ^ (D + 1) := by decide +kernel
theorem w_odd : ∀ D, D < 4 → ∀ l, l < 16 → 2 * l ≠ 2 ^ (D + 1) - 1 := by decide +kernel
theorem shr_sim {e : Nat} : ∀ (D : Nat) (X : x_T) (T : tr_T) (m : Nat), T.2 = D → D ≤ m → TR T X e → TI T → TR (T_shr m T) (dr_s e D X) e ∧ TI (T_shr m T) ∧ SH T (T_shr m T) ∧ EO e X (dr_s e D X) := by
  classical
  intro D
  induction D with
  | zero =>
    intro X T m hD _ hR hI
    have : T_shr m T = T := by
      cases m with
      | zero => rfl
      | succ m =>
        unfold T_shr
        rw [if_neg (fun z => by omega)]
    rw [this]
    exact ⟨hR, hI, SH.rf T, EO.rf⟩
  | succ D ih =>
    intro X T m hD hm hR hI
    have hI' := hI
    obtain ⟨t1, t2, t3, t4, t5, t6, t7⟩ := hI
    obtain ⟨m, rfl⟩ : ∃ k, m = k + 1 := ⟨m - 1, by omega⟩
    have hp : 2 ^ (D + 1) ≤ 16 := p2_le (by omega)
    have hw31 : 2 ^ (D + 1) - 1 < 31 := by omega
    have hiff : T_rhb T ↔ dr_r X e (D + 1) := by
      unfold T_rhb dr_r
      rw [hD]
      refine forall_congr' fun j => forall_congr' fun h1 => forall_congr' fun h2 => ?_
      have hj : j < 16 := by omega
      have ha := abv_ok j hj 0 (by decide)
      rw [show (0 : Int32) = nI 0 from rfl, ha.1, T_isB_n ha.2, show abv j 0 = 2 * j from by unfold abv; omega, (hR.2.1 (2 * j) (by omega)).1, sw_n1]
    unfold T_shr dr_s
    by_cases c : dr_r X e (D + 1)
    · have c' := hiff.mpr c
      rw [if_pos c, if_pos ⟨by omega, c'⟩, hD]
      have hleaf : ∀ l, 2 ^ D ≤ l → l < 2 ^ (D + 1) → T.1 0 (2 * l) = -1 := fun l h1 h2 => by
        have := c l (by simpa using h1) h2
        rw [(hR.2.1 (2 * l) (by omega)).1, this, sw_m1]
      have hout : ∀ v, v < 31 → 2 ^ (D + 1) - 1 < v → T.1 0 v = -1 := fun v hv hgt => Classical.byContradiction fun hk => by
        have h4 := t4 v hv hk
        rw [hD] at h4
        obtain ⟨l, hl, g1, g2⟩ := t5 v hv hk
        have g3 := right_leaf D (by omega) v hv l hl ⟨hgt, h4, g2⟩
        exact g1 (hleaf l g3.1 g3.2)
      have hb0 : ∀ v, (T_blank T (nI (2 ^ (D + 1) - 1))).1 0 v = if v = 2 ^ (D + 1) - 1 then -1 else T.1 0 v := fun v => T_give_0 hw31 v
      have hb1 : ∀ v, (T_blank T (nI (2 ^ (D + 1) - 1))).1 1 v = if v = 2 ^ (D + 1) - 1 then 0 else T.1 1 v := fun v => T_give_1 hw31 v
      have hb2 : ∀ v, (T_blank T (nI (2 ^ (D + 1) - 1))).1 2 v = if v = 2 ^ (D + 1) - 1 then -1 else T.1 2 v := fun v => T_give_2 hw31 v
      have hb3 : (T_blank T (nI (2 ^ (D + 1) - 1))).1 3 = T.1 3 := rfl
      have hodd := w_odd D (by omega)
      have hv := dr_v_r e (31 - (2 ^ (D + 1) - 1)) (2 ^ (D + 1) - 1) (xs X 13 e (nI D))
      have hvf := dr_v_f e (31 - (2 ^ (D + 1) - 1)) (2 ^ (D + 1) - 1) (xs X 13 e (nI D))
      have hEO : EO e X (dr_v e (31 - (2 ^ (D + 1) - 1)) (2 ^ (D + 1) - 1) (xs X 13 e (nI D))) := (EO.rf.xs1 13 (nI D) (by decide)).tr (hv.2 (by omega))
      have hv1 := hv.1
      generalize (T_blank T (nI (2 ^ (D + 1) - 1))).1 = B at hb0 hb1 hb2 hb3 ⊢
      generalize dr_v e (31 - (2 ^ (D + 1) - 1)) (2 ^ (D + 1) - 1) (xs X 13 e (nI D)) = Y at hv1 hvf hEO ⊢
      have hR1 : TR (B, D) Y e := by
        refine ⟨?_, fun v hv' => ?_, fun l hl => ?_⟩
        · rw [(hvf 13 (by decide)).2, xs_s]
        · obtain ⟨a1, a2, a3, a4⟩ := hR.2.1 v hv'
          show B 0 v = _ ∧ B 1 v = _ ∧ (B 0 v = -1 → B 2 v = -1) ∧ (¬ B 0 v = -1 → B 2 v = _)
          rw [(hv1 v hv').1, (hv1 v hv').2, (hvf 24 (by decide)).2, xs_k (by decide), xs_k (by decide), xs_k (by decide), hb0, hb1, hb2]
          by_cases q : v = 2 ^ (D + 1) - 1
          · rw [if_pos q, if_pos q, if_pos q, if_pos (by omega), if_pos (by omega)]
            exact ⟨sw_m1.symm, rfl, fun _ => rfl, fun z => absurd rfl z⟩
          · rw [if_neg q, if_neg q, if_neg q]
            by_cases q2 : 2 ^ (D + 1) - 1 < v
            · rw [if_pos (by omega), if_pos (by omega), hout v hv' q2, t2 v hv' (hout v hv' q2)]
              exact ⟨sw_m1.symm, rfl, fun _ => a3 (hout v hv' q2), fun z => absurd rfl z⟩
            · rw [if_neg (by omega), if_neg (by omega)]
              exact ⟨a1, a2, a3, a4⟩
        · show B 3 l = _
          rw [hb3, (hvf 26 (by decide)).2, xs_k (by decide)]
          exact hR.2.2 l hl
      have hk : ∀ v, v < 31 → ¬ B 0 v = -1 → ¬ T.1 0 v = -1 ∧ v < 2 ^ (D + 1) - 1 := fun v hv' h => by
        rw [hb0] at h
        by_cases q : v = 2 ^ (D + 1) - 1
        · rw [if_pos q] at h
          exact absurd rfl h
        · rw [if_neg q] at h
          refine ⟨h, ?_⟩
          rcases Nat.lt_trichotomy v (2 ^ (D + 1) - 1) with z | z | z
          · exact z
          · exact absurd z q
          · exact absurd (hout v hv' z) h
      have hl0 : ∀ l, l < 16 → B 0 (2 * l) = T.1 0 (2 * l) := fun l hl => by rw [hb0, if_neg (hodd l hl)]
      have hI1 : TI (B, D) := by
        refine ⟨by show D ≤ 4; omega, fun v hv' h => ?_, fun l hl h => ?_, fun v hv' h => (hk v hv' h).2, fun v hv' h => ?_, fun v hv' l hl h => ?_, fun l hl => ?_⟩
        · show B 1 v = 0
          have h : B 0 v = -1 := h
          rw [hb1]
          rw [hb0] at h
          by_cases q : v = 2 ^ (D + 1) - 1
          · rw [if_pos q]
          · rw [if_neg q] at h ⊢
            exact t2 v hv' h
        · show B 3 l = -1
          have h : B 0 (2 * l) = -1 := h
          rw [hl0 l hl] at h
          rw [hb3]
          exact t3 l hl h
        · obtain ⟨l, hl, g1, g2⟩ := t5 v hv' (hk v hv' h).1
          exact ⟨l, hl, by show ¬ B 0 (2 * l) = -1; rw [hl0 l hl]; exact g1, g2⟩
        · have h : bt (B 1 v) l = true := h
          show ab l v ∧ ¬ B 0 (2 * l) = -1
          rw [hl0 l hl]
          rw [hb1] at h
          by_cases q : v = 2 ^ (D + 1) - 1
          · rw [if_pos q, bt_0] at h
            cases h
          · rw [if_neg q] at h
            exact t6 v hv' l hl h
        · show B 1 (2 * l) = 0
          rw [hb1, if_neg (hodd l hl)]
          exact t7 l hl
      have hS1 : SH T (B, D) := ⟨fun v hv' => by
        show B 0 v = -1 ∨ (B 0 v = _ ∧ B 1 v = _)
        rw [hb0, hb1]
        by_cases q : v = 2 ^ (D + 1) - 1
        · rw [if_pos q]
          exact Or.inl rfl
        · rw [if_neg q, if_neg q]
          exact Or.inr ⟨rfl, rfl⟩, hl0, hb3⟩
      obtain ⟨r1, r2, r3, r4⟩ := ih Y (B, D) m rfl (by omega) hR1 hI1
      exact ⟨r1, r2, hS1.tr r3, hEO.tr r4⟩
    · rw [if_neg c, if_neg (fun z => c (hiff.mp z.2))]
      exact ⟨hR, hI', SH.rf T, EO.rf⟩
