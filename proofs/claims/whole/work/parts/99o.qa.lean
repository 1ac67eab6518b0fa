/-! ===== the pure part: the start ===== -/
theorem in_f_r (a : Nat) : ∀ (m k : Nat) (X : x_T), (∀ i, (in_f a m k X).2 a i = if k ≤ i ∧ i < k + m then -1 else X.2 a i) ∧ xfr [a] X (in_f a m k X) := by
  intro m
  induction m with
  | zero =>
    intro k X
    refine ⟨fun i => ?_, xfr.rf⟩
    rw [if_neg (by omega)]
    rfl
  | succ m ih =>
    intro k X
    unfold in_f
    obtain ⟨i1, i2⟩ := ih (k + 1) (xs X a k (-1))
    refine ⟨fun i => ?_, (xfr.rf.xs a _ _ (by simp)).tr i2⟩
    rw [i1 i]
    by_cases c : k + 1 ≤ i ∧ i < k + 1 + m
    · rw [if_pos c, if_pos (by omega)]
    · rw [if_neg c]
      by_cases d : i = k
      · subst d
        rw [xs_s, if_pos (by omega)]
      · rw [xs_j d, if_neg (by omega)]
theorem in_lv_r : ∀ (m k : Nat) (X : x_T), xfr lv_K X (in_lv m k X) ∧ (∀ i, k ≤ i → i < k + m → MEq (mo_lv X i) (in_lv m k X) i) ∧ ∀ i, (i < k ∨ k + m ≤ i) → MEq X (in_lv m k X) i := by
  intro m
  induction m with
  | zero => intro k X; exact ⟨xfr.rf, fun i h1 h2 => by omega, fun i _ => MEq.rf X i⟩
  | succ m ih =>
    intro k X
    unfold in_lv
    obtain ⟨i0, i1, i2⟩ := ih (k + 1) (mo_lv X k)
    obtain ⟨lv1, lv2, lv3⟩ := mo_lv_r X k
    have oth : ∀ i, i ≠ k → MEq X (mo_lv X k) i := fun i hi => ⟨fun q h1 h2 => lv2 i hi q h1 h2, fun v hv => lv3 i hi v hv⟩
    refine ⟨(mo_lv_f X k).tr i0, fun i h1 h2 => ?_, fun i hi => (oth i (by omega)).tr (i2 i (by omega))⟩
    by_cases y : i = k
    · subst y
      exact i2 i (by omega)
    · have hl := i1 i (by omega) (by omega)
      have o := oth i y
      obtain ⟨⟨a1, a2, a3, a4, a5, a6, a7⟩, -, -⟩ := mo_lv_r X i
      obtain ⟨⟨b1, b2, b3, b4, b5, b6, b7⟩, -, -⟩ := mo_lv_r (mo_lv X k) i
      refine MEq.tr ⟨fun q h1 h2 => ?_, fun v hv => by rw [a7 v hv, b7 v hv]⟩ hl
      have : q = 27 ∨ q = 28 ∨ q = 29 ∨ q = 30 ∨ q = 31 ∨ q = 32 := by omega
      rcases this with w | w | w | w | w | w
      · subst w; rw [a1, b1]
      · subst w; rw [a2, b2]
      · subst w; rw [a3, b3]
      · subst w; rw [a6, b6]; exact o.1 30 (by decide) (by decide)
      · subst w; rw [a4, b4]
      · subst w; rw [a5, b5]
theorem X_i1_g (A : x_T) (n1 n2 : Nat) (hn1 : n1 = 1860) (hn2 : n2 = 960) (h0 : ∀ k i, A.2 k i = 0) (h1 : A.1 1 = nI 1) (h1' : ∀ k, k ≠ 1 → A.1 k = 0) : ∃ W, in_f 26 n2 0 (in_f 22 n1 0 (in_lv 16 0 A)) = W ∧ (∀ i, i < 1860 → W.2 22 i = -1) ∧ (∀ i, i < 960 → W.2 26 i = -1) ∧ (∀ j, j < 16 → W.2 27 j = -1 ∧ W.2 28 j = -1 ∧ W.2 29 j = -1 ∧ W.2 30 j = 0 ∧ W.2 31 j = 0 ∧ W.2 32 j = 0 ∧ ∀ v, v < 31 → W.2 33 (31 * j + v) = -1) ∧ (∀ k, k ∉ [22, 26, 27, 28, 29, 31, 32, 33] → ∀ i, W.2 k i = 0) ∧ W.1 1 = nI 1 ∧ W.1 7 = 0 ∧ W.1 35 = 0 ∧ W.1 42 = 0 := by
  refine ⟨_, rfl, ?_⟩
  obtain ⟨l0, l1, -⟩ := in_lv_r 16 0 A
  generalize in_lv 16 0 A = B at l0 l1
  obtain ⟨f1, f2⟩ := in_f_r 22 n1 0 B
  generalize in_f 22 n1 0 B = C at f1 f2
  obtain ⟨g1, g2⟩ := in_f_r 26 n2 0 C
  generalize in_f 26 n2 0 C = E at g1 g2
  have r : ∀ k, k ≠ 22 → k ≠ 26 → E.2 k = B.2 k := fun k h2 h3 => (g2 k (by simpa using h3)).2.trans (f2 k (by simpa using h2)).2
  refine ⟨fun i hi => ?_, fun i hi => ?_, fun j hj => ?_, fun k hk i => ?_, ?_, ?_, ?_, ?_⟩
  · rw [(g2 22 (by decide)).2, f1 i, if_pos (by omega)]
  · rw [g1 i, if_pos (by omega)]
  · rw [r 27 (by decide) (by decide), r 28 (by decide) (by decide), r 29 (by decide) (by decide), r 30 (by decide) (by decide), r 31 (by decide) (by decide), r 32 (by decide) (by decide), r 33 (by decide) (by decide)]
    obtain ⟨m1, m2⟩ := l1 j (Nat.zero_le _) (by omega)
    obtain ⟨⟨a1, a2, a3, a4, a5, a6, a7⟩, -, -⟩ := mo_lv_r A j
    rw [m1 27 (by decide) (by decide), m1 28 (by decide) (by decide), m1 29 (by decide) (by decide), m1 30 (by decide) (by decide), m1 31 (by decide) (by decide), m1 32 (by decide) (by decide), a6]
    exact ⟨a1, a2, a3, h0 30 j, a4, a5, fun v hv => by rw [m2 v hv]; exact a7 v hv⟩
  · simp only [List.mem_cons, List.not_mem_nil, or_false, not_or] at hk
    obtain ⟨n1, n2, n3, n4, n5, n6, n7, n8⟩ := hk
    rw [r k n1 n2, (l0 k (by unfold lv_K; simp [n3, n4, n5, n6, n7, n8])).2]
    exact h0 k i
  · rw [(g2 1 (by decide)).1, (f2 1 (by decide)).1, (l0 1 (by decide)).1]
    exact h1
  · rw [(g2 7 (by decide)).1, (f2 7 (by decide)).1, (l0 7 (by decide)).1]
    exact h1' 7 (by decide)
  · rw [(g2 35 (by decide)).1, (f2 35 (by decide)).1, (l0 35 (by decide)).1]
    exact h1' 35 (by decide)
  · rw [(g2 42 (by decide)).1, (f2 42 (by decide)).1, (l0 42 (by decide)).1]
    exact h1' 42 (by decide)
theorem X_i1_r : ∃ W, X_i1 = W ∧ (∀ i, i < 1860 → W.2 22 i = -1) ∧ (∀ i, i < 960 → W.2 26 i = -1) ∧ (∀ j, j < 16 → W.2 27 j = -1 ∧ W.2 28 j = -1 ∧ W.2 29 j = -1 ∧ W.2 30 j = 0 ∧ W.2 31 j = 0 ∧ W.2 32 j = 0 ∧ ∀ v, v < 31 → W.2 33 (31 * j + v) = -1) ∧ (∀ k, k ∉ [22, 26, 27, 28, 29, 31, 32, 33] → ∀ i, W.2 k i = 0) ∧ W.1 1 = nI 1 ∧ W.1 7 = 0 ∧ W.1 35 = 0 ∧ W.1 42 = 0 := by
  have h0 : ∀ k i, (mk X_zero 0 0 0 0).2 k i = 0 := fun k i => by
    obtain ⟨-, -, k3, k4, k5, k6⟩ := mk_r X_zero 0 0 0 0
    by_cases c2 : k = 2
    · subst c2
      rw [k3]
      by_cases z : i = 0
      · rw [if_pos z]
      · rw [if_neg z]; rfl
    · by_cases c3 : k = 3
      · subst c3
        rw [k4]
        by_cases z : i = 0
        · rw [if_pos z]
        · rw [if_neg z]; rfl
      · by_cases c4 : k = 4
        · subst c4
          rw [k5]
          by_cases z : i = 0
          · rw [if_pos z]
          · rw [if_neg z]; rfl
        · rw [k6 k c2 c3 c4]; rfl
  have h1 : (mk X_zero 0 0 0 0).1 1 = nI 1 := rfl
  have h1' : ∀ k, k ≠ 1 → (mk X_zero 0 0 0 0).1 k = 0 := fun k hk => by
    rw [(mk_r X_zero 0 0 0 0).2.1 k hk]; rfl
  have e : X_i1 = in_f 26 960 0 (in_f 22 1860 0 (in_lv 16 0 (mk X_zero 0 0 0 0))) := by rw [X_i1, X_i0]
  rw [e]
  exact X_i1_g (mk X_zero 0 0 0 0) 1860 960 rfl rfl h0 h1 h1'
theorem SV_new : SV S_new 1 [] [] 0 := by
  refine ⟨⟨rfl, rfl, rfl, rfl⟩, ⟨Nat.le_refl _, by decide, by decide, Nat.le_refl _, List.nodup_nil⟩, fun x hx => ?_, fun i x z => by simp at z, fun j f w t z => by simp at z, fun f hf => ?_⟩
  · have e : S_new.1 0 = upd (r_fill 2200 (fun _ => 0) 0) 0 1 := by
      show r_put 2200 (r_fill 2200 (fun _ => 0) 0) (nI 0) 1 = _
      exact r_put_in (by decide) (by decide)
    rw [e]
    by_cases c : x = 0
    · subst c
      rw [upd_s, if_pos (Or.inl rfl)]
    · rw [upd_n c, if_neg (fun z => by
        rcases z with z | z
        · exact c z
        · cases z)]
      unfold r_fill
      rw [if_pos hx]
  · show r_fill 2200 (fun _ => 0) (-1) f = -1
    unfold r_fill
    rw [if_pos hf]
theorem R_new : R 0 G_new (X_i2 X_i1) := by
  classical
  obtain ⟨W, hW, w22, w26, wm, w0, w1, w7, w35, w42⟩ := X_i1_r
  rw [hW]
  clear hW
  -- the class's start
  obtain ⟨f1, f2⟩ := SV_new.fresh (by decide)
  obtain ⟨f3, f4⟩ := f2.fresh (by decide)
  have hse := T_seat_r (T := (E_new 0 (-1)).2.1) (l := 0) (m := (M_new (nI 0)).1 0) (k := (S_fresh (S_fresh S_new).2).1) (e := 0) (by decide) (by decide)
  have hgr : T_gr 0 (5 - (E_new 0 (-1)).2.1.2) (E_new 0 (-1)).2.1.2 = 0 := by decide
  rw [hgr] at hse
  have hE0 : ∀ i, E_1.1 i = upd (E_new 0 (-1)).1 2 (S_fresh S_new).1 i := fun i => rfl
  have hE2 : E_1.1 2 = nI 1 := by rw [hE0, upd_s]; exact f1
  have hET : E_1.2.1 = T_seat (E_new 0 (-1)).2.1 0 ((M_new (nI 0)).1 0) (S_fresh (S_fresh S_new).2).1 0 := rfl
  rw [← hET, f3] at hse
  obtain ⟨d1, d2, d3⟩ := hse
  have tn : ∀ v, v < 31 → (E_new 0 (-1)).2.1.1 0 v = -1 ∧ (E_new 0 (-1)).2.1.1 1 v = 0 ∧ (E_new 0 (-1)).2.1.1 2 v = -1 := fun v hv => ⟨if_pos hv, if_pos hv, if_pos hv⟩
  have tn3 : ∀ l, l < 16 → (E_new 0 (-1)).2.1.1 3 l = -1 := fun l hl => if_pos hl
  have k0 : ∀ v, v < 31 → E_1.2.1.1 0 v = if v = 0 then nI 2 else -1 := fun v hv => by
    rw [(d2 v hv).1, (tn v hv).1]
  have k1 : ∀ v, v < 31 → E_1.2.1.1 1 v = 0 := fun v hv => by
    rw [(d2 v hv).2.2, (tn v hv).2.1]
    by_cases c : v = 2 * 0
    · rw [if_pos c]
    · rw [if_neg c, if_neg (fun z => z.2.2 (tn v hv).1)]
  have k2 : ∀ v, v < 31 → E_1.2.1.1 2 v = if v = 0 then 0 else -1 := fun v hv => by
    rw [(d2 v hv).2.1, (tn v hv).2.2]
  have k3 : ∀ l, l < 16 → E_1.2.1.1 3 l = if l = 0 then 0 else -1 := fun l hl => by
    rw [d3 l hl, tn3 l hl]
    rfl
  have nb2 : ¬ nI 2 = -1 := nI_nm (by decide)
  have hTI : TI E_1.2.1 := by
    refine ⟨by rw [d1]; decide, fun v hv _ => k1 v hv, fun l hl z => ?_, fun v hv z => ?_, fun v hv z => ?_, fun v hv l hl z => ?_, fun l hl => k1 _ (by omega)⟩
    · rw [k0 _ (by omega)] at z
      rw [k3 l hl]
      by_cases c : l = 0
      · subst c
        rw [if_pos rfl] at z
        exact absurd z nb2
      · rw [if_neg c]
    · rw [k0 v hv] at z
      by_cases c : v = 0
      · subst c; rw [d1]; decide
      · rw [if_neg c] at z; exact absurd rfl z
    · rw [k0 v hv] at z
      by_cases c : v = 0
      · subst c
        exact ⟨0, by decide, by rw [k0 0 (by decide), if_pos rfl]; exact nb2, by decide⟩
      · rw [if_neg c] at z; exact absurd rfl z
    · rw [k1 v hv, bt_0] at z; cases z
  have hfk : ∀ v, v < 31 → FK E_1.2.1 0 v = if v = 0 then nI 2 else -1 := fun v hv => by
    unfold FK
    rw [k0 v hv, k1 v hv]
    by_cases c : v = 0
    · subst c
      rw [if_pos rfl, if_pos ⟨by decide, nb2, bt_0 0⟩]
    · rw [if_neg c]
      by_cases d : ab 0 v ∧ ¬ (-1 : Int32) = -1 ∧ bt 0 0 = false
      · exact absurd rfl d.2.1
      · rw [if_neg d]
  have hMe : M_enter (M_new (nI 0)) E_1 0 = M_lead (M_int (M_new (nI 0)) 3 (nI 0)) E_1 := rfl
  have ml := M_lead_r (M := M_int (M_new (nI 0)) 3 (nI 0)) (E := E_1) (l := 0) (by decide) (upd_s (M_new (nI 0)).1 3 (nI 0)) (by rw [d1]; decide)
  have hG : G_new = ((S_fresh (S_fresh S_new).2).2, r_fill 172 (fun _ => 0) (-1), va_up (fun i => M_new (nI i)) 0 (M_lead (M_int (M_new (nI 0)) 3 (nI 0)) E_1), (fun _ => (0, fun _ => 0)), (fun _ => (0, 0, 0, 0)), (fun _ => E_1), fun k => if k = 2 then 1 else 0) := rfl
  rw [hG]
  clear hG hMe hET
  generalize M_lead (M_int (M_new (nI 0)) 3 (nI 0)) E_1 = M0 at ml
  have hE3 : E_1.1 3 = 0 := rfl
  have hE : ∀ i, i ≠ 0 → i ≠ 1 → i ≠ 2 → E_1.1 i = 0 := fun i h0 h1 h2 => by
    rw [hE0, upd_n h2]
    show (if i = 0 then _ else if i = 1 then _ else if i = 2 then _ else (0 : Int32)) = 0
    rw [if_neg h0, if_neg h1, if_neg h2]
  have hE00 : E_1.1 0 = 0 := rfl
  have hE11 : E_1.1 1 = -1 := rfl
  generalize E_1 = E at *
  generalize (S_fresh (S_fresh S_new).2).2 = S at f4
  -- the reference's start
  have x22 : ∀ i, (X_i2 W).2 22 i = if i = 0 then nI 1 else W.2 22 i := fun i => rfl
  have x26 : ∀ i, (X_i2 W).2 26 i = if i = 0 then 0 else W.2 26 i := fun i => rfl
  have x27 : ∀ i, (X_i2 W).2 27 i = if i = 0 then 0 else W.2 27 i := fun i => rfl
  have x28 : ∀ i, (X_i2 W).2 28 i = if i = 0 then 0 else W.2 28 i := fun i => rfl
  have x29 : ∀ i, (X_i2 W).2 29 i = if i = 0 then nI 1 else W.2 29 i := fun i => rfl
  have x32 : ∀ i, (X_i2 W).2 32 i = if i = 0 then 1 else W.2 32 i := fun i => rfl
  have x14 : ∀ i, (X_i2 W).2 14 i = if i = 0 then nI 2 else W.2 14 i := fun i => rfl
  have x15 : ∀ i, (X_i2 W).2 15 i = if i = 0 then -1 else W.2 15 i := fun i => rfl
  have x2 : ∀ i, (X_i2 W).2 2 i = if i = 2 then 1 else if i = 1 then 1 else W.2 2 i := fun i => rfl
  have x3 : ∀ i, (X_i2 W).2 3 i = if i = 2 then 0 else if i = 1 then 0 else W.2 3 i := fun i => rfl
  have x4 : ∀ i, (X_i2 W).2 4 i = if i = 2 then 0 else if i = 1 then 0 else W.2 4 i := fun i => rfl
  have x33 : (X_i2 W).2 33 = W.2 33 := rfl
  have x30 : (X_i2 W).2 30 = W.2 30 := rfl
  have x31 : (X_i2 W).2 31 = W.2 31 := rfl
  have xz : ∀ k, k = 5 ∨ k = 13 ∨ 16 ≤ k ∧ k ≤ 21 ∨ 23 ≤ k ∧ k ≤ 24 ∨ k = 39 ∨ k = 41 → (X_i2 W).2 k = W.2 k := fun k hk => by
    rcases hk with z | z | ⟨z1, z2⟩ | ⟨z1, z2⟩ | z | z
    · subst z; rfl
    · subst z; rfl
    · have : k = 16 ∨ k = 17 ∨ k = 18 ∨ k = 19 ∨ k = 20 ∨ k = 21 := by omega
      rcases this with z | z | z | z | z | z <;> (subst z; rfl)
    · have : k = 23 ∨ k = 24 := by omega
      rcases this with z | z <;> (subst z; rfl)
    · subst z; rfl
    · subst z; rfl
  have xzero : ∀ k, k = 5 ∨ k = 13 ∨ 16 ≤ k ∧ k ≤ 21 ∨ 23 ≤ k ∧ k ≤ 24 ∨ k = 39 ∨ k = 41 → ∀ i, (X_i2 W).2 k i = 0 := fun k hk i => by
    rw [xz k hk]
    exact w0 k (by simp; omega) i
  have y1 : (X_i2 W).1 1 = nI 3 := rfl
  have y7 : (X_i2 W).1 7 = nI 0 := w7
  have y12 : (X_i2 W).1 12 = nI 1 := rfl
  have y35 : (X_i2 W).1 35 = nI 0 := w35
  have y42 : (X_i2 W).1 42 = nI 0 := w42
  generalize X_i2 W = X at *
  have s12 : sw (nI 1) = nI 2 := by decide
  have s21 : sw (nI 2) = nI 1 := by decide
  have tr0 : TR E.2.1 X 0 := by
    refine ⟨by rw [xzero 13 (by omega), d1]; rfl, fun v hv => ?_, fun l hl => ?_⟩
    · rw [k0 v hv, k1 v hv, k2 v hv, Nat.mul_zero, Nat.zero_add, x22, xzero 23 (by omega), xzero 24 (by omega)]
      by_cases c : v = 0
      · rw [if_pos c, if_pos c, if_pos c]
        exact ⟨s12.symm, rfl, fun z => absurd z nb2, fun _ => rfl⟩
      · rw [if_neg c, if_neg c, if_neg c, w22 v (by omega)]
        exact ⟨sw_m1.symm, rfl, fun _ => rfl, fun z => absurd rfl z⟩
    · rw [k3 l hl, Nat.mul_zero, Nat.zero_add, x26]
      by_cases c : l = 0
      · rw [if_pos c, if_pos c]
      · rw [if_neg c, if_neg c, w26 l (by omega)]
  refine ⟨by omega, 3, 0, [], [], fun x => if x = 2 then 4 else 0, fun _ => 3, ⟨⟨y12, Nat.le_refl 1, by show 1 ≤ 60; omega, y35, Nat.zero_le _, y42, Nat.zero_le _⟩, fun a ha => ?_, fun a ha ha2 => ?_⟩, fun a ha => ?_, ⟨fun j hj => ?_, fun j hj z => ?_⟩, ⟨fun k hk => ?_, fun k hk => ?_, fun k hk => ?_, fun k hk => ?_, fun k hk => ?_⟩, fun k hk => ?_, ⟨fun a ha => ?_, fun k hk => ?_, fun i hi u hu z k hk => ?_, fun k hk => ?_⟩, ?_⟩
  · have ha : a < 1 := ha
    have : a = 0 := by omega
    subst this
    show ER E X 0
    refine ⟨⟨tr0, hTI, fun l hl l' hl' z1 z2 => ?_⟩, ⟨hE00, by rw [hE11, x15, if_pos rfl], by rw [hE2, x14, if_pos rfl, s21], by rw [hE 3 (by decide) (by decide) (by decide), xzero 16 (by omega)], by rw [hE 4 (by decide) (by decide) (by decide), xzero 17 (by omega)], by rw [hE 5 (by decide) (by decide) (by decide), xzero 18 (by omega)], by rw [hE 6 (by decide) (by decide) (by decide), xzero 19 (by omega)], by rw [hE 7 (by decide) (by decide) (by decide), xzero 20 (by omega)]⟩, fun _ => xzero 16 (by omega) 0⟩
    rw [k3 l hl] at z1 z2
    rw [k3 l' hl'] at z2
    by_cases c : l = 0
    · by_cases c' : l' = 0
      · rw [c, c']
      · rw [if_pos c, if_neg c'] at z2
        exact absurd z2 (by decide)
    · rw [if_neg c] at z1
      exact absurd rfl z1
  · exact ⟨xzero 13 (by omega) a, xzero 16 (by omega) a, xzero 17 (by omega) a, xzero 18 (by omega) a, xzero 19 (by omega) a, xzero 20 (by omega) a⟩
  · have ha : a + 1 < 1 := ha
    omega
  · show MR (va_up (fun i => M_new (nI i)) 0 M0 j) X j (fun _ => E.2.1) 1
    obtain ⟨v1, v2, v3, v4, v5, v6, v7⟩ := wm j hj
    by_cases c : j = 0
    · subst c
      show MR M0 X 0 (fun _ => E.2.1) 1
      have o : ∀ i, M0.1 i = upd (upd (upd (upd (M_new (nI 0)).1 3 (nI 0)) 2 (E.1 0)) 4 1) 1 0 i := fun i => by rw [ml.1]; rfl
      have o2 : M0.1 2 = 0 := by rw [o, upd_n (by decide), upd_n (by decide), upd_s]; exact hE00
      have o3 : M0.1 3 = nI 0 := by rw [o, upd_n (by decide), upd_n (by decide), upd_n (by decide), upd_s]
      have o4 : M0.1 4 = 1 := by rw [o, upd_n (by decide), upd_s]
      have o1 : M0.1 1 = 0 := by rw [o, upd_s]
      have o0 : M0.1 0 = nI 0 := by rw [o, upd_n (by decide), upd_n (by decide), upd_n (by decide), upd_n (by decide)]; rfl
      have o5 : M0.1 5 = 0 := by rw [o, upd_n (by decide), upd_n (by decide), upd_n (by decide), upd_n (by decide)]; rfl
      have mk : ∀ v, v < 31 → M0.2 0 v = if v = 0 then nI 2 else -1 := fun v hv => by
        rw [ml.2.2 v hv, hE 3 (by decide) (by decide) (by decide), bt_0]
        rw [if_neg (fun z => by cases z.2.2)]
        by_cases c : v = 0
        · rw [if_pos (by omega), if_pos c, k0 _ (by omega), if_pos (by omega)]
        · have hv1 : (M_int (M_new (nI 0)) 3 (nI 0)).2 0 v = -1 := if_pos hv
          rw [if_neg (by omega), if_neg c, k0 v hv, if_neg c, hv1, if_pos (fun z => z.1 rfl)]
      refine ⟨⟨o0, by rw [o2, x27, if_pos rfl], by rw [o3, x28, if_pos rfl]; rfl, by rw [o4, x32, if_pos rfl], o5, by rw [x30]; exact v4⟩, ⟨0, by omega, o1, by rw [x31]; exact v5, fun k hk => by omega⟩, Or.inr ⟨0, 0, by omega, by omega, by rw [x27, if_pos rfl]; rfl, by rw [x28, if_pos rfl]; rfl, o4, ?_, ?_, ?_, fun v hv => ⟨?_, ?_⟩⟩⟩
      · show ¬ E.2.1.1 0 0 = -1
        rw [k0 0 (by decide), if_pos rfl]
        exact nb2
      · show E.2.1.1 3 0 = nI 0
        rw [k3 0 (by decide), if_pos rfl]
        rfl
      · show X.2 29 0 = sw (E.2.1.1 0 0)
        rw [k0 0 (by decide), if_pos rfl, x29, if_pos rfl, s21]
      · show M0.2 0 v = FK E.2.1 0 v
        rw [mk v hv, hfk v hv]
      · show X.2 33 (31 * 0 + v) = if 0 < hgt v then sw (FK E.2.1 0 v) else -1
        rw [x33, v7 v hv, hfk v hv]
        by_cases z : 0 < hgt v
        · have : ¬ v = 0 := fun y => by rw [y] at z; exact absurd z (by decide)
          rw [if_pos z, if_neg this, sw_m1]
        · rw [if_neg z]
    · have e : va_up (fun i => M_new (nI i)) 0 M0 j = M_new (nI j) := if_neg c
      rw [e]
      refine ⟨⟨rfl, by rw [x27, if_neg c, v1]; rfl, by rw [x28, if_neg c, v2]; rfl, by rw [x32, if_neg c, v6]; rfl, rfl, by rw [x30]; exact v4⟩, ⟨0, by omega, rfl, by rw [x31]; exact v5, fun k hk => by omega⟩, Or.inl ⟨by rw [x27, if_neg c]; exact v1, by rw [x28, if_neg c]; exact v2, rfl, rfl, by rw [x29, if_neg c]; exact v3, fun v hv => ⟨if_pos hv, by rw [x33]; exact v7 v hv⟩⟩⟩
  · obtain ⟨v1, v2, v3, v4, v5, -⟩ := wm j hj
    exact ⟨0, Nat.zero_le _, by rw [x31]; exact v5⟩
  · have hk : k < 0 := hk
    omega
  · have hk : k < 0 := hk
    omega
  · have hk : k < 0 := hk
    omega
  · exact ⟨xzero 39 (by omega) k, xzero 41 (by omega) k⟩
  · have hk : k < 0 := hk
    omega
  · have hk : k < 0 := hk
    omega
  · have ha : a < 1 := ha
    show (3 ≤ 3 ∧ 3 ≤ 3 ∧ (∀ b, b ≤ a → 3 ≤ 3) ∧ (∃ s, 1 ≤ s ∧ s < 3 ∧ E.1 2 = nI s ∧ (if s = 2 then 4 else 0) = 0) ∧ (∀ v, v < 31 → ∀ v', v' < 31 → ¬ E.2.1.1 0 v = -1 → E.2.1.1 0 v = E.2.1.1 0 v' → v = v') ∧ ∀ v, v < 31 → ¬ E.2.1.1 0 v = -1 → ∃ i, 1 ≤ i ∧ i < 3 ∧ E.2.1.1 0 v = nI i ∧ 2 ≤ (if i = 2 then 4 else 0) ∧ ((if i = 2 then 4 else 0) = 2 → ∃ k, k < 0 ∧ _))
    refine ⟨by omega, by omega, fun _ _ => by omega, ⟨1, by omega, by omega, hE2, rfl⟩, fun v hv v' hv' z1 z2 => ?_, fun v hv z => ?_⟩
    · rw [k0 v hv] at z1 z2
      rw [k0 v' hv'] at z2
      by_cases c : v = 0
      · by_cases c' : v' = 0
        · rw [c, c']
        · rw [if_pos c, if_neg c'] at z2
          exact absurd z2 nb2
      · rw [if_neg c] at z1
        exact absurd rfl z1
    · rw [k0 v hv] at z ⊢
      by_cases c : v = 0
      · rw [if_pos c]
        exact ⟨2, by omega, by omega, rfl, by decide, fun w => absurd w (by decide)⟩
      · rw [if_neg c] at z
        exact absurd rfl z
  · have hk : k < 0 := hk
    omega
  · have z : (va_up (fun i => M_new (nI i)) 0 M0 i).1 1 = nI u := z
    have h0 : (va_up (fun i => M_new (nI i)) 0 M0 i).1 1 = 0 := by
      by_cases c : i = 0
      · subst c
        show M0.1 1 = 0
        rw [ml.1, upd_s]
      · rw [show va_up (fun i => M_new (nI i)) 0 M0 i = M_new (nI i) from if_neg c]
        rfl
    rw [h0, show (0 : Int32) = nI 0 from rfl] at z
    have := nI_j (by omega) (by omega) z
    omega
  · have hk : k < 0 := hk
    omega
  · have i2 : ∀ k, k < 3 → X.2 2 k = (if k = 0 then 0 else 1) ∧ X.2 3 k = 0 ∧ X.2 4 k = 0 := fun k hk => by
      rw [x2, x3, x4]
      have : k = 0 ∨ k = 1 ∨ k = 2 := by omega
      rcases this with z | z | z
      · subst z
        rw [w0 2 (by decide), w0 3 (by decide), w0 4 (by decide)]
        exact ⟨rfl, rfl, rfl⟩
      · subst z; exact ⟨rfl, rfl, rfl⟩
      · subst z; exact ⟨rfl, rfl, rfl⟩
    have hIX : IX X 3 0 [] := by
      refine ⟨fun k hk => ?_, fun j hj => by omega, fun f w t hm => (by cases hm), by rw [(i2 0 (by omega)).1, if_pos rfl]⟩
      obtain ⟨a1, a2, a3⟩ := i2 k hk
      unfold IK
      rw [a1, a2, a3]
      by_cases c : k = 0
      · rw [if_pos c]
        exact ⟨fun _ => c, 0, 0, by omega, by omega, rfl, rfl, Or.inr rfl, fun z => absurd rfl z, fun z => absurd z (by decide)⟩
      · rw [if_neg c]
        exact ⟨fun z => absurd z (by decide), 0, 0, by omega, by omega, rfl, rfl, Or.inr rfl, fun _ z => absurd rfl z, fun z => absurd z (by decide)⟩
    refine ⟨⟨f4, fun f w t hm => (by cases hm), fun f w t hm => (by cases hm), hIX, y1, y7⟩, ⟨fun k hk z => absurd (xzero 5 (by omega) k) z, fun x hx => ?_, fun k hk => Or.inl (xzero 5 (by omega) k), fun k hk hk2 => xzero 5 (by omega) k⟩, ⟨by omega, by show 3 ≤ 3 + 13 * (1 - 1) + 2 * 0; omega, by show 0 ≤ _; omega, by omega⟩, fun k hk z => ?_⟩
    · have x0 : x = 0 := by
        rcases hx with z | z
        · exact z
        · cases z
      subst x0
      intro Q hQ
      exact hQ.2.1 0 (by omega) (Or.inl (by rw [(i2 0 (by omega)).1, if_pos rfl]))
    · rw [(i2 k hk).1] at z
      by_cases c : k = 0
      · rw [if_pos c] at z
        exact absurd z (by decide)
      · rw [if_neg c] at z
        exact absurd z (by decide)
