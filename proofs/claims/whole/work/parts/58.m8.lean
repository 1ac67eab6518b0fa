/-! ===== the reference: resolve ===== -/
theorem nI_m1 (s : Nat) : nI (s + 1) + Int32.ofInt (-1) = nI s := by
  rw [show Int32.ofInt (-1) = -1 from rfl, ← Int32.sub_eq_add_neg, nI_pred]
theorem nI_sub {a b : Nat} (h : a ≤ b) : nI b - nI a = nI (b - a) := by
  have q := nI_add (b - a) a
  rw [show b - a + a = b by omega] at q
  rw [← q, Int32.add_sub_cancel]
def um_m (b : Int32) : Nat → Nat → List Nat
  | 0, _ => []
  | m + 1, l => (if bit b l = 0 then [] else [2 * l]) ++ um_m b m (l + 1)
def rs_k (X : x_T) (e t v : Nat) : List Nat := v :: (if t = 0 then [] else um_m (X.2 23 (31 * e + v)) 16 0)
def rsl (X : x_T) (e : Nat) : Nat → Nat → List Nat
  | 0, v => if X.2 22 (31 * e + v) = -1 then [] else rs_k X e 0 v
  | t + 1, v => if X.2 22 (31 * e + v) = -1 then rsl X e t (v + 2 ^ t) ++ rsl X e t (v - 2 ^ t) else rs_k X e (t + 1) v
def q_RS (X : x_T) (L : List Nat) : Prop := X.1 48 = nI L.length ∧ ∀ i v, L[i]? = some v → X.2 49 i = nI v
theorem q_RS.app {X : x_T} {L : List Nat} (h : q_RS X L) (v : Nat) : q_RS (xi (xs X 49 L.length (nI v)) 48 (nI (L.length + 1))) (L ++ [v]) := by
  refine ⟨?_, fun i w hi => ?_⟩
  · rw [List.length_append]
    show upd X.1 48 (nI (L.length + 1)) 48 = nI (L.length + 1)
    exact if_pos rfl
  · show (xs X 49 L.length (nI v)).2 49 i = nI w
    rcases Nat.lt_or_ge i L.length with q | q
    · rw [List.getElem?_append_left q] at hi
      rw [xs_j (by omega)]
      exact h.2 i w hi
    · rw [List.getElem?_append_right q] at hi
      have h0 : i - L.length = 0 := by
        rcases Nat.lt_or_ge 0 (i - L.length) with z | z
        · rw [List.getElem?_eq_none (by show 1 ≤ _; omega)] at hi
          cases hi
        · omega
      rw [h0] at hi
      have hw : v = w := Option.some.inj hi
      rw [show i = L.length by omega, xs_s, hw]
theorem kid_ok : ∀ v, v < 31 → ∀ t, t < 4 → hgt v = t + 1 → 2 ^ t ≤ v ∧ v + 2 ^ t < 31 ∧ hgt (v + 2 ^ t) = t ∧ hgt (v - 2 ^ t) = t := by decide +kernel
def rs_K : List Nat := [48, 49, 50]
set_option maxHeartbeats 1000000 in
theorem c_Mo_resolve (g : q_G) {h : q_H} {o : Nat} {ba : Nat → Nat} {X : x_T} {e v0 : Nat} (d : Nat) (hd : 1 ≤ d) (he : e < 60) (hv0 : v0 < 31) (hb : (rsl X e (hgt v0) v0).length ≤ 32) (H : q_mo h o ba X) : MG g y_Mo_resolve b_Mo_resolve 7 none d 0 0 [.ref o, .int (nI e), .int (nI v0)] h (fun q h' => q = .inl none ∧ ∃ X', q_mo h' o ba X' ∧ xfr rs_K X X' ∧ q_RS X' (rsl X e (hgt v0) v0)) := by
  refine MG.of (by decide +kernel) (by simp [Value.category]) (Nat.le_of_ble_eq_true rfl) ?_
  intro Z A ok
  have keyed : ∀ (t v s : Nat) (h1 : q_H) (X1 : x_T) (L : List Nat) (x6 : Option Value), t ≤ 4 → v < 31 → q_mo h1 o ba X1 → xfr rs_K X X1 → q_RS X1 L → L.length + (rs_k X e t v).length ≤ 32 → (∀ (h2 : q_H) (X2 : x_T) (y4 y5 y6 : Option Value), q_mo h2 o ba X2 → xfr rs_K X X2 → q_RS X2 (L ++ rs_k X e t v) → (∀ i, i < s → X2.2 50 i = X1.2 50 i) → GW g Z A (fun q h' => q = .inl none ∧ ∃ X', q_mo h' o ba X' ∧ xfr rs_K X X' ∧ q_RS X' (rsl X e (hgt v0) v0)) 0 0 h2 14 [some (.ref o), some (.int (nI e)), some (.int (nI v0)), some (.int (nI (s))), y4, y5, y6] []) → GW g Z A (fun q h' => q = .inl none ∧ ∃ X', q_mo h' o ba X' ∧ xfr rs_K X X' ∧ q_RS X' (rsl X e (hgt v0) v0)) 0 0 h1 52 [some (.ref o), some (.int (nI e)), some (.int (nI v0)), some (.int (nI s)), some (.int (nI v)), some (.int (nI t)), x6] [] := by
    intro t v s h1 X1 L x6 ht4 hv31 H1 f1 hr hn kk
    obtain ⟨b, hb⟩ : ∃ b, X.2 23 (31 * e + v) = b := ⟨_, rfl⟩
    have inner : (∀ (h2 : q_H) (X2 : x_T) (y4 y5 y6 : Option Value), q_mo h2 o ba X2 → xfr rs_K X X2 → q_RS X2 (L ++ (v :: um_m b 16 0)) → (∀ i, i < s → X2.2 50 i = X1.2 50 i) → GW g Z A (fun q h' => q = .inl none ∧ ∃ X', q_mo h' o ba X' ∧ xfr rs_K X X' ∧ q_RS X' (rsl X e (hgt v0) v0)) 0 0 h2 14 [some (.ref o), some (.int (nI e)), some (.int (nI v0)), some (.int (nI (s))), y4, y5, y6] []) → 0 < t → ∀ (m l : Nat), l + m = 16 → ∀ (h2 : q_H) (X2 : x_T) (L2 : List Nat), q_mo h2 o ba X2 → xfr rs_K X X2 → q_RS X2 L2 → (∀ i, i < s → X2.2 50 i = X1.2 50 i) → L2.length + (um_m b m l).length ≤ 32 → L2 ++ um_m b m l = L ++ (v :: um_m b 16 0) → GW g Z A (fun q h' => q = .inl none ∧ ∃ X', q_mo h' o ba X' ∧ xfr rs_K X X' ∧ q_RS X' (rsl X e (hgt v0) v0)) 0 0 h2 76 [some (.ref o), some (.int (nI e)), some (.int (nI v0)), some (.int (nI s)), some (.int (nI v)), some (.int (nI t)), some (.int (nI l))] [] := by
      intro kk ht0 m
      induction m with
      | zero =>
        intro l hl h2 X2 L2 H2 f2 hr ho hn hv
        refine g_iload ok (dk m_Mo_resolve 45 rfl) (pc' := 78) rfl rfl ?_
        refine g_bipush ok (dk m_Mo_resolve 46 rfl) (pc' := 80) rfl (v := 16) (by decide) ?_
        refine g_icmp_ge ok (dk m_Mo_resolve 47 rfl) (tgt := 140) (by decide) (pc' := 83) rfl (fun c_80 => ?_) (fun c_80 => absurd (show nI 16 ≤ nI l from by rw [show l = 16 by omega]; exact Int32.le_refl _) c_80)
        refine g_goto ok (dk m_Mo_resolve 80 rfl) (pc' := 183) (by decide) ?_
        refine g_goto ok (dk m_Mo_resolve 108 rfl) (pc' := 14) (by decide) ?_
        exact kk _ _ _ _ _ H2 f2 (by rw [← hv, show um_m b 0 l = [] from rfl, List.append_nil]; exact hr) ho
      | succ m ih =>
        intro l hl h2 X2 L2 H2 f2 hr ho hn hv
        have hum : ¬ bit b l = 0 → um_m b (m + 1) l = [2 * l] ++ um_m b m (l + 1) := fun z => by rw [um_m, if_neg z]
        have hum2 : bit b l = 0 → um_m b (m + 1) l = um_m b m (l + 1) := fun z => by rw [um_m, if_pos z, List.nil_append]
        refine g_iload ok (dk m_Mo_resolve 45 rfl) (pc' := 78) rfl rfl ?_
        refine g_bipush ok (dk m_Mo_resolve 46 rfl) (pc' := 80) rfl (v := 16) (by decide) ?_
        refine g_icmp_ge ok (dk m_Mo_resolve 47 rfl) (tgt := 140) (by decide) (pc' := 83) rfl (fun c_80 => absurd c_80 (show ¬ nI 16 ≤ nI l from nI_ge (by omega) (by decide))) (fun c_80 => ?_)
        refine g_iload ok (dk m_Mo_resolve 48 rfl) (pc' := 85) rfl rfl ?_
        refine g_if_le ok (dk m_Mo_resolve 49 rfl) (tgt := 140) (by decide) (pc' := 88) rfl (fun c_85 => absurd c_85 (nI_nle ht0 (by omega))) (fun c_85 => ?_)
        refine g_aload_n ok (dk m_Mo_resolve 50 rfl) (pc' := 89) rfl (i := 0) rfl rfl ?_
        refine g_get ok (dk m_Mo_resolve 51 rfl) (pc' := 92) rfl f_Mo_68 H2.1 rfl ?_
        refine g_bipush ok (dk m_Mo_resolve 52 rfl) (pc' := 94) rfl (v := 31) (by decide) ?_
        refine g_iload_n ok (dk m_Mo_resolve 53 rfl) (pc' := 95) rfl (i := 1) rfl rfl ?_
        refine g_imul ok (dk m_Mo_resolve 54 rfl) (pc' := 96) rfl ?_
        refine g_iload ok (dk m_Mo_resolve 55 rfl) (pc' := 98) rfl rfl ?_
        refine g_iadd ok (dk m_Mo_resolve 56 rfl) (pc' := 99) rfl ?_
        refine g_ialdI ok (dk m_Mo_resolve 57 rfl) (pc' := 100) rfl (j := 31 * e + v) (H2.ar 23 rfl) (ix31 e v) (show 31 * e + v < 1860 by omega) (by decide) ?_
        refine g_top (w := .int b) (congrArg Value.int ((congrFun (f2 23 (by decide)).2 (31 * e + v)).trans hb)) ?_
        refine g_iload ok (dk m_Mo_resolve 58 rfl) (pc' := 102) rfl rfl ?_
        refine g_ishr ok (dk m_Mo_resolve 59 rfl) (pc' := 103) rfl ?_
        refine g_iconst ok (dk m_Mo_resolve 60 rfl) (pc' := 104) rfl (v := 1) (by decide) ?_
        refine g_iand ok (dk m_Mo_resolve 61 rfl) (pc' := 105) rfl ?_
        refine g_if_ne ok (dk m_Mo_resolve 62 rfl) (tgt := 111) (by decide) (pc' := 108) rfl (fun c_105 => ?_) (fun c_105 => ?_)
        · refine g_aload_n ok (dk m_Mo_resolve 64 rfl) (pc' := 112) rfl (i := 0) rfl rfl ?_
          refine g_get ok (dk m_Mo_resolve 65 rfl) (pc' := 115) rfl f_Mo_134 H2.1 rfl ?_
          refine g_aload_n ok (dk m_Mo_resolve 66 rfl) (pc' := 116) rfl (i := 0) rfl rfl ?_
          refine g_get ok (dk m_Mo_resolve 67 rfl) (pc' := 119) rfl f_Mo_176 H2.1 rfl ?_
          refine g_iconst ok (dk m_Mo_resolve 68 rfl) (pc' := 120) rfl (v := 2) (by decide) ?_
          refine g_iload ok (dk m_Mo_resolve 69 rfl) (pc' := 122) rfl rfl ?_
          refine g_imul ok (dk m_Mo_resolve 70 rfl) (pc' := 123) rfl ?_
          rw [ix2]
          refine g_iastI ok (dk m_Mo_resolve 71 rfl) (pc' := 124) rfl (j := L2.length) (H2.ar 49 rfl) hr.1 (show L2.length < 32 by rw [hum c_105] at hn; simp only [List.length_append, List.length_cons, List.length_nil] at hn; omega) (by decide) (fun z61 e61 => ?_)
          have Y61 := H2.ast 49 rfl e61
          clear e61
          refine g_aload_n ok (dk m_Mo_resolve 72 rfl) (pc' := 125) rfl (i := 0) rfl rfl ?_
          refine g_dup ok (dk m_Mo_resolve 73 rfl) (pc' := 126) rfl rfl ?_
          refine g_get ok (dk m_Mo_resolve 74 rfl) (pc' := 129) rfl f_Mo_176 Y61.1 rfl ?_
          refine g_iconst ok (dk m_Mo_resolve 75 rfl) (pc' := 130) rfl (v := 1) (by decide) ?_
          refine g_iadd ok (dk m_Mo_resolve 76 rfl) (pc' := 131) rfl ?_
          refine g_top (w := .int (nI (L2.length + 1))) (by show Value.int (X2.1 48 + 1) = _; rw [hr.1, nI_1]) ?_
          refine g_put ok (dk m_Mo_resolve 77 rfl) (pc' := 134) rfl f_Mo_176 (Or.inl rfl) Y61.1 (Nat.le_of_ble_eq_true rfl) rfl rfl ?_
          refine g_gen (fun z62 e62 => ?_)
          have Y62 := Y61.ipt 48 (by decide) e62
          clear e62
          refine g_iinc ok (dk m_Mo_resolve 78 rfl) (pc' := 137) rfl rfl (nI_1 l) rfl ?_
          refine g_goto ok (dk m_Mo_resolve 79 rfl) (pc' := 76) (by decide) ?_
          exact ih (l + 1) (by omega) _ _ (L2 ++ [2 * l]) Y62 ((f2.xs 49 _ _ (by decide)).xi 48 _ (by decide)) (hr.app (2 * l)) ho (by rw [hum c_105] at hn; simp only [List.length_append, List.length_cons, List.length_nil] at hn ⊢; omega) (by rw [← hv, hum c_105, List.append_assoc])
        · refine g_goto ok (dk m_Mo_resolve 63 rfl) (pc' := 134) (by decide) ?_
          refine g_iinc ok (dk m_Mo_resolve 78 rfl) (pc' := 137) rfl rfl (nI_1 l) rfl ?_
          refine g_goto ok (dk m_Mo_resolve 79 rfl) (pc' := 76) (by decide) ?_
          exact ih (l + 1) (by omega) _ _ L2 H2 f2 hr ho (by rw [hum2 c_105] at hn; exact hn) (by rw [← hv, hum2 c_105])
    refine g_aload_n ok (dk m_Mo_resolve 31 rfl) (pc' := 53) rfl (i := 0) rfl rfl ?_
    refine g_get ok (dk m_Mo_resolve 32 rfl) (pc' := 56) rfl f_Mo_134 H1.1 rfl ?_
    refine g_aload_n ok (dk m_Mo_resolve 33 rfl) (pc' := 57) rfl (i := 0) rfl rfl ?_
    refine g_get ok (dk m_Mo_resolve 34 rfl) (pc' := 60) rfl f_Mo_176 H1.1 rfl ?_
    refine g_iload ok (dk m_Mo_resolve 35 rfl) (pc' := 62) rfl rfl ?_
    refine g_iastI ok (dk m_Mo_resolve 36 rfl) (pc' := 63) rfl (j := L.length) (H1.ar 49 rfl) hr.1 (show L.length < 32 by have q : (rs_k X e t v).length ≥ 1 := Nat.succ_le_succ (Nat.zero_le _); omega) (by decide) (fun z31 e31 => ?_)
    have Y31 := H1.ast 49 rfl e31
    clear e31
    refine g_aload_n ok (dk m_Mo_resolve 37 rfl) (pc' := 64) rfl (i := 0) rfl rfl ?_
    refine g_dup ok (dk m_Mo_resolve 38 rfl) (pc' := 65) rfl rfl ?_
    refine g_get ok (dk m_Mo_resolve 39 rfl) (pc' := 68) rfl f_Mo_176 Y31.1 rfl ?_
    refine g_iconst ok (dk m_Mo_resolve 40 rfl) (pc' := 69) rfl (v := 1) (by decide) ?_
    refine g_iadd ok (dk m_Mo_resolve 41 rfl) (pc' := 70) rfl ?_
    refine g_top (w := .int (nI (L.length + 1))) (by show Value.int (X1.1 48 + 1) = _; rw [hr.1, nI_1]) ?_
    refine g_put ok (dk m_Mo_resolve 42 rfl) (pc' := 73) rfl f_Mo_176 (Or.inl rfl) Y31.1 (Nat.le_of_ble_eq_true rfl) rfl rfl ?_
    refine g_gen (fun z32 e32 => ?_)
    have Y32 := Y31.ipt 48 (by decide) e32
    clear e32
    refine g_iconst ok (dk m_Mo_resolve 43 rfl) (pc' := 74) rfl (v := 0) (by decide) ?_
    refine g_istore ok (dk m_Mo_resolve 44 rfl) (pc' := 76) rfl (Nat.le_of_ble_eq_true rfl) rfl ?_
    by_cases ht0 : t = 0
    · subst ht0
      refine g_iload ok (dk m_Mo_resolve 45 rfl) (pc' := 78) rfl rfl ?_
      refine g_bipush ok (dk m_Mo_resolve 46 rfl) (pc' := 80) rfl (v := 16) (by decide) ?_
      refine g_icmp_ge ok (dk m_Mo_resolve 47 rfl) (tgt := 140) (by decide) (pc' := 83) rfl (fun c_80 => absurd c_80 (show ¬ nI 16 ≤ nI 0 by decide)) (fun c_80 => ?_)
      refine g_iload ok (dk m_Mo_resolve 48 rfl) (pc' := 85) rfl rfl ?_
      refine g_if_le ok (dk m_Mo_resolve 49 rfl) (tgt := 140) (by decide) (pc' := 88) rfl (fun c_85 => ?_) (fun c_85 => absurd (show nI 0 ≤ 0 by decide) c_85)
      refine g_goto ok (dk m_Mo_resolve 80 rfl) (pc' := 183) (by decide) ?_
      refine g_goto ok (dk m_Mo_resolve 108 rfl) (pc' := 14) (by decide) ?_
      exact kk _ _ _ _ _ Y32 ((f1.xs 49 _ _ (by decide)).xi 48 _ (by decide)) (hr.app v) (fun i hi => rfl)
    · have ht0 : 0 < t := by omega
      have hk : rs_k X e t v = v :: um_m b 16 0 := by rw [rs_k, if_neg (by omega), hb]
      rw [hk] at hn kk
      exact inner kk ht0 16 0 (by omega) _ _ (L ++ [v]) Y32 ((f1.xs 49 _ _ (by decide)).xi 48 _ (by decide)) (hr.app v) (fun i hi => rfl) (by simp only [List.length_append, List.length_cons, List.length_nil] at hn ⊢; omega) (by rw [List.append_assoc]; rfl)
  have step : ∀ (t : Nat), t ≤ 4 → ∀ (v s : Nat) (h1 : q_H) (X1 : x_T) (L : List Nat) (x4 x5 x6 : Option Value), v < 31 → hgt v = t → s + t ≤ 4 → q_mo h1 o ba X1 → xfr rs_K X X1 → q_RS X1 L → X1.2 50 s = nI v → L.length + (rsl X e t v).length ≤ 32 → (∀ (h2 : q_H) (X2 : x_T) (y4 y5 y6 : Option Value), q_mo h2 o ba X2 → xfr rs_K X X2 → q_RS X2 (L ++ rsl X e t v) → (∀ i, i < s → X2.2 50 i = X1.2 50 i) → GW g Z A (fun q h' => q = .inl none ∧ ∃ X', q_mo h' o ba X' ∧ xfr rs_K X X' ∧ q_RS X' (rsl X e (hgt v0) v0)) 0 0 h2 14 [some (.ref o), some (.int (nI e)), some (.int (nI v0)), some (.int (nI (s))), y4, y5, y6] []) → GW g Z A (fun q h' => q = .inl none ∧ ∃ X', q_mo h' o ba X' ∧ xfr rs_K X X' ∧ q_RS X' (rsl X e (hgt v0) v0)) 0 0 h1 14 [some (.ref o), some (.int (nI e)), some (.int (nI v0)), some (.int (nI (s + 1))), x4, x5, x6] [] := by
    intro t
    induction t with
    | zero =>
      intro ht4 v s h1 X1 L x4 x5 x6 hv31 hgv hst H1 f1 hr hop hn kk
      have e22 : X1.2 22 = X.2 22 := (f1 22 (by decide)).2
      refine g_iload_n ok (dk m_Mo_resolve 10 rfl) (pc' := 15) rfl (i := 3) rfl rfl ?_
      refine g_if_le ok (dk m_Mo_resolve 11 rfl) (tgt := 186) (by decide) (pc' := 18) rfl (fun c_15 => absurd c_15 (nI_nle (by omega) (by omega))) (fun c_15 => ?_)
      refine g_iinc ok (dk m_Mo_resolve 12 rfl) (pc' := 21) rfl rfl (nI_m1 s) rfl ?_
      refine g_aload_n ok (dk m_Mo_resolve 13 rfl) (pc' := 22) rfl (i := 0) rfl rfl ?_
      refine g_get ok (dk m_Mo_resolve 14 rfl) (pc' := 25) rfl f_Mo_137 H1.1 rfl ?_
      refine g_iload_n ok (dk m_Mo_resolve 15 rfl) (pc' := 26) rfl (i := 3) rfl rfl ?_
      refine g_ialdI ok (dk m_Mo_resolve 16 rfl) (pc' := 27) rfl (j := s) (H1.ar 50 rfl) rfl (show s < 32 by omega) (by decide) ?_
      rw [hop]
      refine g_istore ok (dk m_Mo_resolve 17 rfl) (pc' := 29) rfl (Nat.le_of_ble_eq_true rfl) rfl ?_
      refine g_iload ok (dk m_Mo_resolve 18 rfl) (pc' := 31) rfl rfl ?_
      refine g_callS ok (dk m_Mo_resolve 19 rfl) (pc' := 34) rfl c_Mo_179 (c_Mo_height g (v := v) 0 hv31) rfl rfl (by simp [Value.category]) (by omega) rfl (rc' := 0) (rs' := 0) (by omega) (by omega) (fun rv h' hcc => ?_) (fun i h' hcc => by obtain ⟨e9, -⟩ := hcc; cases e9)
      obtain ⟨e9, e2⟩ := hcc
      have e3 := e2.symm
      subst e3
      cases e9
      rw [hgv]
      refine g_istore ok (dk m_Mo_resolve 20 rfl) (pc' := 36) rfl (Nat.le_of_ble_eq_true rfl) rfl ?_
      refine g_aload_n ok (dk m_Mo_resolve 21 rfl) (pc' := 37) rfl (i := 0) rfl rfl ?_
      refine g_get ok (dk m_Mo_resolve 22 rfl) (pc' := 40) rfl f_Mo_65 H1.1 rfl ?_
      refine g_bipush ok (dk m_Mo_resolve 23 rfl) (pc' := 42) rfl (v := 31) (by decide) ?_
      refine g_iload_n ok (dk m_Mo_resolve 24 rfl) (pc' := 43) rfl (i := 1) rfl rfl ?_
      refine g_imul ok (dk m_Mo_resolve 25 rfl) (pc' := 44) rfl ?_
      refine g_iload ok (dk m_Mo_resolve 26 rfl) (pc' := 46) rfl rfl ?_
      refine g_iadd ok (dk m_Mo_resolve 27 rfl) (pc' := 47) rfl ?_
      refine g_ialdI ok (dk m_Mo_resolve 28 rfl) (pc' := 48) rfl (j := 31 * e + v) (H1.ar 22 rfl) (ix31 e v) (show 31 * e + v < 1860 by omega) (by decide) ?_
      rw [e22]
      refine g_iconst ok (dk m_Mo_resolve 29 rfl) (pc' := 49) rfl (v := (-1)) (by decide) ?_
      refine g_icmp_eq ok (dk m_Mo_resolve 30 rfl) (tgt := 143) (by decide) (pc' := 52) rfl (fun c_49 => ?_) (fun c_49 => ?_)
      · refine g_iload ok (dk m_Mo_resolve 81 rfl) (pc' := 145) rfl rfl ?_
        refine g_if_le ok (dk m_Mo_resolve 82 rfl) (tgt := 183) (by decide) (pc' := 148) rfl (fun c_145 => ?_) (fun c_145 => absurd (show nI 0 ≤ 0 by decide) c_145)
        refine g_goto ok (dk m_Mo_resolve 108 rfl) (pc' := 14) (by decide) ?_
        exact kk _ _ _ _ _ H1 f1 (by rw [rsl, if_pos c_49, List.append_nil]; exact hr) (fun i hi => rfl)
      · exact keyed 0 v s _ X1 L _ (by decide) hv31 H1 f1 hr (by rw [rsl, if_neg c_49] at hn; exact hn) (by rw [rsl, if_neg c_49] at kk; exact kk)
    | succ t ih =>
      intro ht4 v s h1 X1 L x4 x5 x6 hv31 hgv hst H1 f1 hr hop hn kk
      have e22 : X1.2 22 = X.2 22 := (f1 22 (by decide)).2
      obtain ⟨hk1, hk2, hk3, hk4⟩ := kid_ok v hv31 t (by omega) hgv
      refine g_iload_n ok (dk m_Mo_resolve 10 rfl) (pc' := 15) rfl (i := 3) rfl rfl ?_
      refine g_if_le ok (dk m_Mo_resolve 11 rfl) (tgt := 186) (by decide) (pc' := 18) rfl (fun c_15 => absurd c_15 (nI_nle (by omega) (by omega))) (fun c_15 => ?_)
      refine g_iinc ok (dk m_Mo_resolve 12 rfl) (pc' := 21) rfl rfl (nI_m1 s) rfl ?_
      refine g_aload_n ok (dk m_Mo_resolve 13 rfl) (pc' := 22) rfl (i := 0) rfl rfl ?_
      refine g_get ok (dk m_Mo_resolve 14 rfl) (pc' := 25) rfl f_Mo_137 H1.1 rfl ?_
      refine g_iload_n ok (dk m_Mo_resolve 15 rfl) (pc' := 26) rfl (i := 3) rfl rfl ?_
      refine g_ialdI ok (dk m_Mo_resolve 16 rfl) (pc' := 27) rfl (j := s) (H1.ar 50 rfl) rfl (show s < 32 by omega) (by decide) ?_
      rw [hop]
      refine g_istore ok (dk m_Mo_resolve 17 rfl) (pc' := 29) rfl (Nat.le_of_ble_eq_true rfl) rfl ?_
      refine g_iload ok (dk m_Mo_resolve 18 rfl) (pc' := 31) rfl rfl ?_
      refine g_callS ok (dk m_Mo_resolve 19 rfl) (pc' := 34) rfl c_Mo_179 (c_Mo_height g (v := v) 0 hv31) rfl rfl (by simp [Value.category]) (by omega) rfl (rc' := 0) (rs' := 0) (by omega) (by omega) (fun rv h' hcc => ?_) (fun i h' hcc => by obtain ⟨e9, -⟩ := hcc; cases e9)
      obtain ⟨e9, e2⟩ := hcc
      have e3 := e2.symm
      subst e3
      cases e9
      rw [hgv]
      refine g_istore ok (dk m_Mo_resolve 20 rfl) (pc' := 36) rfl (Nat.le_of_ble_eq_true rfl) rfl ?_
      refine g_aload_n ok (dk m_Mo_resolve 21 rfl) (pc' := 37) rfl (i := 0) rfl rfl ?_
      refine g_get ok (dk m_Mo_resolve 22 rfl) (pc' := 40) rfl f_Mo_65 H1.1 rfl ?_
      refine g_bipush ok (dk m_Mo_resolve 23 rfl) (pc' := 42) rfl (v := 31) (by decide) ?_
      refine g_iload_n ok (dk m_Mo_resolve 24 rfl) (pc' := 43) rfl (i := 1) rfl rfl ?_
      refine g_imul ok (dk m_Mo_resolve 25 rfl) (pc' := 44) rfl ?_
      refine g_iload ok (dk m_Mo_resolve 26 rfl) (pc' := 46) rfl rfl ?_
      refine g_iadd ok (dk m_Mo_resolve 27 rfl) (pc' := 47) rfl ?_
      refine g_ialdI ok (dk m_Mo_resolve 28 rfl) (pc' := 48) rfl (j := 31 * e + v) (H1.ar 22 rfl) (ix31 e v) (show 31 * e + v < 1860 by omega) (by decide) ?_
      rw [e22]
      refine g_iconst ok (dk m_Mo_resolve 29 rfl) (pc' := 49) rfl (v := (-1)) (by decide) ?_
      refine g_icmp_eq ok (dk m_Mo_resolve 30 rfl) (tgt := 143) (by decide) (pc' := 52) rfl (fun c_49 => ?_) (fun c_49 => ?_)
      · refine g_iload ok (dk m_Mo_resolve 81 rfl) (pc' := 145) rfl rfl ?_
        refine g_if_le ok (dk m_Mo_resolve 82 rfl) (tgt := 183) (by decide) (pc' := 148) rfl (fun c_145 => absurd c_145 (nI_nle (by omega) (by omega))) (fun c_145 => ?_)
        refine g_aload_n ok (dk m_Mo_resolve 83 rfl) (pc' := 149) rfl (i := 0) rfl rfl ?_
        refine g_get ok (dk m_Mo_resolve 84 rfl) (pc' := 152) rfl f_Mo_137 H1.1 rfl ?_
        refine g_iload_n ok (dk m_Mo_resolve 85 rfl) (pc' := 153) rfl (i := 3) rfl rfl ?_
        refine g_iload ok (dk m_Mo_resolve 86 rfl) (pc' := 155) rfl rfl ?_
        refine g_iconst ok (dk m_Mo_resolve 87 rfl) (pc' := 156) rfl (v := 1) (by decide) ?_
        refine g_iload ok (dk m_Mo_resolve 88 rfl) (pc' := 158) rfl rfl ?_
        refine g_iconst ok (dk m_Mo_resolve 89 rfl) (pc' := 159) rfl (v := 1) (by decide) ?_
        refine g_isub ok (dk m_Mo_resolve 90 rfl) (pc' := 160) rfl ?_
        rw [nI_pred]
        refine g_ishl ok (dk m_Mo_resolve 91 rfl) (pc' := 161) rfl ?_
        rw [j_shl t (by omega)]
        refine g_isub ok (dk m_Mo_resolve 92 rfl) (pc' := 162) rfl ?_
        rw [nI_sub hk1]
        refine g_iastI ok (dk m_Mo_resolve 93 rfl) (pc' := 163) rfl (j := s) (H1.ar 50 rfl) rfl (show s < 32 by omega) (by decide) (fun z1 e1 => ?_)
        have Y1 := H1.ast 50 rfl e1
        clear e1
        refine g_aload_n ok (dk m_Mo_resolve 94 rfl) (pc' := 164) rfl (i := 0) rfl rfl ?_
        refine g_get ok (dk m_Mo_resolve 95 rfl) (pc' := 167) rfl f_Mo_137 Y1.1 rfl ?_
        refine g_iload_n ok (dk m_Mo_resolve 96 rfl) (pc' := 168) rfl (i := 3) rfl rfl ?_
        refine g_iconst ok (dk m_Mo_resolve 97 rfl) (pc' := 169) rfl (v := 1) (by decide) ?_
        refine g_iadd ok (dk m_Mo_resolve 98 rfl) (pc' := 170) rfl ?_
        refine g_iload ok (dk m_Mo_resolve 99 rfl) (pc' := 172) rfl rfl ?_
        refine g_iconst ok (dk m_Mo_resolve 100 rfl) (pc' := 173) rfl (v := 1) (by decide) ?_
        refine g_iload ok (dk m_Mo_resolve 101 rfl) (pc' := 175) rfl rfl ?_
        refine g_iconst ok (dk m_Mo_resolve 102 rfl) (pc' := 176) rfl (v := 1) (by decide) ?_
        refine g_isub ok (dk m_Mo_resolve 103 rfl) (pc' := 177) rfl ?_
        rw [nI_pred]
        refine g_ishl ok (dk m_Mo_resolve 104 rfl) (pc' := 178) rfl ?_
        rw [j_shl t (by omega)]
        refine g_iadd ok (dk m_Mo_resolve 105 rfl) (pc' := 179) rfl ?_
        rw [nI_add]
        refine g_iastI ok (dk m_Mo_resolve 106 rfl) (pc' := 180) rfl (j := (s + 1)) (Y1.ar 50 rfl) (nI_1 s) (show s + 1 < 32 by omega) (by decide) (fun z2 e2 => ?_)
        have Y2 := Y1.ast 50 rfl e2
        clear e2
        refine g_iinc ok (dk m_Mo_resolve 107 rfl) (pc' := 183) rfl rfl (nI_add s 2) rfl ?_
        refine g_goto ok (dk m_Mo_resolve 108 rfl) (pc' := 14) (by decide) ?_
        rw [rsl, if_pos c_49] at hn kk
        rw [List.length_append] at hn
        refine ih (by omega) (v + 2 ^ t) (s + 1) _ _ L _ _ _ hk2 hk3 (by omega) Y2 ((f1.xs 50 _ _ (by decide)).xs 50 _ _ (by decide)) ⟨hr.1, hr.2⟩ (xs_s _ _ _ _) (by omega) (fun h2 X2 y4 y5 y6 H2 f2 hr2 ho2 => ?_)
        refine ih (by omega) (v - 2 ^ t) s _ _ (L ++ rsl X e t (v + 2 ^ t)) _ _ _ (Nat.lt_of_le_of_lt (Nat.sub_le _ _) hv31) hk4 (by omega) H2 f2 hr2 (by
          rw [ho2 s (by omega), xs_j (by omega), xs_s]) (by rw [List.length_append]; omega) (fun h3 X3 z4 z5 z6 H3 f3 hr3 ho3 => ?_)
        refine kk _ _ _ _ _ H3 f3 (by rw [← List.append_assoc]; exact hr3) (fun i hi => ?_)
        rw [ho3 i hi, ho2 i (by omega), xs_j (by omega), xs_j (by omega)]
      · exact keyed (t + 1) v s _ X1 L _ (by omega) hv31 H1 f1 hr (by rw [rsl, if_neg c_49] at hn; exact hn) (by rw [rsl, if_neg c_49] at kk; exact kk)
  refine g_aload_n ok (dk m_Mo_resolve 0 rfl) (pc' := 1) rfl (i := 0) rfl rfl ?_
  refine g_iconst ok (dk m_Mo_resolve 1 rfl) (pc' := 2) rfl (v := 0) (by decide) ?_
  refine g_put ok (dk m_Mo_resolve 2 rfl) (pc' := 5) rfl f_Mo_176 (Or.inl rfl) H.1 (Nat.le_of_ble_eq_true rfl) rfl rfl ?_
  refine g_gen (fun z1 e1 => ?_)
  have Y1 := H.ipt 48 (by decide) e1
  clear e1
  refine g_iconst ok (dk m_Mo_resolve 3 rfl) (pc' := 6) rfl (v := 1) (by decide) ?_
  refine g_istore_n ok (dk m_Mo_resolve 4 rfl) (pc' := 7) rfl (i := 3) rfl (Nat.le_of_ble_eq_true rfl) rfl ?_
  refine g_aload_n ok (dk m_Mo_resolve 5 rfl) (pc' := 8) rfl (i := 0) rfl rfl ?_
  refine g_get ok (dk m_Mo_resolve 6 rfl) (pc' := 11) rfl f_Mo_137 Y1.1 rfl ?_
  refine g_iconst ok (dk m_Mo_resolve 7 rfl) (pc' := 12) rfl (v := 0) (by decide) ?_
  refine g_iload_n ok (dk m_Mo_resolve 8 rfl) (pc' := 13) rfl (i := 2) rfl rfl ?_
  refine g_iastI ok (dk m_Mo_resolve 9 rfl) (pc' := 14) rfl (j := 0) (Y1.ar 50 rfl) rfl (show 0 < 32 by omega) (by decide) (fun z2 e2 => ?_)
  have Y2 := Y1.ast 50 rfl e2
  clear e2
  refine step (hgt v0) (hgt_4 v0 hv0) v0 0 _ _ [] _ _ _ hv0 rfl (by have := hgt_4 v0 hv0; omega) Y2 ((xfr.rf.xi 48 _ (by decide)).xs 50 _ _ (by decide)) ⟨rfl, fun i v z => by cases z⟩ (xs_s _ _ _ _) (by rw [List.length_nil]; omega) (fun h2 X2 y4 y5 y6 H2 f2 hr2 ho2 => ?_)
  refine g_iload_n ok (dk m_Mo_resolve 10 rfl) (pc' := 15) rfl (i := 3) rfl rfl ?_
  refine g_if_le ok (dk m_Mo_resolve 11 rfl) (tgt := 186) (by decide) (pc' := 18) rfl (fun c_15 => ?_) (fun c_15 => absurd (show nI 0 ≤ 0 by decide) c_15)
  exact g_vret ok (dk m_Mo_resolve 109 rfl) rfl ⟨rfl, X2, H2, f2, hr2⟩
