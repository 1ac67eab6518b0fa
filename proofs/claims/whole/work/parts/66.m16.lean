/-! ===== the reference: come ===== -/
theorem nb_ok (X : x_T) (mm : Nat) : ∀ (m k : Nat) (b : Option Nat), (∀ q, b = some q → q < k + m ∧ nb_1 X mm q none) → ∀ q, nb_m X mm m k b = some q → q < k + m ∧ nb_1 X mm q none := by
  intro m
  induction m with
  | zero => intro k b hb q hq; exact hb q hq
  | succ m ih =>
    intro k b hb q hq
    rw [nb_m] at hq
    have q2 := ih (k + 1) _ (fun r hr => by
      split at hr
      · rename_i h1
        have e : k = r := Option.some.inj hr
        subst e
        exact ⟨by omega, h1.1, h1.2.1, h1.2.2.1, fun r2 z => by cases z⟩
      · have := hb r hr
        exact ⟨by omega, this.2⟩) q hq
    exact ⟨by omega, q2.2⟩
def q_CM (X : x_T) (m z : Int32) (p ne c : Nat) (X' : x_T) : Prop :=
  (¬ r_in 16 m ∧ z = 0 ∧ X' = xi X 0 1) ∨ ∃ j, j < 16 ∧ m = nI j ∧
    (((X.2 27 j = nI ne - 1 ∨ (X.2 27 j = -1 ∧ nb_m X j p 0 none = none)) ∧ z = 0 ∧ X' = xi X 0 2) ∨
     (¬ X.2 27 j = nI ne - 1 ∧ X.2 27 j = -1 ∧ z = X'.2 27 j ∧ ∃ q a l D, nb_m X j p 0 none = some q ∧ a < 60 ∧ l < 16 ∧ D ≤ 4 ∧ X.2 39 q = nI a ∧ X.2 40 q = nI l ∧ X.2 13 a = nI D ∧ X' = jo (xi X 0 0) j q a l D) ∨
     (¬ X.2 27 j = nI ne - 1 ∧ ¬ X.2 27 j = -1 ∧ z = X'.2 27 j ∧ ∃ a l D, a + 1 < ne ∧ l < 16 ∧ D ≤ 4 ∧ X.2 27 j = nI a ∧ X.2 28 j = nI l ∧ X.2 13 (a + 1) = nI D ∧ xfr [46, 47] (fo (xi X 0 0) j (a + 1) l D c) X'))
theorem nb_m_cg {X Y : x_T} {mm : Nat} (h36 : Y.2 36 = X.2 36) (h39 : Y.2 39 = X.2 39) (h41 : Y.2 41 = X.2 41) : ∀ (m k : Nat) (b : Option Nat), nb_m Y mm m k b = nb_m X mm m k b := by
  intro m
  induction m with
  | zero => intro k b; rfl
  | succ m ih =>
    intro k b
    rw [nb_m, nb_m, ih]
    unfold nb_1
    rw [h36, h39, h41]
set_option maxHeartbeats 1000000 in
theorem c_Mo_come (g : q_G) {h : q_H} {o : Nat} {ba : Nat → Nat} {X : x_T} {p ne c : Nat} (m : Int32) (d : Nat) (hd : 4 ≤ d) (hne : X.1 12 = nI ne) (hne2 : ne ≤ 60) (hc : X.1 7 = nI c) (hc2 : c ≤ 3600) (hp : X.1 35 = nI p) (hp2 : p ≤ 60) (hU : ∀ j, j < 16 → ∃ u, u ≤ 20 ∧ X.2 31 j = nI u) (hA : ∀ j, j < 16 → ¬ X.2 32 j = 0 → ∃ a, a < 60 ∧ X.2 27 j = nI a) (hAt : ∀ j, j < 16 → ¬ X.2 27 j = -1 → ∃ a l, a < ne ∧ l < 16 ∧ X.2 27 j = nI a ∧ X.2 28 j = nI l) (hJ : ∀ q, q < p → ¬ X.2 39 q = -1 → ∃ a l, a < 60 ∧ l < 16 ∧ X.2 39 q = nI a ∧ X.2 40 q = nI l) (hDp : ∀ a, a < 60 → ∃ D, D ≤ 4 ∧ X.2 13 a = nI D) (H : q_mo h o ba X) : MG g y_Mo_come b_Mo_come 4 (some .int) d 0 0 [.ref o, .int m] h (fun q h' => ∃ X' z, q = .inl (some (.int z)) ∧ q_mo h' o ba X' ∧ q_CM X m z p ne c X') := by
  refine MG.of (by decide +kernel) (by simp [Value.category]) (Nat.le_of_ble_eq_true rfl) ?_
  intro Z A ok
  refine g_iload_n ok (dk m_Mo_come 0 rfl) (pc' := 1) rfl (i := 1) rfl rfl ?_
  refine g_istore_n ok (dk m_Mo_come 1 rfl) (pc' := 2) rfl (i := 2) rfl (Nat.le_of_ble_eq_true rfl) rfl ?_
  refine g_iload_n ok (dk m_Mo_come 2 rfl) (pc' := 3) rfl (i := 2) rfl rfl ?_
  refine g_bipush ok (dk m_Mo_come 3 rfl) (pc' := 5) rfl (v := 16) (by decide) ?_
  refine g_callS ok (dk m_Mo_come 4 rfl) (pc' := 8) rfl c_Mo_264 (c_Mo_in g m 16 0) rfl rfl (by simp [Value.category]) (by omega) rfl (rc' := 0) (rs' := 0) (by omega) (by omega) (fun rv h' hcc => ?_) (fun i h' hcc => by obtain ⟨e9, -⟩ := hcc; cases e9)
  obtain ⟨e9, e2⟩ := hcc
  have e3 := e2.symm
  subst e3
  cases e9
  refine g_if_eq ok (dk m_Mo_come 5 rfl) (tgt := 29) (by decide) (pc' := 11) rfl (fun c_8 => ?_) (fun c_8 => ?_)
  · have hr := b2i_0 c_8
    refine g_iconst ok (dk m_Mo_come 16 rfl) (pc' := 30) rfl (v := (-1)) (by decide) ?_
    refine g_istore_n ok (dk m_Mo_come 17 rfl) (pc' := 31) rfl (i := 3) rfl (Nat.le_of_ble_eq_true rfl) rfl ?_
    refine g_aload_n ok (dk m_Mo_come 18 rfl) (pc' := 32) rfl (i := 0) rfl rfl ?_
    refine g_iload_n ok (dk m_Mo_come 19 rfl) (pc' := 33) rfl (i := 2) rfl rfl ?_
    refine g_bipush ok (dk m_Mo_come 20 rfl) (pc' := 35) rfl (v := 16) (by decide) ?_
    refine g_callS ok (dk m_Mo_come 21 rfl) (pc' := 38) rfl c_Mo_264 (c_Mo_in g m 16 0) rfl rfl (by simp [Value.category]) (by omega) rfl (rc' := 0) (rs' := 0) (by omega) (by omega) (fun rv h' hcc => ?_) (fun i h' hcc => by obtain ⟨e9, -⟩ := hcc; cases e9)
    obtain ⟨e9, e2⟩ := hcc
    have e3 := e2.symm
    subst e3
    cases e9
    refine g_if_ne ok (dk m_Mo_come 22 rfl) (tgt := 45) (by decide) (pc' := 41) rfl (fun c_38 => absurd (by rw [b2i_f hr]) c_38) (fun c_38 => ?_)
    refine g_iconst ok (dk m_Mo_come 23 rfl) (pc' := 42) rfl (v := 1) (by decide) ?_
    refine g_goto ok (dk m_Mo_come 24 rfl) (pc' := 73) (by decide) ?_
    refine g_put ok (dk m_Mo_come 41 rfl) (pc' := 76) rfl f_Mo_155 (Or.inl rfl) H.1 (Nat.le_of_ble_eq_true rfl) rfl rfl ?_
    refine g_gen (fun z11 e11 => ?_)
    have Y11 := H.ipt 0 (by decide) e11
    clear e11
    refine g_aload_n ok (dk m_Mo_come 42 rfl) (pc' := 77) rfl (i := 0) rfl rfl ?_
    refine g_get ok (dk m_Mo_come 43 rfl) (pc' := 80) rfl f_Mo_155 Y11.1 rfl ?_
    refine g_if_le ok (dk m_Mo_come 44 rfl) (tgt := 85) (by decide) (pc' := 83) rfl (fun c_80 => absurd c_80 (show ¬ (1 : Int32) ≤ 0 by decide)) (fun c_80 => ?_)
    refine g_iconst ok (dk m_Mo_come 45 rfl) (pc' := 84) rfl (v := 0) (by decide) ?_
    exact g_iret ok (dk m_Mo_come 46 rfl) rfl rfl ⟨_, 0, rfl, Y11, Or.inl ⟨hr, rfl, rfl⟩⟩
  · have hr := b2i_n c_8
    clear c_8
    obtain ⟨j, hj, rfl⟩ := r_in_of (by decide) hr
    refine g_aload_n ok (dk m_Mo_come 6 rfl) (pc' := 12) rfl (i := 0) rfl rfl ?_
    refine g_get ok (dk m_Mo_come 7 rfl) (pc' := 15) rfl f_Mo_80 H.1 rfl ?_
    refine g_iload_n ok (dk m_Mo_come 8 rfl) (pc' := 16) rfl (i := 2) rfl rfl ?_
    refine g_ialdI ok (dk m_Mo_come 9 rfl) (pc' := 17) rfl (j := j) (H.ar 27 rfl) rfl (show j < 16 by omega) (by decide) ?_
    refine g_iconst ok (dk m_Mo_come 10 rfl) (pc' := 18) rfl (v := (-1)) (by decide) ?_
    refine g_icmp_ne ok (dk m_Mo_come 11 rfl) (tgt := 29) (by decide) (pc' := 21) rfl (fun c_18 => ?_) (fun c_18 => ?_)
    · have hm1 := c_18
      refine g_iconst ok (dk m_Mo_come 16 rfl) (pc' := 30) rfl (v := (-1)) (by decide) ?_
      refine g_istore_n ok (dk m_Mo_come 17 rfl) (pc' := 31) rfl (i := 3) rfl (Nat.le_of_ble_eq_true rfl) rfl ?_
      refine g_aload_n ok (dk m_Mo_come 18 rfl) (pc' := 32) rfl (i := 0) rfl rfl ?_
      refine g_iload_n ok (dk m_Mo_come 19 rfl) (pc' := 33) rfl (i := 2) rfl rfl ?_
      refine g_bipush ok (dk m_Mo_come 20 rfl) (pc' := 35) rfl (v := 16) (by decide) ?_
      refine g_callS ok (dk m_Mo_come 21 rfl) (pc' := 38) rfl c_Mo_264 (c_Mo_in g (nI j) 16 0) rfl rfl (by simp [Value.category]) (by omega) rfl (rc' := 0) (rs' := 0) (by omega) (by omega) (fun rv h' hcc => ?_) (fun i h' hcc => by obtain ⟨e9, -⟩ := hcc; cases e9)
      obtain ⟨e9, e2⟩ := hcc
      have e3 := e2.symm
      subst e3
      cases e9
      refine g_if_ne ok (dk m_Mo_come 22 rfl) (tgt := 45) (by decide) (pc' := 41) rfl (fun c_38 => ?_) (fun c_38 => absurd c_38 (by rw [b2i_t hr]; decide))
      refine g_aload_n ok (dk m_Mo_come 25 rfl) (pc' := 46) rfl (i := 0) rfl rfl ?_
      refine g_iload_n ok (dk m_Mo_come 26 rfl) (pc' := 47) rfl (i := 2) rfl rfl ?_
      refine g_callV ok (dk m_Mo_come 27 rfl) (pc' := 50) rfl c_Mo_267 (c_Mo_isLatest g (mm := j) 0 hj H) H.1 rfl rfl (by simp [Value.category]) (by omega) rfl (rc' := 0) (rs' := 0) (by omega) (by omega) (fun rv h' hcc => ?_) (fun i h' hcc => by obtain ⟨e9, -⟩ := hcc; cases e9)
      obtain ⟨e9, e2⟩ := hcc
      have e3 := e2.symm
      subst e3
      cases e9
      refine g_if_ne ok (dk m_Mo_come 28 rfl) (tgt := 68) (by decide) (pc' := 53) rfl (fun c_50 => ?_) (fun c_50 => ?_)
      · refine g_iconst ok (dk m_Mo_come 38 rfl) (pc' := 69) rfl (v := 2) (by decide) ?_
        refine g_goto ok (dk m_Mo_come 39 rfl) (pc' := 73) (by decide) ?_
        have hlat : X.2 27 j = nI ne - 1 := by rw [← hne]; exact b2i_n c_50
        refine g_put ok (dk m_Mo_come 41 rfl) (pc' := 76) rfl f_Mo_155 (Or.inl rfl) H.1 (Nat.le_of_ble_eq_true rfl) rfl rfl ?_
        refine g_gen (fun z11 e11 => ?_)
        have Y11 := H.ipt 0 (by decide) e11
        clear e11
        refine g_aload_n ok (dk m_Mo_come 42 rfl) (pc' := 77) rfl (i := 0) rfl rfl ?_
        refine g_get ok (dk m_Mo_come 43 rfl) (pc' := 80) rfl f_Mo_155 Y11.1 rfl ?_
        refine g_if_le ok (dk m_Mo_come 44 rfl) (tgt := 85) (by decide) (pc' := 83) rfl (fun c_80 => absurd c_80 (show ¬ (2 : Int32) ≤ 0 by decide)) (fun c_80 => ?_)
        refine g_iconst ok (dk m_Mo_come 45 rfl) (pc' := 84) rfl (v := 0) (by decide) ?_
        exact g_iret ok (dk m_Mo_come 46 rfl) rfl rfl ⟨_, 0, rfl, Y11, Or.inr ⟨j, hj, rfl, Or.inl ⟨Or.inl hlat, rfl, rfl⟩⟩⟩
      · have hlt : ¬ X.2 27 j = nI ne - 1 := by rw [← hne]; exact b2i_0 c_50
        refine g_aload_n ok (dk m_Mo_come 29 rfl) (pc' := 54) rfl (i := 0) rfl rfl ?_
        refine g_get ok (dk m_Mo_come 30 rfl) (pc' := 57) rfl f_Mo_80 H.1 rfl ?_
        refine g_iload_n ok (dk m_Mo_come 31 rfl) (pc' := 58) rfl (i := 2) rfl rfl ?_
        refine g_ialdI ok (dk m_Mo_come 32 rfl) (pc' := 59) rfl (j := j) (H.ar 27 rfl) rfl (show j < 16 by omega) (by decide) ?_
        refine g_iconst ok (dk m_Mo_come 33 rfl) (pc' := 60) rfl (v := (-1)) (by decide) ?_
        refine g_icmp_ne ok (dk m_Mo_come 34 rfl) (tgt := 72) (by decide) (pc' := 63) rfl (fun c_60 => ?_) (fun c_60 => absurd c_60 hm1)
        refine g_iconst ok (dk m_Mo_come 40 rfl) (pc' := 73) rfl (v := 0) (by decide) ?_
        refine g_put ok (dk m_Mo_come 41 rfl) (pc' := 76) rfl f_Mo_155 (Or.inl rfl) H.1 (Nat.le_of_ble_eq_true rfl) rfl rfl ?_
        refine g_gen (fun z21 e21 => ?_)
        have Y21 := H.ipt 0 (by decide) e21
        clear e21
        refine g_aload_n ok (dk m_Mo_come 42 rfl) (pc' := 77) rfl (i := 0) rfl rfl ?_
        refine g_get ok (dk m_Mo_come 43 rfl) (pc' := 80) rfl f_Mo_155 Y21.1 rfl ?_
        refine g_if_le ok (dk m_Mo_come 44 rfl) (tgt := 85) (by decide) (pc' := 83) rfl (fun c_80 => ?_) (fun c_80 => absurd (show (0 : Int32) ≤ 0 by decide) c_80)
        refine g_aload_n ok (dk m_Mo_come 47 rfl) (pc' := 86) rfl (i := 0) rfl rfl ?_
        refine g_get ok (dk m_Mo_come 48 rfl) (pc' := 89) rfl f_Mo_80 Y21.1 rfl ?_
        refine g_iload_n ok (dk m_Mo_come 49 rfl) (pc' := 90) rfl (i := 2) rfl rfl ?_
        refine g_ialdI ok (dk m_Mo_come 50 rfl) (pc' := 91) rfl (j := j) (Y21.ar 27 rfl) rfl (show j < 16 by omega) (by decide) ?_
        refine g_iconst ok (dk m_Mo_come 51 rfl) (pc' := 92) rfl (v := (-1)) (by decide) ?_
        refine g_icmp_ne ok (dk m_Mo_come 52 rfl) (tgt := 104) (by decide) (pc' := 95) rfl (fun c_92 => ?_) (fun c_92 => absurd c_92 hm1)
        obtain ⟨a, l, ha0, hl2, ha, hl⟩ := hAt j hj hm1
        have ha1 : a + 1 < ne := by
          rcases Nat.lt_or_ge (a + 1) ne with q | q
          · exact q
          · refine absurd ?_ hlt
            rw [ha, show ne = a + 1 by omega, nI_pred]
        obtain ⟨D, hD4, hD⟩ := hDp (a + 1) (by omega)
        obtain ⟨u, hu2, hu⟩ := hU j hj
        refine g_aload_n ok (dk m_Mo_come 58 rfl) (pc' := 105) rfl (i := 0) rfl rfl ?_
        refine g_iload_n ok (dk m_Mo_come 59 rfl) (pc' := 106) rfl (i := 2) rfl rfl ?_
        refine g_callV ok (dk m_Mo_come 60 rfl) (pc' := 109) rfl c_Mo_293 (c_Mo_follow g (mm := j) (a := a) (l := l) (D := D) (c := c) (p := p) (u := u) 3 (by omega) hj (by exact ha) (by omega) (by exact hl) hl2 (by exact hD) hD4 (by exact hc) hc2 (by exact hp) hp2 (by exact hu) hu2 (by exact hA j hj) Y21) Y21.1 rfl rfl (by simp [Value.category]) (by omega) rfl (rc' := 0) (rs' := 0) (by omega) (by omega) (fun rv h' hcc => ?_) (fun i h' hcc => by obtain ⟨e9, -⟩ := hcc; cases e9)
        obtain ⟨e9, X2, H2, f2⟩ := hcc
        cases e9
        refine g_aload_n ok (dk m_Mo_come 61 rfl) (pc' := 110) rfl (i := 0) rfl rfl ?_
        refine g_get ok (dk m_Mo_come 62 rfl) (pc' := 113) rfl f_Mo_80 H2.1 rfl ?_
        refine g_iload_n ok (dk m_Mo_come 63 rfl) (pc' := 114) rfl (i := 2) rfl rfl ?_
        refine g_ialdI ok (dk m_Mo_come 64 rfl) (pc' := 115) rfl (j := j) (H2.ar 27 rfl) rfl (show j < 16 by omega) (by decide) ?_
        exact g_iret ok (dk m_Mo_come 65 rfl) rfl rfl ⟨X2, _, rfl, H2, Or.inr ⟨j, hj, rfl, Or.inr (Or.inr ⟨hlt, hm1, rfl, a, l, D, ha1, hl2, hD4, ha, hl, hD, f2⟩)⟩⟩
    · have hm1 := c_18
      refine g_aload_n ok (dk m_Mo_come 12 rfl) (pc' := 22) rfl (i := 0) rfl rfl ?_
      refine g_iload_n ok (dk m_Mo_come 13 rfl) (pc' := 23) rfl (i := 2) rfl rfl ?_
      refine g_callV ok (dk m_Mo_come 14 rfl) (pc' := 26) rfl c_Mo_287 (c_Mo_nextPackage g (mm := j) (p := p) 0 hp hp2 H) H.1 rfl rfl (by simp [Value.category]) (by omega) rfl (rc' := 0) (rs' := 0) (by omega) (by omega) (fun rv h' hcc => ?_) (fun i h' hcc => by obtain ⟨e9, -⟩ := hcc; cases e9)
      obtain ⟨e9, e2⟩ := hcc
      have e3 := e2.symm
      subst e3
      cases e9
      refine g_goto ok (dk m_Mo_come 15 rfl) (pc' := 30) (by decide) ?_
      refine g_istore_n ok (dk m_Mo_come 17 rfl) (pc' := 31) rfl (i := 3) rfl (Nat.le_of_ble_eq_true rfl) rfl ?_
      refine g_aload_n ok (dk m_Mo_come 18 rfl) (pc' := 32) rfl (i := 0) rfl rfl ?_
      refine g_iload_n ok (dk m_Mo_come 19 rfl) (pc' := 33) rfl (i := 2) rfl rfl ?_
      refine g_bipush ok (dk m_Mo_come 20 rfl) (pc' := 35) rfl (v := 16) (by decide) ?_
      refine g_callS ok (dk m_Mo_come 21 rfl) (pc' := 38) rfl c_Mo_264 (c_Mo_in g (nI j) 16 0) rfl rfl (by simp [Value.category]) (by omega) rfl (rc' := 0) (rs' := 0) (by omega) (by omega) (fun rv h' hcc => ?_) (fun i h' hcc => by obtain ⟨e9, -⟩ := hcc; cases e9)
      obtain ⟨e9, e2⟩ := hcc
      have e3 := e2.symm
      subst e3
      cases e9
      refine g_if_ne ok (dk m_Mo_come 22 rfl) (tgt := 45) (by decide) (pc' := 41) rfl (fun c_38 => ?_) (fun c_38 => absurd c_38 (by rw [b2i_t hr]; decide))
      refine g_aload_n ok (dk m_Mo_come 25 rfl) (pc' := 46) rfl (i := 0) rfl rfl ?_
      refine g_iload_n ok (dk m_Mo_come 26 rfl) (pc' := 47) rfl (i := 2) rfl rfl ?_
      refine g_callV ok (dk m_Mo_come 27 rfl) (pc' := 50) rfl c_Mo_267 (c_Mo_isLatest g (mm := j) 0 hj H) H.1 rfl rfl (by simp [Value.category]) (by omega) rfl (rc' := 0) (rs' := 0) (by omega) (by omega) (fun rv h' hcc => ?_) (fun i h' hcc => by obtain ⟨e9, -⟩ := hcc; cases e9)
      obtain ⟨e9, e2⟩ := hcc
      have e3 := e2.symm
      subst e3
      cases e9
      refine g_if_ne ok (dk m_Mo_come 28 rfl) (tgt := 68) (by decide) (pc' := 53) rfl (fun c_50 => ?_) (fun c_50 => ?_)
      · refine g_iconst ok (dk m_Mo_come 38 rfl) (pc' := 69) rfl (v := 2) (by decide) ?_
        refine g_goto ok (dk m_Mo_come 39 rfl) (pc' := 73) (by decide) ?_
        have hlat : X.2 27 j = nI ne - 1 := by rw [← hne]; exact b2i_n c_50
        refine g_put ok (dk m_Mo_come 41 rfl) (pc' := 76) rfl f_Mo_155 (Or.inl rfl) H.1 (Nat.le_of_ble_eq_true rfl) rfl rfl ?_
        refine g_gen (fun z11 e11 => ?_)
        have Y11 := H.ipt 0 (by decide) e11
        clear e11
        refine g_aload_n ok (dk m_Mo_come 42 rfl) (pc' := 77) rfl (i := 0) rfl rfl ?_
        refine g_get ok (dk m_Mo_come 43 rfl) (pc' := 80) rfl f_Mo_155 Y11.1 rfl ?_
        refine g_if_le ok (dk m_Mo_come 44 rfl) (tgt := 85) (by decide) (pc' := 83) rfl (fun c_80 => absurd c_80 (show ¬ (2 : Int32) ≤ 0 by decide)) (fun c_80 => ?_)
        refine g_iconst ok (dk m_Mo_come 45 rfl) (pc' := 84) rfl (v := 0) (by decide) ?_
        exact g_iret ok (dk m_Mo_come 46 rfl) rfl rfl ⟨_, 0, rfl, Y11, Or.inr ⟨j, hj, rfl, Or.inl ⟨Or.inl hlat, rfl, rfl⟩⟩⟩
      · have hlt : ¬ X.2 27 j = nI ne - 1 := by rw [← hne]; exact b2i_0 c_50
        refine g_aload_n ok (dk m_Mo_come 29 rfl) (pc' := 54) rfl (i := 0) rfl rfl ?_
        refine g_get ok (dk m_Mo_come 30 rfl) (pc' := 57) rfl f_Mo_80 H.1 rfl ?_
        refine g_iload_n ok (dk m_Mo_come 31 rfl) (pc' := 58) rfl (i := 2) rfl rfl ?_
        refine g_ialdI ok (dk m_Mo_come 32 rfl) (pc' := 59) rfl (j := j) (H.ar 27 rfl) rfl (show j < 16 by omega) (by decide) ?_
        refine g_iconst ok (dk m_Mo_come 33 rfl) (pc' := 60) rfl (v := (-1)) (by decide) ?_
        refine g_icmp_ne ok (dk m_Mo_come 34 rfl) (tgt := 72) (by decide) (pc' := 63) rfl (fun c_60 => absurd hm1 c_60) (fun c_60 => ?_)
        refine g_iload_n ok (dk m_Mo_come 35 rfl) (pc' := 64) rfl (i := 3) rfl rfl ?_
        refine g_iconst ok (dk m_Mo_come 36 rfl) (pc' := 65) rfl (v := (-1)) (by decide) ?_
        refine g_icmp_ne ok (dk m_Mo_come 37 rfl) (tgt := 72) (by decide) (pc' := 68) rfl (fun c_65 => ?_) (fun c_65 => ?_)
        · refine g_iconst ok (dk m_Mo_come 40 rfl) (pc' := 73) rfl (v := 0) (by decide) ?_
          have hp3 : ¬ ov (nb_m X j p 0 none) = -1 := c_65
          refine g_put ok (dk m_Mo_come 41 rfl) (pc' := 76) rfl f_Mo_155 (Or.inl rfl) H.1 (Nat.le_of_ble_eq_true rfl) rfl rfl ?_
          refine g_gen (fun z31 e31 => ?_)
          have Y31 := H.ipt 0 (by decide) e31
          clear e31
          refine g_aload_n ok (dk m_Mo_come 42 rfl) (pc' := 77) rfl (i := 0) rfl rfl ?_
          refine g_get ok (dk m_Mo_come 43 rfl) (pc' := 80) rfl f_Mo_155 Y31.1 rfl ?_
          refine g_if_le ok (dk m_Mo_come 44 rfl) (tgt := 85) (by decide) (pc' := 83) rfl (fun c_80 => ?_) (fun c_80 => absurd (show (0 : Int32) ≤ 0 by decide) c_80)
          refine g_aload_n ok (dk m_Mo_come 47 rfl) (pc' := 86) rfl (i := 0) rfl rfl ?_
          refine g_get ok (dk m_Mo_come 48 rfl) (pc' := 89) rfl f_Mo_80 Y31.1 rfl ?_
          refine g_iload_n ok (dk m_Mo_come 49 rfl) (pc' := 90) rfl (i := 2) rfl rfl ?_
          refine g_ialdI ok (dk m_Mo_come 50 rfl) (pc' := 91) rfl (j := j) (Y31.ar 27 rfl) rfl (show j < 16 by omega) (by decide) ?_
          refine g_iconst ok (dk m_Mo_come 51 rfl) (pc' := 92) rfl (v := (-1)) (by decide) ?_
          refine g_icmp_ne ok (dk m_Mo_come 52 rfl) (tgt := 104) (by decide) (pc' := 95) rfl (fun c_92 => absurd hm1 c_92) (fun c_92 => ?_)
          obtain ⟨q, hq⟩ : ∃ q, nb_m X j p 0 none = some q := by
            cases hn : nb_m X j p 0 none with
            | none => rw [hn] at hp3; exact absurd rfl hp3
            | some q => exact ⟨q, rfl⟩
          obtain ⟨hqp, hq1⟩ := nb_ok X j p 0 none (fun q z => by cases z) q hq
          obtain ⟨a, l, ha0, hl2, ha, hl⟩ := hJ q (by omega) hq1.2.1
          obtain ⟨D, hD4, hD⟩ := hDp a ha0
          rw [hq]
          refine g_aload_n ok (dk m_Mo_come 53 rfl) (pc' := 96) rfl (i := 0) rfl rfl ?_
          refine g_iload_n ok (dk m_Mo_come 54 rfl) (pc' := 97) rfl (i := 2) rfl rfl ?_
          refine g_iload_n ok (dk m_Mo_come 55 rfl) (pc' := 98) rfl (i := 3) rfl rfl ?_
          refine g_callV ok (dk m_Mo_come 56 rfl) (pc' := 101) rfl c_Mo_290 (c_Mo_join g (mm := j) (p := q) (a := a) (l := l) (D := D) 2 (by omega) hj (by omega) (by exact ha) ha0 (by exact hl) hl2 (by exact hD) hD4 Y31) Y31.1 rfl rfl (by simp [Value.category]) (by omega) rfl (rc' := 0) (rs' := 0) (by omega) (by omega) (fun rv h' hcc => ?_) (fun i h' hcc => by obtain ⟨e9, -⟩ := hcc; cases e9)
          obtain ⟨e9, Y32⟩ := hcc
          cases e9
          refine g_goto ok (dk m_Mo_come 57 rfl) (pc' := 109) (by decide) ?_
          refine g_aload_n ok (dk m_Mo_come 61 rfl) (pc' := 110) rfl (i := 0) rfl rfl ?_
          refine g_get ok (dk m_Mo_come 62 rfl) (pc' := 113) rfl f_Mo_80 Y32.1 rfl ?_
          refine g_iload_n ok (dk m_Mo_come 63 rfl) (pc' := 114) rfl (i := 2) rfl rfl ?_
          refine g_ialdI ok (dk m_Mo_come 64 rfl) (pc' := 115) rfl (j := j) (Y32.ar 27 rfl) rfl (show j < 16 by omega) (by decide) ?_
          exact g_iret ok (dk m_Mo_come 65 rfl) rfl rfl ⟨_, _, rfl, Y32, Or.inr ⟨j, hj, rfl, Or.inr (Or.inl ⟨hlt, hm1, rfl, q, a, l, D, hq, ha0, hl2, hD4, ha, hl, hD, rfl⟩)⟩⟩
        · refine g_iconst ok (dk m_Mo_come 38 rfl) (pc' := 69) rfl (v := 2) (by decide) ?_
          refine g_goto ok (dk m_Mo_come 39 rfl) (pc' := 73) (by decide) ?_
          have hn0 : nb_m X j p 0 none = none := by
            cases hn : nb_m X j p 0 none with
            | none => rfl
            | some q =>
              have hq := (nb_ok X j p 0 none (fun q z => by cases z) q hn).1
              rw [hn] at c_65
              exact absurd c_65 (nI_nm (by omega))
          refine g_put ok (dk m_Mo_come 41 rfl) (pc' := 76) rfl f_Mo_155 (Or.inl rfl) H.1 (Nat.le_of_ble_eq_true rfl) rfl rfl ?_
          refine g_gen (fun z11 e11 => ?_)
          have Y11 := H.ipt 0 (by decide) e11
          clear e11
          refine g_aload_n ok (dk m_Mo_come 42 rfl) (pc' := 77) rfl (i := 0) rfl rfl ?_
          refine g_get ok (dk m_Mo_come 43 rfl) (pc' := 80) rfl f_Mo_155 Y11.1 rfl ?_
          refine g_if_le ok (dk m_Mo_come 44 rfl) (tgt := 85) (by decide) (pc' := 83) rfl (fun c_80 => absurd c_80 (show ¬ (2 : Int32) ≤ 0 by decide)) (fun c_80 => ?_)
          refine g_iconst ok (dk m_Mo_come 45 rfl) (pc' := 84) rfl (v := 0) (by decide) ?_
          exact g_iret ok (dk m_Mo_come 46 rfl) rfl rfl ⟨_, 0, rfl, Y11, Or.inr ⟨j, hj, rfl, Or.inl ⟨Or.inr ⟨hm1, hn0⟩, rfl, rfl⟩⟩⟩
