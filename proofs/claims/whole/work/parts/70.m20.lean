/-! ===== the reference: commit ===== -/
def q_CC (X : x_T) (m z pa : Int32) (e wt p : Nat) (X' : x_T) : Prop :=
  (¬ r_in 16 m ∧ z = 0 ∧ X' = xi X 0 1) ∨ ∃ j, j < 16 ∧ m = nI j ∧
    (((¬ X.2 27 j = nI e ∨ e + 1 = 60) ∧ z = 0 ∧ X' = xi X 0 2) ∨
     (X.2 27 j = nI e ∧ e + 1 < 60 ∧ z = X'.1 12 - 1 ∧ ∃ l D, l < 16 ∧ D ≤ 4 ∧ X.2 28 j = nI l ∧ X.2 13 e = nI D ∧ q_CH (xi X 0 0) j l e D wt p pa X'))
set_option maxHeartbeats 1000000 in
theorem c_Mo_commit (g : q_G) {h : q_H} {o : Nat} {ba : Nat → Nat} {X : x_T} {e D wt p n c s14 : Nat} (m pa : Int32) (d : Nat) (hd : 4 ≤ d) (hne : X.1 12 = nI (e + 1)) (hne2 : e + 1 ≤ 60) (hlf : ∀ j, j < 16 → X.2 27 j = nI e → ∃ l, l < 16 ∧ X.2 28 j = nI l ∧ bit (X.2 17 (e + 1)) l = 0) (hD : X.2 13 e = nI D) (hD4 : D ≤ 4) (hwt : X.1 42 = nI wt) (hwt2 : wt ≤ 20) (hR : ∀ k, k < wt → X.2 43 k = 1 → ∃ l, l < 16 ∧ X.2 45 k = nI l) (hP : ∀ k, k < wt → ∃ j, j < 16 ∧ X.2 44 k = nI j) (hL : ∀ k, k < wt → X.2 43 k = 2 → ∃ l, l < 16 ∧ fu_l X k = nI l) (hA0 : ∀ k, k < wt → X.2 43 k = 0 → ∃ p j, p < 60 ∧ j < 16 ∧ X.2 45 k = nI p ∧ X.2 36 p = nI j) (hn : X.1 1 = nI n) (hn1 : 1 ≤ n) (hn2 : n + 13 ≤ 2600) (hc : X.1 7 = nI c) (hc2 : c + 48 + 2 * p ≤ 3600) (hp : X.1 35 = nI p) (hp2 : p ≤ 60) (hu : uk (X.2 23) e) (hw : WF X n) (hS6 : ∀ k, k < n → X.2 2 k = 6 → ¬ X.2 3 k = X.2 14 e) (hs14 : X.2 14 e = nI s14) (hs14b : s14 < n) (hUs : ∀ k, X.2 39 k = nI (e + 1) → ∃ l, l < 16 ∧ X.2 40 k = nI l) (H : q_mo h o ba X) : MG g y_Mo_commit b_Mo_commit 3 (some .int) d 0 0 [.ref o, .int m, .int pa] h (fun q h' => ∃ X' z, q = .inl (some (.int z)) ∧ q_mo h' o ba X' ∧ q_CC X m z pa e wt p X') := by
  refine MG.of (by decide +kernel) (by simp [Value.category]) (Nat.le_of_ble_eq_true rfl) ?_
  intro Z A ok
  refine g_aload_n ok (dk m_Mo_commit 0 rfl) (pc' := 1) rfl (i := 0) rfl rfl ?_
  refine g_iload_n ok (dk m_Mo_commit 1 rfl) (pc' := 2) rfl (i := 1) rfl rfl ?_
  refine g_bipush ok (dk m_Mo_commit 2 rfl) (pc' := 4) rfl (v := 16) (by decide) ?_
  refine g_callS ok (dk m_Mo_commit 3 rfl) (pc' := 7) rfl c_Mo_264 (c_Mo_in g m 16 0) rfl rfl (by simp [Value.category]) (by omega) rfl (rc' := 0) (rs' := 0) (by omega) (by omega) (fun rv h' hcc => ?_) (fun i h' hcc => by obtain ⟨e9, -⟩ := hcc; cases e9)
  obtain ⟨e9, e2⟩ := hcc
  have e3 := e2.symm
  subst e3
  cases e9
  refine g_if_ne ok (dk m_Mo_commit 4 rfl) (tgt := 14) (by decide) (pc' := 10) rfl (fun c_7 => ?_) (fun c_7 => ?_)
  · obtain ⟨j, hj, rfl⟩ := r_in_of (by decide) (b2i_n c_7)
    refine g_aload_n ok (dk m_Mo_commit 7 rfl) (pc' := 15) rfl (i := 0) rfl rfl ?_
    refine g_iload_n ok (dk m_Mo_commit 8 rfl) (pc' := 16) rfl (i := 1) rfl rfl ?_
    refine g_callV ok (dk m_Mo_commit 9 rfl) (pc' := 19) rfl c_Mo_267 (c_Mo_isLatest g (mm := j) 0 hj H) H.1 rfl rfl (by simp [Value.category]) (by omega) rfl (rc' := 0) (rs' := 0) (by omega) (by omega) (fun rv h' hcc => ?_) (fun i h' hcc => by obtain ⟨e9, -⟩ := hcc; cases e9)
    obtain ⟨e9, e2⟩ := hcc
    have e3 := e2.symm
    subst e3
    cases e9
    refine g_if_eq ok (dk m_Mo_commit 10 rfl) (tgt := 31) (by decide) (pc' := 22) rfl (fun c_19 => ?_) (fun c_19 => ?_)
    · refine g_iconst ok (dk m_Mo_commit 15 rfl) (pc' := 32) rfl (v := 2) (by decide) ?_
      refine g_goto ok (dk m_Mo_commit 16 rfl) (pc' := 36) (by decide) ?_
      have hlat : ¬ X.2 27 j = nI e := fun z => b2i_0 c_19 (by rw [hne, nI_pred]; exact z)
      refine g_put ok (dk m_Mo_commit 18 rfl) (pc' := 39) rfl f_Mo_155 (Or.inl rfl) H.1 (Nat.le_of_ble_eq_true rfl) rfl rfl ?_
      refine g_gen (fun z11 e11 => ?_)
      have Y11 := H.ipt 0 (by decide) e11
      clear e11
      refine g_aload_n ok (dk m_Mo_commit 19 rfl) (pc' := 40) rfl (i := 0) rfl rfl ?_
      refine g_get ok (dk m_Mo_commit 20 rfl) (pc' := 43) rfl f_Mo_155 Y11.1 rfl ?_
      refine g_if_le ok (dk m_Mo_commit 21 rfl) (tgt := 48) (by decide) (pc' := 46) rfl (fun c_43 => absurd c_43 (show ¬ (2 : Int32) ≤ 0 by decide)) (fun c_43 => ?_)
      refine g_iconst ok (dk m_Mo_commit 22 rfl) (pc' := 47) rfl (v := 0) (by decide) ?_
      exact g_iret ok (dk m_Mo_commit 23 rfl) rfl rfl ⟨_, 0, rfl, Y11, Or.inr ⟨j, hj, rfl, Or.inl ⟨Or.inl hlat, rfl, rfl⟩⟩⟩
    · refine g_aload_n ok (dk m_Mo_commit 11 rfl) (pc' := 23) rfl (i := 0) rfl rfl ?_
      refine g_get ok (dk m_Mo_commit 12 rfl) (pc' := 26) rfl f_Mo_151 H.1 rfl ?_
      refine g_bipush ok (dk m_Mo_commit 13 rfl) (pc' := 28) rfl (v := 60) (by decide) ?_
      refine g_icmp_ne ok (dk m_Mo_commit 14 rfl) (tgt := 35) (by decide) (pc' := 31) rfl (fun c_28 => ?_) (fun c_28 => ?_)
      · refine g_iconst ok (dk m_Mo_commit 17 rfl) (pc' := 36) rfl (v := 0) (by decide) ?_
        have hlat : X.2 27 j = nI e := by
          have q := b2i_n c_19
          rw [hne, nI_pred] at q
          exact q
        have he60 : e + 1 < 60 := by
          rcases Nat.lt_or_ge (e + 1) 60 with q | q
          · exact q
          · exact absurd (by rw [hne, show e + 1 = 60 by omega]; rfl) c_28
        obtain ⟨l, hl2, hl, hb⟩ := hlf j hj hlat
        refine g_put ok (dk m_Mo_commit 18 rfl) (pc' := 39) rfl f_Mo_155 (Or.inl rfl) H.1 (Nat.le_of_ble_eq_true rfl) rfl rfl ?_
        refine g_gen (fun z21 e21 => ?_)
        have Y21 := H.ipt 0 (by decide) e21
        clear e21
        refine g_aload_n ok (dk m_Mo_commit 19 rfl) (pc' := 40) rfl (i := 0) rfl rfl ?_
        refine g_get ok (dk m_Mo_commit 20 rfl) (pc' := 43) rfl f_Mo_155 Y21.1 rfl ?_
        refine g_if_le ok (dk m_Mo_commit 21 rfl) (tgt := 48) (by decide) (pc' := 46) rfl (fun c_43 => ?_) (fun c_43 => absurd (show (0 : Int32) ≤ 0 by decide) c_43)
        refine g_aload_n ok (dk m_Mo_commit 24 rfl) (pc' := 49) rfl (i := 0) rfl rfl ?_
        refine g_iload_n ok (dk m_Mo_commit 25 rfl) (pc' := 50) rfl (i := 1) rfl rfl ?_
        refine g_iload_n ok (dk m_Mo_commit 26 rfl) (pc' := 51) rfl (i := 2) rfl rfl ?_
        refine g_callV ok (dk m_Mo_commit 27 rfl) (pc' := 54) rfl c_Mo_277 (c_Mo_change g (mm := j) (l := l) (e := e) (D := D) (wt := wt) (p := p) (n := n) (c := c) (s14 := s14) pa 3 (by omega) hj (by omega) (by exact hne) (by exact hl) hl2 (by exact hD) hD4 (by exact hwt) hwt2 (by exact hR) (by exact hP) (by exact hL) (by exact hA0) (by exact hn) hn1 hn2 (by exact hc) hc2 (by exact hp) hp2 (by exact hu) (by exact hw) (by exact hb) (by exact hS6) (by exact hs14) hs14b (by exact hUs) Y21) Y21.1 rfl rfl (by simp [Value.category]) (by omega) rfl (rc' := 0) (rs' := 0) (by omega) (by omega) (fun rv h' hcc => ?_) (fun i h' hcc => by obtain ⟨e9, -⟩ := hcc; cases e9)
        obtain ⟨e9, X2, H2, hch⟩ := hcc
        cases e9
        refine g_aload_n ok (dk m_Mo_commit 28 rfl) (pc' := 55) rfl (i := 0) rfl rfl ?_
        refine g_get ok (dk m_Mo_commit 29 rfl) (pc' := 58) rfl f_Mo_151 H2.1 rfl ?_
        refine g_iconst ok (dk m_Mo_commit 30 rfl) (pc' := 59) rfl (v := 1) (by decide) ?_
        refine g_isub ok (dk m_Mo_commit 31 rfl) (pc' := 60) rfl ?_
        exact g_iret ok (dk m_Mo_commit 32 rfl) rfl rfl ⟨X2, _, rfl, H2, Or.inr ⟨j, hj, rfl, Or.inr ⟨hlat, he60, rfl, l, D, hl2, hD4, hl, hD, hch⟩⟩⟩
      · refine g_iconst ok (dk m_Mo_commit 15 rfl) (pc' := 32) rfl (v := 2) (by decide) ?_
        refine g_goto ok (dk m_Mo_commit 16 rfl) (pc' := 36) (by decide) ?_
        refine g_put ok (dk m_Mo_commit 18 rfl) (pc' := 39) rfl f_Mo_155 (Or.inl rfl) H.1 (Nat.le_of_ble_eq_true rfl) rfl rfl ?_
        refine g_gen (fun z11 e11 => ?_)
        have Y11 := H.ipt 0 (by decide) e11
        clear e11
        refine g_aload_n ok (dk m_Mo_commit 19 rfl) (pc' := 40) rfl (i := 0) rfl rfl ?_
        refine g_get ok (dk m_Mo_commit 20 rfl) (pc' := 43) rfl f_Mo_155 Y11.1 rfl ?_
        refine g_if_le ok (dk m_Mo_commit 21 rfl) (tgt := 48) (by decide) (pc' := 46) rfl (fun c_43 => absurd c_43 (show ¬ (2 : Int32) ≤ 0 by decide)) (fun c_43 => ?_)
        refine g_iconst ok (dk m_Mo_commit 22 rfl) (pc' := 47) rfl (v := 0) (by decide) ?_
        exact g_iret ok (dk m_Mo_commit 23 rfl) rfl rfl ⟨_, 0, rfl, Y11, Or.inr ⟨j, hj, rfl, Or.inl ⟨Or.inr ((nI_eq (by omega) (by decide)).mp (hne.symm.trans c_28)), rfl, rfl⟩⟩⟩
  · refine g_iconst ok (dk m_Mo_commit 5 rfl) (pc' := 11) rfl (v := 1) (by decide) ?_
    refine g_goto ok (dk m_Mo_commit 6 rfl) (pc' := 36) (by decide) ?_
    refine g_put ok (dk m_Mo_commit 18 rfl) (pc' := 39) rfl f_Mo_155 (Or.inl rfl) H.1 (Nat.le_of_ble_eq_true rfl) rfl rfl ?_
    refine g_gen (fun z11 e11 => ?_)
    have Y11 := H.ipt 0 (by decide) e11
    clear e11
    refine g_aload_n ok (dk m_Mo_commit 19 rfl) (pc' := 40) rfl (i := 0) rfl rfl ?_
    refine g_get ok (dk m_Mo_commit 20 rfl) (pc' := 43) rfl f_Mo_155 Y11.1 rfl ?_
    refine g_if_le ok (dk m_Mo_commit 21 rfl) (tgt := 48) (by decide) (pc' := 46) rfl (fun c_43 => absurd c_43 (show ¬ (1 : Int32) ≤ 0 by decide)) (fun c_43 => ?_)
    refine g_iconst ok (dk m_Mo_commit 22 rfl) (pc' := 47) rfl (v := 0) (by decide) ?_
    exact g_iret ok (dk m_Mo_commit 23 rfl) rfl rfl ⟨_, 0, rfl, Y11, Or.inl ⟨b2i_0 c_7, rfl, rfl⟩⟩
