/-! ===== Tree: paths, halves, leaves ===== -/
theorem q_tree.off {h h' : q_H} {u : Nat} {rc rd : Nat → Nat} {U : tr_T} {X : Nat → Prop} (hu : q_tree h u rc rd U) (ho : q_off h h' X) (h1 : ¬ X u) (h2 : ∀ i, i < 4 → ¬ X (rc i) ∧ ¬ X (rd i)) : q_tree h' u rc rd U := ⟨(ho u h1).trans hu.1, hu.2.kept (fun i hi => ⟨ho _ (h2 i hi).1, ho _ (h2 i hi).2⟩)⟩
noncomputable def T_bp (l : Int32) : Nat → Nat → tr_T → tr_T
  | 0, _, T => T
  | m + 1, k, T => T_bp l m (k + 1) (T_blank T (j_node l (nI k)))
theorem T_blank_2 (T : tr_T) (n : Int32) : (T_blank T n).2 = T.2 := rfl
set_option maxHeartbeats 1000000 in
theorem c_Tr_blankWithPath (g : q_G) {h : q_H} {t : Nat} {ra rb : Nat → Nat} {T : tr_T} (l : Int32) (d : Nat) (hd : 2 ≤ d) (hT : T.2 ≤ 4) (ht : q_tree h t ra rb T) : MG g y_Tr_blankWithPath b_Tr_blankWithPath 3 none d 0 0 [.ref t, .int l] h (fun q h' => q = .inl none ∧ q_tree h' t ra rb (T_bp l (T.2 + 1) 0 T) ∧ q_off h h' (tr_P t rb)) := by
  refine MG.of (by decide +kernel) (by simp [Value.category]) (Nat.le_of_ble_eq_true rfl) ?_
  intro Z A ok
  have loop : ∀ (m k : Nat), k + m = T.2 + 1 → ∀ (h1 : q_H) (T1 : tr_T), q_tree h1 t ra rb T1 → q_off h h1 (tr_P t rb) → T1.2 = T.2 → T_bp l m k T1 = T_bp l (T.2 + 1) 0 T → GW g Z A (fun q h' => q = .inl none ∧ q_tree h' t ra rb (T_bp l (T.2 + 1) 0 T) ∧ q_off h h' (tr_P t rb)) 0 0 h1 2 [some (.ref t), some (.int l), some (.int (nI k))] [] := by
    intro m
    induction m with
    | zero =>
      intro k hk h1 T1 h1t ho1 hD hv
      refine g_iload_n ok (dk m_Tr_blankWithPath 2 rfl) (pc' := 3) rfl (i := 2) rfl rfl ?_
      refine g_aload_n ok (dk m_Tr_blankWithPath 3 rfl) (pc' := 4) rfl (i := 0) rfl rfl ?_
      refine g_get ok (dk m_Tr_blankWithPath 4 rfl) (pc' := 7) rfl f_Tr_29 h1t.1 rfl ?_
      refine g_icmp_gt ok (dk m_Tr_blankWithPath 5 rfl) (tgt := 27) (by decide) (pc' := 10) rfl (fun c_7 => ?_) (fun c_7 => absurd (by rw [hD]; exact nI_lt (a := T.2) (b := k) (by omega) (by omega)) c_7)
      exact g_vret ok (dk m_Tr_blankWithPath 15 rfl) rfl ⟨rfl, by rw [← hv]; exact h1t, ho1⟩
    | succ m ih =>
      intro k hk h1 T1 h1t ho1 hD hv
      refine g_iload_n ok (dk m_Tr_blankWithPath 2 rfl) (pc' := 3) rfl (i := 2) rfl rfl ?_
      refine g_aload_n ok (dk m_Tr_blankWithPath 3 rfl) (pc' := 4) rfl (i := 0) rfl rfl ?_
      refine g_get ok (dk m_Tr_blankWithPath 4 rfl) (pc' := 7) rfl f_Tr_29 h1t.1 rfl ?_
      refine g_icmp_gt ok (dk m_Tr_blankWithPath 5 rfl) (tgt := 27) (by decide) (pc' := 10) rfl (fun c_7 => absurd c_7 (by rw [hD]; exact nI_nlt (a := T.2) (b := k) (by omega) (by omega))) (fun c_7 => ?_)
      refine g_aload_n ok (dk m_Tr_blankWithPath 6 rfl) (pc' := 11) rfl (i := 0) rfl rfl ?_
      refine g_iload_n ok (dk m_Tr_blankWithPath 7 rfl) (pc' := 12) rfl (i := 1) rfl rfl ?_
      refine g_iload_n ok (dk m_Tr_blankWithPath 8 rfl) (pc' := 13) rfl (i := 2) rfl rfl ?_
      refine g_callS ok (dk m_Tr_blankWithPath 9 rfl) (pc' := 16) rfl c_Tr_56 (c_Tr_nodeOver g l (nI k) 0) rfl rfl (by simp [Value.category]) (by omega) rfl (rc' := 0) (rs' := 0) (by omega) (by omega) (fun rv h' hcc => ?_) (fun i h' hcc => by obtain ⟨e, -⟩ := hcc; cases e)
      obtain ⟨e, e2⟩ := hcc
      have e3 := e2.symm
      subst e3
      cases e
      refine g_iconst ok (dk m_Tr_blankWithPath 10 rfl) (pc' := 17) rfl (v := (-1)) (by decide) ?_
      refine g_iconst ok (dk m_Tr_blankWithPath 11 rfl) (pc' := 18) rfl (v := (-1)) (by decide) ?_
      refine g_callV ok (dk m_Tr_blankWithPath 12 rfl) (pc' := 21) rfl c_Tr_48 (c_Tr_give g (j_node l (nI k)) (-1) (-1) 1 (by omega) h1t) h1t.1 rfl rfl (by simp [Value.category]) (by omega) rfl (rc' := 0) (rs' := 0) (by omega) (by omega) (fun rv h' hcc => ?_) (fun i h' hcc => by obtain ⟨e, -⟩ := hcc; cases e)
      obtain ⟨e, h2t, ho2⟩ := hcc
      cases e
      refine g_iinc ok (dk m_Tr_blankWithPath 13 rfl) (pc' := 24) rfl rfl (nI_1 k) rfl ?_
      refine g_goto ok (dk m_Tr_blankWithPath 14 rfl) (pc' := 2) (by decide) ?_
      exact ih (k + 1) (by omega) _ _ h2t (ho1.tr ho2) hD (by rw [← hv]; rfl)
  refine g_iconst ok (dk m_Tr_blankWithPath 0 rfl) (pc' := 1) rfl (v := 0) (by decide) ?_
  refine g_istore_n ok (dk m_Tr_blankWithPath 1 rfl) (pc' := 2) rfl (i := 2) rfl (Nat.le_of_ble_eq_true rfl) rfl ?_
  exact loop (T.2 + 1) 0 (by omega) h T ht q_off.rf rfl rfl
theorem T_bp_2 (l : Int32) : ∀ (m k : Nat) (T : tr_T), (T_bp l m k T).2 = T.2 := by
  intro m
  induction m with
  | zero => intro k T; rfl
  | succ m ih => intro k T; exact ih (k + 1) (T_blank T (j_node l (nI k)))
noncomputable def T_path (T : tr_T) (l : Int32) : tr_T := T_bp l (T.2 + 1) 0 T
noncomputable def T_vac (T : tr_T) (l : Int32) : tr_T := T_path (va_up T.1 3 (r_put (tr_len 3) (T.1 3) l (-1)), T.2) l
noncomputable def T_ren (T : tr_T) (l k e : Int32) : tr_T := T_give (T_path T l) (j_node l 0) k e
set_option maxHeartbeats 1000000 in
theorem c_Tr_vacate (g : q_G) {h : q_H} {t : Nat} {ra rb : Nat → Nat} {T : tr_T} (l : Int32) (d : Nat) (hd : 3 ≤ d) (hT : T.2 ≤ 4) (ht : q_tree h t ra rb T) : MG g y_Tr_vacate b_Tr_vacate 2 none d 0 0 [.ref t, .int l] h (fun q h' => q = .inl none ∧ q_tree h' t ra rb (T_vac T l) ∧ q_off h h' (tr_P t rb)) := by
  refine MG.of (by decide +kernel) (by simp [Value.category]) (Nat.le_of_ble_eq_true rfl) ?_
  intro Z A ok
  refine g_aload_n ok (dk m_Tr_vacate 0 rfl) (pc' := 1) rfl (i := 0) rfl rfl ?_
  refine g_get ok (dk m_Tr_vacate 1 rfl) (pc' := 4) rfl f_Tr_26 ht.1 rfl ?_
  refine g_iload_n ok (dk m_Tr_vacate 2 rfl) (pc' := 5) rfl (i := 1) rfl rfl ?_
  refine g_iconst ok (dk m_Tr_vacate 3 rfl) (pc' := 6) rfl (v := (-1)) (by decide) ?_
  refine g_callV ok (dk m_Tr_vacate 4 rfl) (pc' := 9) rfl c_Tr_45 (c_Row_put g l (-1) 0 (ht.2.1 3 (by decide)).1 (ht.2.1 3 (by decide)).2 (tr_len_lt _)) (ht.2.1 3 (by decide)).1 rfl rfl (by simp [Value.category]) (by omega) rfl (rc' := 0) (rs' := 0) (by omega) (by omega) (fun rv h' hcc => ?_) (fun i h' hcc => by obtain ⟨e, -⟩ := hcc; cases e)
  obtain ⟨e, e2⟩ := hcc
  cases e
  have h1t := ht.putE 3 (by decide) e2
  have ho1 := q_off.upE (q_off.rf (X := tr_P t rb)) (Or.inr ⟨3, by decide, rfl⟩) e2
  clear e2
  refine g_aload_n ok (dk m_Tr_vacate 5 rfl) (pc' := 10) rfl (i := 0) rfl rfl ?_
  refine g_iload_n ok (dk m_Tr_vacate 6 rfl) (pc' := 11) rfl (i := 1) rfl rfl ?_
  refine g_callV ok (dk m_Tr_vacate 7 rfl) (pc' := 14) rfl c_Tr_52 (c_Tr_blankWithPath (T := (va_up T.1 3 (r_put (tr_len 3) (T.1 3) l (-1)), T.2)) g l 2 (by omega) hT h1t) h1t.1 rfl rfl (by simp [Value.category]) (by omega) rfl (rc' := 0) (rs' := 0) (by omega) (by omega) (fun rv h' hcc => ?_) (fun i h' hcc => by obtain ⟨e, -⟩ := hcc; cases e)
  obtain ⟨e, h2t, ho2⟩ := hcc
  cases e
  exact g_vret ok (dk m_Tr_vacate 8 rfl) rfl ⟨rfl, h2t, ho1.tr ho2⟩
set_option maxHeartbeats 1000000 in
theorem c_Tr_renew (g : q_G) {h : q_H} {t : Nat} {ra rb : Nat → Nat} {T : tr_T} (l k e : Int32) (d : Nat) (hd : 3 ≤ d) (hT : T.2 ≤ 4) (ht : q_tree h t ra rb T) : MG g y_Tr_renew b_Tr_renew 4 none d 0 0 [.ref t, .int l, .int k, .int e] h (fun q h' => q = .inl none ∧ q_tree h' t ra rb (T_ren T l k e) ∧ q_off h h' (tr_P t rb)) := by
  refine MG.of (by decide +kernel) (by simp [Value.category]) (Nat.le_of_ble_eq_true rfl) ?_
  intro Z A ok
  refine g_aload_n ok (dk m_Tr_renew 0 rfl) (pc' := 1) rfl (i := 0) rfl rfl ?_
  refine g_iload_n ok (dk m_Tr_renew 1 rfl) (pc' := 2) rfl (i := 1) rfl rfl ?_
  refine g_callV ok (dk m_Tr_renew 2 rfl) (pc' := 5) rfl c_Tr_52 (c_Tr_blankWithPath g l 2 (by omega) hT ht) ht.1 rfl rfl (by simp [Value.category]) (by omega) rfl (rc' := 0) (rs' := 0) (by omega) (by omega) (fun rv h' hcc => ?_) (fun i h' hcc => by obtain ⟨e, -⟩ := hcc; cases e)
  obtain ⟨e9, h1t, ho1⟩ := hcc
  cases e9
  refine g_aload_n ok (dk m_Tr_renew 3 rfl) (pc' := 6) rfl (i := 0) rfl rfl ?_
  refine g_iload_n ok (dk m_Tr_renew 4 rfl) (pc' := 7) rfl (i := 1) rfl rfl ?_
  refine g_iconst ok (dk m_Tr_renew 5 rfl) (pc' := 8) rfl (v := 0) (by decide) ?_
  refine g_callS ok (dk m_Tr_renew 6 rfl) (pc' := 11) rfl c_Tr_56 (c_Tr_nodeOver g l 0 0) rfl rfl (by simp [Value.category]) (by omega) rfl (rc' := 0) (rs' := 0) (by omega) (by omega) (fun rv h' hcc => ?_) (fun i h' hcc => by obtain ⟨e, -⟩ := hcc; cases e)
  obtain ⟨e9, e2⟩ := hcc
  have e3 := e2.symm
  subst e3
  cases e9
  refine g_iload_n ok (dk m_Tr_renew 7 rfl) (pc' := 12) rfl (i := 2) rfl rfl ?_
  refine g_iload_n ok (dk m_Tr_renew 8 rfl) (pc' := 13) rfl (i := 3) rfl rfl ?_
  refine g_callV ok (dk m_Tr_renew 9 rfl) (pc' := 16) rfl c_Tr_48 (c_Tr_give g (j_node l 0) k e 1 (by omega) h1t) h1t.1 rfl rfl (by simp [Value.category]) (by omega) rfl (rc' := 0) (rs' := 0) (by omega) (by omega) (fun rv h' hcc => ?_) (fun i h' hcc => by obtain ⟨e, -⟩ := hcc; cases e)
  obtain ⟨e9, h2t, ho2⟩ := hcc
  cases e9
  exact g_vret ok (dk m_Tr_renew 10 rfl) rfl ⟨rfl, h2t, ho1.tr ho2⟩
theorem j_shl : ∀ D, D ≤ 4 → (1 : Int32) <<< (nI D &&& 31) = nI (2 ^ D) := by decide +kernel
theorem j_shl1 : ∀ D, D ≤ 4 → 1 ≤ D → (1 : Int32) <<< ((nI D - 1) &&& 31) = nI (2 ^ (D - 1)) := by decide +kernel
theorem j_shm : ∀ D, D ≤ 4 → (1 : Int32) <<< (nI D &&& 31) - 1 = nI (2 ^ D - 1) := by decide +kernel
def T_rhb (T : tr_T) : Prop := ∀ j, 2 ^ (T.2 - 1) ≤ j → j < 2 ^ T.2 → T_isB T (j_node (nI j) 0)
set_option maxHeartbeats 1000000 in
theorem c_Tr_isRightHalfBlank (g : q_G) {h : q_H} {t : Nat} {ra rb : Nat → Nat} {T : tr_T} (d : Nat) (hd : 2 ≤ d) (hT : T.2 ≤ 4) (hT1 : 1 ≤ T.2) (ht : q_tree h t ra rb T) : MG g y_Tr_isRightHalfBlank b_Tr_isRightHalfBlank 2 (some .boolean) d 0 0 [.ref t] h (fun q h' => q = .inl (some (.int (b2i (T_rhb T)))) ∧ h' = h) := by
  refine MG.of (by decide +kernel) (by simp [Value.category]) (Nat.le_of_ble_eq_true rfl) ?_
  intro Z A ok
  have hp1 : 2 ^ T.2 ≤ 16 := Nat.pow_le_pow_right (by decide) hT
  have hp2 : 2 ^ (T.2 - 1) ≤ 2 ^ T.2 := Nat.pow_le_pow_right (by decide) (by omega)
  have loop : ∀ (m k : Nat), k + m = 2 ^ T.2 → 2 ^ (T.2 - 1) ≤ k → (∀ j, 2 ^ (T.2 - 1) ≤ j → j < k → T_isB T (j_node (nI j) 0)) → GW g Z A (fun q h' => q = .inl (some (.int (b2i (T_rhb T)))) ∧ h' = h) 0 0 h 9 [some (.ref t), some (.int (nI k))] [] := by
    intro m
    induction m with
    | zero =>
      intro k hk hk1 hv
      refine g_iload_n ok (dk m_Tr_isRightHalfBlank 7 rfl) (pc' := 10) rfl (i := 1) rfl rfl ?_
      refine g_iconst ok (dk m_Tr_isRightHalfBlank 8 rfl) (pc' := 11) rfl (v := 1) (by decide) ?_
      refine g_aload_n ok (dk m_Tr_isRightHalfBlank 9 rfl) (pc' := 12) rfl (i := 0) rfl rfl ?_
      refine g_get ok (dk m_Tr_isRightHalfBlank 10 rfl) (pc' := 15) rfl f_Tr_29 ht.1 rfl ?_
      refine g_ishl ok (dk m_Tr_isRightHalfBlank 11 rfl) (pc' := 16) rfl ?_
      refine g_top (w := .int (nI (2 ^ T.2))) (by rw [j_shl T.2 hT]) ?_
      refine g_icmp_ge ok (dk m_Tr_isRightHalfBlank 12 rfl) (tgt := 39) (by decide) (pc' := 19) rfl (fun c_16 => ?_) (fun c_16 => absurd (nI_le (a := 2 ^ T.2) (b := k) (by omega) (by omega)) c_16)
      refine g_iconst ok (dk m_Tr_isRightHalfBlank 23 rfl) (pc' := 40) rfl (v := 1) (by decide) ?_
      exact g_iret ok (dk m_Tr_isRightHalfBlank 24 rfl) rfl rfl ⟨by rw [b2i_t (p := T_rhb T) (fun j h1 h2 => hv j h1 (by omega))], rfl⟩
    | succ m ih =>
      intro k hk hk1 hv
      refine g_iload_n ok (dk m_Tr_isRightHalfBlank 7 rfl) (pc' := 10) rfl (i := 1) rfl rfl ?_
      refine g_iconst ok (dk m_Tr_isRightHalfBlank 8 rfl) (pc' := 11) rfl (v := 1) (by decide) ?_
      refine g_aload_n ok (dk m_Tr_isRightHalfBlank 9 rfl) (pc' := 12) rfl (i := 0) rfl rfl ?_
      refine g_get ok (dk m_Tr_isRightHalfBlank 10 rfl) (pc' := 15) rfl f_Tr_29 ht.1 rfl ?_
      refine g_ishl ok (dk m_Tr_isRightHalfBlank 11 rfl) (pc' := 16) rfl ?_
      refine g_top (w := .int (nI (2 ^ T.2))) (by rw [j_shl T.2 hT]) ?_
      refine g_icmp_ge ok (dk m_Tr_isRightHalfBlank 12 rfl) (tgt := 39) (by decide) (pc' := 19) rfl (fun c_16 => absurd c_16 (nI_ge (a := k) (b := 2 ^ T.2) (by omega) (by omega))) (fun c_16 => ?_)
      refine g_aload_n ok (dk m_Tr_isRightHalfBlank 13 rfl) (pc' := 20) rfl (i := 0) rfl rfl ?_
      refine g_iload_n ok (dk m_Tr_isRightHalfBlank 14 rfl) (pc' := 21) rfl (i := 1) rfl rfl ?_
      refine g_iconst ok (dk m_Tr_isRightHalfBlank 15 rfl) (pc' := 22) rfl (v := 0) (by decide) ?_
      refine g_callS ok (dk m_Tr_isRightHalfBlank 16 rfl) (pc' := 25) rfl c_Tr_56 (c_Tr_nodeOver g (nI k) 0 0) rfl rfl (by simp [Value.category]) (by omega) rfl (rc' := 0) (rs' := 0) (by omega) (by omega) (fun rv h' hcc => ?_) (fun i h' hcc => by obtain ⟨e, -⟩ := hcc; cases e)
      obtain ⟨e, e2⟩ := hcc
      have e3 := e2.symm
      subst e3
      cases e
      refine g_callV ok (dk m_Tr_isRightHalfBlank 17 rfl) (pc' := 28) rfl c_Tr_67 (c_Tr_isBlank g (j_node (nI k) 0) 1 (by omega) ht) ht.1 rfl rfl (by simp [Value.category]) (by omega) rfl (rc' := 0) (rs' := 0) (by omega) (by omega) (fun rv h' hcc => ?_) (fun i h' hcc => by obtain ⟨e, -⟩ := hcc; cases e)
      obtain ⟨e, e2⟩ := hcc
      have e3 := e2.symm
      subst e3
      cases e
      refine g_if_ne ok (dk m_Tr_isRightHalfBlank 18 rfl) (tgt := 33) (by decide) (pc' := 31) rfl (fun c_28 => ?_) (fun c_28 => ?_)
      · refine g_iinc ok (dk m_Tr_isRightHalfBlank 21 rfl) (pc' := 36) rfl rfl (nI_1 k) rfl ?_
        refine g_goto ok (dk m_Tr_isRightHalfBlank 22 rfl) (pc' := 9) (by decide) ?_
        exact ih (k + 1) (by omega) (by omega) (fun j h1 h2 => by rcases Nat.lt_or_ge j k with e | e; exact hv j h1 e; rw [show j = k by omega]; exact b2i_n c_28)
      · refine g_iconst ok (dk m_Tr_isRightHalfBlank 19 rfl) (pc' := 32) rfl (v := 0) (by decide) ?_
        exact g_iret ok (dk m_Tr_isRightHalfBlank 20 rfl) rfl rfl ⟨by rw [b2i_f (p := T_rhb T) (fun z => b2i_0 c_28 (z k hk1 (by omega)))], rfl⟩
  refine g_iconst ok (dk m_Tr_isRightHalfBlank 0 rfl) (pc' := 1) rfl (v := 1) (by decide) ?_
  refine g_aload_n ok (dk m_Tr_isRightHalfBlank 1 rfl) (pc' := 2) rfl (i := 0) rfl rfl ?_
  refine g_get ok (dk m_Tr_isRightHalfBlank 2 rfl) (pc' := 5) rfl f_Tr_29 ht.1 rfl ?_
  refine g_iconst ok (dk m_Tr_isRightHalfBlank 3 rfl) (pc' := 6) rfl (v := 1) (by decide) ?_
  refine g_isub ok (dk m_Tr_isRightHalfBlank 4 rfl) (pc' := 7) rfl ?_
  refine g_ishl ok (dk m_Tr_isRightHalfBlank 5 rfl) (pc' := 8) rfl ?_
  refine g_top (w := .int (nI (2 ^ (T.2 - 1)))) (by rw [j_shl1 T.2 hT hT1]) ?_
  refine g_istore_n ok (dk m_Tr_isRightHalfBlank 6 rfl) (pc' := 9) rfl (i := 1) rfl (Nat.le_of_ble_eq_true rfl) rfl ?_
  exact loop (2 ^ T.2 - 2 ^ (T.2 - 1)) (2 ^ (T.2 - 1)) (by omega) (Nat.le_refl _) (fun j h1 h2 => by omega)
noncomputable def T_shr : Nat → tr_T → tr_T
  | 0, T => T
  | m + 1, T => by classical exact if 0 < T.2 ∧ T_rhb T then T_shr m ((T_blank T (nI (2 ^ T.2 - 1))).1, T.2 - 1) else T
set_option maxHeartbeats 1000000 in
theorem c_Tr_shrink (g : q_G) {h : q_H} {t : Nat} {ra rb : Nat → Nat} {T : tr_T} (d : Nat) (hd : 3 ≤ d) (hT : T.2 ≤ 4) (ht : q_tree h t ra rb T) : MG g y_Tr_shrink b_Tr_shrink 1 none d 0 0 [.ref t] h (fun q h' => q = .inl none ∧ q_tree h' t ra rb (T_shr 5 T) ∧ q_off h h' (tr_P t rb)) := by
  refine MG.of (by decide +kernel) (by simp [Value.category]) (Nat.le_of_ble_eq_true rfl) ?_
  intro Z A ok
  have loop : ∀ (m : Nat), m ≤ 5 → ∀ (h1 : q_H) (T1 : tr_T), q_tree h1 t ra rb T1 → q_off h h1 (tr_P t rb) → T1.2 ≤ 4 → T1.2 < m → T_shr m T1 = T_shr 5 T → GW g Z A (fun q h' => q = .inl none ∧ q_tree h' t ra rb (T_shr 5 T) ∧ q_off h h' (tr_P t rb)) 0 0 h1 0 [some (.ref t)] [] := by
    intro m
    induction m with
    | zero =>
      intro _ h1 T1 _ _ _ hlt
      omega
    | succ m ih =>
      intro hm h1 T1 h1t ho1 hD hlt hv
      refine g_aload_n ok (dk m_Tr_shrink 0 rfl) (pc' := 1) rfl (i := 0) rfl rfl ?_
      refine g_get ok (dk m_Tr_shrink 1 rfl) (pc' := 4) rfl f_Tr_29 h1t.1 rfl ?_
      refine g_if_le ok (dk m_Tr_shrink 2 rfl) (tgt := 39) (by decide) (pc' := 7) rfl (fun c_4 => ?_) (fun c_4 => ?_)
      · exact g_vret ok (dk m_Tr_shrink 21 rfl) rfl ⟨rfl, by rw [← hv, T_shr, if_neg (fun y => by have h9 := (nI_leI (a := T1.2) (b := 0) (by omega) (by decide)).mp c_4; omega)]; exact h1t, ho1⟩
      · have hpos : 1 ≤ T1.2 := by
          rcases Nat.eq_zero_or_pos T1.2 with e | e
          · exact absurd (by rw [e]; decide) c_4
          · exact e
        refine g_aload_n ok (dk m_Tr_shrink 3 rfl) (pc' := 8) rfl (i := 0) rfl rfl ?_
        refine g_callV ok (dk m_Tr_shrink 4 rfl) (pc' := 11) rfl c_Tr_60 (c_Tr_isRightHalfBlank g 2 (by omega) hD hpos h1t) h1t.1 rfl rfl (by simp [Value.category]) (by omega) rfl (rc' := 0) (rs' := 0) (by omega) (by omega) (fun rv h' hcc => ?_) (fun i h' hcc => by obtain ⟨e, -⟩ := hcc; cases e)
        obtain ⟨e, e2⟩ := hcc
        have e3 := e2.symm
        subst e3
        cases e
        refine g_if_eq ok (dk m_Tr_shrink 5 rfl) (tgt := 39) (by decide) (pc' := 14) rfl (fun c_11 => ?_) (fun c_11 => ?_)
        · exact g_vret ok (dk m_Tr_shrink 21 rfl) rfl ⟨rfl, by rw [← hv, T_shr, if_neg (fun y => b2i_0 c_11 y.2)]; exact h1t, ho1⟩
        · refine g_aload_n ok (dk m_Tr_shrink 6 rfl) (pc' := 15) rfl (i := 0) rfl rfl ?_
          refine g_iconst ok (dk m_Tr_shrink 7 rfl) (pc' := 16) rfl (v := 1) (by decide) ?_
          refine g_aload_n ok (dk m_Tr_shrink 8 rfl) (pc' := 17) rfl (i := 0) rfl rfl ?_
          refine g_get ok (dk m_Tr_shrink 9 rfl) (pc' := 20) rfl f_Tr_29 h1t.1 rfl ?_
          refine g_ishl ok (dk m_Tr_shrink 10 rfl) (pc' := 21) rfl ?_
          refine g_iconst ok (dk m_Tr_shrink 11 rfl) (pc' := 22) rfl (v := 1) (by decide) ?_
          refine g_isub ok (dk m_Tr_shrink 12 rfl) (pc' := 23) rfl ?_
          refine g_top (w := .int (nI (2 ^ T1.2 - 1))) (by rw [j_shm T1.2 hD]) ?_
          refine g_callV ok (dk m_Tr_shrink 13 rfl) (pc' := 26) rfl c_Tr_64 (c_Tr_blank g (nI (2 ^ T1.2 - 1)) 2 (by omega) h1t) h1t.1 rfl rfl (by simp [Value.category]) (by omega) rfl (rc' := 0) (rs' := 0) (by omega) (by omega) (fun rv h' hcc => ?_) (fun i h' hcc => by obtain ⟨e, -⟩ := hcc; cases e)
          obtain ⟨e, h2t, ho2⟩ := hcc
          cases e
          refine g_aload_n ok (dk m_Tr_shrink 14 rfl) (pc' := 27) rfl (i := 0) rfl rfl ?_
          refine g_dup ok (dk m_Tr_shrink 15 rfl) (pc' := 28) rfl rfl ?_
          refine g_get ok (dk m_Tr_shrink 16 rfl) (pc' := 31) rfl f_Tr_29 h2t.1 rfl ?_
          refine g_iconst ok (dk m_Tr_shrink 17 rfl) (pc' := 32) rfl (v := 1) (by decide) ?_
          refine g_isub ok (dk m_Tr_shrink 18 rfl) (pc' := 33) rfl ?_
          refine g_top (w := .int (nI (T1.2 - 1))) (by show Value.int (nI T1.2 - 1) = _; have := pk_sub (a := T1.2) (b := 1) hpos; exact congrArg Value.int this) ?_
          refine g_put ok (dk m_Tr_shrink 19 rfl) (pc' := 36) rfl f_Tr_29 (Or.inl rfl) h2t.1 (Nat.le_of_ble_eq_true rfl) rfl rfl ?_
          refine g_gen (fun h3 e3 => ?_)
          have h3t := h2t.depE e3
          have ho3 := q_off.upE (ho1.tr ho2) (show tr_P t rb t from Or.inl rfl) e3
          clear e3
          refine g_goto ok (dk m_Tr_shrink 20 rfl) (pc' := 0) (by decide) ?_
          exact ih (by omega) h3 _ h3t ho3 (by show T1.2 - 1 ≤ 4; omega) (by show T1.2 - 1 < m; omega) (by rw [← hv, T_shr, if_pos ⟨hpos, b2i_n c_11⟩])
  exact loop 5 (Nat.le_refl 5) h T ht q_off.rf hT (by omega) rfl
