/-! ===== Tree: seats, resolutions, copies ===== -/
def T_seats (T : tr_T) (m : Int32) : Prop := ∃ l, l < 16 ∧ r_get (tr_len 3) (T.1 3) (nI l) = m
noncomputable def T_low (T : tr_T) : Nat → Nat → Int32
  | 0, _ => -1
  | m + 1, k => by classical exact if T_isB T (j_node (nI k) 0) then nI k else T_low T m (k + 1)
set_option maxHeartbeats 1000000 in
theorem c_Tr_seats (g : q_G) {h : q_H} {t : Nat} {ra rb : Nat → Nat} {T : tr_T} (mm : Int32) (d : Nat) (hd : 1 ≤ d) (ht : q_tree h t ra rb T) : MG g y_Tr_seats b_Tr_seats 3 (some .boolean) d 0 0 [.ref t, .int mm] h (fun q h' => q = .inl (some (.int (b2i (T_seats T mm)))) ∧ h' = h) := by
  refine MG.of (by decide +kernel) (by simp [Value.category]) (Nat.le_of_ble_eq_true rfl) ?_
  intro Z A ok
  have loop : ∀ (m k : Nat), k + m = 16 → (∀ l, l < k → ¬ r_get (tr_len 3) (T.1 3) (nI l) = mm) → GW g Z A (fun q h' => q = .inl (some (.int (b2i (T_seats T mm)))) ∧ h' = h) 0 0 h 2 [some (.ref t), some (.int mm), some (.int (nI k))] [] := by
    intro m
    induction m with
    | zero =>
      intro k hk hv
      refine g_iload_n ok (dk m_Tr_seats 2 rfl) (pc' := 3) rfl (i := 2) rfl rfl ?_
      refine g_bipush ok (dk m_Tr_seats 3 rfl) (pc' := 5) rfl (v := 16) (by decide) ?_
      refine g_icmp_ge ok (dk m_Tr_seats 4 rfl) (tgt := 28) (by decide) (pc' := 8) rfl (fun c_5 => ?_) (fun c_5 => absurd (show (16 : Int32) ≤ nI k from by rw [show k = 16 by omega]; decide) c_5)
      refine g_iconst ok (dk m_Tr_seats 15 rfl) (pc' := 29) rfl (v := 0) (by decide) ?_
      exact g_iret ok (dk m_Tr_seats 16 rfl) rfl rfl ⟨by rw [b2i_f (p := T_seats T mm) (fun z => by obtain ⟨l, hl, e⟩ := z; exact hv l (by omega) e)], rfl⟩
    | succ m ih =>
      intro k hk hv
      refine g_iload_n ok (dk m_Tr_seats 2 rfl) (pc' := 3) rfl (i := 2) rfl rfl ?_
      refine g_bipush ok (dk m_Tr_seats 3 rfl) (pc' := 5) rfl (v := 16) (by decide) ?_
      refine g_icmp_ge ok (dk m_Tr_seats 4 rfl) (tgt := 28) (by decide) (pc' := 8) rfl (fun c_5 => absurd c_5 (show ¬ nI 16 ≤ nI k from nI_ge (by omega) (by decide))) (fun c_5 => ?_)
      refine g_aload_n ok (dk m_Tr_seats 5 rfl) (pc' := 9) rfl (i := 0) rfl rfl ?_
      refine g_get ok (dk m_Tr_seats 6 rfl) (pc' := 12) rfl f_Tr_26 ht.1 rfl ?_
      refine g_iload_n ok (dk m_Tr_seats 7 rfl) (pc' := 13) rfl (i := 2) rfl rfl ?_
      refine g_callV ok (dk m_Tr_seats 8 rfl) (pc' := 16) rfl c_Tr_41 (c_Row_get g (nI k) 0 (ht.2.1 3 (by decide)).1 (ht.2.1 3 (by decide)).2 (tr_len_lt _)) (ht.2.1 3 (by decide)).1 rfl rfl (by simp [Value.category]) (by omega) rfl (rc' := 0) (rs' := 0) (by omega) (by omega) (fun rv h' hcc => ?_) (fun i h' hcc => by obtain ⟨e, -⟩ := hcc; cases e)
      obtain ⟨e, e2⟩ := hcc
      have e3 := e2.symm
      subst e3
      cases e
      refine g_iload_n ok (dk m_Tr_seats 9 rfl) (pc' := 17) rfl (i := 1) rfl rfl ?_
      refine g_icmp_ne ok (dk m_Tr_seats 10 rfl) (tgt := 22) (by decide) (pc' := 20) rfl (fun c_17 => ?_) (fun c_17 => ?_)
      · refine g_iinc ok (dk m_Tr_seats 13 rfl) (pc' := 25) rfl rfl (nI_1 k) rfl ?_
        refine g_goto ok (dk m_Tr_seats 14 rfl) (pc' := 2) (by decide) ?_
        exact ih (k + 1) (by omega) (fun l hl e => by rcases Nat.lt_or_ge l k with q | q; exact hv l q e; exact c_17 (by rw [show k = l by omega]; exact e))
      · refine g_iconst ok (dk m_Tr_seats 11 rfl) (pc' := 21) rfl (v := 1) (by decide) ?_
        exact g_iret ok (dk m_Tr_seats 12 rfl) rfl rfl ⟨by rw [b2i_t (p := T_seats T mm) ⟨k, by omega, c_17⟩], rfl⟩
  refine g_iconst ok (dk m_Tr_seats 0 rfl) (pc' := 1) rfl (v := 0) (by decide) ?_
  refine g_istore_n ok (dk m_Tr_seats 1 rfl) (pc' := 2) rfl (i := 2) rfl (Nat.le_of_ble_eq_true rfl) rfl ?_
  exact loop 16 0 (by omega) (fun l hl => by omega)
set_option maxHeartbeats 1000000 in
theorem c_Tr_lowestFreeLeaf (g : q_G) {h : q_H} {t : Nat} {ra rb : Nat → Nat} {T : tr_T} (d : Nat) (hd : 2 ≤ d) (ht : q_tree h t ra rb T) : MG g y_Tr_lowestFreeLeaf b_Tr_lowestFreeLeaf 2 (some .int) d 0 0 [.ref t] h (fun q h' => q = .inl (some (.int (T_low T 16 0))) ∧ h' = h) := by
  refine MG.of (by decide +kernel) (by simp [Value.category]) (Nat.le_of_ble_eq_true rfl) ?_
  intro Z A ok
  have loop : ∀ (m k : Nat), k + m = 16 → T_low T m k = T_low T 16 0 → GW g Z A (fun q h' => q = .inl (some (.int (T_low T 16 0))) ∧ h' = h) 0 0 h 2 [some (.ref t), some (.int (nI k))] [] := by
    intro m
    induction m with
    | zero =>
      intro k hk hv
      refine g_iload_n ok (dk m_Tr_lowestFreeLeaf 2 rfl) (pc' := 3) rfl (i := 1) rfl rfl ?_
      refine g_bipush ok (dk m_Tr_lowestFreeLeaf 3 rfl) (pc' := 5) rfl (v := 16) (by decide) ?_
      refine g_icmp_ge ok (dk m_Tr_lowestFreeLeaf 4 rfl) (tgt := 28) (by decide) (pc' := 8) rfl (fun c_5 => ?_) (fun c_5 => absurd (show (16 : Int32) ≤ nI k from by rw [show k = 16 by omega]; decide) c_5)
      refine g_iconst ok (dk m_Tr_lowestFreeLeaf 15 rfl) (pc' := 29) rfl (v := (-1)) (by decide) ?_
      exact g_iret ok (dk m_Tr_lowestFreeLeaf 16 rfl) rfl rfl ⟨by rw [← hv]; rfl, rfl⟩
    | succ m ih =>
      intro k hk hv
      refine g_iload_n ok (dk m_Tr_lowestFreeLeaf 2 rfl) (pc' := 3) rfl (i := 1) rfl rfl ?_
      refine g_bipush ok (dk m_Tr_lowestFreeLeaf 3 rfl) (pc' := 5) rfl (v := 16) (by decide) ?_
      refine g_icmp_ge ok (dk m_Tr_lowestFreeLeaf 4 rfl) (tgt := 28) (by decide) (pc' := 8) rfl (fun c_5 => absurd c_5 (show ¬ nI 16 ≤ nI k from nI_ge (by omega) (by decide))) (fun c_5 => ?_)
      refine g_aload_n ok (dk m_Tr_lowestFreeLeaf 5 rfl) (pc' := 9) rfl (i := 0) rfl rfl ?_
      refine g_iload_n ok (dk m_Tr_lowestFreeLeaf 6 rfl) (pc' := 10) rfl (i := 1) rfl rfl ?_
      refine g_iconst ok (dk m_Tr_lowestFreeLeaf 7 rfl) (pc' := 11) rfl (v := 0) (by decide) ?_
      refine g_callS ok (dk m_Tr_lowestFreeLeaf 8 rfl) (pc' := 14) rfl c_Tr_56 (c_Tr_nodeOver g (nI k) 0 0) rfl rfl (by simp [Value.category]) (by omega) rfl (rc' := 0) (rs' := 0) (by omega) (by omega) (fun rv h' hcc => ?_) (fun i h' hcc => by obtain ⟨e, -⟩ := hcc; cases e)
      obtain ⟨e, e2⟩ := hcc
      have e3 := e2.symm
      subst e3
      cases e
      refine g_callV ok (dk m_Tr_lowestFreeLeaf 9 rfl) (pc' := 17) rfl c_Tr_67 (c_Tr_isBlank g (j_node (nI k) 0) 1 (by omega) ht) ht.1 rfl rfl (by simp [Value.category]) (by omega) rfl (rc' := 0) (rs' := 0) (by omega) (by omega) (fun rv h' hcc => ?_) (fun i h' hcc => by obtain ⟨e, -⟩ := hcc; cases e)
      obtain ⟨e, e2⟩ := hcc
      have e3 := e2.symm
      subst e3
      cases e
      refine g_if_eq ok (dk m_Tr_lowestFreeLeaf 10 rfl) (tgt := 22) (by decide) (pc' := 20) rfl (fun c_17 => ?_) (fun c_17 => ?_)
      · refine g_iinc ok (dk m_Tr_lowestFreeLeaf 13 rfl) (pc' := 25) rfl rfl (nI_1 k) rfl ?_
        refine g_goto ok (dk m_Tr_lowestFreeLeaf 14 rfl) (pc' := 2) (by decide) ?_
        exact ih (k + 1) (by omega) (by rw [← hv, T_low, if_neg (b2i_0 c_17)])
      · refine g_iload_n ok (dk m_Tr_lowestFreeLeaf 11 rfl) (pc' := 21) rfl (i := 1) rfl rfl ?_
        exact g_iret ok (dk m_Tr_lowestFreeLeaf 12 rfl) rfl rfl ⟨by rw [← hv, T_low, if_pos (b2i_n c_17)], rfl⟩
  refine g_iconst ok (dk m_Tr_lowestFreeLeaf 0 rfl) (pc' := 1) rfl (v := 0) (by decide) ?_
  refine g_istore_n ok (dk m_Tr_lowestFreeLeaf 1 rfl) (pc' := 2) rfl (i := 1) rfl (Nat.le_of_ble_eq_true rfl) rfl ?_
  exact loop 16 0 (by omega) rfl
noncomputable def T_own (T : tr_T) (n : Int32) : Int32 := ((1 : Int32) <<< (n &&& 31)) ||| j_nl (r_get (tr_len 1) (T.1 1) n) 16 0 0
noncomputable def T_res (T : tr_T) : Nat → Int32 → Int32
  | 0, n => by classical exact if T_isB T n then 0 else T_own T n
  | k + 1, n => by classical exact if T_isB T n then T_res T k (n - ((1 : Int32) <<< (nI k &&& 31))) ||| T_res T k (n + ((1 : Int32) <<< (nI k &&& 31))) else T_own T n
set_option maxHeartbeats 1000000 in
theorem c_Tr_resolutionFrom (g : q_G) {h : q_H} {t : Nat} {ra rb : Nat → Nat} {T : tr_T} (ht : q_tree h t ra rb T) : ∀ (k : Nat) (n : Int32), k ≤ 4 → ∀ d, k + 1 ≤ d → MG g y_Tr_resolutionFrom b_Tr_resolutionFrom 5 (some .int) d 0 0 [.ref t, .int n, .int (nI k)] h (fun q h' => q = .inl (some (.int (T_res T k n))) ∧ h' = h) := by
  intro k
  induction k with
  | zero =>
    intro n hk d hd
    refine MG.of (by decide +kernel) (by simp [Value.category]) (Nat.le_of_ble_eq_true rfl) ?_
    intro Z A ok
    refine g_aload_n ok (dk m_Tr_resolutionFrom 0 rfl) (pc' := 1) rfl (i := 0) rfl rfl ?_
    refine g_get ok (dk m_Tr_resolutionFrom 1 rfl) (pc' := 4) rfl f_Tr_14 ht.1 rfl ?_
    refine g_iload_n ok (dk m_Tr_resolutionFrom 2 rfl) (pc' := 5) rfl (i := 1) rfl rfl ?_
    refine g_callV ok (dk m_Tr_resolutionFrom 3 rfl) (pc' := 8) rfl c_Tr_41 (c_Row_get g n 0 (ht.2.1 0 (by decide)).1 (ht.2.1 0 (by decide)).2 (tr_len_lt _)) (ht.2.1 0 (by decide)).1 rfl rfl (by simp [Value.category]) (by omega) rfl (rc' := 0) (rs' := 0) (by omega) (by omega) (fun rv h' hcc => ?_) (fun i h' hcc => by obtain ⟨e, -⟩ := hcc; cases e)
    obtain ⟨e, e2⟩ := hcc
    have e3 := e2.symm
    subst e3
    cases e
    refine g_iconst ok (dk m_Tr_resolutionFrom 4 rfl) (pc' := 9) rfl (v := (-1)) (by decide) ?_
    refine g_icmp_eq ok (dk m_Tr_resolutionFrom 5 rfl) (tgt := 28) (by decide) (pc' := 12) rfl (fun c_9 => ?_) (fun c_9 => ?_)
    · refine g_iload_n ok (dk m_Tr_resolutionFrom 16 rfl) (pc' := 29) rfl (i := 2) rfl rfl ?_
      refine g_if_gt ok (dk m_Tr_resolutionFrom 17 rfl) (tgt := 34) (by decide) (pc' := 32) rfl (fun c_29 => absurd c_29 (show ¬ (0 : Int32) < nI 0 by decide)) (fun c_29 => ?_)
      refine g_iconst ok (dk m_Tr_resolutionFrom 18 rfl) (pc' := 33) rfl (v := 0) (by decide) ?_
      exact g_iret ok (dk m_Tr_resolutionFrom 19 rfl) rfl rfl ⟨by rw [T_res, if_pos (show T_isB T n from c_9)], rfl⟩
    · refine g_iconst ok (dk m_Tr_resolutionFrom 6 rfl) (pc' := 13) rfl (v := 1) (by decide) ?_
      refine g_iload_n ok (dk m_Tr_resolutionFrom 7 rfl) (pc' := 14) rfl (i := 1) rfl rfl ?_
      refine g_ishl ok (dk m_Tr_resolutionFrom 8 rfl) (pc' := 15) rfl ?_
      refine g_aload_n ok (dk m_Tr_resolutionFrom 9 rfl) (pc' := 16) rfl (i := 0) rfl rfl ?_
      refine g_get ok (dk m_Tr_resolutionFrom 10 rfl) (pc' := 19) rfl f_Tr_20 ht.1 rfl ?_
      refine g_iload_n ok (dk m_Tr_resolutionFrom 11 rfl) (pc' := 20) rfl (i := 1) rfl rfl ?_
      refine g_callV ok (dk m_Tr_resolutionFrom 12 rfl) (pc' := 23) rfl c_Tr_41 (c_Row_get g n 0 (ht.2.1 1 (by decide)).1 (ht.2.1 1 (by decide)).2 (tr_len_lt _)) (ht.2.1 1 (by decide)).1 rfl rfl (by simp [Value.category]) (by omega) rfl (rc' := 0) (rs' := 0) (by omega) (by omega) (fun rv h' hcc => ?_) (fun i h' hcc => by obtain ⟨e, -⟩ := hcc; cases e)
      obtain ⟨e, e2⟩ := hcc
      have e3 := e2.symm
      subst e3
      cases e
      refine g_callS ok (dk m_Tr_resolutionFrom 13 rfl) (pc' := 26) rfl c_Tr_77 (c_Tr_nodesOfLeaves g (r_get (tr_len 1) (T.1 1) n) 0) rfl rfl (by simp [Value.category]) (by omega) rfl (rc' := 0) (rs' := 0) (by omega) (by omega) (fun rv h' hcc => ?_) (fun i h' hcc => by obtain ⟨e, -⟩ := hcc; cases e)
      obtain ⟨e, e2⟩ := hcc
      have e3 := e2.symm
      subst e3
      cases e
      refine g_ior ok (dk m_Tr_resolutionFrom 14 rfl) (pc' := 27) rfl ?_
      exact g_iret ok (dk m_Tr_resolutionFrom 15 rfl) rfl rfl ⟨by rw [T_res, if_neg (show ¬ T_isB T n from c_9)]; rfl, rfl⟩
  | succ k ih =>
    intro n hk d hd
    refine MG.of (by decide +kernel) (by simp [Value.category]) (Nat.le_of_ble_eq_true rfl) ?_
    intro Z A ok
    refine g_aload_n ok (dk m_Tr_resolutionFrom 0 rfl) (pc' := 1) rfl (i := 0) rfl rfl ?_
    refine g_get ok (dk m_Tr_resolutionFrom 1 rfl) (pc' := 4) rfl f_Tr_14 ht.1 rfl ?_
    refine g_iload_n ok (dk m_Tr_resolutionFrom 2 rfl) (pc' := 5) rfl (i := 1) rfl rfl ?_
    refine g_callV ok (dk m_Tr_resolutionFrom 3 rfl) (pc' := 8) rfl c_Tr_41 (c_Row_get g n 0 (ht.2.1 0 (by decide)).1 (ht.2.1 0 (by decide)).2 (tr_len_lt _)) (ht.2.1 0 (by decide)).1 rfl rfl (by simp [Value.category]) (by omega) rfl (rc' := 0) (rs' := 0) (by omega) (by omega) (fun rv h' hcc => ?_) (fun i h' hcc => by obtain ⟨e, -⟩ := hcc; cases e)
    obtain ⟨e, e2⟩ := hcc
    have e3 := e2.symm
    subst e3
    cases e
    refine g_iconst ok (dk m_Tr_resolutionFrom 4 rfl) (pc' := 9) rfl (v := (-1)) (by decide) ?_
    refine g_icmp_eq ok (dk m_Tr_resolutionFrom 5 rfl) (tgt := 28) (by decide) (pc' := 12) rfl (fun c_9 => ?_) (fun c_9 => ?_)
    · refine g_iload_n ok (dk m_Tr_resolutionFrom 16 rfl) (pc' := 29) rfl (i := 2) rfl rfl ?_
      refine g_if_gt ok (dk m_Tr_resolutionFrom 17 rfl) (tgt := 34) (by decide) (pc' := 32) rfl (fun c_29 => ?_) (fun c_29 => absurd (show (0 : Int32) < nI (k + 1) from by have := nI_lt (a := 0) (b := k + 1) (by omega) (by omega); exact this) c_29)
      refine g_iload_n ok (dk m_Tr_resolutionFrom 20 rfl) (pc' := 35) rfl (i := 2) rfl rfl ?_
      refine g_iconst ok (dk m_Tr_resolutionFrom 21 rfl) (pc' := 36) rfl (v := 1) (by decide) ?_
      refine g_isub ok (dk m_Tr_resolutionFrom 22 rfl) (pc' := 37) rfl ?_
      refine g_top (w := .int (nI k)) (by rw [nI_pred]) ?_
      refine g_istore_n ok (dk m_Tr_resolutionFrom 23 rfl) (pc' := 38) rfl (i := 3) rfl (Nat.le_of_ble_eq_true rfl) rfl ?_
      refine g_iconst ok (dk m_Tr_resolutionFrom 24 rfl) (pc' := 39) rfl (v := 1) (by decide) ?_
      refine g_iload_n ok (dk m_Tr_resolutionFrom 25 rfl) (pc' := 40) rfl (i := 3) rfl rfl ?_
      refine g_ishl ok (dk m_Tr_resolutionFrom 26 rfl) (pc' := 41) rfl ?_
      refine g_istore ok (dk m_Tr_resolutionFrom 27 rfl) (pc' := 43) rfl (Nat.le_of_ble_eq_true rfl) rfl ?_
      refine g_aload_n ok (dk m_Tr_resolutionFrom 28 rfl) (pc' := 44) rfl (i := 0) rfl rfl ?_
      refine g_iload_n ok (dk m_Tr_resolutionFrom 29 rfl) (pc' := 45) rfl (i := 1) rfl rfl ?_
      refine g_iload ok (dk m_Tr_resolutionFrom 30 rfl) (pc' := 47) rfl rfl ?_
      refine g_isub ok (dk m_Tr_resolutionFrom 31 rfl) (pc' := 48) rfl ?_
      refine g_iload_n ok (dk m_Tr_resolutionFrom 32 rfl) (pc' := 49) rfl (i := 3) rfl rfl ?_
      refine g_callV ok (dk m_Tr_resolutionFrom 33 rfl) (pc' := 52) rfl c_Tr_74 (ih (n - ((1 : Int32) <<< (nI k &&& 31))) (by omega) (d - 1) (by omega)) ht.1 rfl rfl (by simp [Value.category]) (by omega) rfl (rc' := 0) (rs' := 0) (by omega) (by omega) (fun rv h' hcc => ?_) (fun i h' hcc => by obtain ⟨e, -⟩ := hcc; cases e)
      obtain ⟨e, e2⟩ := hcc
      have e3 := e2.symm
      subst e3
      cases e
      refine g_aload_n ok (dk m_Tr_resolutionFrom 34 rfl) (pc' := 53) rfl (i := 0) rfl rfl ?_
      refine g_iload_n ok (dk m_Tr_resolutionFrom 35 rfl) (pc' := 54) rfl (i := 1) rfl rfl ?_
      refine g_iload ok (dk m_Tr_resolutionFrom 36 rfl) (pc' := 56) rfl rfl ?_
      refine g_iadd ok (dk m_Tr_resolutionFrom 37 rfl) (pc' := 57) rfl ?_
      refine g_iload_n ok (dk m_Tr_resolutionFrom 38 rfl) (pc' := 58) rfl (i := 3) rfl rfl ?_
      refine g_callV ok (dk m_Tr_resolutionFrom 39 rfl) (pc' := 61) rfl c_Tr_74 (ih (n + ((1 : Int32) <<< (nI k &&& 31))) (by omega) (d - 1) (by omega)) ht.1 rfl rfl (by simp [Value.category]) (by omega) rfl (rc' := 0) (rs' := 0) (by omega) (by omega) (fun rv h' hcc => ?_) (fun i h' hcc => by obtain ⟨e, -⟩ := hcc; cases e)
      obtain ⟨e, e2⟩ := hcc
      have e3 := e2.symm
      subst e3
      cases e
      refine g_ior ok (dk m_Tr_resolutionFrom 40 rfl) (pc' := 62) rfl ?_
      exact g_iret ok (dk m_Tr_resolutionFrom 41 rfl) rfl rfl ⟨by rw [T_res, if_pos (show T_isB T n from c_9)], rfl⟩
    · refine g_iconst ok (dk m_Tr_resolutionFrom 6 rfl) (pc' := 13) rfl (v := 1) (by decide) ?_
      refine g_iload_n ok (dk m_Tr_resolutionFrom 7 rfl) (pc' := 14) rfl (i := 1) rfl rfl ?_
      refine g_ishl ok (dk m_Tr_resolutionFrom 8 rfl) (pc' := 15) rfl ?_
      refine g_aload_n ok (dk m_Tr_resolutionFrom 9 rfl) (pc' := 16) rfl (i := 0) rfl rfl ?_
      refine g_get ok (dk m_Tr_resolutionFrom 10 rfl) (pc' := 19) rfl f_Tr_20 ht.1 rfl ?_
      refine g_iload_n ok (dk m_Tr_resolutionFrom 11 rfl) (pc' := 20) rfl (i := 1) rfl rfl ?_
      refine g_callV ok (dk m_Tr_resolutionFrom 12 rfl) (pc' := 23) rfl c_Tr_41 (c_Row_get g n 0 (ht.2.1 1 (by decide)).1 (ht.2.1 1 (by decide)).2 (tr_len_lt _)) (ht.2.1 1 (by decide)).1 rfl rfl (by simp [Value.category]) (by omega) rfl (rc' := 0) (rs' := 0) (by omega) (by omega) (fun rv h' hcc => ?_) (fun i h' hcc => by obtain ⟨e, -⟩ := hcc; cases e)
      obtain ⟨e, e2⟩ := hcc
      have e3 := e2.symm
      subst e3
      cases e
      refine g_callS ok (dk m_Tr_resolutionFrom 13 rfl) (pc' := 26) rfl c_Tr_77 (c_Tr_nodesOfLeaves g (r_get (tr_len 1) (T.1 1) n) 0) rfl rfl (by simp [Value.category]) (by omega) rfl (rc' := 0) (rs' := 0) (by omega) (by omega) (fun rv h' hcc => ?_) (fun i h' hcc => by obtain ⟨e, -⟩ := hcc; cases e)
      obtain ⟨e, e2⟩ := hcc
      have e3 := e2.symm
      subst e3
      cases e
      refine g_ior ok (dk m_Tr_resolutionFrom 14 rfl) (pc' := 27) rfl ?_
      exact g_iret ok (dk m_Tr_resolutionFrom 15 rfl) rfl rfl ⟨by rw [T_res, if_neg (show ¬ T_isB T n from c_9)]; rfl, rfl⟩
theorem j_ht_le (n : Int32) : ∀ (m k : Nat), k ≤ j_ht n m k ∧ j_ht n m k ≤ k + m := by
  intro m
  induction m with
  | zero => intro k; exact ⟨Nat.le_refl _, Nat.le_refl _⟩
  | succ m ih =>
    intro k
    rw [j_ht]
    split
    · have := ih (k + 1)
      omega
    · omega
noncomputable def T_reso (T : tr_T) (n : Int32) : Int32 := T_res T (j_ht n 4 0) n
set_option maxHeartbeats 1000000 in
theorem c_Tr_resolution (g : q_G) {h : q_H} {t : Nat} {ra rb : Nat → Nat} {T : tr_T} (n : Int32) (d : Nat) (hd : 6 ≤ d) (ht : q_tree h t ra rb T) : MG g y_Tr_resolution b_Tr_resolution 2 (some .int) d 0 0 [.ref t, .int n] h (fun q h' => q = .inl (some (.int (T_reso T n))) ∧ h' = h) := by
  refine MG.of (by decide +kernel) (by simp [Value.category]) (Nat.le_of_ble_eq_true rfl) ?_
  intro Z A ok
  refine g_aload_n ok (dk m_Tr_resolution 0 rfl) (pc' := 1) rfl (i := 0) rfl rfl ?_
  refine g_iload_n ok (dk m_Tr_resolution 1 rfl) (pc' := 2) rfl (i := 1) rfl rfl ?_
  refine g_iload_n ok (dk m_Tr_resolution 2 rfl) (pc' := 3) rfl (i := 1) rfl rfl ?_
  refine g_callS ok (dk m_Tr_resolution 3 rfl) (pc' := 6) rfl c_Tr_71 (c_Tr_heightOf g n 1 (by omega)) rfl rfl (by simp [Value.category]) (by omega) rfl (rc' := 0) (rs' := 0) (by omega) (by omega) (fun rv h' hcc => ?_) (fun i h' hcc => by obtain ⟨e, -⟩ := hcc; cases e)
  obtain ⟨e, e2⟩ := hcc
  have e3 := e2.symm
  subst e3
  cases e
  refine g_callV ok (dk m_Tr_resolution 4 rfl) (pc' := 9) rfl c_Tr_74 (c_Tr_resolutionFrom g ht (j_ht n 4 0) n (by have := (j_ht_le n 4 0).2; omega) 5 (by have := (j_ht_le n 4 0).2; omega)) ht.1 rfl rfl (by simp [Value.category]) (by omega) rfl (rc' := 0) (rs' := 0) (by omega) (by omega) (fun rv h' hcc => ?_) (fun i h' hcc => by obtain ⟨e, -⟩ := hcc; cases e)
  obtain ⟨e, e2⟩ := hcc
  have e3 := e2.symm
  subst e3
  cases e
  exact g_iret ok (dk m_Tr_resolution 5 rfl) rfl rfl ⟨rfl, rfl⟩
def T_gr (l : Nat) : Nat → Nat → Nat
  | 0, D => D
  | m + 1, D => if D < 4 ∧ 2 ^ D ≤ l then T_gr l m (D + 1) else D
noncomputable def T_um1 (T : tr_T) (l n : Int32) : tr_T := by
  classical exact if T_isB T n then T else (va_up T.1 1 (r_put (tr_len 1) (T.1 1) n (r_get (tr_len 1) (T.1 1) n ||| ((1 : Int32) <<< (l &&& 31)))), T.2)
noncomputable def T_um (l : Int32) : Nat → Nat → tr_T → tr_T
  | 0, _, T => T
  | m + 1, k, T => T_um l m (k + 1) (T_um1 T l (j_node l (nI k)))
theorem T_um1_2 (T : tr_T) (l n : Int32) : (T_um1 T l n).2 = T.2 := by
  unfold T_um1
  split <;> rfl
noncomputable def T_seat (T : tr_T) (l : Nat) (m k e : Int32) : tr_T := T_um (nI l) (T_gr l (5 - T.2) T.2) 1 (T_give (va_up T.1 3 (r_put (tr_len 3) (T.1 3) (nI l) m), T_gr l (5 - T.2) T.2) (j_node (nI l) 0) k e)
theorem T_gr_le (l : Nat) : ∀ (m D : Nat), D ≤ 4 → T_gr l m D ≤ 4 := by
  intro m
  induction m with
  | zero => intro D h; exact h
  | succ m ih =>
    intro D h
    rw [T_gr]
    split
    · exact ih (D + 1) (by omega)
    · exact h
set_option maxHeartbeats 1000000 in
theorem c_Tr_seat (g : q_G) {h : q_H} {t : Nat} {ra rb : Nat → Nat} {T : tr_T} {l : Nat} (mm kk ee : Int32) (d : Nat) (hd : 2 ≤ d) (hl : l < 16) (hT : T.2 ≤ 4) (ht : q_tree h t ra rb T) : MG g y_Tr_seat b_Tr_seat 7 none d 0 0 [.ref t, .int (nI l), .int mm, .int kk, .int ee] h (fun q h' => q = .inl none ∧ q_tree h' t ra rb (T_seat T l mm kk ee) ∧ q_off h h' (tr_P t rb)) := by
  refine MG.of (by decide +kernel) (by simp [Value.category]) (Nat.le_of_ble_eq_true rfl) ?_
  intro Z A ok
  have hpw : ∀ D, D ≤ 4 → 2 ^ D ≤ 16 := fun D h => Nat.pow_le_pow_right (by decide) h
  have marks0 : ∀ (D : Nat), D ≤ 4 → ∀ (m k : Nat), k + m = D + 1 → ∀ (h1 : q_H) (T1 : tr_T), q_tree h1 t ra rb T1 → q_off h h1 (tr_P t rb) → T1.2 = D → T_um (nI l) m k T1 = T_seat T l mm kk ee → ∀ w, GW g Z A (fun q h' => q = .inl none ∧ q_tree h' t ra rb (T_seat T l mm kk ee) ∧ q_off h h' (tr_P t rb)) 0 0 h1 55 [some (.ref t), some (.int (nI l)), some (.int mm), some (.int kk), some (.int ee), some (.int (nI k)), w] [] := by
    intro D hD4 m
    induction m with
    | zero =>
      intro k hk h1 T1 h1t ho1 hD hv w
      refine g_iload ok (dk m_Tr_seat 31 rfl) (pc' := 57) rfl rfl ?_
      refine g_aload_n ok (dk m_Tr_seat 32 rfl) (pc' := 58) rfl (i := 0) rfl rfl ?_
      refine g_get ok (dk m_Tr_seat 33 rfl) (pc' := 61) rfl f_Tr_29 h1t.1 rfl ?_
      refine g_icmp_gt ok (dk m_Tr_seat 34 rfl) (tgt := 109) (by decide) (pc' := 64) rfl (fun c_61 => ?_) (fun c_61 => absurd (by rw [hD]; exact nI_lt (a := D) (b := k) (by omega) (by omega)) c_61)
      exact g_vret ok (dk m_Tr_seat 57 rfl) rfl ⟨rfl, by rw [← hv]; exact h1t, ho1⟩
    | succ m ih =>
      intro k hk h1 T1 h1t ho1 hD hv w
      refine g_iload ok (dk m_Tr_seat 31 rfl) (pc' := 57) rfl rfl ?_
      refine g_aload_n ok (dk m_Tr_seat 32 rfl) (pc' := 58) rfl (i := 0) rfl rfl ?_
      refine g_get ok (dk m_Tr_seat 33 rfl) (pc' := 61) rfl f_Tr_29 h1t.1 rfl ?_
      refine g_icmp_gt ok (dk m_Tr_seat 34 rfl) (tgt := 109) (by decide) (pc' := 64) rfl (fun c_61 => absurd c_61 (by rw [hD]; exact nI_nlt (a := D) (b := k) (by omega) (by omega))) (fun c_61 => ?_)
      refine g_iload_n ok (dk m_Tr_seat 35 rfl) (pc' := 65) rfl (i := 1) rfl rfl ?_
      refine g_iload ok (dk m_Tr_seat 36 rfl) (pc' := 67) rfl rfl ?_
      refine g_callS ok (dk m_Tr_seat 37 rfl) (pc' := 70) rfl c_Tr_56 (c_Tr_nodeOver g (nI l) (nI k) 0) rfl rfl (by simp [Value.category]) (by omega) rfl (rc' := 0) (rs' := 0) (by omega) (by omega) (fun rv h' hcc => ?_) (fun i h' hcc => by obtain ⟨e, -⟩ := hcc; cases e)
      obtain ⟨e, e2⟩ := hcc
      have e3 := e2.symm
      subst e3
      cases e
      refine g_istore ok (dk m_Tr_seat 38 rfl) (pc' := 72) rfl (Nat.le_of_ble_eq_true rfl) rfl ?_
      refine g_aload_n ok (dk m_Tr_seat 39 rfl) (pc' := 73) rfl (i := 0) rfl rfl ?_
      refine g_iload ok (dk m_Tr_seat 40 rfl) (pc' := 75) rfl rfl ?_
      refine g_callV ok (dk m_Tr_seat 41 rfl) (pc' := 78) rfl c_Tr_67 (c_Tr_isBlank g (j_node (nI l) (nI k)) 1 (by omega) h1t) h1t.1 rfl rfl (by simp [Value.category]) (by omega) rfl (rc' := 0) (rs' := 0) (by omega) (by omega) (fun rv h' hcc => ?_) (fun i h' hcc => by obtain ⟨e, -⟩ := hcc; cases e)
      obtain ⟨e, e2⟩ := hcc
      have e3 := e2.symm
      subst e3
      cases e
      refine g_if_ne ok (dk m_Tr_seat 42 rfl) (tgt := 103) (by decide) (pc' := 81) rfl (fun c_78 => ?_) (fun c_78 => ?_)
      · have h2t : q_tree h1 t ra rb (T_um1 T1 (nI l) (j_node (nI l) (nI k))) := by rw [T_um1, if_pos (b2i_n c_78)]; exact h1t
        have ho2 := ho1
        refine g_iinc ok (dk m_Tr_seat 55 rfl) (pc' := 106) rfl rfl (nI_1 k) rfl ?_
        refine g_goto ok (dk m_Tr_seat 56 rfl) (pc' := 55) (by decide) ?_
        exact ih (k + 1) (by omega) _ _ h2t ho2 ((T_um1_2 _ _ _).trans hD) (by rw [← hv]; rfl) _
      · refine g_aload_n ok (dk m_Tr_seat 43 rfl) (pc' := 82) rfl (i := 0) rfl rfl ?_
        refine g_get ok (dk m_Tr_seat 44 rfl) (pc' := 85) rfl f_Tr_20 h1t.1 rfl ?_
        refine g_iload ok (dk m_Tr_seat 45 rfl) (pc' := 87) rfl rfl ?_
        refine g_aload_n ok (dk m_Tr_seat 46 rfl) (pc' := 88) rfl (i := 0) rfl rfl ?_
        refine g_get ok (dk m_Tr_seat 47 rfl) (pc' := 91) rfl f_Tr_20 h1t.1 rfl ?_
        refine g_iload ok (dk m_Tr_seat 48 rfl) (pc' := 93) rfl rfl ?_
        refine g_callV ok (dk m_Tr_seat 49 rfl) (pc' := 96) rfl c_Tr_41 (c_Row_get g (j_node (nI l) (nI k)) 0 (h1t.2.1 1 (by decide)).1 (h1t.2.1 1 (by decide)).2 (tr_len_lt _)) (h1t.2.1 1 (by decide)).1 rfl rfl (by simp [Value.category]) (by omega) rfl (rc' := 0) (rs' := 0) (by omega) (by omega) (fun rv h' hcc => ?_) (fun i h' hcc => by obtain ⟨e, -⟩ := hcc; cases e)
        obtain ⟨e, e2⟩ := hcc
        have e3 := e2.symm
        subst e3
        cases e
        refine g_iconst ok (dk m_Tr_seat 50 rfl) (pc' := 97) rfl (v := 1) (by decide) ?_
        refine g_iload_n ok (dk m_Tr_seat 51 rfl) (pc' := 98) rfl (i := 1) rfl rfl ?_
        refine g_ishl ok (dk m_Tr_seat 52 rfl) (pc' := 99) rfl ?_
        refine g_ior ok (dk m_Tr_seat 53 rfl) (pc' := 100) rfl ?_
        refine g_callV ok (dk m_Tr_seat 54 rfl) (pc' := 103) rfl c_Tr_45 (c_Row_put g (j_node (nI l) (nI k)) _ 0 (h1t.2.1 1 (by decide)).1 (h1t.2.1 1 (by decide)).2 (tr_len_lt _)) (h1t.2.1 1 (by decide)).1 rfl rfl (by simp [Value.category]) (by omega) rfl (rc' := 0) (rs' := 0) (by omega) (by omega) (fun rv h' hcc => ?_) (fun i h' hcc => by obtain ⟨e, -⟩ := hcc; cases e)
        obtain ⟨e9, e2⟩ := hcc
        cases e9
        have h3t := h1t.putE 1 (by decide) e2
        have ho2 := q_off.upE ho1 (Or.inr ⟨1, by decide, rfl⟩) e2
        clear e2
        have h2t : q_tree h' t ra rb (T_um1 T1 (nI l) (j_node (nI l) (nI k))) := by rw [T_um1, if_neg (b2i_0 c_78)]; exact h3t
        refine g_iinc ok (dk m_Tr_seat 55 rfl) (pc' := 106) rfl rfl (nI_1 k) rfl ?_
        refine g_goto ok (dk m_Tr_seat 56 rfl) (pc' := 55) (by decide) ?_
        exact ih (k + 1) (by omega) _ _ h2t ho2 ((T_um1_2 _ _ _).trans hD) (by rw [← hv]; rfl) _
  have marks : ∀ (D k : Nat), (D ≤ 4 ∧ k = 1) → ∀ (h1 : q_H) (T1 : tr_T), q_tree h1 t ra rb T1 → q_off h h1 (tr_P t rb) → T1.2 = D → T_um (nI l) D 1 T1 = T_seat T l mm kk ee → ∀ w, GW g Z A (fun q h' => q = .inl none ∧ q_tree h' t ra rb (T_seat T l mm kk ee) ∧ q_off h h' (tr_P t rb)) 0 0 h1 55 [some (.ref t), some (.int (nI l)), some (.int mm), some (.int kk), some (.int ee), some (.int (nI 1)), w] [] := by
    rintro D k ⟨h4, rfl⟩ h1 T1 a1 a2 a3 a4 w
    exact marks0 D h4 D 1 (by omega) h1 T1 a1 a2 a3 a4 w
  have after : ∀ (D : Nat) (h1 : q_H) (T1 : tr_T), q_tree h1 t ra rb T1 → q_off h h1 (tr_P t rb) → T1.2 = D → T1.1 = T.1 → D = T_gr l (5 - T.2) T.2 → D ≤ 4 → GW g Z A (fun q h' => q = .inl none ∧ q_tree h' t ra rb (T_seat T l mm kk ee) ∧ q_off h h' (tr_P t rb)) 0 0 h1 31 [some (.ref t), some (.int (nI l)), some (.int mm), some (.int kk), some (.int ee), none, none] [] := by
    intro D h1 T1 h1t ho1 hD hrow hv hD4
    refine g_aload_n ok (dk m_Tr_seat 17 rfl) (pc' := 32) rfl (i := 0) rfl rfl ?_
    refine g_get ok (dk m_Tr_seat 18 rfl) (pc' := 35) rfl f_Tr_26 h1t.1 rfl ?_
    refine g_iload_n ok (dk m_Tr_seat 19 rfl) (pc' := 36) rfl (i := 1) rfl rfl ?_
    refine g_iload_n ok (dk m_Tr_seat 20 rfl) (pc' := 37) rfl (i := 2) rfl rfl ?_
    refine g_callV ok (dk m_Tr_seat 21 rfl) (pc' := 40) rfl c_Tr_45 (c_Row_put g (nI l) mm 0 (h1t.2.1 3 (by decide)).1 (h1t.2.1 3 (by decide)).2 (tr_len_lt _)) (h1t.2.1 3 (by decide)).1 rfl rfl (by simp [Value.category]) (by omega) rfl (rc' := 0) (rs' := 0) (by omega) (by omega) (fun rv h' hcc => ?_) (fun i h' hcc => by obtain ⟨e, -⟩ := hcc; cases e)
    obtain ⟨e9, e2⟩ := hcc
    cases e9
    have h2t := h1t.putE 3 (by decide) e2
    have ho2 := q_off.upE ho1 (Or.inr ⟨3, by decide, rfl⟩) e2
    clear e2
    refine g_aload_n ok (dk m_Tr_seat 22 rfl) (pc' := 41) rfl (i := 0) rfl rfl ?_
    refine g_iload_n ok (dk m_Tr_seat 23 rfl) (pc' := 42) rfl (i := 1) rfl rfl ?_
    refine g_iconst ok (dk m_Tr_seat 24 rfl) (pc' := 43) rfl (v := 0) (by decide) ?_
    refine g_callS ok (dk m_Tr_seat 25 rfl) (pc' := 46) rfl c_Tr_56 (c_Tr_nodeOver g (nI l) 0 0) rfl rfl (by simp [Value.category]) (by omega) rfl (rc' := 0) (rs' := 0) (by omega) (by omega) (fun rv h' hcc => ?_) (fun i h' hcc => by obtain ⟨e, -⟩ := hcc; cases e)
    obtain ⟨e9, e2⟩ := hcc
    have e3 := e2.symm
    subst e3
    cases e9
    refine g_iload_n ok (dk m_Tr_seat 26 rfl) (pc' := 47) rfl (i := 3) rfl rfl ?_
    refine g_iload ok (dk m_Tr_seat 27 rfl) (pc' := 49) rfl rfl ?_
    refine g_callV ok (dk m_Tr_seat 28 rfl) (pc' := 52) rfl c_Tr_48 (c_Tr_give g (j_node (nI l) 0) kk ee 1 (by omega) h2t) h2t.1 rfl rfl (by simp [Value.category]) (by omega) rfl (rc' := 0) (rs' := 0) (by omega) (by omega) (fun rv h' hcc => ?_) (fun i h' hcc => by obtain ⟨e, -⟩ := hcc; cases e)
    obtain ⟨e9, h3t, ho3⟩ := hcc
    cases e9
    refine g_iconst ok (dk m_Tr_seat 29 rfl) (pc' := 53) rfl (v := 1) (by decide) ?_
    refine g_istore ok (dk m_Tr_seat 30 rfl) (pc' := 55) rfl (Nat.le_of_ble_eq_true rfl) rfl ?_
    exact marks D 1 (by omega) _ _ h3t (ho2.tr ho3) hD (by rw [T_seat, ← hv]; show _ = T_um (nI l) D 1 (T_give (va_up T.1 3 (r_put (tr_len 3) (T.1 3) (nI l) mm), D) (j_node (nI l) 0) kk ee); rw [← hrow, ← hD]) _
  have grow : ∀ (m D : Nat), D + m = 5 → D ≤ 4 → ∀ (h1 : q_H) (T1 : tr_T), q_tree h1 t ra rb T1 → q_off h h1 (tr_P t rb) → T1.2 = D → T1.1 = T.1 → T_gr l m D = T_gr l (5 - T.2) T.2 → GW g Z A (fun q h' => q = .inl none ∧ q_tree h' t ra rb (T_seat T l mm kk ee) ∧ q_off h h' (tr_P t rb)) 0 0 h1 0 [some (.ref t), some (.int (nI l)), some (.int mm), some (.int kk), some (.int ee), none, none] [] := by
    intro m
    induction m with
    | zero =>
      intro D hm h4
      omega
    | succ m ih =>
      intro D hm h4 h1 T1 h1t ho1 hD hrow hv
      have hp := hpw D (by omega)
      refine g_aload_n ok (dk m_Tr_seat 0 rfl) (pc' := 1) rfl (i := 0) rfl rfl ?_
      refine g_get ok (dk m_Tr_seat 1 rfl) (pc' := 4) rfl f_Tr_29 h1t.1 rfl ?_
      refine g_iconst ok (dk m_Tr_seat 2 rfl) (pc' := 5) rfl (v := 4) (by decide) ?_
      refine g_icmp_ge ok (dk m_Tr_seat 3 rfl) (tgt := 31) (by decide) (pc' := 8) rfl (fun c_5 => ?_) (fun c_5 => ?_)
      · have hDe : T_gr l (m + 1) D = D := by rw [T_gr, if_neg (fun y => by have h9 := (nI_leI (a := 4) (b := D) (by decide) (by omega)).mp (by rw [← hD]; exact c_5); omega)]
        exact after D h1 T1 h1t ho1 hD hrow (by rw [← hv, hDe]) (by omega)
        -- done
      · refine g_iload_n ok (dk m_Tr_seat 4 rfl) (pc' := 9) rfl (i := 1) rfl rfl ?_
        refine g_iconst ok (dk m_Tr_seat 5 rfl) (pc' := 10) rfl (v := 1) (by decide) ?_
        refine g_aload_n ok (dk m_Tr_seat 6 rfl) (pc' := 11) rfl (i := 0) rfl rfl ?_
        refine g_get ok (dk m_Tr_seat 7 rfl) (pc' := 14) rfl f_Tr_29 h1t.1 rfl ?_
        refine g_ishl ok (dk m_Tr_seat 8 rfl) (pc' := 15) rfl ?_
        refine g_top (w := .int (nI (2 ^ D))) (by show Value.int ((1 : Int32) <<< (nI T1.2 &&& 31)) = _; rw [hD, j_shl D (by omega)]) ?_
        refine g_icmp_lt ok (dk m_Tr_seat 9 rfl) (tgt := 31) (by decide) (pc' := 18) rfl (fun c_15 => ?_) (fun c_15 => ?_)
        · have hDe : T_gr l (m + 1) D = D := by rw [T_gr, if_neg (fun y => by have h9 := (nI_ltI (a := l) (b := 2 ^ D) (by omega) (by omega)).mp c_15; omega)]
          exact after D h1 T1 h1t ho1 hD hrow (by rw [← hv, hDe]) (by omega)
          -- done
        · refine g_aload_n ok (dk m_Tr_seat 10 rfl) (pc' := 19) rfl (i := 0) rfl rfl ?_
          refine g_dup ok (dk m_Tr_seat 11 rfl) (pc' := 20) rfl rfl ?_
          refine g_get ok (dk m_Tr_seat 12 rfl) (pc' := 23) rfl f_Tr_29 h1t.1 rfl ?_
          refine g_iconst ok (dk m_Tr_seat 13 rfl) (pc' := 24) rfl (v := 1) (by decide) ?_
          refine g_iadd ok (dk m_Tr_seat 14 rfl) (pc' := 25) rfl ?_
          refine g_top (w := .int (nI (D + 1))) (by rw [hD, nI_1]) ?_
          refine g_put ok (dk m_Tr_seat 15 rfl) (pc' := 28) rfl f_Tr_29 (Or.inl rfl) h1t.1 (Nat.le_of_ble_eq_true rfl) rfl rfl ?_
          refine g_gen (fun h2 e2 => ?_)
          have h2t := h1t.depE e2
          have ho2 := q_off.upE ho1 (show tr_P t rb t from Or.inl rfl) e2
          clear e2
          refine g_goto ok (dk m_Tr_seat 16 rfl) (pc' := 0) (by decide) ?_
          have hlt4 : D < 4 := by
            rcases Nat.lt_or_ge D 4 with z | z
            · exact z
            · exact absurd (by rw [hD]; exact nI_le (a := 4) (b := D) z (by omega)) c_5
          have hge : 2 ^ D ≤ l := by
            rcases Nat.lt_or_ge l (2 ^ D) with z | z
            · exact absurd (nI_lt (a := l) (b := 2 ^ D) z (by omega)) c_15
            · exact z
          exact ih (D + 1) (by omega) (by omega) h2 _ h2t ho2 rfl hrow (by rw [← hv, T_gr, if_pos ⟨hlt4, hge⟩])
  exact grow (5 - T.2) T.2 (by omega) hT h T ht q_off.rf rfl rfl rfl
