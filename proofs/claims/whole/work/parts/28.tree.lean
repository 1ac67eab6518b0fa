/-! ===== Tree: numbers of nodes, rows of a tree ===== -/
noncomputable def b2i (p : Prop) : Int32 := by
  classical exact if p then 1 else 0
theorem b2i_t {p : Prop} (h : p) : b2i p = 1 := if_pos h
theorem b2i_f {p : Prop} (h : ¬ p) : b2i p = 0 := if_neg h
theorem b2i_0 {p : Prop} (h : b2i p = 0) : ¬ p := fun q => by
  rw [b2i_t q] at h
  exact absurd h (by decide)
theorem b2i_n {p : Prop} (h : ¬ b2i p = 0) : p := by
  by_cases q : p
  · exact q
  · exact absurd (b2i_f q) h
theorem b2i_nar (p : Prop) : narrow .boolean (.int (b2i p)) = .int (b2i p) := by
  by_cases q : p
  · rw [b2i_t q]; rfl
  · rw [b2i_f q]; rfl
def j_ushr (x y : Int32) : Int32 := (x.toUInt32 >>> (y.toUInt32 &&& Int32.toUInt32 31)).toInt32
def j_in (b i : Int32) : Prop := ¬ i < 0 ∧ ¬ (j_ushr b i &&& 1) = 0
def j_node (l t : Int32) : Int32 := ((l >>> (t &&& 31)) <<< ((t + 1) &&& 31)) + ((1 : Int32) <<< (t &&& 31)) - 1
noncomputable def j_ht (n : Int32) : Nat → Nat → Nat
  | 0, k => k
  | m + 1, k => by classical exact if j_in n (nI k) then j_ht n m (k + 1) else k
def j_nl (x : Int32) : Nat → Nat → Int32 → Int32
  | 0, _, a => a
  | m + 1, k, a => j_nl x m (k + 1) (a ||| ((j_ushr x (nI k) &&& 1) <<< ((2 * nI k) &&& 31)))
set_option maxHeartbeats 1000000 in
theorem c_RG_isIn (g : q_G) {h : q_H} (b i : Int32) (d : Nat) : MG g y_RG_isIn b_RG_isIn 2 (some .boolean) d 0 0 [.int b, .int i] h (fun q h' => q = .inl (some (.int (b2i (j_in b i)))) ∧ h' = h) := by
  refine MG.of (by decide +kernel) (by simp [Value.category]) (Nat.le_of_ble_eq_true rfl) ?_
  intro Z A ok
  refine g_iload_n ok (dk m_RG_isIn 0 rfl) (pc' := 1) rfl (i := 1) rfl rfl ?_
  refine g_if_lt ok (dk m_RG_isIn 1 rfl) (tgt := 16) (by decide) (pc' := 4) rfl (fun c_1 => ?_) (fun c_1 => ?_)
  · refine g_iconst ok (dk m_RG_isIn 10 rfl) (pc' := 17) rfl (v := 0) (by decide) ?_
    exact g_iret ok (dk m_RG_isIn 11 rfl) rfl rfl ⟨by rw [b2i_f (fun z => z.1 c_1)], rfl⟩
  · refine g_iload_n ok (dk m_RG_isIn 2 rfl) (pc' := 5) rfl (i := 0) rfl rfl ?_
    refine g_iload_n ok (dk m_RG_isIn 3 rfl) (pc' := 6) rfl (i := 1) rfl rfl ?_
    refine g_iushr ok (dk m_RG_isIn 4 rfl) (pc' := 7) rfl rfl ?_
    refine g_iconst ok (dk m_RG_isIn 5 rfl) (pc' := 8) rfl (v := 1) (by decide) ?_
    refine g_iand ok (dk m_RG_isIn 6 rfl) (pc' := 9) rfl ?_
    refine g_if_eq ok (dk m_RG_isIn 7 rfl) (tgt := 16) (by decide) (pc' := 12) rfl (fun c_9 => ?_) (fun c_9 => ?_)
    · refine g_iconst ok (dk m_RG_isIn 10 rfl) (pc' := 17) rfl (v := 0) (by decide) ?_
      exact g_iret ok (dk m_RG_isIn 11 rfl) rfl rfl ⟨by rw [b2i_f (fun z => z.2 c_9)], rfl⟩
    · refine g_iconst ok (dk m_RG_isIn 8 rfl) (pc' := 13) rfl (v := 1) (by decide) ?_
      refine g_goto ok (dk m_RG_isIn 9 rfl) (pc' := 17) (by decide) ?_
      exact g_iret ok (dk m_RG_isIn 11 rfl) rfl rfl ⟨by rw [b2i_t ⟨c_1, c_9⟩], rfl⟩
set_option maxHeartbeats 1000000 in
theorem c_Tr_nodeOver (g : q_G) {h : q_H} (l t : Int32) (d : Nat) : MG g y_Tr_nodeOver b_Tr_nodeOver 2 (some .int) d 0 0 [.int l, .int t] h (fun q h' => q = .inl (some (.int (j_node l t))) ∧ h' = h) := by
  refine MG.of (by decide +kernel) (by simp [Value.category]) (Nat.le_of_ble_eq_true rfl) ?_
  intro Z A ok
  refine g_iload_n ok (dk m_Tr_nodeOver 0 rfl) (pc' := 1) rfl (i := 0) rfl rfl ?_
  refine g_iload_n ok (dk m_Tr_nodeOver 1 rfl) (pc' := 2) rfl (i := 1) rfl rfl ?_
  refine g_ishr ok (dk m_Tr_nodeOver 2 rfl) (pc' := 3) rfl ?_
  refine g_iload_n ok (dk m_Tr_nodeOver 3 rfl) (pc' := 4) rfl (i := 1) rfl rfl ?_
  refine g_iconst ok (dk m_Tr_nodeOver 4 rfl) (pc' := 5) rfl (v := 1) (by decide) ?_
  refine g_iadd ok (dk m_Tr_nodeOver 5 rfl) (pc' := 6) rfl ?_
  refine g_ishl ok (dk m_Tr_nodeOver 6 rfl) (pc' := 7) rfl ?_
  refine g_iconst ok (dk m_Tr_nodeOver 7 rfl) (pc' := 8) rfl (v := 1) (by decide) ?_
  refine g_iload_n ok (dk m_Tr_nodeOver 8 rfl) (pc' := 9) rfl (i := 1) rfl rfl ?_
  refine g_ishl ok (dk m_Tr_nodeOver 9 rfl) (pc' := 10) rfl ?_
  refine g_iadd ok (dk m_Tr_nodeOver 10 rfl) (pc' := 11) rfl ?_
  refine g_iconst ok (dk m_Tr_nodeOver 11 rfl) (pc' := 12) rfl (v := 1) (by decide) ?_
  refine g_isub ok (dk m_Tr_nodeOver 12 rfl) (pc' := 13) rfl ?_
  exact g_iret ok (dk m_Tr_nodeOver 13 rfl) rfl rfl ⟨rfl, rfl⟩
set_option maxHeartbeats 1000000 in
theorem c_Tr_heightOf (g : q_G) {h : q_H} (n : Int32) (d : Nat) (hd : 1 ≤ d) : MG g y_Tr_heightOf b_Tr_heightOf 2 (some .int) d 0 0 [.int n] h (fun q h' => q = .inl (some (.int (nI (j_ht n 4 0)))) ∧ h' = h) := by
  refine MG.of (by decide +kernel) (by simp [Value.category]) (Nat.le_of_ble_eq_true rfl) ?_
  intro Z A ok
  have loop : ∀ (m k : Nat), k + m = 4 → j_ht n m k = j_ht n 4 0 → GW g Z A (fun q h' => q = .inl (some (.int (nI (j_ht n 4 0)))) ∧ h' = h) 0 0 h 2 [some (.int n), some (.int (nI k))] [] := by
    intro m
    induction m with
    | zero =>
      intro k hk hv
      refine g_iload_n ok (dk m_Tr_heightOf 2 rfl) (pc' := 3) rfl (i := 1) rfl rfl ?_
      refine g_iconst ok (dk m_Tr_heightOf 3 rfl) (pc' := 4) rfl (v := 4) (by decide) ?_
      refine g_icmp_ge ok (dk m_Tr_heightOf 4 rfl) (tgt := 21) (by decide) (pc' := 7) rfl (fun c_4 => ?_) (fun c_4 => absurd (show (4 : Int32) ≤ nI k from by rw [show k = 4 by omega]; decide) c_4)
      refine g_iload_n ok (dk m_Tr_heightOf 11 rfl) (pc' := 22) rfl (i := 1) rfl rfl ?_
      exact g_iret ok (dk m_Tr_heightOf 12 rfl) rfl rfl ⟨by rw [← hv]; rfl, rfl⟩
    | succ m ih =>
      intro k hk hv
      refine g_iload_n ok (dk m_Tr_heightOf 2 rfl) (pc' := 3) rfl (i := 1) rfl rfl ?_
      refine g_iconst ok (dk m_Tr_heightOf 3 rfl) (pc' := 4) rfl (v := 4) (by decide) ?_
      refine g_icmp_ge ok (dk m_Tr_heightOf 4 rfl) (tgt := 21) (by decide) (pc' := 7) rfl (fun c_4 => absurd c_4 (show ¬ nI 4 ≤ nI k from nI_ge (by omega) (by decide))) (fun c_4 => ?_)
      refine g_iload_n ok (dk m_Tr_heightOf 5 rfl) (pc' := 8) rfl (i := 0) rfl rfl ?_
      refine g_iload_n ok (dk m_Tr_heightOf 6 rfl) (pc' := 9) rfl (i := 1) rfl rfl ?_
      refine g_callSN ok (dk m_Tr_heightOf 7 rfl) (pc' := 12) rfl c_Tr_33 (c_RG_isIn g n (nI k) 0) rfl rfl (by simp [Value.category]) (by omega) rfl (rc' := 0) (rs' := 0) (by omega) (by omega) (fun rv h' hcc => ?_) (fun i h' hcc => by obtain ⟨e, -⟩ := hcc; cases e)
      obtain ⟨e, e2⟩ := hcc
      have e3 := e2.symm
      subst e3
      cases e
      refine g_if_eq ok (dk m_Tr_heightOf 8 rfl) (tgt := 21) (by decide) (pc' := 15) rfl (fun c_12 => ?_) (fun c_12 => ?_)
      · refine g_iload_n ok (dk m_Tr_heightOf 11 rfl) (pc' := 22) rfl (i := 1) rfl rfl ?_
        exact g_iret ok (dk m_Tr_heightOf 12 rfl) rfl rfl ⟨by rw [← hv, j_ht, if_neg (b2i_0 c_12)], rfl⟩
      · refine g_iinc ok (dk m_Tr_heightOf 9 rfl) (pc' := 18) rfl rfl (nI_1 k) rfl ?_
        refine g_goto ok (dk m_Tr_heightOf 10 rfl) (pc' := 2) (by decide) ?_
        exact ih (k + 1) (by omega) (by rw [← hv, j_ht, if_pos (b2i_n c_12)])
  refine g_iconst ok (dk m_Tr_heightOf 0 rfl) (pc' := 1) rfl (v := 0) (by decide) ?_
  refine g_istore_n ok (dk m_Tr_heightOf 1 rfl) (pc' := 2) rfl (i := 1) rfl (Nat.le_of_ble_eq_true rfl) rfl ?_
  exact loop 4 0 (by omega) rfl
set_option maxHeartbeats 1000000 in
theorem c_Tr_nodesOfLeaves (g : q_G) {h : q_H} (x : Int32) (d : Nat) : MG g y_Tr_nodesOfLeaves b_Tr_nodesOfLeaves 3 (some .int) d 0 0 [.int x] h (fun q h' => q = .inl (some (.int (j_nl x 16 0 0))) ∧ h' = h) := by
  refine MG.of (by decide +kernel) (by simp [Value.category]) (Nat.le_of_ble_eq_true rfl) ?_
  intro Z A ok
  have loop : ∀ (m k : Nat), k + m = 16 → ∀ a : Int32, j_nl x m k a = j_nl x 16 0 0 → GW g Z A (fun q h' => q = .inl (some (.int (j_nl x 16 0 0))) ∧ h' = h) 0 0 h 4 [some (.int x), some (.int a), some (.int (nI k))] [] := by
    intro m
    induction m with
    | zero =>
      intro k hk a hv
      refine g_iload_n ok (dk m_Tr_nodesOfLeaves 4 rfl) (pc' := 5) rfl (i := 2) rfl rfl ?_
      refine g_bipush ok (dk m_Tr_nodesOfLeaves 5 rfl) (pc' := 7) rfl (v := 16) (by decide) ?_
      refine g_icmp_ge ok (dk m_Tr_nodesOfLeaves 6 rfl) (tgt := 28) (by decide) (pc' := 10) rfl (fun c_7 => ?_) (fun c_7 => absurd (show (16 : Int32) ≤ nI k from by rw [show k = 16 by omega]; decide) c_7)
      refine g_iload_n ok (dk m_Tr_nodesOfLeaves 21 rfl) (pc' := 29) rfl (i := 1) rfl rfl ?_
      exact g_iret ok (dk m_Tr_nodesOfLeaves 22 rfl) rfl rfl ⟨by rw [← hv]; rfl, rfl⟩
    | succ m ih =>
      intro k hk a hv
      refine g_iload_n ok (dk m_Tr_nodesOfLeaves 4 rfl) (pc' := 5) rfl (i := 2) rfl rfl ?_
      refine g_bipush ok (dk m_Tr_nodesOfLeaves 5 rfl) (pc' := 7) rfl (v := 16) (by decide) ?_
      refine g_icmp_ge ok (dk m_Tr_nodesOfLeaves 6 rfl) (tgt := 28) (by decide) (pc' := 10) rfl (fun c_7 => absurd c_7 (show ¬ nI 16 ≤ nI k from nI_ge (by omega) (by decide))) (fun c_7 => ?_)
      refine g_iload_n ok (dk m_Tr_nodesOfLeaves 7 rfl) (pc' := 11) rfl (i := 1) rfl rfl ?_
      refine g_iload_n ok (dk m_Tr_nodesOfLeaves 8 rfl) (pc' := 12) rfl (i := 0) rfl rfl ?_
      refine g_iload_n ok (dk m_Tr_nodesOfLeaves 9 rfl) (pc' := 13) rfl (i := 2) rfl rfl ?_
      refine g_iushr ok (dk m_Tr_nodesOfLeaves 10 rfl) (pc' := 14) rfl rfl ?_
      refine g_iconst ok (dk m_Tr_nodesOfLeaves 11 rfl) (pc' := 15) rfl (v := 1) (by decide) ?_
      refine g_iand ok (dk m_Tr_nodesOfLeaves 12 rfl) (pc' := 16) rfl ?_
      refine g_iconst ok (dk m_Tr_nodesOfLeaves 13 rfl) (pc' := 17) rfl (v := 2) (by decide) ?_
      refine g_iload_n ok (dk m_Tr_nodesOfLeaves 14 rfl) (pc' := 18) rfl (i := 2) rfl rfl ?_
      refine g_imul ok (dk m_Tr_nodesOfLeaves 15 rfl) (pc' := 19) rfl ?_
      refine g_ishl ok (dk m_Tr_nodesOfLeaves 16 rfl) (pc' := 20) rfl ?_
      refine g_ior ok (dk m_Tr_nodesOfLeaves 17 rfl) (pc' := 21) rfl ?_
      refine g_istore_n ok (dk m_Tr_nodesOfLeaves 18 rfl) (pc' := 22) rfl (i := 1) rfl (Nat.le_of_ble_eq_true rfl) rfl ?_
      refine g_iinc ok (dk m_Tr_nodesOfLeaves 19 rfl) (pc' := 25) rfl rfl (nI_1 k) rfl ?_
      refine g_goto ok (dk m_Tr_nodesOfLeaves 20 rfl) (pc' := 4) (by decide) ?_
      exact ih (k + 1) (by omega) _ (by rw [← hv]; rfl)
  refine g_iconst ok (dk m_Tr_nodesOfLeaves 0 rfl) (pc' := 1) rfl (v := 0) (by decide) ?_
  refine g_istore_n ok (dk m_Tr_nodesOfLeaves 1 rfl) (pc' := 2) rfl (i := 1) rfl (Nat.le_of_ble_eq_true rfl) rfl ?_
  refine g_iconst ok (dk m_Tr_nodesOfLeaves 2 rfl) (pc' := 3) rfl (v := 0) (by decide) ?_
  refine g_istore_n ok (dk m_Tr_nodesOfLeaves 3 rfl) (pc' := 4) rfl (i := 2) rfl (Nat.le_of_ble_eq_true rfl) rfl ?_
  exact loop 16 0 (by omega) 0 rfl
/-- nr rows of lengths len: objects ra, arrays rb -/
def q_rw (nr : Nat) (len : Nat → Nat) (h : q_H) (ra rb : Nat → Nat) (R : Nat → Nat → Int32) : Prop := (∀ i, i < nr → h (ra i) = some (.inl (2, [.ref (rb i)])) ∧ h (rb i) = some (.inr (0, len i, .inl (R i)))) ∧ ∀ i j, i < nr → j < nr → rb i = rb j → i = j
theorem q_rw.put {nr : Nat} {len : Nat → Nat} {h h' : q_H} {ra rb : Nat → Nat} {R : Nat → Nat → Int32} (hr : q_rw nr len h ra rb R) (i : Nat) (hi : i < nr) {f : Nat → Int32} (e : h' = q_up h (rb i) (.inr (0, len i, .inl f))) : q_rw nr len h' ra rb (va_up R i f) := by
  obtain ⟨h2, h3⟩ := hr
  subst e
  refine ⟨fun j hj => ⟨?_, ?_⟩, h3⟩
  · rw [q_up_n (q_oa (h2 j hj).1 (h2 i hi).2)]
    exact (h2 j hj).1
  · by_cases e : j = i
    · subst e
      rw [q_up_s, show va_up R j f j = f from if_pos rfl]
    · rw [q_up_n (fun z => e (h3 j i hj hi z)), show va_up R i f j = R j from if_neg e]
      exact (h2 j hj).2
theorem q_rw.kept {nr : Nat} {len : Nat → Nat} {h h' : q_H} {ra rb : Nat → Nat} {R : Nat → Nat → Int32} (hr : q_rw nr len h ra rb R) (hk : ∀ i, i < nr → h' (ra i) = h (ra i) ∧ h' (rb i) = h (rb i)) : q_rw nr len h' ra rb R := ⟨fun i hi => ⟨(hk i hi).1.trans (hr.1 i hi).1, (hk i hi).2.trans (hr.1 i hi).2⟩, hr.2⟩
abbrev tr_T : Type := (Nat → Nat → Int32) × Nat
def tr_len (i : Nat) : Nat := if i = 3 then 16 else 31
theorem tr_len_lt (i : Nat) : tr_len i < 2 ^ 31 := by
  unfold tr_len
  split <;> decide
abbrev tr_fs (ra : Nat → Nat) (D : Nat) : List Value := [.ref (ra 0), .ref (ra 1), .ref (ra 2), .ref (ra 3), .int (nI D)]
def q_tree (h : q_H) (t : Nat) (ra rb : Nat → Nat) (T : tr_T) : Prop := h t = some (.inl (6, tr_fs ra T.2)) ∧ q_rw 4 tr_len h ra rb T.1
abbrev tr_P (t : Nat) (rb : Nat → Nat) : Nat → Prop := fun y => y = t ∨ ∃ i, i < 4 ∧ y = rb i
theorem q_tree.putE {h h' : q_H} {t : Nat} {ra rb : Nat → Nat} {T : tr_T} (ht : q_tree h t ra rb T) (i : Nat) (hi : i < 4) {f : Nat → Int32} (e : h' = q_up h (rb i) (.inr (0, tr_len i, .inl f))) : q_tree h' t ra rb (va_up T.1 i f, T.2) := by
  refine ⟨?_, ht.2.put i hi e⟩
  rw [e, q_up_n (q_oa ht.1 (ht.2.1 i hi).2)]
  exact ht.1
theorem q_tree.depE {h h' : q_H} {t : Nat} {ra rb : Nat → Nat} {T : tr_T} (ht : q_tree h t ra rb T) {D : Nat} (e : h' = q_up h t (.inl (6, (tr_fs ra T.2).set 4 (.int (nI D))))) : q_tree h' t ra rb (T.1, D) := by
  refine ⟨by rw [e, q_up_s]; rfl, ht.2.kept (fun i hi => ⟨?_, ?_⟩)⟩
  · rw [e, q_up_n (q_df (ht.2.1 i hi).1 ht.1 (fun z => by cases z))]
  · rw [e, q_up_n (q_oa ht.1 (ht.2.1 i hi).2).symm]
noncomputable def T_give (T : tr_T) (n k e : Int32) : tr_T := (va_up (va_up (va_up T.1 0 (r_put (tr_len 0) (T.1 0) n k)) 1 (r_put (tr_len 1) (T.1 1) n 0)) 2 (r_put (tr_len 2) (T.1 2) n e), T.2)
noncomputable def T_blank (T : tr_T) (n : Int32) : tr_T := T_give T n (-1) (-1)
def T_isB (T : tr_T) (n : Int32) : Prop := r_get (tr_len 0) (T.1 0) n = -1
set_option maxHeartbeats 1000000 in
theorem c_Tr_give (g : q_G) {h : q_H} {t : Nat} {ra rb : Nat → Nat} {T : tr_T} (n k e : Int32) (d : Nat) (hd : 1 ≤ d) (ht : q_tree h t ra rb T) : MG g y_Tr_give b_Tr_give 4 none d 0 0 [.ref t, .int n, .int k, .int e] h (fun q h' => q = .inl none ∧ q_tree h' t ra rb (T_give T n k e) ∧ q_off h h' (tr_P t rb)) := by
  refine MG.of (by decide +kernel) (by simp [Value.category]) (Nat.le_of_ble_eq_true rfl) ?_
  intro Z A ok
  refine g_aload_n ok (dk m_Tr_give 0 rfl) (pc' := 1) rfl (i := 0) rfl rfl ?_
  refine g_get ok (dk m_Tr_give 1 rfl) (pc' := 4) rfl f_Tr_14 ht.1 rfl ?_
  refine g_iload_n ok (dk m_Tr_give 2 rfl) (pc' := 5) rfl (i := 1) rfl rfl ?_
  refine g_iload_n ok (dk m_Tr_give 3 rfl) (pc' := 6) rfl (i := 2) rfl rfl ?_
  refine g_callV ok (dk m_Tr_give 4 rfl) (pc' := 9) rfl c_Tr_45 (c_Row_put g n k 0 (ht.2.1 0 (by decide)).1 (ht.2.1 0 (by decide)).2 (tr_len_lt _)) (ht.2.1 0 (by decide)).1 rfl rfl (by simp [Value.category]) (by omega) rfl (rc' := 0) (rs' := 0) (by omega) (by omega) (fun rv h' hcc => ?_) (fun i h' hcc => by obtain ⟨e, -⟩ := hcc; cases e)
  obtain ⟨e9, e2⟩ := hcc
  cases e9
  have h1t := ht.putE 0 (by decide) e2
  have ho1 := q_off.upE (q_off.rf (X := tr_P t rb)) (Or.inr ⟨0, by decide, rfl⟩) e2
  clear e2
  refine g_aload_n ok (dk m_Tr_give 5 rfl) (pc' := 10) rfl (i := 0) rfl rfl ?_
  refine g_get ok (dk m_Tr_give 6 rfl) (pc' := 13) rfl f_Tr_20 h1t.1 rfl ?_
  refine g_iload_n ok (dk m_Tr_give 7 rfl) (pc' := 14) rfl (i := 1) rfl rfl ?_
  refine g_iconst ok (dk m_Tr_give 8 rfl) (pc' := 15) rfl (v := 0) (by decide) ?_
  refine g_callV ok (dk m_Tr_give 9 rfl) (pc' := 18) rfl c_Tr_45 (c_Row_put g n 0 0 (h1t.2.1 1 (by decide)).1 (h1t.2.1 1 (by decide)).2 (tr_len_lt _)) (h1t.2.1 1 (by decide)).1 rfl rfl (by simp [Value.category]) (by omega) rfl (rc' := 0) (rs' := 0) (by omega) (by omega) (fun rv h' hcc => ?_) (fun i h' hcc => by obtain ⟨e, -⟩ := hcc; cases e)
  obtain ⟨e9, e2⟩ := hcc
  cases e9
  have h2t := h1t.putE 1 (by decide) e2
  have ho2 := q_off.upE ho1 (Or.inr ⟨1, by decide, rfl⟩) e2
  clear e2
  refine g_aload_n ok (dk m_Tr_give 10 rfl) (pc' := 19) rfl (i := 0) rfl rfl ?_
  refine g_get ok (dk m_Tr_give 11 rfl) (pc' := 22) rfl f_Tr_23 h2t.1 rfl ?_
  refine g_iload_n ok (dk m_Tr_give 12 rfl) (pc' := 23) rfl (i := 1) rfl rfl ?_
  refine g_iload_n ok (dk m_Tr_give 13 rfl) (pc' := 24) rfl (i := 3) rfl rfl ?_
  refine g_callV ok (dk m_Tr_give 14 rfl) (pc' := 27) rfl c_Tr_45 (c_Row_put g n e 0 (h2t.2.1 2 (by decide)).1 (h2t.2.1 2 (by decide)).2 (tr_len_lt _)) (h2t.2.1 2 (by decide)).1 rfl rfl (by simp [Value.category]) (by omega) rfl (rc' := 0) (rs' := 0) (by omega) (by omega) (fun rv h' hcc => ?_) (fun i h' hcc => by obtain ⟨e, -⟩ := hcc; cases e)
  obtain ⟨e9, e2⟩ := hcc
  cases e9
  have h3t := h2t.putE 2 (by decide) e2
  have ho3 := q_off.upE ho2 (Or.inr ⟨2, by decide, rfl⟩) e2
  clear e2
  exact g_vret ok (dk m_Tr_give 15 rfl) rfl ⟨rfl, h3t, ho3⟩
set_option maxHeartbeats 1000000 in
theorem c_Tr_blank (g : q_G) {h : q_H} {t : Nat} {ra rb : Nat → Nat} {T : tr_T} (n : Int32) (d : Nat) (hd : 2 ≤ d) (ht : q_tree h t ra rb T) : MG g y_Tr_blank b_Tr_blank 2 none d 0 0 [.ref t, .int n] h (fun q h' => q = .inl none ∧ q_tree h' t ra rb (T_blank T n) ∧ q_off h h' (tr_P t rb)) := by
  refine MG.of (by decide +kernel) (by simp [Value.category]) (Nat.le_of_ble_eq_true rfl) ?_
  intro Z A ok
  refine g_aload_n ok (dk m_Tr_blank 0 rfl) (pc' := 1) rfl (i := 0) rfl rfl ?_
  refine g_iload_n ok (dk m_Tr_blank 1 rfl) (pc' := 2) rfl (i := 1) rfl rfl ?_
  refine g_iconst ok (dk m_Tr_blank 2 rfl) (pc' := 3) rfl (v := (-1)) (by decide) ?_
  refine g_iconst ok (dk m_Tr_blank 3 rfl) (pc' := 4) rfl (v := (-1)) (by decide) ?_
  refine g_callV ok (dk m_Tr_blank 4 rfl) (pc' := 7) rfl c_Tr_48 (c_Tr_give g n (-1) (-1) 1 (by omega) ht) ht.1 rfl rfl (by simp [Value.category]) (by omega) rfl (rc' := 0) (rs' := 0) (by omega) (by omega) (fun rv h' hcc => ?_) (fun i h' hcc => by obtain ⟨e, -⟩ := hcc; cases e)
  obtain ⟨e, h1t, ho1⟩ := hcc
  cases e
  exact g_vret ok (dk m_Tr_blank 5 rfl) rfl ⟨rfl, h1t, ho1⟩
set_option maxHeartbeats 1000000 in
theorem c_Tr_isBlank (g : q_G) {h : q_H} {t : Nat} {ra rb : Nat → Nat} {T : tr_T} (n : Int32) (d : Nat) (hd : 1 ≤ d) (ht : q_tree h t ra rb T) : MG g y_Tr_isBlank b_Tr_isBlank 2 (some .boolean) d 0 0 [.ref t, .int n] h (fun q h' => q = .inl (some (.int (b2i (T_isB T n)))) ∧ h' = h) := by
  refine MG.of (by decide +kernel) (by simp [Value.category]) (Nat.le_of_ble_eq_true rfl) ?_
  intro Z A ok
  refine g_aload_n ok (dk m_Tr_isBlank 0 rfl) (pc' := 1) rfl (i := 0) rfl rfl ?_
  refine g_get ok (dk m_Tr_isBlank 1 rfl) (pc' := 4) rfl f_Tr_14 ht.1 rfl ?_
  refine g_iload_n ok (dk m_Tr_isBlank 2 rfl) (pc' := 5) rfl (i := 1) rfl rfl ?_
  refine g_callV ok (dk m_Tr_isBlank 3 rfl) (pc' := 8) rfl c_Tr_41 (c_Row_get g n 0 (ht.2.1 0 (by decide)).1 (ht.2.1 0 (by decide)).2 (tr_len_lt _)) (ht.2.1 0 (by decide)).1 rfl rfl (by simp [Value.category]) (by omega) rfl (rc' := 0) (rs' := 0) (by omega) (by omega) (fun rv h' hcc => ?_) (fun i h' hcc => by obtain ⟨e, -⟩ := hcc; cases e)
  obtain ⟨e, e2⟩ := hcc
  have e3 := e2.symm
  subst e3
  cases e
  refine g_iconst ok (dk m_Tr_isBlank 4 rfl) (pc' := 9) rfl (v := (-1)) (by decide) ?_
  refine g_icmp_ne ok (dk m_Tr_isBlank 5 rfl) (tgt := 16) (by decide) (pc' := 12) rfl (fun c_9 => ?_) (fun c_9 => ?_)
  · refine g_iconst ok (dk m_Tr_isBlank 8 rfl) (pc' := 17) rfl (v := 0) (by decide) ?_
    exact g_iret ok (dk m_Tr_isBlank 9 rfl) rfl rfl ⟨by rw [b2i_f (p := T_isB T n) c_9], rfl⟩
  · refine g_iconst ok (dk m_Tr_isBlank 6 rfl) (pc' := 13) rfl (v := 1) (by decide) ?_
    refine g_goto ok (dk m_Tr_isBlank 7 rfl) (pc' := 17) (by decide) ?_
    exact g_iret ok (dk m_Tr_isBlank 9 rfl) rfl rfl ⟨by rw [b2i_t (p := T_isB T n) c_9], rfl⟩
def T_there (T : tr_T) (n : Int32) : Prop := ¬ n < 0 ∧ ¬ ((2 : Int32) <<< (nI T.2 &&& 31)) - 1 ≤ n
set_option maxHeartbeats 1000000 in
theorem c_Tr_isThere (g : q_G) {h : q_H} {t : Nat} {ra rb : Nat → Nat} {T : tr_T} (n : Int32) (d : Nat) (ht : q_tree h t ra rb T) : MG g y_Tr_isThere b_Tr_isThere 2 (some .boolean) d 0 0 [.ref t, .int n] h (fun q h' => q = .inl (some (.int (b2i (T_there T n)))) ∧ h' = h) := by
  refine MG.of (by decide +kernel) (by simp [Value.category]) (Nat.le_of_ble_eq_true rfl) ?_
  intro Z A ok
  refine g_iload_n ok (dk m_Tr_isThere 0 rfl) (pc' := 1) rfl (i := 1) rfl rfl ?_
  refine g_if_lt ok (dk m_Tr_isThere 1 rfl) (tgt := 20) (by decide) (pc' := 4) rfl (fun c_1 => ?_) (fun c_1 => ?_)
  · refine g_iconst ok (dk m_Tr_isThere 12 rfl) (pc' := 21) rfl (v := 0) (by decide) ?_
    exact g_iret ok (dk m_Tr_isThere 13 rfl) rfl rfl ⟨by rw [b2i_f (fun z => z.1 c_1)], rfl⟩
  · refine g_iload_n ok (dk m_Tr_isThere 2 rfl) (pc' := 5) rfl (i := 1) rfl rfl ?_
    refine g_iconst ok (dk m_Tr_isThere 3 rfl) (pc' := 6) rfl (v := 2) (by decide) ?_
    refine g_aload_n ok (dk m_Tr_isThere 4 rfl) (pc' := 7) rfl (i := 0) rfl rfl ?_
    refine g_get ok (dk m_Tr_isThere 5 rfl) (pc' := 10) rfl f_Tr_29 ht.1 rfl ?_
    refine g_ishl ok (dk m_Tr_isThere 6 rfl) (pc' := 11) rfl ?_
    refine g_iconst ok (dk m_Tr_isThere 7 rfl) (pc' := 12) rfl (v := 1) (by decide) ?_
    refine g_isub ok (dk m_Tr_isThere 8 rfl) (pc' := 13) rfl ?_
    refine g_icmp_ge ok (dk m_Tr_isThere 9 rfl) (tgt := 20) (by decide) (pc' := 16) rfl (fun c_13 => ?_) (fun c_13 => ?_)
    · refine g_iconst ok (dk m_Tr_isThere 12 rfl) (pc' := 21) rfl (v := 0) (by decide) ?_
      exact g_iret ok (dk m_Tr_isThere 13 rfl) rfl rfl ⟨by rw [b2i_f (fun z => z.2 c_13)], rfl⟩
    · refine g_iconst ok (dk m_Tr_isThere 10 rfl) (pc' := 17) rfl (v := 1) (by decide) ?_
      refine g_goto ok (dk m_Tr_isThere 11 rfl) (pc' := 21) (by decide) ?_
      exact g_iret ok (dk m_Tr_isThere 13 rfl) rfl rfl ⟨by rw [b2i_t ⟨c_1, c_13⟩], rfl⟩
