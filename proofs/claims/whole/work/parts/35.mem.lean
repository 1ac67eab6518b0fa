/-! ===== Member ===== -/
abbrev m_T : Type := (Nat → Int32) × (Nat → Nat → Int32)
def m_len (i : Nat) : Nat := if i = 1 then 20 else 31
theorem m_len_lt (i : Nat) : m_len i < 2 ^ 31 := by
  unfold m_len
  split <;> decide
abbrev m_fs (ra : Nat → Nat) (I : Nat → Int32) : List Value := [.int (I 0), .ref (ra 0), .ref (ra 1), .int (I 1), .int (I 2), .int (I 3), .int (I 4), .int (I 5)]
def q_mem (h : q_H) (m : Nat) (ra rb : Nat → Nat) (M : m_T) : Prop := h m = some (.inl (4, m_fs ra M.1)) ∧ q_rw 2 m_len h ra rb M.2
abbrev m_P (m : Nat) (rb : Nat → Nat) : Nat → Prop := fun y => y = m ∨ ∃ i, i < 2 ∧ y = rb i
def m_A (m : Nat) (ra rb : Nat → Nat) : Nat → Prop := fun y => y = m ∨ ∃ i, i < 2 ∧ (y = ra i ∨ y = rb i)
def tr_A (t : Nat) (ra rb : Nat → Nat) : Nat → Prop := fun y => y = t ∨ ∃ i, i < 4 ∧ (y = ra i ∨ y = rb i)
theorem q_mem.putE {h h' : q_H} {t : Nat} {ra rb : Nat → Nat} {T : m_T} (ht : q_mem h t ra rb T) (i : Nat) (hi : i < 2) {f : Nat → Int32} (e : h' = q_up h (rb i) (.inr (0, m_len i, .inl f))) : q_mem h' t ra rb (T.1, va_up T.2 i f) := by
  refine ⟨?_, ht.2.put i hi e⟩
  rw [e, q_up_n (q_oa ht.1 (ht.2.1 i hi).2)]
  exact ht.1
theorem q_mem.intE {h h' : q_H} {t : Nat} {ra rb : Nat → Nat} {T : m_T} (ht : q_mem h t ra rb T) (k p : Nat) (hk : (k = 1 ∧ p = 3) ∨ (k = 2 ∧ p = 4) ∨ (k = 3 ∧ p = 5) ∨ (k = 4 ∧ p = 6) ∨ (k = 5 ∧ p = 7)) {v : Int32} (e : h' = q_up h t (.inl (4, (m_fs ra T.1).set p (.int v)))) : q_mem h' t ra rb (upd T.1 k v, T.2) := by
  refine ⟨?_, ht.2.kept (fun i hi => ⟨?_, ?_⟩)⟩
  · rw [e, q_up_s]
    rcases hk with ⟨rfl, rfl⟩ | ⟨rfl, rfl⟩ | ⟨rfl, rfl⟩ | ⟨rfl, rfl⟩ | ⟨rfl, rfl⟩ <;> rfl
  · rw [e, q_up_n (q_df (ht.2.1 i hi).1 ht.1 (fun z => by cases z))]
  · rw [e, q_up_n (q_oa ht.1 (ht.2.1 i hi).2).symm]
theorem q_mem.off {h h' : q_H} {t : Nat} {ra rb : Nat → Nat} {T : m_T} {X : Nat → Prop} (ht : q_mem h t ra rb T) (ho : q_off h h' X) (hA : ∀ y, m_A t ra rb y → ¬ X y) : q_mem h' t ra rb T := ⟨(ho t (hA _ (Or.inl rfl))).trans ht.1, ht.2.kept (fun i hi => ⟨ho _ (hA _ (Or.inr ⟨i, hi, Or.inl rfl⟩)), ho _ (hA _ (Or.inr ⟨i, hi, Or.inr rfl⟩))⟩)⟩
theorem q_tree.offA {h h' : q_H} {t : Nat} {ra rb : Nat → Nat} {T : tr_T} {X : Nat → Prop} (ht : q_tree h t ra rb T) (ho : q_off h h' X) (hA : ∀ y, tr_A t ra rb y → ¬ X y) : q_tree h' t ra rb T := ht.off ho (hA _ (Or.inl rfl)) (fun i hi => ⟨hA _ (Or.inr ⟨i, hi, Or.inl rfl⟩), hA _ (Or.inr ⟨i, hi, Or.inr rfl⟩)⟩)
theorem ep_A.tree {e t pr pb : Nat} {ra rb : Nat → Nat} {X : Nat → Prop} (h : ∀ y, ep_A e t pr pb ra rb y → ¬ X y) : ∀ y, tr_A t ra rb y → ¬ X y := by
  rintro y (z | ⟨i, hi, z⟩)
  · exact h y (Or.inr (Or.inl z))
  · exact h y (Or.inr (Or.inr (Or.inr (Or.inr ⟨i, hi, z⟩))))
noncomputable def M_put (M : m_T) (n v : Int32) : m_T := (M.1, va_up M.2 0 (r_put (m_len 0) (M.2 0) n v))
noncomputable def M_int (M : m_T) (k : Nat) (v : Int32) : m_T := (upd M.1 k v, M.2)
noncomputable def M_hk (M : m_T) (T : tr_T) (n : Int32) : Prop := ¬ r_get (tr_len 0) (T.1 0) n = -1 ∧ r_get (m_len 0) (M.2 0) n = r_get (tr_len 0) (T.1 0) n
noncomputable def M_tk (M : m_T) (T : tr_T) (n : Int32) : m_T := M_put M n (r_get (tr_len 0) (T.1 0) n)
noncomputable def M_d1 (T : tr_T) (k : Nat) (M : m_T) : m_T := by classical exact if M_hk M T (nI k) then M else M_put M (nI k) (-1)
noncomputable def M_drop (T : tr_T) : Nat → Nat → m_T → m_T
  | 0, _, M => M
  | m + 1, k, M => M_drop T m (k + 1) (M_d1 T k M)
noncomputable def M_c1 (E : e_T) (k : Nat) (M : m_T) : m_T := by classical exact if j_in (E.1 3) (j_node (M.1 3) (nI k)) then M_tk M E.2.1 (j_node (M.1 3) (nI k)) else M
noncomputable def M_tck (E : e_T) : Nat → Nat → m_T → m_T
  | 0, _, M => M
  | m + 1, k, M => M_tck E m (k + 1) (M_c1 E k M)
noncomputable def M_hof (M : m_T) (b : Int32) (T : tr_T) : Prop := ∃ l, l < 31 ∧ j_in b (nI l) ∧ M_hk M T (nI l)
noncomputable def M_l0 (M : m_T) (E : e_T) : m_T := M_drop E.2.1 31 0 (M_int (M_int (M_int M 2 (E.1 0)) 4 1) 1 0)
noncomputable def M_lead (M : m_T) (E : e_T) : m_T := M_tck E E.2.1.2 1 (M_tk (M_l0 M E) E.2.1 (j_node ((M_l0 M E).1 3) 0))
noncomputable def M_enter (M : m_T) (E : e_T) (l : Int32) : m_T := M_lead (M_int M 3 l) E
noncomputable def M_leave (M : m_T) : m_T := ((M_int (M_int (M_int (M_int M 2 (-1)) 3 (-1)) 4 0) 1 0).1, va_up M.2 0 (r_fill (m_len 0) (M.2 0) (-1)))
noncomputable def M_keep (M : m_T) (x : Int32) : m_T := if M.1 1 < 20 then (upd M.1 1 (M.1 1 + 1), va_up M.2 1 (r_put (m_len 1) (M.2 1) (M.1 1) x)) else M
noncomputable def M_f1 (M : m_T) (E : e_T) : m_T := M_int (M_int M 2 (E.1 0)) 1 0
noncomputable def M_f2 (M : m_T) (E : e_T) : m_T := by classical exact if j_in (E.1 5) ((M_f1 M E).1 3) then M_tk (M_f1 M E) E.2.1 (j_node ((M_f1 M E).1 3) 0) else M_f1 M E
noncomputable def M_f3 (M : m_T) (E : e_T) : m_T := M_drop E.2.1 31 0 (M_f2 M E)
noncomputable def M_flc (M : m_T) (E : e_T) : Int32 := E_lc E ((M_f3 M E).1 3) E.2.1.2 1
noncomputable def M_fol (M : m_T) (E : e_T) : m_T := by classical exact if M_flc M E = -1 then M_f3 M E else if M_hof (M_f3 M E) (E_rdr E (M_flc M E)) E.2.1 then M_tck E E.2.1.2 1 (M_f3 M E) else M_int (M_int (M_f3 M E) 5 ((M_f3 M E).1 5 + 1)) 4 0
set_option maxHeartbeats 1000000 in
theorem c_Mem_holdsKeyIn (g : q_G) {h : q_H} {m : Nat} {ma mb : Nat → Nat} {M : m_T} (n : Int32) (d : Nat) (hd : 1 ≤ d) (hm : q_mem h m ma mb M) {t : Nat} {ra rb : Nat → Nat} {T : tr_T} (ht : q_tree h t ra rb T) : MG g y_Mem_holdsKeyIn b_Mem_holdsKeyIn 4 (some .boolean) d 0 0 [.ref m, .ref t, .int n] h (fun q h' => q = .inl (some (.int (b2i (M_hk M T n)))) ∧ h' = h) := by
  refine MG.of (by decide +kernel) (by simp [Value.category]) (Nat.le_of_ble_eq_true rfl) ?_
  intro Z A ok
  refine g_aload_n ok (dk m_Mem_holdsKeyIn 0 rfl) (pc' := 1) rfl (i := 1) rfl rfl ?_
  refine g_getR ok (dk m_Mem_holdsKeyIn 1 rfl) (pc' := 4) rfl f_Mem_46 ht.1 rfl ?_
  refine g_iload_n ok (dk m_Mem_holdsKeyIn 2 rfl) (pc' := 5) rfl (i := 2) rfl rfl ?_
  refine g_callV ok (dk m_Mem_holdsKeyIn 3 rfl) (pc' := 8) rfl c_Mem_49 (c_Row_get g n 0 (ht.2.1 0 (by decide)).1 (ht.2.1 0 (by decide)).2 (tr_len_lt _)) (ht.2.1 0 (by decide)).1 rfl rfl (by simp [Value.category]) (by omega) rfl (rc' := 0) (rs' := 0) (by omega) (by omega) (fun rv h' hcc => ?_) (fun i h' hcc => by obtain ⟨e9, -⟩ := hcc; cases e9)
  obtain ⟨e9, e2⟩ := hcc
  have e3 := e2.symm
  subst e3
  cases e9
  refine g_istore_n ok (dk m_Mem_holdsKeyIn 4 rfl) (pc' := 9) rfl (i := 3) rfl (Nat.le_of_ble_eq_true rfl) rfl ?_
  refine g_iload_n ok (dk m_Mem_holdsKeyIn 5 rfl) (pc' := 10) rfl (i := 3) rfl rfl ?_
  refine g_iconst ok (dk m_Mem_holdsKeyIn 6 rfl) (pc' := 11) rfl (v := (-1)) (by decide) ?_
  refine g_icmp_eq ok (dk m_Mem_holdsKeyIn 7 rfl) (tgt := 30) (by decide) (pc' := 14) rfl (fun c_11 => ?_) (fun c_11 => ?_)
  · refine g_iconst ok (dk m_Mem_holdsKeyIn 16 rfl) (pc' := 31) rfl (v := 0) (by decide) ?_
    exact g_iret ok (dk m_Mem_holdsKeyIn 17 rfl) rfl rfl ⟨by rw [b2i_f (p := M_hk M T n) (fun z => z.1 c_11)], rfl⟩
  · refine g_aload_n ok (dk m_Mem_holdsKeyIn 8 rfl) (pc' := 15) rfl (i := 0) rfl rfl ?_
    refine g_get ok (dk m_Mem_holdsKeyIn 9 rfl) (pc' := 18) rfl f_Mem_14 hm.1 rfl ?_
    refine g_iload_n ok (dk m_Mem_holdsKeyIn 10 rfl) (pc' := 19) rfl (i := 2) rfl rfl ?_
    refine g_callV ok (dk m_Mem_holdsKeyIn 11 rfl) (pc' := 22) rfl c_Mem_49 (c_Row_get g n 0 (hm.2.1 0 (by decide)).1 (hm.2.1 0 (by decide)).2 (m_len_lt _)) (hm.2.1 0 (by decide)).1 rfl rfl (by simp [Value.category]) (by omega) rfl (rc' := 0) (rs' := 0) (by omega) (by omega) (fun rv h' hcc => ?_) (fun i h' hcc => by obtain ⟨e9, -⟩ := hcc; cases e9)
    obtain ⟨e9, e2⟩ := hcc
    have e3 := e2.symm
    subst e3
    cases e9
    refine g_iload_n ok (dk m_Mem_holdsKeyIn 12 rfl) (pc' := 23) rfl (i := 3) rfl rfl ?_
    refine g_icmp_ne ok (dk m_Mem_holdsKeyIn 13 rfl) (tgt := 30) (by decide) (pc' := 26) rfl (fun c_23 => ?_) (fun c_23 => ?_)
    · refine g_iconst ok (dk m_Mem_holdsKeyIn 16 rfl) (pc' := 31) rfl (v := 0) (by decide) ?_
      exact g_iret ok (dk m_Mem_holdsKeyIn 17 rfl) rfl rfl ⟨by rw [b2i_f (p := M_hk M T n) (fun z => c_23 z.2)], rfl⟩
    · refine g_iconst ok (dk m_Mem_holdsKeyIn 14 rfl) (pc' := 27) rfl (v := 1) (by decide) ?_
      refine g_goto ok (dk m_Mem_holdsKeyIn 15 rfl) (pc' := 31) (by decide) ?_
      exact g_iret ok (dk m_Mem_holdsKeyIn 17 rfl) rfl rfl ⟨by rw [b2i_t (p := M_hk M T n) ⟨c_11, c_23⟩], rfl⟩
set_option maxHeartbeats 1000000 in
theorem c_Mem_takeKey (g : q_G) {h : q_H} {m : Nat} {ma mb : Nat → Nat} {M : m_T} (n : Int32) (d : Nat) (hd : 1 ≤ d) (hm : q_mem h m ma mb M) {t : Nat} {ra rb : Nat → Nat} {T : tr_T} (ht : q_tree h t ra rb T) : MG g y_Mem_takeKey b_Mem_takeKey 3 none d 0 0 [.ref m, .ref t, .int n] h (fun q h' => q = .inl none ∧ q_mem h' m ma mb (M_tk M T n) ∧ q_off h h' (m_P m mb)) := by
  refine MG.of (by decide +kernel) (by simp [Value.category]) (Nat.le_of_ble_eq_true rfl) ?_
  intro Z A ok
  refine g_aload_n ok (dk m_Mem_takeKey 0 rfl) (pc' := 1) rfl (i := 0) rfl rfl ?_
  refine g_get ok (dk m_Mem_takeKey 1 rfl) (pc' := 4) rfl f_Mem_14 hm.1 rfl ?_
  refine g_iload_n ok (dk m_Mem_takeKey 2 rfl) (pc' := 5) rfl (i := 2) rfl rfl ?_
  refine g_aload_n ok (dk m_Mem_takeKey 3 rfl) (pc' := 6) rfl (i := 1) rfl rfl ?_
  refine g_getR ok (dk m_Mem_takeKey 4 rfl) (pc' := 9) rfl f_Mem_46 ht.1 rfl ?_
  refine g_iload_n ok (dk m_Mem_takeKey 5 rfl) (pc' := 10) rfl (i := 2) rfl rfl ?_
  refine g_callV ok (dk m_Mem_takeKey 6 rfl) (pc' := 13) rfl c_Mem_49 (c_Row_get g n 0 (ht.2.1 0 (by decide)).1 (ht.2.1 0 (by decide)).2 (tr_len_lt _)) (ht.2.1 0 (by decide)).1 rfl rfl (by simp [Value.category]) (by omega) rfl (rc' := 0) (rs' := 0) (by omega) (by omega) (fun rv h' hcc => ?_) (fun i h' hcc => by obtain ⟨e9, -⟩ := hcc; cases e9)
  obtain ⟨e9, e2⟩ := hcc
  have e3 := e2.symm
  subst e3
  cases e9
  refine g_callV ok (dk m_Mem_takeKey 7 rfl) (pc' := 16) rfl c_Mem_43 (c_Row_put g n _ 0 (hm.2.1 0 (by decide)).1 (hm.2.1 0 (by decide)).2 (m_len_lt _)) (hm.2.1 0 (by decide)).1 rfl rfl (by simp [Value.category]) (by omega) rfl (rc' := 0) (rs' := 0) (by omega) (by omega) (fun rv h' hcc => ?_) (fun i h' hcc => by obtain ⟨e9, -⟩ := hcc; cases e9)
  obtain ⟨e9, e2⟩ := hcc
  cases e9
  have hm2 := hm.putE 0 (by decide) e2
  have ho2 := q_off.upE (q_off.rf (X := m_P m mb)) (Or.inr ⟨0, by decide, rfl⟩) e2
  clear e2
  exact g_vret ok (dk m_Mem_takeKey 8 rfl) rfl ⟨rfl, hm2, ho2⟩
set_option maxHeartbeats 1000000 in
theorem c_Mem_dropStaleKeys (g : q_G) {h : q_H} {m : Nat} {ma mb : Nat → Nat} {M : m_T} (d : Nat) (hd : 2 ≤ d) (hm : q_mem h m ma mb M) {t : Nat} {ra rb : Nat → Nat} {T : tr_T} (ht : q_tree h t ra rb T) (hap : ∀ y, tr_A t ra rb y → ¬ m_P m mb y) : MG g y_Mem_dropStaleKeys b_Mem_dropStaleKeys 3 none d 0 0 [.ref m, .ref t] h (fun q h' => q = .inl none ∧ q_mem h' m ma mb (M_drop T 31 0 M) ∧ q_off h h' (m_P m mb)) := by
  refine MG.of (by decide +kernel) (by simp [Value.category]) (Nat.le_of_ble_eq_true rfl) ?_
  intro Z A ok
  have loop : ∀ (j k : Nat), k + j = 31 → ∀ (h1 : q_H) (N : m_T), q_mem h1 m ma mb N → q_tree h1 t ra rb T → q_off h h1 (m_P m mb) → M_drop T j k N = M_drop T 31 0 M → GW g Z A (fun q h' => q = .inl none ∧ q_mem h' m ma mb (M_drop T 31 0 M) ∧ q_off h h' (m_P m mb)) 0 0 h1 2 [some (.ref m), some (.ref t), some (.int (nI k))] [] := by
    intro j
    induction j with
    | zero =>
      intro k hk h1 N hm1 ht1 ho1 hv
      refine g_iload_n ok (dk m_Mem_dropStaleKeys 2 rfl) (pc' := 3) rfl (i := 2) rfl rfl ?_
      refine g_bipush ok (dk m_Mem_dropStaleKeys 3 rfl) (pc' := 5) rfl (v := 31) (by decide) ?_
      refine g_icmp_ge ok (dk m_Mem_dropStaleKeys 4 rfl) (tgt := 32) (by decide) (pc' := 8) rfl (fun c_5 => ?_) (fun c_5 => absurd (show (31 : Int32) ≤ nI k from by rw [show k = 31 by omega]; decide) c_5)
      exact g_vret ok (dk m_Mem_dropStaleKeys 17 rfl) rfl ⟨rfl, by rw [← hv]; exact hm1, ho1⟩
    | succ j ih =>
      intro k hk h1 N hm1 ht1 ho1 hv
      refine g_iload_n ok (dk m_Mem_dropStaleKeys 2 rfl) (pc' := 3) rfl (i := 2) rfl rfl ?_
      refine g_bipush ok (dk m_Mem_dropStaleKeys 3 rfl) (pc' := 5) rfl (v := 31) (by decide) ?_
      refine g_icmp_ge ok (dk m_Mem_dropStaleKeys 4 rfl) (tgt := 32) (by decide) (pc' := 8) rfl (fun c_5 => absurd c_5 (show ¬ nI 31 ≤ nI k from nI_ge (by omega) (by decide))) (fun c_5 => ?_)
      refine g_aload_n ok (dk m_Mem_dropStaleKeys 5 rfl) (pc' := 9) rfl (i := 0) rfl rfl ?_
      refine g_aload_n ok (dk m_Mem_dropStaleKeys 6 rfl) (pc' := 10) rfl (i := 1) rfl rfl ?_
      refine g_iload_n ok (dk m_Mem_dropStaleKeys 7 rfl) (pc' := 11) rfl (i := 2) rfl rfl ?_
      refine g_callV ok (dk m_Mem_dropStaleKeys 8 rfl) (pc' := 14) rfl c_Mem_100 (c_Mem_holdsKeyIn g (nI k) 1 (by omega) hm1 ht1) hm1.1 rfl rfl (by simp [Value.category]) (by omega) rfl (rc' := 0) (rs' := 0) (by omega) (by omega) (fun rv h' hcc => ?_) (fun i h' hcc => by obtain ⟨e9, -⟩ := hcc; cases e9)
      obtain ⟨e9, e2⟩ := hcc
      have e3 := e2.symm
      subst e3
      cases e9
      refine g_if_ne ok (dk m_Mem_dropStaleKeys 9 rfl) (tgt := 26) (by decide) (pc' := 17) rfl (fun c_14 => ?_) (fun c_14 => ?_)
      · have hq : M_d1 T k N = N := by rw [M_d1, if_pos (b2i_n c_14)]
        have hm2 : q_mem h1 m ma mb (M_d1 T k N) := by rw [hq]; exact hm1
        have ho2 := ho1
        have ht2 := ht1
        refine g_iinc ok (dk m_Mem_dropStaleKeys 15 rfl) (pc' := 29) rfl rfl (nI_1 k) rfl ?_
        refine g_goto ok (dk m_Mem_dropStaleKeys 16 rfl) (pc' := 2) (by decide) ?_
        exact ih (k + 1) (by omega) _ _ hm2 ht2 ho2 (by rw [← hv]; rfl)
      · refine g_aload_n ok (dk m_Mem_dropStaleKeys 10 rfl) (pc' := 18) rfl (i := 0) rfl rfl ?_
        refine g_get ok (dk m_Mem_dropStaleKeys 11 rfl) (pc' := 21) rfl f_Mem_14 hm1.1 rfl ?_
        refine g_iload_n ok (dk m_Mem_dropStaleKeys 12 rfl) (pc' := 22) rfl (i := 2) rfl rfl ?_
        refine g_iconst ok (dk m_Mem_dropStaleKeys 13 rfl) (pc' := 23) rfl (v := (-1)) (by decide) ?_
        refine g_callV ok (dk m_Mem_dropStaleKeys 14 rfl) (pc' := 26) rfl c_Mem_43 (c_Row_put g (nI k) (-1) 0 (hm1.2.1 0 (by decide)).1 (hm1.2.1 0 (by decide)).2 (m_len_lt _)) (hm1.2.1 0 (by decide)).1 rfl rfl (by simp [Value.category]) (by omega) rfl (rc' := 0) (rs' := 0) (by omega) (by omega) (fun rv h' hcc => ?_) (fun i h' hcc => by obtain ⟨e9, -⟩ := hcc; cases e9)
        obtain ⟨e9, e2⟩ := hcc
        cases e9
        have hm3 := hm1.putE 0 (by decide) e2
        have ho3 := q_off.upE (q_off.rf (X := m_P m mb)) (Or.inr ⟨0, by decide, rfl⟩) e2
        clear e2
        have hq : M_d1 T k N = M_put N (nI k) (-1) := by rw [M_d1, if_neg (b2i_0 c_14)]
        have hm2 : q_mem h' m ma mb (M_d1 T k N) := by rw [hq]; exact hm3
        have ho2 := ho1.tr ho3
        have ht2 := ht1.offA ho3 hap
        refine g_iinc ok (dk m_Mem_dropStaleKeys 15 rfl) (pc' := 29) rfl rfl (nI_1 k) rfl ?_
        refine g_goto ok (dk m_Mem_dropStaleKeys 16 rfl) (pc' := 2) (by decide) ?_
        exact ih (k + 1) (by omega) _ _ hm2 ht2 ho2 (by rw [← hv]; rfl)
  refine g_iconst ok (dk m_Mem_dropStaleKeys 0 rfl) (pc' := 1) rfl (v := 0) (by decide) ?_
  refine g_istore_n ok (dk m_Mem_dropStaleKeys 1 rfl) (pc' := 2) rfl (i := 2) rfl (Nat.le_of_ble_eq_true rfl) rfl ?_
  exact loop 31 0 (by omega) h M hm ht q_off.rf rfl
set_option maxHeartbeats 1000000 in
theorem c_Mem_takeCountingKeys (g : q_G) {h : q_H} {m : Nat} {ma mb : Nat → Nat} {M : m_T} (d : Nat) (hd : 2 ≤ d) (hm : q_mem h m ma mb M) {e t pr pb : Nat} {ra rb : Nat → Nat} {E : e_T} (he : q_ep h e t pr pb ra rb E) (hap : ∀ y, ep_A e t pr pb ra rb y → ¬ m_P m mb y) (hT : E.2.1.2 ≤ 4) : MG g y_Mem_takeCountingKeys b_Mem_takeCountingKeys 4 none d 0 0 [.ref m, .ref e] h (fun q h' => q = .inl none ∧ q_mem h' m ma mb (M_tck E E.2.1.2 1 M) ∧ q_off h h' (m_P m mb)) := by
  refine MG.of (by decide +kernel) (by simp [Value.category]) (Nat.le_of_ble_eq_true rfl) ?_
  intro Z A ok
  have loop : ∀ (j k : Nat), k + j = E.2.1.2 + 1 → ∀ (h1 : q_H) (N : m_T) (x3 : Option Value), q_mem h1 m ma mb N → q_ep h1 e t pr pb ra rb E → q_off h h1 (m_P m mb) → M_tck E j k N = M_tck E E.2.1.2 1 M → GW g Z A (fun q h' => q = .inl none ∧ q_mem h' m ma mb (M_tck E E.2.1.2 1 M) ∧ q_off h h' (m_P m mb)) 0 0 h1 2 [some (.ref m), some (.ref e), some (.int (nI k)), x3] [] := by
    intro j
    induction j with
    | zero =>
      intro k hk h1 N x3 hm1 he1 ho1 hv
      refine g_iload_n ok (dk m_Mem_takeCountingKeys 2 rfl) (pc' := 3) rfl (i := 2) rfl rfl ?_
      refine g_aload_n ok (dk m_Mem_takeCountingKeys 3 rfl) (pc' := 4) rfl (i := 1) rfl rfl ?_
      refine g_getR ok (dk m_Mem_takeCountingKeys 4 rfl) (pc' := 7) rfl f_Mem_64 he1.1 rfl ?_
      refine g_get ok (dk m_Mem_takeCountingKeys 5 rfl) (pc' := 10) rfl f_Mem_104 he1.2.1.1 rfl ?_
      refine g_icmp_gt ok (dk m_Mem_takeCountingKeys 6 rfl) (tgt := 48) (by decide) (pc' := 13) rfl (fun c_10 => ?_) (fun c_10 => absurd (nI_lt (a := E.2.1.2) (b := k) (by omega) (by omega)) c_10)
      exact g_vret ok (dk m_Mem_takeCountingKeys 24 rfl) rfl ⟨rfl, by rw [← hv]; exact hm1, ho1⟩
    | succ j ih =>
      intro k hk h1 N x3 hm1 he1 ho1 hv
      refine g_iload_n ok (dk m_Mem_takeCountingKeys 2 rfl) (pc' := 3) rfl (i := 2) rfl rfl ?_
      refine g_aload_n ok (dk m_Mem_takeCountingKeys 3 rfl) (pc' := 4) rfl (i := 1) rfl rfl ?_
      refine g_getR ok (dk m_Mem_takeCountingKeys 4 rfl) (pc' := 7) rfl f_Mem_64 he1.1 rfl ?_
      refine g_get ok (dk m_Mem_takeCountingKeys 5 rfl) (pc' := 10) rfl f_Mem_104 he1.2.1.1 rfl ?_
      refine g_icmp_gt ok (dk m_Mem_takeCountingKeys 6 rfl) (tgt := 48) (by decide) (pc' := 13) rfl (fun c_10 => absurd c_10 (nI_nlt (a := E.2.1.2) (b := k) (by omega) (by omega))) (fun c_10 => ?_)
      refine g_aload_n ok (dk m_Mem_takeCountingKeys 7 rfl) (pc' := 14) rfl (i := 0) rfl rfl ?_
      refine g_get ok (dk m_Mem_takeCountingKeys 8 rfl) (pc' := 17) rfl f_Mem_30 hm1.1 rfl ?_
      refine g_iload_n ok (dk m_Mem_takeCountingKeys 9 rfl) (pc' := 18) rfl (i := 2) rfl rfl ?_
      refine g_callS ok (dk m_Mem_takeCountingKeys 10 rfl) (pc' := 21) rfl c_Mem_72 (c_Tr_nodeOver g (N.1 3) (nI k) 0) rfl rfl (by simp [Value.category]) (by omega) rfl (rc' := 0) (rs' := 0) (by omega) (by omega) (fun rv h' hcc => ?_) (fun i h' hcc => by obtain ⟨e9, -⟩ := hcc; cases e9)
      obtain ⟨e9, e2⟩ := hcc
      have e3 := e2.symm
      subst e3
      cases e9
      refine g_istore_n ok (dk m_Mem_takeCountingKeys 11 rfl) (pc' := 22) rfl (i := 3) rfl (Nat.le_of_ble_eq_true rfl) rfl ?_
      refine g_aload_n ok (dk m_Mem_takeCountingKeys 12 rfl) (pc' := 23) rfl (i := 1) rfl rfl ?_
      refine g_get ok (dk m_Mem_takeCountingKeys 13 rfl) (pc' := 26) rfl f_Mem_107 he1.1 rfl ?_
      refine g_iload_n ok (dk m_Mem_takeCountingKeys 14 rfl) (pc' := 27) rfl (i := 3) rfl rfl ?_
      refine g_callSN ok (dk m_Mem_takeCountingKeys 15 rfl) (pc' := 30) rfl c_Mem_86 (c_RG_isIn g (E.1 3) (j_node (N.1 3) (nI k)) 0) rfl rfl (by simp [Value.category]) (by omega) rfl (rc' := 0) (rs' := 0) (by omega) (by omega) (fun rv h' hcc => ?_) (fun i h' hcc => by obtain ⟨e9, -⟩ := hcc; cases e9)
      obtain ⟨e9, e2⟩ := hcc
      have e3 := e2.symm
      subst e3
      cases e9
      refine g_if_eq ok (dk m_Mem_takeCountingKeys 16 rfl) (tgt := 42) (by decide) (pc' := 33) rfl (fun c_30 => ?_) (fun c_30 => ?_)
      · have hq : M_c1 E k N = N := by rw [M_c1, if_neg (b2i_0 c_30)]
        have hm2 : q_mem h1 m ma mb (M_c1 E k N) := by rw [hq]; exact hm1
        have ho2 := ho1
        have he2 := he1
        refine g_iinc ok (dk m_Mem_takeCountingKeys 22 rfl) (pc' := 45) rfl rfl (nI_1 k) rfl ?_
        refine g_goto ok (dk m_Mem_takeCountingKeys 23 rfl) (pc' := 2) (by decide) ?_
        exact ih (k + 1) (by omega) _ _ _ hm2 he2 ho2 (by rw [← hv]; rfl)
      · refine g_aload_n ok (dk m_Mem_takeCountingKeys 17 rfl) (pc' := 34) rfl (i := 0) rfl rfl ?_
        refine g_aload_n ok (dk m_Mem_takeCountingKeys 18 rfl) (pc' := 35) rfl (i := 1) rfl rfl ?_
        refine g_getR ok (dk m_Mem_takeCountingKeys 19 rfl) (pc' := 38) rfl f_Mem_64 he1.1 rfl ?_
        refine g_iload_n ok (dk m_Mem_takeCountingKeys 20 rfl) (pc' := 39) rfl (i := 3) rfl rfl ?_
        refine g_callV ok (dk m_Mem_takeCountingKeys 21 rfl) (pc' := 42) rfl c_Mem_76 (c_Mem_takeKey g (j_node (N.1 3) (nI k)) 1 (by omega) hm1 he1.2.1) hm1.1 rfl rfl (by simp [Value.category]) (by omega) rfl (rc' := 0) (rs' := 0) (by omega) (by omega) (fun rv h' hcc => ?_) (fun i h' hcc => by obtain ⟨e9, -⟩ := hcc; cases e9)
        obtain ⟨e9, hm3, ho3⟩ := hcc
        cases e9
        have hq : M_c1 E k N = M_tk N E.2.1 (j_node (N.1 3) (nI k)) := by rw [M_c1, if_pos (b2i_n c_30)]
        have hm2 : q_mem h' m ma mb (M_c1 E k N) := by rw [hq]; exact hm3
        have ho2 := ho1.tr ho3
        have he2 := he1.off ho3 hap
        refine g_iinc ok (dk m_Mem_takeCountingKeys 22 rfl) (pc' := 45) rfl rfl (nI_1 k) rfl ?_
        refine g_goto ok (dk m_Mem_takeCountingKeys 23 rfl) (pc' := 2) (by decide) ?_
        exact ih (k + 1) (by omega) _ _ _ hm2 he2 ho2 (by rw [← hv]; rfl)
  refine g_iconst ok (dk m_Mem_takeCountingKeys 0 rfl) (pc' := 1) rfl (v := 1) (by decide) ?_
  refine g_istore_n ok (dk m_Mem_takeCountingKeys 1 rfl) (pc' := 2) rfl (i := 2) rfl (Nat.le_of_ble_eq_true rfl) rfl ?_
  exact loop E.2.1.2 1 (by omega) h M _ hm he q_off.rf rfl
set_option maxHeartbeats 1000000 in
theorem c_Mem_holdsOneOf (g : q_G) {h : q_H} {m : Nat} {ma mb : Nat → Nat} {M : m_T} (b : Int32) (d : Nat) (hd : 2 ≤ d) (hm : q_mem h m ma mb M) {t : Nat} {ra rb : Nat → Nat} {T : tr_T} (ht : q_tree h t ra rb T) : MG g y_Mem_holdsOneOf b_Mem_holdsOneOf 4 (some .boolean) d 0 0 [.ref m, .int b, .ref t] h (fun q h' => q = .inl (some (.int (b2i (M_hof M b T)))) ∧ h' = h) := by
  refine MG.of (by decide +kernel) (by simp [Value.category]) (Nat.le_of_ble_eq_true rfl) ?_
  intro Z A ok
  have loop : ∀ (j k : Nat), k + j = 31 → (∀ l, l < k → ¬ (j_in b (nI l) ∧ M_hk M T (nI l))) → GW g Z A (fun q h' => q = .inl (some (.int (b2i (M_hof M b T)))) ∧ h' = h) 0 0 h 2 [some (.ref m), some (.int b), some (.ref t), some (.int (nI k))] [] := by
    intro j
    induction j with
    | zero =>
      intro k hk hv
      refine g_iload_n ok (dk m_Mem_holdsOneOf 2 rfl) (pc' := 3) rfl (i := 3) rfl rfl ?_
      refine g_bipush ok (dk m_Mem_holdsOneOf 3 rfl) (pc' := 5) rfl (v := 31) (by decide) ?_
      refine g_icmp_ge ok (dk m_Mem_holdsOneOf 4 rfl) (tgt := 33) (by decide) (pc' := 8) rfl (fun c_5 => ?_) (fun c_5 => absurd (show (31 : Int32) ≤ nI k from by rw [show k = 31 by omega]; decide) c_5)
      refine g_iconst ok (dk m_Mem_holdsOneOf 18 rfl) (pc' := 34) rfl (v := 0) (by decide) ?_
      exact g_iret ok (dk m_Mem_holdsOneOf 19 rfl) rfl rfl ⟨by rw [b2i_f (p := M_hof M b T) (fun z => by obtain ⟨l, hl, e⟩ := z; exact hv l (by omega) e)], rfl⟩
    | succ j ih =>
      intro k hk hv
      refine g_iload_n ok (dk m_Mem_holdsOneOf 2 rfl) (pc' := 3) rfl (i := 3) rfl rfl ?_
      refine g_bipush ok (dk m_Mem_holdsOneOf 3 rfl) (pc' := 5) rfl (v := 31) (by decide) ?_
      refine g_icmp_ge ok (dk m_Mem_holdsOneOf 4 rfl) (tgt := 33) (by decide) (pc' := 8) rfl (fun c_5 => absurd c_5 (show ¬ nI 31 ≤ nI k from nI_ge (by omega) (by decide))) (fun c_5 => ?_)
      refine g_iload_n ok (dk m_Mem_holdsOneOf 5 rfl) (pc' := 9) rfl (i := 1) rfl rfl ?_
      refine g_iload_n ok (dk m_Mem_holdsOneOf 6 rfl) (pc' := 10) rfl (i := 3) rfl rfl ?_
      refine g_callSN ok (dk m_Mem_holdsOneOf 7 rfl) (pc' := 13) rfl c_Mem_86 (c_RG_isIn g b (nI k) 0) rfl rfl (by simp [Value.category]) (by omega) rfl (rc' := 0) (rs' := 0) (by omega) (by omega) (fun rv h' hcc => ?_) (fun i h' hcc => by obtain ⟨e9, -⟩ := hcc; cases e9)
      obtain ⟨e9, e2⟩ := hcc
      have e3 := e2.symm
      subst e3
      cases e9
      refine g_if_eq ok (dk m_Mem_holdsOneOf 8 rfl) (tgt := 27) (by decide) (pc' := 16) rfl (fun c_13 => ?_) (fun c_13 => ?_)
      · have hc : ¬ (j_in b (nI k) ∧ M_hk M T (nI k)) := fun z => b2i_0 c_13 z.1
        refine g_iinc ok (dk m_Mem_holdsOneOf 16 rfl) (pc' := 30) rfl rfl (nI_1 k) rfl ?_
        refine g_goto ok (dk m_Mem_holdsOneOf 17 rfl) (pc' := 2) (by decide) ?_
        exact ih (k + 1) (by omega) (fun l hl e => by rcases Nat.lt_or_ge l k with q | q; exact hv l q e; exact hc (by rw [show k = l by omega]; exact e))
      · refine g_aload_n ok (dk m_Mem_holdsOneOf 9 rfl) (pc' := 17) rfl (i := 0) rfl rfl ?_
        refine g_aload_n ok (dk m_Mem_holdsOneOf 10 rfl) (pc' := 18) rfl (i := 2) rfl rfl ?_
        refine g_iload_n ok (dk m_Mem_holdsOneOf 11 rfl) (pc' := 19) rfl (i := 3) rfl rfl ?_
        refine g_callV ok (dk m_Mem_holdsOneOf 12 rfl) (pc' := 22) rfl c_Mem_100 (c_Mem_holdsKeyIn g (nI k) 1 (by omega) hm ht) hm.1 rfl rfl (by simp [Value.category]) (by omega) rfl (rc' := 0) (rs' := 0) (by omega) (by omega) (fun rv h' hcc => ?_) (fun i h' hcc => by obtain ⟨e9, -⟩ := hcc; cases e9)
        obtain ⟨e9, e2⟩ := hcc
        have e3 := e2.symm
        subst e3
        cases e9
        refine g_if_eq ok (dk m_Mem_holdsOneOf 13 rfl) (tgt := 27) (by decide) (pc' := 25) rfl (fun c_22 => ?_) (fun c_22 => ?_)
        · have hc : ¬ (j_in b (nI k) ∧ M_hk M T (nI k)) := fun z => b2i_0 c_22 z.2
          refine g_iinc ok (dk m_Mem_holdsOneOf 16 rfl) (pc' := 30) rfl rfl (nI_1 k) rfl ?_
          refine g_goto ok (dk m_Mem_holdsOneOf 17 rfl) (pc' := 2) (by decide) ?_
          exact ih (k + 1) (by omega) (fun l hl e => by rcases Nat.lt_or_ge l k with q | q; exact hv l q e; exact hc (by rw [show k = l by omega]; exact e))
        · refine g_iconst ok (dk m_Mem_holdsOneOf 14 rfl) (pc' := 26) rfl (v := 1) (by decide) ?_
          exact g_iret ok (dk m_Mem_holdsOneOf 15 rfl) rfl rfl ⟨by rw [b2i_t (p := M_hof M b T) ⟨k, by omega, b2i_n c_13, b2i_n c_22⟩], rfl⟩
  refine g_iconst ok (dk m_Mem_holdsOneOf 0 rfl) (pc' := 1) rfl (v := 0) (by decide) ?_
  refine g_istore_n ok (dk m_Mem_holdsOneOf 1 rfl) (pc' := 2) rfl (i := 3) rfl (Nat.le_of_ble_eq_true rfl) rfl ?_
  exact loop 31 0 (by omega) (fun l hl => by omega)
set_option maxHeartbeats 1000000 in
theorem c_Mem_leave (g : q_G) {h : q_H} {m : Nat} {ma mb : Nat → Nat} {M : m_T} (d : Nat) (hd : 2 ≤ d) (hm : q_mem h m ma mb M) : MG g y_Mem_leave b_Mem_leave 1 none d 0 0 [.ref m] h (fun q h' => q = .inl none ∧ q_mem h' m ma mb (M_leave M) ∧ q_off h h' (m_P m mb)) := by
  refine MG.of (by decide +kernel) (by simp [Value.category]) (Nat.le_of_ble_eq_true rfl) ?_
  intro Z A ok
  refine g_aload_n ok (dk m_Mem_leave 0 rfl) (pc' := 1) rfl (i := 0) rfl rfl ?_
  refine g_iconst ok (dk m_Mem_leave 1 rfl) (pc' := 2) rfl (v := (-1)) (by decide) ?_
  refine g_put ok (dk m_Mem_leave 2 rfl) (pc' := 5) rfl f_Mem_27 (Or.inl rfl) hm.1 (Nat.le_of_ble_eq_true rfl) rfl rfl ?_
  refine g_gen (fun h1 e2 => ?_)
  have hm1 := hm.intE 2 4 (by decide) e2
  have o1 := q_off.upE (q_off.rf (X := m_P m mb)) (Or.inl rfl) e2
  clear e2
  refine g_aload_n ok (dk m_Mem_leave 3 rfl) (pc' := 6) rfl (i := 0) rfl rfl ?_
  refine g_iconst ok (dk m_Mem_leave 4 rfl) (pc' := 7) rfl (v := (-1)) (by decide) ?_
  refine g_put ok (dk m_Mem_leave 5 rfl) (pc' := 10) rfl f_Mem_30 (Or.inl rfl) hm1.1 (Nat.le_of_ble_eq_true rfl) rfl rfl ?_
  refine g_gen (fun h2 e2 => ?_)
  have hm2 := hm1.intE 3 5 (by decide) e2
  have o2 := q_off.upE (q_off.rf (X := m_P m mb)) (Or.inl rfl) e2
  clear e2
  refine g_aload_n ok (dk m_Mem_leave 6 rfl) (pc' := 11) rfl (i := 0) rfl rfl ?_
  refine g_iconst ok (dk m_Mem_leave 7 rfl) (pc' := 12) rfl (v := 0) (by decide) ?_
  refine g_put ok (dk m_Mem_leave 8 rfl) (pc' := 15) rfl f_Mem_33 (Or.inl rfl) hm2.1 (Nat.le_of_ble_eq_true rfl) rfl rfl ?_
  refine g_gen (fun h3 e2 => ?_)
  have hm3 := hm2.intE 4 6 (by decide) e2
  have o3 := q_off.upE (q_off.rf (X := m_P m mb)) (Or.inl rfl) e2
  clear e2
  refine g_aload_n ok (dk m_Mem_leave 9 rfl) (pc' := 16) rfl (i := 0) rfl rfl ?_
  refine g_iconst ok (dk m_Mem_leave 10 rfl) (pc' := 17) rfl (v := 0) (by decide) ?_
  refine g_put ok (dk m_Mem_leave 11 rfl) (pc' := 20) rfl f_Mem_23 (Or.inl rfl) hm3.1 (Nat.le_of_ble_eq_true rfl) rfl rfl ?_
  refine g_gen (fun h4 e2 => ?_)
  have hm4 := hm3.intE 1 3 (by decide) e2
  have o4 := q_off.upE (q_off.rf (X := m_P m mb)) (Or.inl rfl) e2
  clear e2
  refine g_aload_n ok (dk m_Mem_leave 12 rfl) (pc' := 21) rfl (i := 0) rfl rfl ?_
  refine g_get ok (dk m_Mem_leave 13 rfl) (pc' := 24) rfl f_Mem_14 hm4.1 rfl ?_
  refine g_iconst ok (dk m_Mem_leave 14 rfl) (pc' := 25) rfl (v := (-1)) (by decide) ?_
  refine g_callV ok (dk m_Mem_leave 15 rfl) (pc' := 28) rfl c_Mem_53 (c_Row_fill g (-1) 1 (by omega) (hm4.2.1 0 (by decide)).1 (hm4.2.1 0 (by decide)).2 (m_len_lt _)) (hm4.2.1 0 (by decide)).1 rfl rfl (by simp [Value.category]) (by omega) rfl (rc' := 0) (rs' := 0) (by omega) (by omega) (fun rv h' hcc => ?_) (fun i h' hcc => by obtain ⟨e9, -⟩ := hcc; cases e9)
  obtain ⟨e9, e2⟩ := hcc
  cases e9
  have hm5 := hm4.putE 0 (by decide) e2
  have o5 := q_off.upE (q_off.rf (X := m_P m mb)) (Or.inr ⟨0, by decide, rfl⟩) e2
  clear e2
  exact g_vret ok (dk m_Mem_leave 16 rfl) rfl ⟨rfl, hm5, (((o1.tr o2).tr o3).tr o4).tr o5⟩
set_option maxHeartbeats 1000000 in
theorem c_Mem_keepUpdate (g : q_G) {h : q_H} {m : Nat} {ma mb : Nat → Nat} {M : m_T} (x : Int32) (d : Nat) (hd : 1 ≤ d) (hm : q_mem h m ma mb M) : MG g y_Mem_keepUpdate b_Mem_keepUpdate 2 none d 0 0 [.ref m, .int x] h (fun q h' => q = .inl none ∧ q_mem h' m ma mb (M_keep M x) ∧ q_off h h' (m_P m mb)) := by
  refine MG.of (by decide +kernel) (by simp [Value.category]) (Nat.le_of_ble_eq_true rfl) ?_
  intro Z A ok
  refine g_aload_n ok (dk m_Mem_keepUpdate 0 rfl) (pc' := 1) rfl (i := 0) rfl rfl ?_
  refine g_get ok (dk m_Mem_keepUpdate 1 rfl) (pc' := 4) rfl f_Mem_23 hm.1 rfl ?_
  refine g_bipush ok (dk m_Mem_keepUpdate 2 rfl) (pc' := 6) rfl (v := 20) (by decide) ?_
  refine g_icmp_ge ok (dk m_Mem_keepUpdate 3 rfl) (tgt := 31) (by decide) (pc' := 9) rfl (fun c_6 => ?_) (fun c_6 => ?_)
  · exact g_vret ok (dk m_Mem_keepUpdate 16 rfl) rfl ⟨rfl, by rw [M_keep, if_neg (Int32.not_lt.mpr c_6)]; exact hm, q_off.rf⟩
  · refine g_aload_n ok (dk m_Mem_keepUpdate 4 rfl) (pc' := 10) rfl (i := 0) rfl rfl ?_
    refine g_get ok (dk m_Mem_keepUpdate 5 rfl) (pc' := 13) rfl f_Mem_20 hm.1 rfl ?_
    refine g_aload_n ok (dk m_Mem_keepUpdate 6 rfl) (pc' := 14) rfl (i := 0) rfl rfl ?_
    refine g_get ok (dk m_Mem_keepUpdate 7 rfl) (pc' := 17) rfl f_Mem_23 hm.1 rfl ?_
    refine g_iload_n ok (dk m_Mem_keepUpdate 8 rfl) (pc' := 18) rfl (i := 1) rfl rfl ?_
    refine g_callV ok (dk m_Mem_keepUpdate 9 rfl) (pc' := 21) rfl c_Mem_43 (c_Row_put g (M.1 1) x 0 (hm.2.1 1 (by decide)).1 (hm.2.1 1 (by decide)).2 (m_len_lt _)) (hm.2.1 1 (by decide)).1 rfl rfl (by simp [Value.category]) (by omega) rfl (rc' := 0) (rs' := 0) (by omega) (by omega) (fun rv h' hcc => ?_) (fun i h' hcc => by obtain ⟨e9, -⟩ := hcc; cases e9)
    obtain ⟨e9, e2⟩ := hcc
    cases e9
    have hm1 := hm.putE 1 (by decide) e2
    have o1 := q_off.upE (q_off.rf (X := m_P m mb)) (Or.inr ⟨1, by decide, rfl⟩) e2
    clear e2
    refine g_aload_n ok (dk m_Mem_keepUpdate 10 rfl) (pc' := 22) rfl (i := 0) rfl rfl ?_
    refine g_dup ok (dk m_Mem_keepUpdate 11 rfl) (pc' := 23) rfl rfl ?_
    refine g_get ok (dk m_Mem_keepUpdate 12 rfl) (pc' := 26) rfl f_Mem_23 hm1.1 rfl ?_
    refine g_iconst ok (dk m_Mem_keepUpdate 13 rfl) (pc' := 27) rfl (v := 1) (by decide) ?_
    refine g_iadd ok (dk m_Mem_keepUpdate 14 rfl) (pc' := 28) rfl ?_
    refine g_put ok (dk m_Mem_keepUpdate 15 rfl) (pc' := 31) rfl f_Mem_23 (Or.inl rfl) hm1.1 (Nat.le_of_ble_eq_true rfl) rfl rfl ?_
    refine g_gen (fun h2 e2 => ?_)
    have hm2 := hm1.intE 1 3 (by decide) e2
    have o2 := q_off.upE (q_off.rf (X := m_P m mb)) (Or.inl rfl) e2
    clear e2
    exact g_vret ok (dk m_Mem_keepUpdate 16 rfl) rfl ⟨rfl, by rw [M_keep, if_pos (Int32.not_le.mp c_6)]; exact hm2, o1.tr o2⟩
set_option maxHeartbeats 1000000 in
theorem c_Mem_lead (g : q_G) {h : q_H} {m : Nat} {ma mb : Nat → Nat} {M : m_T} (d : Nat) (hd : 3 ≤ d) (hm : q_mem h m ma mb M) {e t pr pb : Nat} {ra rb : Nat → Nat} {E : e_T} (he : q_ep h e t pr pb ra rb E) (hap : ∀ y, ep_A e t pr pb ra rb y → ¬ m_P m mb y) (hT : E.2.1.2 ≤ 4) : MG g y_Mem_lead b_Mem_lead 2 none d 0 0 [.ref m, .ref e] h (fun q h' => q = .inl none ∧ q_mem h' m ma mb (M_lead M E) ∧ q_off h h' (m_P m mb)) := by
  refine MG.of (by decide +kernel) (by simp [Value.category]) (Nat.le_of_ble_eq_true rfl) ?_
  intro Z A ok
  refine g_aload_n ok (dk m_Mem_lead 0 rfl) (pc' := 1) rfl (i := 0) rfl rfl ?_
  refine g_aload_n ok (dk m_Mem_lead 1 rfl) (pc' := 2) rfl (i := 1) rfl rfl ?_
  refine g_getR ok (dk m_Mem_lead 2 rfl) (pc' := 5) rfl f_Mem_61 he.1 rfl ?_
  refine g_put ok (dk m_Mem_lead 3 rfl) (pc' := 8) rfl f_Mem_27 (Or.inl rfl) hm.1 (Nat.le_of_ble_eq_true rfl) rfl rfl ?_
  refine g_gen (fun h1 e2 => ?_)
  have hm1 := hm.intE 2 4 (by decide) e2
  have o1 := q_off.upE (q_off.rf (X := m_P m mb)) (Or.inl rfl) e2
  clear e2
  have he1 := he.off o1 hap
  refine g_aload_n ok (dk m_Mem_lead 4 rfl) (pc' := 9) rfl (i := 0) rfl rfl ?_
  refine g_iconst ok (dk m_Mem_lead 5 rfl) (pc' := 10) rfl (v := 1) (by decide) ?_
  refine g_put ok (dk m_Mem_lead 6 rfl) (pc' := 13) rfl f_Mem_33 (Or.inl rfl) hm1.1 (Nat.le_of_ble_eq_true rfl) rfl rfl ?_
  refine g_gen (fun h2 e2 => ?_)
  have hm2 := hm1.intE 4 6 (by decide) e2
  have o2 := q_off.upE (q_off.rf (X := m_P m mb)) (Or.inl rfl) e2
  clear e2
  have he2 := he1.off o2 hap
  refine g_aload_n ok (dk m_Mem_lead 7 rfl) (pc' := 14) rfl (i := 0) rfl rfl ?_
  refine g_iconst ok (dk m_Mem_lead 8 rfl) (pc' := 15) rfl (v := 0) (by decide) ?_
  refine g_put ok (dk m_Mem_lead 9 rfl) (pc' := 18) rfl f_Mem_23 (Or.inl rfl) hm2.1 (Nat.le_of_ble_eq_true rfl) rfl rfl ?_
  refine g_gen (fun h3 e2 => ?_)
  have hm3 := hm2.intE 1 3 (by decide) e2
  have o3 := q_off.upE (q_off.rf (X := m_P m mb)) (Or.inl rfl) e2
  clear e2
  have he3 := he2.off o3 hap
  refine g_aload_n ok (dk m_Mem_lead 10 rfl) (pc' := 19) rfl (i := 0) rfl rfl ?_
  refine g_aload_n ok (dk m_Mem_lead 11 rfl) (pc' := 20) rfl (i := 1) rfl rfl ?_
  refine g_getR ok (dk m_Mem_lead 12 rfl) (pc' := 23) rfl f_Mem_64 he3.1 rfl ?_
  refine g_callV ok (dk m_Mem_lead 13 rfl) (pc' := 26) rfl c_Mem_68 (c_Mem_dropStaleKeys g 2 (by omega) hm3 he3.2.1 (ep_A.tree hap)) hm3.1 rfl rfl (by simp [Value.category]) (by omega) rfl (rc' := 0) (rs' := 0) (by omega) (by omega) (fun rv h' hcc => ?_) (fun i h' hcc => by obtain ⟨e9, -⟩ := hcc; cases e9)
  obtain ⟨e9, hm4, o4⟩ := hcc
  cases e9
  have he4 := he3.off o4 hap
  refine g_aload_n ok (dk m_Mem_lead 14 rfl) (pc' := 27) rfl (i := 0) rfl rfl ?_
  refine g_aload_n ok (dk m_Mem_lead 15 rfl) (pc' := 28) rfl (i := 1) rfl rfl ?_
  refine g_getR ok (dk m_Mem_lead 16 rfl) (pc' := 31) rfl f_Mem_64 he4.1 rfl ?_
  refine g_aload_n ok (dk m_Mem_lead 17 rfl) (pc' := 32) rfl (i := 0) rfl rfl ?_
  refine g_get ok (dk m_Mem_lead 18 rfl) (pc' := 35) rfl f_Mem_30 hm4.1 rfl ?_
  refine g_iconst ok (dk m_Mem_lead 19 rfl) (pc' := 36) rfl (v := 0) (by decide) ?_
  refine g_callS ok (dk m_Mem_lead 20 rfl) (pc' := 39) rfl c_Mem_72 (c_Tr_nodeOver g ((M_l0 M E).1 3) 0 0) rfl rfl (by simp [Value.category]) (by omega) rfl (rc' := 0) (rs' := 0) (by omega) (by omega) (fun rv h' hcc => ?_) (fun i h' hcc => by obtain ⟨e9, -⟩ := hcc; cases e9)
  obtain ⟨e9, e2⟩ := hcc
  have e3 := e2.symm
  subst e3
  cases e9
  refine g_callV ok (dk m_Mem_lead 21 rfl) (pc' := 42) rfl c_Mem_76 (c_Mem_takeKey g (j_node ((M_l0 M E).1 3) 0) 1 (by omega) hm4 he4.2.1) hm4.1 rfl rfl (by simp [Value.category]) (by omega) rfl (rc' := 0) (rs' := 0) (by omega) (by omega) (fun rv h' hcc => ?_) (fun i h' hcc => by obtain ⟨e9, -⟩ := hcc; cases e9)
  obtain ⟨e9, hm5, o5⟩ := hcc
  cases e9
  have he5 := he4.off o5 hap
  refine g_aload_n ok (dk m_Mem_lead 22 rfl) (pc' := 43) rfl (i := 0) rfl rfl ?_
  refine g_aload_n ok (dk m_Mem_lead 23 rfl) (pc' := 44) rfl (i := 1) rfl rfl ?_
  refine g_callV ok (dk m_Mem_lead 24 rfl) (pc' := 47) rfl c_Mem_80 (c_Mem_takeCountingKeys g 2 (by omega) hm5 he5 hap hT) hm5.1 rfl rfl (by simp [Value.category]) (by omega) rfl (rc' := 0) (rs' := 0) (by omega) (by omega) (fun rv h' hcc => ?_) (fun i h' hcc => by obtain ⟨e9, -⟩ := hcc; cases e9)
  obtain ⟨e9, hm6, o6⟩ := hcc
  cases e9
  exact g_vret ok (dk m_Mem_lead 25 rfl) rfl ⟨rfl, hm6, ((((o1.tr o2).tr o3).tr o4).tr o5).tr o6⟩
set_option maxHeartbeats 1000000 in
theorem c_Mem_enter (g : q_G) {h : q_H} {m : Nat} {ma mb : Nat → Nat} {M : m_T} (l : Int32) (d : Nat) (hd : 4 ≤ d) (hm : q_mem h m ma mb M) {e t pr pb : Nat} {ra rb : Nat → Nat} {E : e_T} (he : q_ep h e t pr pb ra rb E) (hap : ∀ y, ep_A e t pr pb ra rb y → ¬ m_P m mb y) (hT : E.2.1.2 ≤ 4) : MG g y_Mem_enter b_Mem_enter 3 none d 0 0 [.ref m, .ref e, .int l] h (fun q h' => q = .inl none ∧ q_mem h' m ma mb (M_enter M E l) ∧ q_off h h' (m_P m mb)) := by
  refine MG.of (by decide +kernel) (by simp [Value.category]) (Nat.le_of_ble_eq_true rfl) ?_
  intro Z A ok
  refine g_aload_n ok (dk m_Mem_enter 0 rfl) (pc' := 1) rfl (i := 0) rfl rfl ?_
  refine g_iload_n ok (dk m_Mem_enter 1 rfl) (pc' := 2) rfl (i := 2) rfl rfl ?_
  refine g_put ok (dk m_Mem_enter 2 rfl) (pc' := 5) rfl f_Mem_30 (Or.inl rfl) hm.1 (Nat.le_of_ble_eq_true rfl) rfl rfl ?_
  refine g_gen (fun h1 e2 => ?_)
  have hm1 := hm.intE 3 5 (by decide) e2
  have o1 := q_off.upE (q_off.rf (X := m_P m mb)) (Or.inl rfl) e2
  clear e2
  have he1 := he.off o1 hap
  refine g_aload_n ok (dk m_Mem_enter 3 rfl) (pc' := 6) rfl (i := 0) rfl rfl ?_
  refine g_aload_n ok (dk m_Mem_enter 4 rfl) (pc' := 7) rfl (i := 1) rfl rfl ?_
  refine g_callV ok (dk m_Mem_enter 5 rfl) (pc' := 10) rfl c_Mem_57 (c_Mem_lead g 3 (by omega) hm1 he1 hap hT) hm1.1 rfl rfl (by simp [Value.category]) (by omega) rfl (rc' := 0) (rs' := 0) (by omega) (by omega) (fun rv h' hcc => ?_) (fun i h' hcc => by obtain ⟨e9, -⟩ := hcc; cases e9)
  obtain ⟨e9, hm2, o2⟩ := hcc
  cases e9
  exact g_vret ok (dk m_Mem_enter 6 rfl) rfl ⟨rfl, hm2, o1.tr o2⟩
set_option maxHeartbeats 1000000 in
theorem c_Mem_follow (g : q_G) {h : q_H} {m : Nat} {ma mb : Nat → Nat} {M : m_T} (d : Nat) (hd : 8 ≤ d) (hm : q_mem h m ma mb M) {e t pr pb : Nat} {ra rb : Nat → Nat} {E : e_T} (he : q_ep h e t pr pb ra rb E) (hap : ∀ y, ep_A e t pr pb ra rb y → ¬ m_P m mb y) (hT : E.2.1.2 ≤ 4) : MG g y_Mem_follow b_Mem_follow 3 none d 0 0 [.ref m, .ref e] h (fun q h' => q = .inl none ∧ q_mem h' m ma mb (M_fol M E) ∧ q_off h h' (m_P m mb)) := by
  refine MG.of (by decide +kernel) (by simp [Value.category]) (Nat.le_of_ble_eq_true rfl) ?_
  intro Z A ok
  have mid : ∀ h1 : q_H, q_mem h1 m ma mb (M_f2 M E) → q_ep h1 e t pr pb ra rb E → q_off h h1 (m_P m mb) → GW g Z A (fun q h' => q = .inl none ∧ q_mem h' m ma mb (M_fol M E) ∧ q_off h h' (m_P m mb)) 0 0 h1 43 [some (.ref m), some (.ref e), none] [] := by
      intro h3 hm3 he3 o3
      refine g_aload_n ok (dk m_Mem_follow 21 rfl) (pc' := 44) rfl (i := 0) rfl rfl ?_
      refine g_aload_n ok (dk m_Mem_follow 22 rfl) (pc' := 45) rfl (i := 1) rfl rfl ?_
      refine g_getR ok (dk m_Mem_follow 23 rfl) (pc' := 48) rfl f_Mem_64 he3.1 rfl ?_
      refine g_callV ok (dk m_Mem_follow 24 rfl) (pc' := 51) rfl c_Mem_68 (c_Mem_dropStaleKeys g 2 (by omega) hm3 he3.2.1 (ep_A.tree hap)) hm3.1 rfl rfl (by simp [Value.category]) (by omega) rfl (rc' := 0) (rs' := 0) (by omega) (by omega) (fun rv h' hcc => ?_) (fun i h' hcc => by obtain ⟨e9, -⟩ := hcc; cases e9)
      obtain ⟨e9, hm4, o4⟩ := hcc
      cases e9
      have he4 := he3.off o4 hap
      refine g_aload_n ok (dk m_Mem_follow 25 rfl) (pc' := 52) rfl (i := 1) rfl rfl ?_
      refine g_aload_n ok (dk m_Mem_follow 26 rfl) (pc' := 53) rfl (i := 0) rfl rfl ?_
      refine g_get ok (dk m_Mem_follow 27 rfl) (pc' := 56) rfl f_Mem_30 hm4.1 rfl ?_
      refine g_callV ok (dk m_Mem_follow 28 rfl) (pc' := 59) rfl c_Mem_90 (c_Ep_lowestCountingOver g ((M_f3 M E).1 3) 1 (by omega) hT he4) he4.1 rfl rfl (by simp [Value.category]) (by omega) rfl (rc' := 0) (rs' := 0) (by omega) (by omega) (fun rv h' hcc => ?_) (fun i h' hcc => by obtain ⟨e9, -⟩ := hcc; cases e9)
      obtain ⟨e9, e2⟩ := hcc
      have e3 := e2.symm
      subst e3
      cases e9
      refine g_istore_n ok (dk m_Mem_follow 29 rfl) (pc' := 60) rfl (i := 2) rfl (Nat.le_of_ble_eq_true rfl) rfl ?_
      refine g_iload_n ok (dk m_Mem_follow 30 rfl) (pc' := 61) rfl (i := 2) rfl rfl ?_
      refine g_iconst ok (dk m_Mem_follow 31 rfl) (pc' := 62) rfl (v := (-1)) (by decide) ?_
      refine g_icmp_ne ok (dk m_Mem_follow 32 rfl) (tgt := 66) (by decide) (pc' := 65) rfl (fun c_62 => ?_) (fun c_62 => ?_)
      · refine g_aload_n ok (dk m_Mem_follow 34 rfl) (pc' := 67) rfl (i := 0) rfl rfl ?_
        refine g_aload_n ok (dk m_Mem_follow 35 rfl) (pc' := 68) rfl (i := 1) rfl rfl ?_
        refine g_iload_n ok (dk m_Mem_follow 36 rfl) (pc' := 69) rfl (i := 2) rfl rfl ?_
        refine g_callV ok (dk m_Mem_follow 37 rfl) (pc' := 72) rfl c_Mem_93 (c_Ep_readersOf g (M_flc M E) 7 (by omega) he4) he4.1 rfl rfl (by simp [Value.category]) (by omega) rfl (rc' := 0) (rs' := 0) (by omega) (by omega) (fun rv h' hcc => ?_) (fun i h' hcc => by obtain ⟨e9, -⟩ := hcc; cases e9)
        obtain ⟨e9, e2⟩ := hcc
        have e3 := e2.symm
        subst e3
        cases e9
        refine g_aload_n ok (dk m_Mem_follow 38 rfl) (pc' := 73) rfl (i := 1) rfl rfl ?_
        refine g_getR ok (dk m_Mem_follow 39 rfl) (pc' := 76) rfl f_Mem_64 he4.1 rfl ?_
        refine g_callV ok (dk m_Mem_follow 40 rfl) (pc' := 79) rfl c_Mem_96 (c_Mem_holdsOneOf g (E_rdr E (M_flc M E)) 2 (by omega) hm4 he4.2.1) hm4.1 rfl rfl (by simp [Value.category]) (by omega) rfl (rc' := 0) (rs' := 0) (by omega) (by omega) (fun rv h' hcc => ?_) (fun i h' hcc => by obtain ⟨e9, -⟩ := hcc; cases e9)
        obtain ⟨e9, e2⟩ := hcc
        have e3 := e2.symm
        subst e3
        cases e9
        refine g_if_eq ok (dk m_Mem_follow 41 rfl) (tgt := 90) (by decide) (pc' := 82) rfl (fun c_79 => ?_) (fun c_79 => ?_)
        · refine g_aload_n ok (dk m_Mem_follow 46 rfl) (pc' := 91) rfl (i := 0) rfl rfl ?_
          refine g_dup ok (dk m_Mem_follow 47 rfl) (pc' := 92) rfl rfl ?_
          refine g_get ok (dk m_Mem_follow 48 rfl) (pc' := 95) rfl f_Mem_37 hm4.1 rfl ?_
          refine g_iconst ok (dk m_Mem_follow 49 rfl) (pc' := 96) rfl (v := 1) (by decide) ?_
          refine g_iadd ok (dk m_Mem_follow 50 rfl) (pc' := 97) rfl ?_
          refine g_put ok (dk m_Mem_follow 51 rfl) (pc' := 100) rfl f_Mem_37 (Or.inl rfl) hm4.1 (Nat.le_of_ble_eq_true rfl) rfl rfl ?_
          refine g_gen (fun h5 e2 => ?_)
          have hm5 := hm4.intE 5 7 (by decide) e2
          have o5 := q_off.upE (q_off.rf (X := m_P m mb)) (Or.inl rfl) e2
          clear e2
          refine g_aload_n ok (dk m_Mem_follow 52 rfl) (pc' := 101) rfl (i := 0) rfl rfl ?_
          refine g_iconst ok (dk m_Mem_follow 53 rfl) (pc' := 102) rfl (v := 0) (by decide) ?_
          refine g_put ok (dk m_Mem_follow 54 rfl) (pc' := 105) rfl f_Mem_33 (Or.inl rfl) hm5.1 (Nat.le_of_ble_eq_true rfl) rfl rfl ?_
          refine g_gen (fun h6 e2 => ?_)
          have hm6 := hm5.intE 4 6 (by decide) e2
          have o6 := q_off.upE (q_off.rf (X := m_P m mb)) (Or.inl rfl) e2
          clear e2
          exact g_vret ok (dk m_Mem_follow 55 rfl) rfl ⟨rfl, by rw [M_fol, if_neg (show ¬ M_flc M E = -1 from c_62), if_neg (show ¬ M_hof (M_f3 M E) (E_rdr E (M_flc M E)) E.2.1 from b2i_0 c_79)]; exact hm6, ((o3.tr o4).tr o5).tr o6⟩
        · refine g_aload_n ok (dk m_Mem_follow 42 rfl) (pc' := 83) rfl (i := 0) rfl rfl ?_
          refine g_aload_n ok (dk m_Mem_follow 43 rfl) (pc' := 84) rfl (i := 1) rfl rfl ?_
          refine g_callV ok (dk m_Mem_follow 44 rfl) (pc' := 87) rfl c_Mem_80 (c_Mem_takeCountingKeys g 2 (by omega) hm4 he4 hap hT) hm4.1 rfl rfl (by simp [Value.category]) (by omega) rfl (rc' := 0) (rs' := 0) (by omega) (by omega) (fun rv h' hcc => ?_) (fun i h' hcc => by obtain ⟨e9, -⟩ := hcc; cases e9)
          obtain ⟨e9, hm5, o5⟩ := hcc
          cases e9
          refine g_goto ok (dk m_Mem_follow 45 rfl) (pc' := 105) (by decide) ?_
          exact g_vret ok (dk m_Mem_follow 55 rfl) rfl ⟨rfl, by rw [M_fol, if_neg (show ¬ M_flc M E = -1 from c_62), if_pos (show M_hof (M_f3 M E) (E_rdr E (M_flc M E)) E.2.1 from b2i_n c_79)]; exact hm5, (o3.tr o4).tr o5⟩
      · exact g_vret ok (dk m_Mem_follow 33 rfl) rfl ⟨rfl, by rw [M_fol, if_pos (show M_flc M E = -1 from c_62)]; exact hm4, o3.tr o4⟩
  refine g_aload_n ok (dk m_Mem_follow 0 rfl) (pc' := 1) rfl (i := 0) rfl rfl ?_
  refine g_aload_n ok (dk m_Mem_follow 1 rfl) (pc' := 2) rfl (i := 1) rfl rfl ?_
  refine g_getR ok (dk m_Mem_follow 2 rfl) (pc' := 5) rfl f_Mem_61 he.1 rfl ?_
  refine g_put ok (dk m_Mem_follow 3 rfl) (pc' := 8) rfl f_Mem_27 (Or.inl rfl) hm.1 (Nat.le_of_ble_eq_true rfl) rfl rfl ?_
  refine g_gen (fun h1 e2 => ?_)
  have hm1 := hm.intE 2 4 (by decide) e2
  have o1 := q_off.upE (q_off.rf (X := m_P m mb)) (Or.inl rfl) e2
  clear e2
  have he1 := he.off o1 hap
  refine g_aload_n ok (dk m_Mem_follow 4 rfl) (pc' := 9) rfl (i := 0) rfl rfl ?_
  refine g_iconst ok (dk m_Mem_follow 5 rfl) (pc' := 10) rfl (v := 0) (by decide) ?_
  refine g_put ok (dk m_Mem_follow 6 rfl) (pc' := 13) rfl f_Mem_23 (Or.inl rfl) hm1.1 (Nat.le_of_ble_eq_true rfl) rfl rfl ?_
  refine g_gen (fun h2 e2 => ?_)
  have hm2 := hm1.intE 1 3 (by decide) e2
  have o2 := q_off.upE (q_off.rf (X := m_P m mb)) (Or.inl rfl) e2
  clear e2
  have he2 := he1.off o2 hap
  refine g_aload_n ok (dk m_Mem_follow 7 rfl) (pc' := 14) rfl (i := 1) rfl rfl ?_
  refine g_get ok (dk m_Mem_follow 8 rfl) (pc' := 17) rfl f_Mem_83 he2.1 rfl ?_
  refine g_aload_n ok (dk m_Mem_follow 9 rfl) (pc' := 18) rfl (i := 0) rfl rfl ?_
  refine g_get ok (dk m_Mem_follow 10 rfl) (pc' := 21) rfl f_Mem_30 hm2.1 rfl ?_
  refine g_callSN ok (dk m_Mem_follow 11 rfl) (pc' := 24) rfl c_Mem_86 (c_RG_isIn g (E.1 5) ((M_f1 M E).1 3) 0) rfl rfl (by simp [Value.category]) (by omega) rfl (rc' := 0) (rs' := 0) (by omega) (by omega) (fun rv h' hcc => ?_) (fun i h' hcc => by obtain ⟨e9, -⟩ := hcc; cases e9)
  obtain ⟨e9, e2⟩ := hcc
  have e3 := e2.symm
  subst e3
  cases e9
  refine g_if_eq ok (dk m_Mem_follow 12 rfl) (tgt := 43) (by decide) (pc' := 27) rfl (fun c_24 => ?_) (fun c_24 => ?_)
  · exact mid _ (by rw [M_f2, if_neg (b2i_0 c_24)]; exact hm2) he2 (o1.tr o2)
  · refine g_aload_n ok (dk m_Mem_follow 13 rfl) (pc' := 28) rfl (i := 0) rfl rfl ?_
    refine g_aload_n ok (dk m_Mem_follow 14 rfl) (pc' := 29) rfl (i := 1) rfl rfl ?_
    refine g_getR ok (dk m_Mem_follow 15 rfl) (pc' := 32) rfl f_Mem_64 he2.1 rfl ?_
    refine g_aload_n ok (dk m_Mem_follow 16 rfl) (pc' := 33) rfl (i := 0) rfl rfl ?_
    refine g_get ok (dk m_Mem_follow 17 rfl) (pc' := 36) rfl f_Mem_30 hm2.1 rfl ?_
    refine g_iconst ok (dk m_Mem_follow 18 rfl) (pc' := 37) rfl (v := 0) (by decide) ?_
    refine g_callS ok (dk m_Mem_follow 19 rfl) (pc' := 40) rfl c_Mem_72 (c_Tr_nodeOver g ((M_f1 M E).1 3) 0 0) rfl rfl (by simp [Value.category]) (by omega) rfl (rc' := 0) (rs' := 0) (by omega) (by omega) (fun rv h' hcc => ?_) (fun i h' hcc => by obtain ⟨e9, -⟩ := hcc; cases e9)
    obtain ⟨e9, e2⟩ := hcc
    have e3 := e2.symm
    subst e3
    cases e9
    refine g_callV ok (dk m_Mem_follow 20 rfl) (pc' := 43) rfl c_Mem_76 (c_Mem_takeKey g (j_node ((M_f1 M E).1 3) 0) 1 (by omega) hm2 he2.2.1) hm2.1 rfl rfl (by simp [Value.category]) (by omega) rfl (rc' := 0) (rs' := 0) (by omega) (by omega) (fun rv h' hcc => ?_) (fun i h' hcc => by obtain ⟨e9, -⟩ := hcc; cases e9)
    obtain ⟨e9, hm3, o3⟩ := hcc
    cases e9
    have he3 := he2.off o3 hap
    exact mid _ (by rw [M_f2, if_pos (b2i_n c_24)]; exact hm3) he3 ((o1.tr o2).tr o3)
