/-! ===== Epoch: encryptPathSecret, layPath ===== -/
theorem q_ep.treeE {h h' : q_H} {e t pr pb : Nat} {ra rb : Nat → Nat} {E : e_T} {T : tr_T} (he : q_ep h e t pr pb ra rb E) (ht : q_tree h' t ra rb T) (ho : q_off h h' (tr_P t rb)) : q_ep h' e t pr pb ra rb (E.1, T, E.2.2) := by
  obtain ⟨h1, h2, h3, h4, h5⟩ := he
  refine ⟨(ho e ?_).trans h1, ht, (ho pr ?_).trans h3, (ho pb ?_).trans h4, h5⟩
  · rintro (z | ⟨i, hi, z⟩)
    · rw [z, h2.1] at h1
      cases h1
    · exact q_oa h1 (h2.2.1 i hi).2 z
  · rintro (z | ⟨i, hi, z⟩)
    · rw [z, h2.1] at h3
      cases h3
    · exact q_oa h3 (h2.2.1 i hi).2 z
  · rintro (z | ⟨i, hi, z⟩)
    · exact q_oa h2.1 h4 z.symm
    · exact h5 i hi z.symm
theorem q_ep.psE {h h' : q_H} {e t pr pb : Nat} {ra rb : Nat → Nat} {E : e_T} {f : Nat → Int32} (he : q_ep h e t pr pb ra rb E) (e1 : h' = q_up h pb (.inr (0, 5, .inl f))) : q_ep h' e t pr pb ra rb (E.1, E.2.1, f) := by
  obtain ⟨h1, h2, h3, h4, h5⟩ := he
  subst e1
  refine ⟨?_, ⟨?_, h2.2.kept (fun i hi => ⟨?_, ?_⟩)⟩, ?_, q_up_s _ _ _, h5⟩
  · rw [q_up_n (q_oa h1 h4)]; exact h1
  · rw [q_up_n (q_oa h2.1 h4)]; exact h2.1
  · rw [q_up_n (q_oa (h2.2.1 i hi).1 h4)]
  · rw [q_up_n (h5 i hi)]
  · rw [q_up_n (q_oa h3 h4)]; exact h3
noncomputable def ES_1 (rd x : Int32) (k : Nat) (p : e_T × s_T) : e_T × s_T := by
  classical exact if j_in rd (nI k) then (E_enc p.1, S_open p.2 (r_get (tr_len 0) (p.1.2.1.1 0) (nI k)) 0 (r_get 5 p.1.2.2 x)) else p
noncomputable def ES_enc (rd x : Int32) : Nat → Nat → e_T × s_T → e_T × s_T
  | 0, _, p => p
  | m + 1, k, p => ES_enc rd x m (k + 1) (ES_1 rd x k p)
set_option maxHeartbeats 1000000 in
theorem c_Ep_encryptPathSecret (g : q_G) {h : q_H} {e t pr pb : Nat} {ra rb : Nat → Nat} {E : e_T} (x : Int32) (d : Nat) (hd : 8 ≤ d) (he : q_ep h e t pr pb ra rb E) {s : Nat} {sa sb : Nat → Nat} {S : s_T} (hs : q_sec h s sa sb S) (hap : q_es e t pr pb ra rb s sa sb) : MG g y_Ep_encryptPathSecret b_Ep_encryptPathSecret 5 none d 0 0 [.ref e, .ref s, .int x] h (fun q h' => q = .inl none ∧ q_ep h' e t pr pb ra rb ((ES_enc (E_rdr E x) x 31 0 (E, S))).1 ∧ q_sec h' s sa sb ((ES_enc (E_rdr E x) x 31 0 (E, S))).2 ∧ q_off h h' (q_EP e t pb rb s sb)) := by
  refine MG.of (by decide +kernel) (by simp [Value.category]) (Nat.le_of_ble_eq_true rfl) ?_
  intro Z A ok
  have loop : ∀ (m k : Nat), k + m = 31 → ∀ (h1 : q_H) (p : e_T × s_T), q_ep h1 e t pr pb ra rb p.1 → q_sec h1 s sa sb p.2 → q_off h h1 (q_EP e t pb rb s sb) → ES_enc (E_rdr E x) x m k p = (ES_enc (E_rdr E x) x 31 0 (E, S)) → GW g Z A (fun q h' => q = .inl none ∧ q_ep h' e t pr pb ra rb ((ES_enc (E_rdr E x) x 31 0 (E, S))).1 ∧ q_sec h' s sa sb ((ES_enc (E_rdr E x) x 31 0 (E, S))).2 ∧ q_off h h' (q_EP e t pb rb s sb)) 0 0 h1 9 [some (.ref e), some (.ref s), some (.int x), some (.int (E_rdr E x)), some (.int (nI k))] [] := by
    intro m
    induction m with
    | zero =>
      intro k hk h1 p he1 hs1 ho1 hv
      refine g_iload ok (dk m_Ep_encryptPathSecret 6 rfl) (pc' := 11) rfl rfl ?_
      refine g_bipush ok (dk m_Ep_encryptPathSecret 7 rfl) (pc' := 13) rfl (v := 31) (by decide) ?_
      refine g_icmp_ge ok (dk m_Ep_encryptPathSecret 8 rfl) (tgt := 56) (by decide) (pc' := 16) rfl (fun c_13 => ?_) (fun c_13 => absurd (show (31 : Int32) ≤ nI k from by rw [show k = 31 by omega]; decide) c_13)
      exact g_vret ok (dk m_Ep_encryptPathSecret 27 rfl) rfl ⟨rfl, by rw [← hv]; exact he1, by rw [← hv]; exact hs1, ho1⟩
    | succ m ih =>
      intro k hk h1 p he1 hs1 ho1 hv
      refine g_iload ok (dk m_Ep_encryptPathSecret 6 rfl) (pc' := 11) rfl rfl ?_
      refine g_bipush ok (dk m_Ep_encryptPathSecret 7 rfl) (pc' := 13) rfl (v := 31) (by decide) ?_
      refine g_icmp_ge ok (dk m_Ep_encryptPathSecret 8 rfl) (tgt := 56) (by decide) (pc' := 16) rfl (fun c_13 => absurd c_13 (show ¬ nI 31 ≤ nI k from nI_ge (by omega) (by decide))) (fun c_13 => ?_)
      refine g_iload_n ok (dk m_Ep_encryptPathSecret 9 rfl) (pc' := 17) rfl (i := 3) rfl rfl ?_
      refine g_iload ok (dk m_Ep_encryptPathSecret 10 rfl) (pc' := 19) rfl rfl ?_
      refine g_callSN ok (dk m_Ep_encryptPathSecret 11 rfl) (pc' := 22) rfl c_Ep_57 (c_RG_isIn g (E_rdr E x) (nI k) 0) rfl rfl (by simp [Value.category]) (by omega) rfl (rc' := 0) (rs' := 0) (by omega) (by omega) (fun rv h' hcc => ?_) (fun i h' hcc => by obtain ⟨e9, -⟩ := hcc; cases e9)
      obtain ⟨e9, e2⟩ := hcc
      have e3 := e2.symm
      subst e3
      cases e9
      refine g_if_eq ok (dk m_Ep_encryptPathSecret 12 rfl) (tgt := 50) (by decide) (pc' := 25) rfl (fun c_22 => ?_) (fun c_22 => ?_)
      · have hq : ES_1 (E_rdr E x) x k p = p := by rw [ES_1, if_neg (b2i_0 c_22)]
        have he2 : q_ep h1 e t pr pb ra rb (ES_1 (E_rdr E x) x k p).1 := by rw [hq]; exact he1
        have hs2 : q_sec h1 s sa sb (ES_1 (E_rdr E x) x k p).2 := by rw [hq]; exact hs1
        have ho2 := ho1
        refine g_iinc ok (dk m_Ep_encryptPathSecret 25 rfl) (pc' := 53) rfl rfl (nI_1 k) rfl ?_
        refine g_goto ok (dk m_Ep_encryptPathSecret 26 rfl) (pc' := 9) (by decide) ?_
        exact ih (k + 1) (by omega) _ _ he2 hs2 ho2 (by rw [← hv]; rfl)
      · refine g_aload_n ok (dk m_Ep_encryptPathSecret 13 rfl) (pc' := 26) rfl (i := 0) rfl rfl ?_
        refine g_aload_n ok (dk m_Ep_encryptPathSecret 14 rfl) (pc' := 27) rfl (i := 1) rfl rfl ?_
        refine g_aload_n ok (dk m_Ep_encryptPathSecret 15 rfl) (pc' := 28) rfl (i := 0) rfl rfl ?_
        refine g_get ok (dk m_Ep_encryptPathSecret 16 rfl) (pc' := 31) rfl f_Ep_12 he1.1 rfl ?_
        refine g_getR ok (dk m_Ep_encryptPathSecret 17 rfl) (pc' := 34) rfl f_Ep_102 he1.2.1.1 rfl ?_
        refine g_iload ok (dk m_Ep_encryptPathSecret 18 rfl) (pc' := 36) rfl rfl ?_
        refine g_callV ok (dk m_Ep_encryptPathSecret 19 rfl) (pc' := 39) rfl c_Ep_105 (c_Row_get g (nI k) 0 (he1.2.1.2.1 0 (by decide)).1 (he1.2.1.2.1 0 (by decide)).2 (tr_len_lt _)) (he1.2.1.2.1 0 (by decide)).1 rfl rfl (by simp [Value.category]) (by omega) rfl (rc' := 0) (rs' := 0) (by omega) (by omega) (fun rv h' hcc => ?_) (fun i h' hcc => by obtain ⟨e9, -⟩ := hcc; cases e9)
        obtain ⟨e9, e2⟩ := hcc
        have e3 := e2.symm
        subst e3
        cases e9
        refine g_aload_n ok (dk m_Ep_encryptPathSecret 20 rfl) (pc' := 40) rfl (i := 0) rfl rfl ?_
        refine g_get ok (dk m_Ep_encryptPathSecret 21 rfl) (pc' := 43) rfl f_Ep_23 he1.1 rfl ?_
        refine g_iload_n ok (dk m_Ep_encryptPathSecret 22 rfl) (pc' := 44) rfl (i := 2) rfl rfl ?_
        refine g_callV ok (dk m_Ep_encryptPathSecret 23 rfl) (pc' := 47) rfl c_Ep_105 (c_Row_get g x 0 he1.2.2.1 he1.2.2.2.1 (by decide)) he1.2.2.1 rfl rfl (by simp [Value.category]) (by omega) rfl (rc' := 0) (rs' := 0) (by omega) (by omega) (fun rv h' hcc => ?_) (fun i h' hcc => by obtain ⟨e9, -⟩ := hcc; cases e9)
        obtain ⟨e9, e2⟩ := hcc
        have e3 := e2.symm
        subst e3
        cases e9
        refine g_callV ok (dk m_Ep_encryptPathSecret 24 rfl) (pc' := 50) rfl c_Ep_108 (c_Ep_encrypt g _ _ 3 (by omega) he1 hs1 hap) he1.1 rfl rfl (by simp [Value.category]) (by omega) rfl (rc' := 0) (rs' := 0) (by omega) (by omega) (fun rv h' hcc => ?_) (fun i h' hcc => by obtain ⟨e9, -⟩ := hcc; cases e9)
        obtain ⟨e9, he3, hs3, ho3⟩ := hcc
        cases e9
        have hq : ES_1 (E_rdr E x) x k p = (E_enc p.1, S_open p.2 (r_get (tr_len 0) (p.1.2.1.1 0) (nI k)) 0 (r_get 5 p.1.2.2 x)) := by rw [ES_1, if_pos (b2i_n c_22)]
        have he2 : q_ep h' e t pr pb ra rb (ES_1 (E_rdr E x) x k p).1 := by rw [hq]; exact he3
        have hs2 : q_sec h' s sa sb (ES_1 (E_rdr E x) x k p).2 := by rw [hq]; exact hs3
        have ho2 := ho1.tr ho3
        refine g_iinc ok (dk m_Ep_encryptPathSecret 25 rfl) (pc' := 53) rfl rfl (nI_1 k) rfl ?_
        refine g_goto ok (dk m_Ep_encryptPathSecret 26 rfl) (pc' := 9) (by decide) ?_
        exact ih (k + 1) (by omega) _ _ he2 hs2 ho2 (by rw [← hv]; rfl)
  refine g_aload_n ok (dk m_Ep_encryptPathSecret 0 rfl) (pc' := 1) rfl (i := 0) rfl rfl ?_
  refine g_iload_n ok (dk m_Ep_encryptPathSecret 1 rfl) (pc' := 2) rfl (i := 2) rfl rfl ?_
  refine g_callV ok (dk m_Ep_encryptPathSecret 2 rfl) (pc' := 5) rfl c_Ep_99 (c_Ep_readersOf g x 7 (by omega) he) he.1 rfl rfl (by simp [Value.category]) (by omega) rfl (rc' := 0) (rs' := 0) (by omega) (by omega) (fun rv h' hcc => ?_) (fun i h' hcc => by obtain ⟨e9, -⟩ := hcc; cases e9)
  obtain ⟨e9, e2⟩ := hcc
  have e3 := e2.symm
  subst e3
  cases e9
  refine g_istore_n ok (dk m_Ep_encryptPathSecret 3 rfl) (pc' := 6) rfl (i := 3) rfl (Nat.le_of_ble_eq_true rfl) rfl ?_
  refine g_iconst ok (dk m_Ep_encryptPathSecret 4 rfl) (pc' := 7) rfl (v := 0) (by decide) ?_
  refine g_istore ok (dk m_Ep_encryptPathSecret 5 rfl) (pc' := 9) rfl (Nat.le_of_ble_eq_true rfl) rfl ?_
  exact loop 31 0 (by omega) h (E, S) he hs q_off.rf rfl
/-- what comes of a last path secret: FRESH, if there is none, else what is derived of it -/
noncomputable def S_nxt (S : s_T) (last : Int32) : Int32 × s_T := if last = -1 then S_fresh S else S_der S last
noncomputable def ES_lay1 (k : Nat) (q : (e_T × s_T) × Int32) : (e_T × s_T) × Int32 :=
  if T_reso q.1.1.2.1 (E_bes q.1.1 (nI k)) = 0 then (((q.1.1.1, T_blank q.1.1.2.1 (j_node (q.1.1.1 1) (nI k)), q.1.1.2.2), q.1.2), q.2)
  else
    (ES_enc (E_rdr (upd q.1.1.1 3 (q.1.1.1 3 ||| ((1 : Int32) <<< (j_node (q.1.1.1 1) (nI k) &&& 31))), T_give q.1.1.2.1 (j_node (q.1.1.1 1) (nI k)) (S_der (S_nxt q.1.2 q.2).2 (S_nxt q.1.2 q.2).1).1 (q.1.1.1 0), r_put 5 q.1.1.2.2 (nI k) (S_nxt q.1.2 q.2).1) (nI k)) (nI k) 31 0
      ((upd q.1.1.1 3 (q.1.1.1 3 ||| ((1 : Int32) <<< (j_node (q.1.1.1 1) (nI k) &&& 31))), T_give q.1.1.2.1 (j_node (q.1.1.1 1) (nI k)) (S_der (S_nxt q.1.2 q.2).2 (S_nxt q.1.2 q.2).1).1 (q.1.1.1 0), r_put 5 q.1.1.2.2 (nI k) (S_nxt q.1.2 q.2).1), (S_der (S_nxt q.1.2 q.2).2 (S_nxt q.1.2 q.2).1).2), (S_nxt q.1.2 q.2).1)
noncomputable def ES_lay : Nat → Nat → (e_T × s_T) × Int32 → (e_T × s_T) × Int32
  | 0, _, q => q
  | m + 1, k, q => ES_lay m (k + 1) (ES_lay1 k q)
theorem ES_1_k (rd x : Int32) (k : Nat) (p : e_T × s_T) : (ES_1 rd x k p).1.2 = p.1.2 ∧ (ES_1 rd x k p).1.1 0 = p.1.1 0 ∧ (ES_1 rd x k p).1.1 1 = p.1.1 1 := by
  unfold ES_1
  split <;> exact ⟨rfl, rfl, rfl⟩
theorem ES_enc_k (rd x : Int32) : ∀ (m k : Nat) (p : e_T × s_T), (ES_enc rd x m k p).1.2 = p.1.2 ∧ (ES_enc rd x m k p).1.1 0 = p.1.1 0 ∧ (ES_enc rd x m k p).1.1 1 = p.1.1 1 := by
  intro m
  induction m with
  | zero => intro k p; exact ⟨rfl, rfl, rfl⟩
  | succ m ih =>
    intro k p
    obtain ⟨a1, a2, a3⟩ := ih (k + 1) (ES_1 rd x k p)
    obtain ⟨b1, b2, b3⟩ := ES_1_k rd x k p
    exact ⟨a1.trans b1, a2.trans b2, a3.trans b3⟩
theorem ES_lay1_k (k : Nat) (q : (e_T × s_T) × Int32) : (ES_lay1 k q).1.1.2.1.2 = q.1.1.2.1.2 ∧ (ES_lay1 k q).1.1.1 0 = q.1.1.1 0 ∧ (ES_lay1 k q).1.1.1 1 = q.1.1.1 1 := by
  unfold ES_lay1
  split
  · exact ⟨rfl, rfl, rfl⟩
  · obtain ⟨a1, a2, a3⟩ := ES_enc_k (E_rdr (upd q.1.1.1 3 (q.1.1.1 3 ||| ((1 : Int32) <<< (j_node (q.1.1.1 1) (nI k) &&& 31))), T_give q.1.1.2.1 (j_node (q.1.1.1 1) (nI k)) (S_der (S_nxt q.1.2 q.2).2 (S_nxt q.1.2 q.2).1).1 (q.1.1.1 0), r_put 5 q.1.1.2.2 (nI k) (S_nxt q.1.2 q.2).1) (nI k)) (nI k) 31 0 ((upd q.1.1.1 3 (q.1.1.1 3 ||| ((1 : Int32) <<< (j_node (q.1.1.1 1) (nI k) &&& 31))), T_give q.1.1.2.1 (j_node (q.1.1.1 1) (nI k)) (S_der (S_nxt q.1.2 q.2).2 (S_nxt q.1.2 q.2).1).1 (q.1.1.1 0), r_put 5 q.1.1.2.2 (nI k) (S_nxt q.1.2 q.2).1), (S_der (S_nxt q.1.2 q.2).2 (S_nxt q.1.2 q.2).1).2)
    exact ⟨by rw [a1]; rfl, a2, a3⟩
