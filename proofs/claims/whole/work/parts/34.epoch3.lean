/-! ===== Epoch: layPath, the constructor ===== -/
theorem q_es.sP {e t pr pb : Nat} {ra rb : Nat → Nat} {s : Nat} {sa sb : Nat → Nat} (hap : q_es e t pr pb ra rb s sa sb) {h h' : q_H} {S : s_T} (ho : q_off h h' (tr_P t rb)) (hs : q_sec h s sa sb S) : q_sec h' s sa sb S := hs.off ho (fun y hy z => hap.2 y hy (Or.inr (Or.inr z)))
theorem ep_P.tr {e t pb : Nat} {rb : Nat → Nat} {s : Nat} {sb : Nat → Nat} {h h1 h2 : q_H} (ho : q_off h h1 (q_EP e t pb rb s sb)) (o2 : q_off h1 h2 (tr_P t rb)) : q_off h h2 (q_EP e t pb rb s sb) := ho.tr (o2.wk (fun y z => Or.inl (Or.inr (Or.inr z))))
theorem ep_P.sr {e t pb : Nat} {rb : Nat → Nat} {s : Nat} {sb : Nat → Nat} {h h1 h2 : q_H} (ho : q_off h h1 (q_EP e t pb rb s sb)) (o2 : q_off h1 h2 (s_P s sb)) : q_off h h2 (q_EP e t pb rb s sb) := ho.tr (o2.wk (fun y z => Or.inr z))
theorem ES_lay_k : ∀ (m k : Nat) (q : (e_T × s_T) × Int32), (ES_lay m k q).1.1.2.1.2 = q.1.1.2.1.2 ∧ (ES_lay m k q).1.1.1 0 = q.1.1.1 0 ∧ (ES_lay m k q).1.1.1 1 = q.1.1.1 1 := by
  intro m
  induction m with
  | zero => intro k q; exact ⟨rfl, rfl, rfl⟩
  | succ m ih =>
    intro k q
    obtain ⟨a1, a2, a3⟩ := ih (k + 1) (ES_lay1 k q)
    obtain ⟨b1, b2, b3⟩ := ES_lay1_k k q
    exact ⟨a1.trans b1, a2.trans b2, a3.trans b3⟩
noncomputable def ES_q0 (E : e_T) (S : s_T) : (e_T × s_T) × Int32 := (((E.1, T_give E.2.1 (j_node (E.1 1) 0) (S_fresh S).1 (E.1 0), E.2.2), (S_fresh S).2), -1)
noncomputable def ES_path (E : e_T) (S : s_T) : (e_T × s_T) × Int32 := ES_lay E.2.1.2 1 (ES_q0 E S)
set_option maxHeartbeats 1000000 in
theorem c_Ep_layPath (g : q_G) {h : q_H} {e t pr pb : Nat} {ra rb : Nat → Nat} {E : e_T} (d : Nat) (hd : 9 ≤ d) (hT : E.2.1.2 ≤ 4) (he : q_ep h e t pr pb ra rb E) {s : Nat} {sa sb : Nat → Nat} {S : s_T} (hs : q_sec h s sa sb S) (hap : q_es e t pr pb ra rb s sa sb) : MG g y_Ep_layPath b_Ep_layPath 5 (some .int) d 0 0 [.ref e, .ref s] h (fun q h' => q = .inl (some (.int (S_nxt (ES_path E S).1.2 (ES_path E S).2).1)) ∧ q_ep h' e t pr pb ra rb (ES_path E S).1.1 ∧ q_sec h' s sa sb (S_nxt (ES_path E S).1.2 (ES_path E S).2).2 ∧ q_off h h' (q_EP e t pb rb s sb)) := by
  refine MG.of (by decide +kernel) (by simp [Value.category]) (Nat.le_of_ble_eq_true rfl) ?_
  intro Z A ok
  have loop : ∀ (m k : Nat), k + m = E.2.1.2 + 1 → ∀ (h1 : q_H) (q : (e_T × s_T) × Int32) (x4 : Option Value), q_ep h1 e t pr pb ra rb q.1.1 → q_sec h1 s sa sb q.1.2 → q_off h h1 (q_EP e t pb rb s sb) → ES_lay m k q = ES_path E S → q.1.1.2.1.2 = E.2.1.2 → q.1.1.1 1 = E.1 1 → GW g Z A (fun q h' => q = .inl (some (.int (S_nxt (ES_path E S).1.2 (ES_path E S).2).1)) ∧ q_ep h' e t pr pb ra rb (ES_path E S).1.1 ∧ q_sec h' s sa sb (S_nxt (ES_path E S).1.2 (ES_path E S).2).2 ∧ q_off h h' (q_EP e t pb rb s sb)) 0 0 h1 27 [some (.ref e), some (.ref s), some (.int q.2), some (.int (nI k)), x4] [] := by
    intro m
    induction m with
    | zero =>
      intro k hk h1 q x4 he1 hs1 ho1 hv hD hc
      refine g_iload_n ok (dk m_Ep_layPath 15 rfl) (pc' := 28) rfl (i := 3) rfl rfl ?_
      refine g_aload_n ok (dk m_Ep_layPath 16 rfl) (pc' := 29) rfl (i := 0) rfl rfl ?_
      refine g_get ok (dk m_Ep_layPath 17 rfl) (pc' := 32) rfl f_Ep_12 he1.1 rfl ?_
      refine g_get ok (dk m_Ep_layPath 18 rfl) (pc' := 35) rfl f_Ep_75 he1.2.1.1 rfl ?_
      refine g_icmp_gt ok (dk m_Ep_layPath 19 rfl) (tgt := 145) (by decide) (pc' := 38) rfl (fun c_35 => ?_) (fun c_35 => absurd (nI_lt (a := q.1.1.2.1.2) (b := k) (by omega) (by omega)) c_35)
      refine g_iload_n ok (dk m_Ep_layPath 75 rfl) (pc' := 146) rfl (i := 2) rfl rfl ?_
      refine g_iconst ok (dk m_Ep_layPath 76 rfl) (pc' := 147) rfl (v := (-1)) (by decide) ?_
      refine g_icmp_ne ok (dk m_Ep_layPath 77 rfl) (tgt := 157) (by decide) (pc' := 150) rfl (fun c_147 => ?_) (fun c_147 => ?_)
      · refine g_aload_n ok (dk m_Ep_layPath 81 rfl) (pc' := 158) rfl (i := 1) rfl rfl ?_
        refine g_iload_n ok (dk m_Ep_layPath 82 rfl) (pc' := 159) rfl (i := 2) rfl rfl ?_
        refine g_callV ok (dk m_Ep_layPath 83 rfl) (pc' := 162) rfl c_Ep_89 (c_Sec_derivedFrom g q.2 3 (by omega) hs1) hs1.1 rfl rfl (by simp [Value.category]) (by omega) rfl (rc' := 0) (rs' := 0) (by omega) (by omega) (fun rv h' hcc => ?_) (fun i h' hcc => by obtain ⟨e9, -⟩ := hcc; cases e9)
        obtain ⟨e9, hs2, ho2⟩ := hcc
        cases e9
        exact g_iret ok (dk m_Ep_layPath 84 rfl) rfl rfl ⟨by rw [← hv, ES_lay, S_nxt, if_neg c_147], by rw [← hv]; exact he1.off ho2 hap.1, by rw [← hv, ES_lay, S_nxt, if_neg c_147]; exact hs2, ep_P.sr ho1 ho2⟩
      · refine g_aload_n ok (dk m_Ep_layPath 78 rfl) (pc' := 151) rfl (i := 1) rfl rfl ?_
        refine g_callV ok (dk m_Ep_layPath 79 rfl) (pc' := 154) rfl c_Ep_65 (c_Sec_fresh g 0 hs1) hs1.1 rfl rfl (by simp [Value.category]) (by omega) rfl (rc' := 0) (rs' := 0) (by omega) (by omega) (fun rv h' hcc => ?_) (fun i h' hcc => by obtain ⟨e9, -⟩ := hcc; cases e9)
        obtain ⟨e9, hs2, ho2⟩ := hcc
        cases e9
        refine g_goto ok (dk m_Ep_layPath 80 rfl) (pc' := 162) (by decide) ?_
        exact g_iret ok (dk m_Ep_layPath 84 rfl) rfl rfl ⟨by rw [← hv, ES_lay, S_nxt, if_pos c_147], by rw [← hv]; exact he1.off ho2 hap.1, by rw [← hv, ES_lay, S_nxt, if_pos c_147]; exact hs2, ep_P.sr ho1 ho2⟩
    | succ m ih =>
      intro k hk h1 q x4 he1 hs1 ho1 hv hD hc
      have mid : ¬ T_reso q.1.1.2.1 (E_bes q.1.1 (nI k)) = 0 → ∀ h2 : q_H, q_ep h2 e t pr pb ra rb q.1.1 → q_sec h2 s sa sb (S_nxt q.1.2 q.2).2 → q_off h h2 (q_EP e t pb rb s sb) → GW g Z A (fun q h' => q = .inl (some (.int (S_nxt (ES_path E S).1.2 (ES_path E S).2).1)) ∧ q_ep h' e t pr pb ra rb (ES_path E S).1.1 ∧ q_sec h' s sa sb (S_nxt (ES_path E S).1.2 (ES_path E S).2).2 ∧ q_off h h' (q_EP e t pb rb s sb)) 0 0 h2 92 [some (.ref e), some (.ref s), some (.int q.2), some (.int (nI k)), some (.int (j_node (q.1.1.1 1) (nI k)))] [.int (S_nxt q.1.2 q.2).1] := by
          intro c0 h2 he2 hs2 ho2
          refine g_istore_n ok (dk m_Ep_layPath 46 rfl) (pc' := 93) rfl (i := 2) rfl (Nat.le_of_ble_eq_true rfl) rfl ?_
          refine g_aload_n ok (dk m_Ep_layPath 47 rfl) (pc' := 94) rfl (i := 0) rfl rfl ?_
          refine g_dup ok (dk m_Ep_layPath 48 rfl) (pc' := 95) rfl rfl ?_
          refine g_get ok (dk m_Ep_layPath 49 rfl) (pc' := 98) rfl f_Ep_31 he2.1 rfl ?_
          refine g_iconst ok (dk m_Ep_layPath 50 rfl) (pc' := 99) rfl (v := 1) (by decide) ?_
          refine g_iload ok (dk m_Ep_layPath 51 rfl) (pc' := 101) rfl rfl ?_
          refine g_ishl ok (dk m_Ep_layPath 52 rfl) (pc' := 102) rfl ?_
          refine g_ior ok (dk m_Ep_layPath 53 rfl) (pc' := 103) rfl ?_
          refine g_put ok (dk m_Ep_layPath 54 rfl) (pc' := 106) rfl f_Ep_31 (Or.inl rfl) he2.1 (Nat.le_of_ble_eq_true rfl) rfl rfl ?_
          refine g_gen (fun h3 e3 => ?_)
          have he3 := he2.intE 3 5 (by decide) e3
          have hq3 := q_off.upE (q_off.rf (X := ep_P e t pb rb)) (Or.inl rfl) e3
          have hs3 := hs2.off hq3 hap.2
          have ho3 := ho2.tr (hq3.wk (fun y z => Or.inl z))
          clear e3
          refine g_aload_n ok (dk m_Ep_layPath 55 rfl) (pc' := 107) rfl (i := 0) rfl rfl ?_
          refine g_get ok (dk m_Ep_layPath 56 rfl) (pc' := 110) rfl f_Ep_23 he3.1 rfl ?_
          refine g_iload_n ok (dk m_Ep_layPath 57 rfl) (pc' := 111) rfl (i := 3) rfl rfl ?_
          refine g_iload_n ok (dk m_Ep_layPath 58 rfl) (pc' := 112) rfl (i := 2) rfl rfl ?_
          refine g_callV ok (dk m_Ep_layPath 59 rfl) (pc' := 115) rfl c_Ep_92 (c_Row_put g (nI k) (S_nxt q.1.2 q.2).1 0 he3.2.2.1 he3.2.2.2.1 (by decide)) he3.2.2.1 rfl rfl (by simp [Value.category]) (by omega) rfl (rc' := 0) (rs' := 0) (by omega) (by omega) (fun rv h' hcc => ?_) (fun i h' hcc => by obtain ⟨e9, -⟩ := hcc; cases e9)
          obtain ⟨e9, e4⟩ := hcc
          cases e9
          have he4 := he3.psE e4
          have hq4 := q_off.upE (q_off.rf (X := ep_P e t pb rb)) (Or.inr (Or.inl rfl)) e4
          have hs4 := hs3.off hq4 hap.2
          have ho4 := ho3.tr (hq4.wk (fun y z => Or.inl z))
          clear e4
          refine g_aload_n ok (dk m_Ep_layPath 60 rfl) (pc' := 116) rfl (i := 0) rfl rfl ?_
          refine g_get ok (dk m_Ep_layPath 61 rfl) (pc' := 119) rfl f_Ep_12 he4.1 rfl ?_
          refine g_iload ok (dk m_Ep_layPath 62 rfl) (pc' := 121) rfl rfl ?_
          refine g_aload_n ok (dk m_Ep_layPath 63 rfl) (pc' := 122) rfl (i := 1) rfl rfl ?_
          refine g_iload_n ok (dk m_Ep_layPath 64 rfl) (pc' := 123) rfl (i := 2) rfl rfl ?_
          refine g_callV ok (dk m_Ep_layPath 65 rfl) (pc' := 126) rfl c_Ep_89 (c_Sec_derivedFrom g (S_nxt q.1.2 q.2).1 3 (by omega) hs4) hs4.1 rfl rfl (by simp [Value.category]) (by omega) rfl (rc' := 0) (rs' := 0) (by omega) (by omega) (fun rv h' hcc => ?_) (fun i h' hcc => by obtain ⟨e9, -⟩ := hcc; cases e9)
          obtain ⟨e9, hs5, hq5⟩ := hcc
          cases e9
          have he5 := he4.off hq5 hap.1
          have ho5 := ep_P.sr ho4 hq5
          refine g_aload_n ok (dk m_Ep_layPath 66 rfl) (pc' := 127) rfl (i := 0) rfl rfl ?_
          refine g_get ok (dk m_Ep_layPath 67 rfl) (pc' := 130) rfl f_Ep_46 he5.1 rfl ?_
          refine g_callV ok (dk m_Ep_layPath 68 rfl) (pc' := 133) rfl c_Ep_71 (c_Tr_give g (j_node (q.1.1.1 1) (nI k)) _ (q.1.1.1 0) 1 (by omega) he5.2.1) he5.2.1.1 rfl rfl (by simp [Value.category]) (by omega) rfl (rc' := 0) (rs' := 0) (by omega) (by omega) (fun rv h' hcc => ?_) (fun i h' hcc => by obtain ⟨e9, -⟩ := hcc; cases e9)
          obtain ⟨e9, ht6, hq6⟩ := hcc
          cases e9
          have he6 := he5.treeE ht6 hq6
          have hs6 := hap.sP hq6 hs5
          have ho6 := ep_P.tr ho5 hq6
          refine g_aload_n ok (dk m_Ep_layPath 69 rfl) (pc' := 134) rfl (i := 0) rfl rfl ?_
          refine g_aload_n ok (dk m_Ep_layPath 70 rfl) (pc' := 135) rfl (i := 1) rfl rfl ?_
          refine g_iload_n ok (dk m_Ep_layPath 71 rfl) (pc' := 136) rfl (i := 3) rfl rfl ?_
          refine g_callV ok (dk m_Ep_layPath 72 rfl) (pc' := 139) rfl c_Ep_95 (c_Ep_encryptPathSecret g (nI k) 8 (by omega) he6 hs6 hap) he6.1 rfl rfl (by simp [Value.category]) (by omega) rfl (rc' := 0) (rs' := 0) (by omega) (by omega) (fun rv h' hcc => ?_) (fun i h' hcc => by obtain ⟨e9, -⟩ := hcc; cases e9)
          obtain ⟨e9, he7, hs7, hq7⟩ := hcc
          cases e9
          have ho7 := ho6.tr hq7
          refine g_iinc ok (dk m_Ep_layPath 73 rfl) (pc' := 142) rfl rfl (nI_1 k) rfl ?_
          refine g_goto ok (dk m_Ep_layPath 74 rfl) (pc' := 27) (by decide) ?_
          have hq : ES_lay1 k q = (ES_enc (E_rdr (upd q.1.1.1 3 (q.1.1.1 3 ||| ((1 : Int32) <<< (j_node (q.1.1.1 1) (nI k) &&& 31))), T_give q.1.1.2.1 (j_node (q.1.1.1 1) (nI k)) (S_der (S_nxt q.1.2 q.2).2 (S_nxt q.1.2 q.2).1).1 (q.1.1.1 0), r_put 5 q.1.1.2.2 (nI k) (S_nxt q.1.2 q.2).1) (nI k)) (nI k) 31 0 ((upd q.1.1.1 3 (q.1.1.1 3 ||| ((1 : Int32) <<< (j_node (q.1.1.1 1) (nI k) &&& 31))), T_give q.1.1.2.1 (j_node (q.1.1.1 1) (nI k)) (S_der (S_nxt q.1.2 q.2).2 (S_nxt q.1.2 q.2).1).1 (q.1.1.1 0), r_put 5 q.1.1.2.2 (nI k) (S_nxt q.1.2 q.2).1), (S_der (S_nxt q.1.2 q.2).2 (S_nxt q.1.2 q.2).1).2), (S_nxt q.1.2 q.2).1) := by rw [ES_lay1, if_neg c0]
          rw [show (S_nxt q.1.2 q.2).1 = (ES_lay1 k q).2 from by rw [hq]]
          refine ih (k + 1) (by omega) _ (ES_lay1 k q) _ ?_ ?_ ho7 (by rw [← hv]; rfl) (by rw [(ES_lay1_k k q).1]; exact hD) (by rw [(ES_lay1_k k q).2.2]; exact hc)
          · rw [hq]; exact he7
          · rw [hq]; exact hs7
      refine g_iload_n ok (dk m_Ep_layPath 15 rfl) (pc' := 28) rfl (i := 3) rfl rfl ?_
      refine g_aload_n ok (dk m_Ep_layPath 16 rfl) (pc' := 29) rfl (i := 0) rfl rfl ?_
      refine g_get ok (dk m_Ep_layPath 17 rfl) (pc' := 32) rfl f_Ep_12 he1.1 rfl ?_
      refine g_get ok (dk m_Ep_layPath 18 rfl) (pc' := 35) rfl f_Ep_75 he1.2.1.1 rfl ?_
      refine g_icmp_gt ok (dk m_Ep_layPath 19 rfl) (tgt := 145) (by decide) (pc' := 38) rfl (fun c_35 => absurd c_35 (nI_nlt (a := q.1.1.2.1.2) (b := k) (by omega) (by omega))) (fun c_35 => ?_)
      refine g_aload_n ok (dk m_Ep_layPath 20 rfl) (pc' := 39) rfl (i := 0) rfl rfl ?_
      refine g_get ok (dk m_Ep_layPath 21 rfl) (pc' := 42) rfl f_Ep_49 he1.1 rfl ?_
      refine g_iload_n ok (dk m_Ep_layPath 22 rfl) (pc' := 43) rfl (i := 3) rfl rfl ?_
      refine g_callS ok (dk m_Ep_layPath 23 rfl) (pc' := 46) rfl c_Ep_61 (c_Tr_nodeOver g (q.1.1.1 1) (nI k) 0) rfl rfl (by simp [Value.category]) (by omega) rfl (rc' := 0) (rs' := 0) (by omega) (by omega) (fun rv h' hcc => ?_) (fun i h' hcc => by obtain ⟨e9, -⟩ := hcc; cases e9)
      obtain ⟨e9, e2⟩ := hcc
      have e3 := e2.symm
      subst e3
      cases e9
      refine g_istore ok (dk m_Ep_layPath 24 rfl) (pc' := 48) rfl (Nat.le_of_ble_eq_true rfl) rfl ?_
      refine g_aload_n ok (dk m_Ep_layPath 25 rfl) (pc' := 49) rfl (i := 0) rfl rfl ?_
      refine g_get ok (dk m_Ep_layPath 26 rfl) (pc' := 52) rfl f_Ep_12 he1.1 rfl ?_
      refine g_aload_n ok (dk m_Ep_layPath 27 rfl) (pc' := 53) rfl (i := 0) rfl rfl ?_
      refine g_iload_n ok (dk m_Ep_layPath 28 rfl) (pc' := 54) rfl (i := 3) rfl rfl ?_
      refine g_callV ok (dk m_Ep_layPath 29 rfl) (pc' := 57) rfl c_Ep_78 (c_Ep_nodeBesidePath g (nI k) 1 (by omega) he1) he1.1 rfl rfl (by simp [Value.category]) (by omega) rfl (rc' := 0) (rs' := 0) (by omega) (by omega) (fun rv h' hcc => ?_) (fun i h' hcc => by obtain ⟨e9, -⟩ := hcc; cases e9)
      obtain ⟨e9, e2⟩ := hcc
      have e3 := e2.symm
      subst e3
      cases e9
      refine g_callV ok (dk m_Ep_layPath 30 rfl) (pc' := 60) rfl c_Ep_82 (c_Tr_resolution g (E_bes q.1.1 (nI k)) 6 (by omega) he1.2.1) he1.2.1.1 rfl rfl (by simp [Value.category]) (by omega) rfl (rc' := 0) (rs' := 0) (by omega) (by omega) (fun rv h' hcc => ?_) (fun i h' hcc => by obtain ⟨e9, -⟩ := hcc; cases e9)
      obtain ⟨e9, e2⟩ := hcc
      have e3 := e2.symm
      subst e3
      cases e9
      refine g_if_ne ok (dk m_Ep_layPath 31 rfl) (tgt := 75) (by decide) (pc' := 63) rfl (fun c_60 => ?_) (fun c_60 => ?_)
      · refine g_iload_n ok (dk m_Ep_layPath 37 rfl) (pc' := 76) rfl (i := 2) rfl rfl ?_
        refine g_iconst ok (dk m_Ep_layPath 38 rfl) (pc' := 77) rfl (v := (-1)) (by decide) ?_
        refine g_icmp_ne ok (dk m_Ep_layPath 39 rfl) (tgt := 87) (by decide) (pc' := 80) rfl (fun c_77 => ?_) (fun c_77 => ?_)
        · refine g_aload_n ok (dk m_Ep_layPath 43 rfl) (pc' := 88) rfl (i := 1) rfl rfl ?_
          refine g_iload_n ok (dk m_Ep_layPath 44 rfl) (pc' := 89) rfl (i := 2) rfl rfl ?_
          refine g_callV ok (dk m_Ep_layPath 45 rfl) (pc' := 92) rfl c_Ep_89 (c_Sec_derivedFrom g q.2 3 (by omega) hs1) hs1.1 rfl rfl (by simp [Value.category]) (by omega) rfl (rc' := 0) (rs' := 0) (by omega) (by omega) (fun rv h' hcc => ?_) (fun i h' hcc => by obtain ⟨e9, -⟩ := hcc; cases e9)
          obtain ⟨e9, hs2, hq2⟩ := hcc
          cases e9
          have hq : S_nxt q.1.2 q.2 = S_der q.1.2 q.2 := by rw [S_nxt, if_neg c_77]
          rw [show (S_der q.1.2 q.2).1 = (S_nxt q.1.2 q.2).1 from by rw [hq]]
          exact mid c_60 _ (he1.off hq2 hap.1) (by rw [hq]; exact hs2) (ep_P.sr ho1 hq2)
        · refine g_aload_n ok (dk m_Ep_layPath 40 rfl) (pc' := 81) rfl (i := 1) rfl rfl ?_
          refine g_callV ok (dk m_Ep_layPath 41 rfl) (pc' := 84) rfl c_Ep_65 (c_Sec_fresh g 0 hs1) hs1.1 rfl rfl (by simp [Value.category]) (by omega) rfl (rc' := 0) (rs' := 0) (by omega) (by omega) (fun rv h' hcc => ?_) (fun i h' hcc => by obtain ⟨e9, -⟩ := hcc; cases e9)
          obtain ⟨e9, hs2, hq2⟩ := hcc
          cases e9
          refine g_goto ok (dk m_Ep_layPath 42 rfl) (pc' := 92) (by decide) ?_
          have hq : S_nxt q.1.2 q.2 = S_fresh q.1.2 := by rw [S_nxt, if_pos c_77]
          rw [show (S_fresh q.1.2).1 = (S_nxt q.1.2 q.2).1 from by rw [hq]]
          exact mid c_60 _ (he1.off hq2 hap.1) (by rw [hq]; exact hs2) (ep_P.sr ho1 hq2)
      · refine g_aload_n ok (dk m_Ep_layPath 32 rfl) (pc' := 64) rfl (i := 0) rfl rfl ?_
        refine g_get ok (dk m_Ep_layPath 33 rfl) (pc' := 67) rfl f_Ep_12 he1.1 rfl ?_
        refine g_iload ok (dk m_Ep_layPath 34 rfl) (pc' := 69) rfl rfl ?_
        refine g_callV ok (dk m_Ep_layPath 35 rfl) (pc' := 72) rfl c_Ep_85 (c_Tr_blank g (j_node (q.1.1.1 1) (nI k)) 2 (by omega) he1.2.1) he1.2.1.1 rfl rfl (by simp [Value.category]) (by omega) rfl (rc' := 0) (rs' := 0) (by omega) (by omega) (fun rv h' hcc => ?_) (fun i h' hcc => by obtain ⟨e9, -⟩ := hcc; cases e9)
        obtain ⟨e9, ht2, hq2⟩ := hcc
        cases e9
        have he2 := he1.treeE ht2 hq2
        have hs2 := hap.sP hq2 hs1
        have ho2 := ep_P.tr ho1 hq2
        clear mid
        refine g_goto ok (dk m_Ep_layPath 36 rfl) (pc' := 139) (by decide) ?_
        refine g_iinc ok (dk m_Ep_layPath 73 rfl) (pc' := 142) rfl rfl (nI_1 k) rfl ?_
        refine g_goto ok (dk m_Ep_layPath 74 rfl) (pc' := 27) (by decide) ?_
        have hq : ES_lay1 k q = (((q.1.1.1, T_blank q.1.1.2.1 (j_node (q.1.1.1 1) (nI k)), q.1.1.2.2), q.1.2), q.2) := by rw [ES_lay1, if_pos c_60]
        rw [show q.2 = (ES_lay1 k q).2 from by rw [hq]]
        refine ih (k + 1) (by omega) _ (ES_lay1 k q) _ ?_ ?_ ho2 (by rw [← hv]; rfl) (by rw [(ES_lay1_k k q).1]; exact hD) (by rw [(ES_lay1_k k q).2.2]; exact hc)
        · rw [hq]; exact he2
        · rw [hq]; exact hs2
  refine g_aload_n ok (dk m_Ep_layPath 0 rfl) (pc' := 1) rfl (i := 0) rfl rfl ?_
  refine g_get ok (dk m_Ep_layPath 1 rfl) (pc' := 4) rfl f_Ep_12 he.1 rfl ?_
  refine g_aload_n ok (dk m_Ep_layPath 2 rfl) (pc' := 5) rfl (i := 0) rfl rfl ?_
  refine g_get ok (dk m_Ep_layPath 3 rfl) (pc' := 8) rfl f_Ep_49 he.1 rfl ?_
  refine g_iconst ok (dk m_Ep_layPath 4 rfl) (pc' := 9) rfl (v := 0) (by decide) ?_
  refine g_callS ok (dk m_Ep_layPath 5 rfl) (pc' := 12) rfl c_Ep_61 (c_Tr_nodeOver g (E.1 1) 0 0) rfl rfl (by simp [Value.category]) (by omega) rfl (rc' := 0) (rs' := 0) (by omega) (by omega) (fun rv h' hcc => ?_) (fun i h' hcc => by obtain ⟨e9, -⟩ := hcc; cases e9)
  obtain ⟨e9, e2⟩ := hcc
  have e3 := e2.symm
  subst e3
  cases e9
  refine g_aload_n ok (dk m_Ep_layPath 6 rfl) (pc' := 13) rfl (i := 1) rfl rfl ?_
  refine g_callV ok (dk m_Ep_layPath 7 rfl) (pc' := 16) rfl c_Ep_65 (c_Sec_fresh g 0 hs) hs.1 rfl rfl (by simp [Value.category]) (by omega) rfl (rc' := 0) (rs' := 0) (by omega) (by omega) (fun rv h' hcc => ?_) (fun i h' hcc => by obtain ⟨e9, -⟩ := hcc; cases e9)
  obtain ⟨e9, hs2, hq2⟩ := hcc
  cases e9
  have he2 := he.off hq2 hap.1
  refine g_aload_n ok (dk m_Ep_layPath 8 rfl) (pc' := 17) rfl (i := 0) rfl rfl ?_
  refine g_get ok (dk m_Ep_layPath 9 rfl) (pc' := 20) rfl f_Ep_46 he2.1 rfl ?_
  refine g_callV ok (dk m_Ep_layPath 10 rfl) (pc' := 23) rfl c_Ep_71 (c_Tr_give g (j_node (E.1 1) 0) (S_fresh S).1 (E.1 0) 1 (by omega) he2.2.1) he2.2.1.1 rfl rfl (by simp [Value.category]) (by omega) rfl (rc' := 0) (rs' := 0) (by omega) (by omega) (fun rv h' hcc => ?_) (fun i h' hcc => by obtain ⟨e9, -⟩ := hcc; cases e9)
  obtain ⟨e9, ht3, hq3⟩ := hcc
  cases e9
  have he3 := he2.treeE ht3 hq3
  have hs3 := hap.sP hq3 hs2
  have ho3 := ep_P.tr (ep_P.sr (q_off.rf (X := q_EP e t pb rb s sb)) hq2) hq3
  refine g_iconst ok (dk m_Ep_layPath 11 rfl) (pc' := 24) rfl (v := (-1)) (by decide) ?_
  refine g_istore_n ok (dk m_Ep_layPath 12 rfl) (pc' := 25) rfl (i := 2) rfl (Nat.le_of_ble_eq_true rfl) rfl ?_
  refine g_iconst ok (dk m_Ep_layPath 13 rfl) (pc' := 26) rfl (v := 1) (by decide) ?_
  refine g_istore_n ok (dk m_Ep_layPath 14 rfl) (pc' := 27) rfl (i := 3) rfl (Nat.le_of_ble_eq_true rfl) rfl ?_
  exact loop E.2.1.2 1 (by omega) _ (ES_q0 E S) _ he3 hs3 ho3 rfl rfl rfl
