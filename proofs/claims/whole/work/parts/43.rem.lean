/-! ===== commit: removals and renewals ===== -/
noncomputable def RL_1 (l n : Int32) (k : Nat) (G : G_T) : G_T := if (gM G k).1 2 = n ∧ (gM G k).1 3 = l then sM G k (M_leave (gM G k)) else G
noncomputable def RL_m (l n : Int32) : Nat → Nat → G_T → G_T
  | 0, _, G => G
  | m + 1, k, G => RL_m l n m (k + 1) (RL_1 l n k G)
noncomputable def RL (p : G_T × e_T) (l : Int32) : G_T × e_T := by
  classical exact if l = p.2.1 1 ∨ T_isB p.2.2.1 (j_node l 0) then p else (RL_m l ((gE p.1 (ne p.1 - 1)).1 0) 16 0 p.1, (upd p.2.1 4 (p.2.1 4 ||| ((1 : Int32) <<< (l &&& 31))), T_vac p.2.2.1 l, p.2.2.2))
theorem RL_1_k (l n : Int32) (k : Nat) (G : G_T) : gN (RL_1 l n k G) = gN G ∧ gQ (RL_1 l n k G) = gQ G ∧ gE (RL_1 l n k G) = gE G ∧ gK (RL_1 l n k G) = gK G ∧ gS (RL_1 l n k G) = gS G := by
  unfold RL_1
  split <;> exact ⟨rfl, rfl, rfl, rfl, rfl⟩
theorem RL_m_k (l n : Int32) : ∀ (m k : Nat) (G : G_T), gN (RL_m l n m k G) = gN G ∧ gQ (RL_m l n m k G) = gQ G ∧ gE (RL_m l n m k G) = gE G ∧ gK (RL_m l n m k G) = gK G ∧ gS (RL_m l n m k G) = gS G := by
  intro m
  induction m with
  | zero => intro k G; exact ⟨rfl, rfl, rfl, rfl, rfl⟩
  | succ m ih =>
    intro k G
    rw [RL_m]
    have h1 := ih (k + 1) (RL_1 l n k G)
    have h2 := RL_1_k l n k G
    exact ⟨h1.1.trans h2.1, h1.2.1.trans h2.2.1, h1.2.2.1.trans h2.2.2.1, h1.2.2.2.1.trans h2.2.2.2.1, h1.2.2.2.2.trans h2.2.2.2.2⟩
theorem RL_k (p : G_T × e_T) (l : Int32) : gN (RL p l).1 = gN p.1 ∧ gQ (RL p l).1 = gQ p.1 ∧ gE (RL p l).1 = gE p.1 ∧ gK (RL p l).1 = gK p.1 ∧ gS (RL p l).1 = gS p.1 := by
  have q := RL_m_k l ((gE p.1 (ne p.1 - 1)).1 0) 16 0 p.1
  unfold RL
  generalize RL_m l ((gE p.1 (ne p.1 - 1)).1 0) 16 0 p.1 = Y at q ⊢
  split
  · exact ⟨rfl, rfl, rfl, rfl, rfl⟩
  · exact q
noncomputable def AR_1 (k : Nat) (p : G_T × e_T) : G_T × e_T := if (gQ p.1 k).1 = 1 then RL p (gQ p.1 k).2.2.1 else p
noncomputable def AR : Nat → Nat → G_T × e_T → G_T × e_T
  | 0, _, p => p
  | m + 1, k, p => AR m (k + 1) (AR_1 k p)
noncomputable def G_rem (p : G_T × e_T) : G_T × e_T := ((AR (nq p.1) 0 p).1, (AR (nq p.1) 0 p).2.1, T_shr 5 (AR (nq p.1) 0 p).2.2.1, (AR (nq p.1) 0 p).2.2.2)
noncomputable def AN_1 (k : Nat) (p : G_T × e_T) : G_T × e_T := by
  classical exact if (gQ p.1 k).1 = 2 ∧ E_lets p.2 (gQ p.1 k).2.2.1 then (p.1, upd p.2.1 5 (p.2.1 5 ||| ((1 : Int32) <<< ((gQ p.1 k).2.2.1 &&& 31))), T_ren p.2.2.1 (gQ p.1 k).2.2.1 (gQ p.1 k).2.2.2 (p.2.1 0), p.2.2.2) else p
noncomputable def AN : Nat → Nat → G_T × e_T → G_T × e_T
  | 0, _, p => p
  | m + 1, k, p => AN m (k + 1) (AN_1 k p)
set_option maxHeartbeats 1000000 in
theorem c_RG_removeLeaf (g : q_G) {h : q_H} {r : Nat} {w : Nat → Nat} {D : a_T} {ob : Nat → Option Nat} {x : Nat → Nat} {p : G_T × e_T} (l : Int32) (d : Nat) (hd : 4 ≤ d) (H : q_GE g h r w D ob x p) : MG g y_RG_removeLeaf b_RG_removeLeaf 5 none d 0 0 [.ref r, .ref (x 0), .int l] h (fun q h' => q = .inl none ∧ q_GE g h' r w D ob x (RL p l)) := by
  refine MG.of (by decide +kernel) (by simp [Value.category]) (Nat.le_of_ble_eq_true rfl) ?_
  intro Z A ok
  have loop : ∀ (n : Int32) (m k : Nat), k + m = 16 → ∀ (h1 : q_H) (p1 : G_T × e_T) (x4 : Option Value), q_GE g h1 r w D ob x p1 → (gE p1.1 (ne p1.1 - 1)).1 0 = n → (RL_m l n m k p1.1, p1.2) = RL p l → GW g Z A (fun q h' => q = .inl none ∧ q_GE g h' r w D ob x (RL p l)) 0 0 h1 46 [some (.ref r), some (.ref (x 0)), some (.int l), some (.int (nI k)), x4] [] := by
    intro n m
    induction m with
    | zero =>
      intro k hk h1 p1 x4 H1 hn hv
      refine g_iload_n ok (dk m_RG_removeLeaf 26 rfl) (pc' := 47) rfl (i := 3) rfl rfl ?_
      refine g_aload_n ok (dk m_RG_removeLeaf 27 rfl) (pc' := 48) rfl (i := 0) rfl rfl ?_
      refine g_get ok (dk m_RG_removeLeaf 28 rfl) (pc' := 51) rfl f_RG_19 H1.1.fr rfl ?_
      obtain ⟨l0, l1, hlz⟩ := H1.1.lm.size
      refine g_callV ok (dk m_RG_removeLeaf 29 rfl) (pc' := 54) rfl c_RG_86 (c_AL_size g 0 hlz) hlz rfl rfl (by simp [Value.category]) (by omega) rfl (rc' := 0) (rs' := 0) (by omega) (by omega) (fun rv h' hcc => ?_) (fun i h' hcc => by obtain ⟨e9, -⟩ := hcc; cases e9)
      obtain ⟨e9, e2⟩ := hcc
      have e3 := e2.symm
      subst e3
      cases e9
      refine g_icmp_ge ok (dk m_RG_removeLeaf 30 rfl) (tgt := 105) (by decide) (pc' := 57) rfl (fun c_54 => ?_) (fun c_54 => absurd (show nI 16 ≤ nI k from by rw [show k = 16 by omega]; exact Int32.le_refl _) c_54)
      exact g_vret ok (dk m_RG_removeLeaf 51 rfl) rfl ⟨rfl, by rw [← hv]; exact H1⟩
    | succ m ih =>
      intro k hk h1 p1 x4 H1 hn hv
      have hk2 : k < 16 := by omega
      refine g_iload_n ok (dk m_RG_removeLeaf 26 rfl) (pc' := 47) rfl (i := 3) rfl rfl ?_
      refine g_aload_n ok (dk m_RG_removeLeaf 27 rfl) (pc' := 48) rfl (i := 0) rfl rfl ?_
      refine g_get ok (dk m_RG_removeLeaf 28 rfl) (pc' := 51) rfl f_RG_19 H1.1.fr rfl ?_
      obtain ⟨l0, l1, hlz⟩ := H1.1.lm.size
      refine g_callV ok (dk m_RG_removeLeaf 29 rfl) (pc' := 54) rfl c_RG_86 (c_AL_size g 0 hlz) hlz rfl rfl (by simp [Value.category]) (by omega) rfl (rc' := 0) (rs' := 0) (by omega) (by omega) (fun rv h' hcc => ?_) (fun i h' hcc => by obtain ⟨e9, -⟩ := hcc; cases e9)
      obtain ⟨e9, e2⟩ := hcc
      have e3 := e2.symm
      subst e3
      cases e9
      refine g_icmp_ge ok (dk m_RG_removeLeaf 30 rfl) (tgt := 105) (by decide) (pc' := 57) rfl (fun c_54 => absurd c_54 (show ¬ nI 16 ≤ nI k from nI_ge (by omega) (by decide))) (fun c_54 => ?_)
      refine g_aload_n ok (dk m_RG_removeLeaf 31 rfl) (pc' := 58) rfl (i := 0) rfl rfl ?_
      refine g_get ok (dk m_RG_removeLeaf 32 rfl) (pc' := 61) rfl f_RG_19 H1.1.fr rfl ?_
      refine g_iload_n ok (dk m_RG_removeLeaf 33 rfl) (pc' := 62) rfl (i := 3) rfl rfl ?_
      refine g_callV ok (dk m_RG_removeLeaf 34 rfl) (pc' := 65) rfl c_RG_112 (c_AL_get g 2 (by omega) H1.1.lm hk2) hlz rfl rfl (by simp [Value.category]) (by omega) rfl (rc' := 0) (rs' := 0) (by omega) (by omega) (fun rv h' hcc => ?_) (fun i h' hcc => by obtain ⟨e9, -⟩ := hcc; cases e9)
      obtain ⟨e9, e2⟩ := hcc
      have e3 := e2.symm
      subst e3
      cases e9
      refine g_castY ok (dk m_RG_removeLeaf 35 rfl) (pc' := 68) rfl k_RG_41 xc_4 ty_4 (H1.1.mem hk2).1 ?_
      refine g_astore ok (dk m_RG_removeLeaf 36 rfl) (pc' := 70) rfl (Nat.le_of_ble_eq_true rfl) rfl ?_
      refine g_aload ok (dk m_RG_removeLeaf 37 rfl) (pc' := 72) rfl rfl ?_
      refine g_get ok (dk m_RG_removeLeaf 38 rfl) (pc' := 75) rfl f_RG_133 (H1.1.mem hk2).1 rfl ?_
      refine g_aload_n ok (dk m_RG_removeLeaf 39 rfl) (pc' := 76) rfl (i := 0) rfl rfl ?_
      refine g_get ok (dk m_RG_removeLeaf 40 rfl) (pc' := 79) rfl f_RG_53 H1.1.fr rfl ?_
      refine g_getR ok (dk m_RG_removeLeaf 41 rfl) (pc' := 82) rfl f_RG_136 (H1.1.ep H1.lat).1 rfl ?_
      refine g_icmp_ne ok (dk m_RG_removeLeaf 42 rfl) (tgt := 99) (by decide) (pc' := 85) rfl (fun c_82 => ?_) (fun c_82 => ?_)
      · refine g_iinc ok (dk m_RG_removeLeaf 49 rfl) (pc' := 102) rfl rfl (nI_1 k) rfl ?_
        refine g_goto ok (dk m_RG_removeLeaf 50 rfl) (pc' := 46) (by decide) ?_
        exact ih (k + 1) (by omega) _ p1 _ H1 hn (by rw [← hv, RL_m, RL_1, if_neg (fun z => c_82 (z.1.trans hn.symm))])
      · refine g_aload ok (dk m_RG_removeLeaf 43 rfl) (pc' := 87) rfl rfl ?_
        refine g_get ok (dk m_RG_removeLeaf 44 rfl) (pc' := 90) rfl f_RG_129 (H1.1.mem hk2).1 rfl ?_
        refine g_iload_n ok (dk m_RG_removeLeaf 45 rfl) (pc' := 91) rfl (i := 2) rfl rfl ?_
        refine g_icmp_ne ok (dk m_RG_removeLeaf 46 rfl) (tgt := 99) (by decide) (pc' := 94) rfl (fun c_91 => ?_) (fun c_91 => ?_)
        · refine g_iinc ok (dk m_RG_removeLeaf 49 rfl) (pc' := 102) rfl rfl (nI_1 k) rfl ?_
          refine g_goto ok (dk m_RG_removeLeaf 50 rfl) (pc' := 46) (by decide) ?_
          exact ih (k + 1) (by omega) _ p1 _ H1 hn (by rw [← hv, RL_m, RL_1, if_neg (fun z => c_91 z.2)])
        · refine g_aload ok (dk m_RG_removeLeaf 47 rfl) (pc' := 96) rfl rfl ?_
          refine g_callV ok (dk m_RG_removeLeaf 48 rfl) (pc' := 99) rfl c_RG_280 (c_Mem_leave g 2 (by omega) (H1.1.mem hk2)) (H1.1.mem hk2).1 rfl rfl (by simp [Value.category]) (by omega) rfl (rc' := 0) (rs' := 0) (by omega) (by omega) (fun rv h' hcc => ?_) (fun i h' hcc => by obtain ⟨e9, -⟩ := hcc; cases e9)
          obtain ⟨e9, hm2, o2⟩ := hcc
          cases e9
          have H2 := H1.tM hk2 hm2 o2
          refine g_iinc ok (dk m_RG_removeLeaf 49 rfl) (pc' := 102) rfl rfl (nI_1 k) rfl ?_
          refine g_goto ok (dk m_RG_removeLeaf 50 rfl) (pc' := 46) (by decide) ?_
          exact ih (k + 1) (by omega) _ _ _ H2 hn (by rw [← hv, RL_m, RL_1, if_pos ⟨c_82.trans hn, c_91⟩])
  refine g_iload_n ok (dk m_RG_removeLeaf 0 rfl) (pc' := 1) rfl (i := 2) rfl rfl ?_
  refine g_aload_n ok (dk m_RG_removeLeaf 1 rfl) (pc' := 2) rfl (i := 1) rfl rfl ?_
  refine g_getR ok (dk m_RG_removeLeaf 2 rfl) (pc' := 5) rfl f_RG_239 H.2.1.1 rfl ?_
  refine g_icmp_eq ok (dk m_RG_removeLeaf 3 rfl) (tgt := 23) (by decide) (pc' := 8) rfl (fun c_5 => ?_) (fun c_5 => ?_)
  · exact g_vret ok (dk m_RG_removeLeaf 11 rfl) rfl ⟨rfl, by rw [RL, if_pos (Or.inl c_5)]; exact H⟩
  · refine g_aload_n ok (dk m_RG_removeLeaf 4 rfl) (pc' := 9) rfl (i := 1) rfl rfl ?_
    refine g_getR ok (dk m_RG_removeLeaf 5 rfl) (pc' := 12) rfl f_RG_65 H.2.1.1 rfl ?_
    refine g_iload_n ok (dk m_RG_removeLeaf 6 rfl) (pc' := 13) rfl (i := 2) rfl rfl ?_
    refine g_iconst ok (dk m_RG_removeLeaf 7 rfl) (pc' := 14) rfl (v := 0) (by decide) ?_
    refine g_callS ok (dk m_RG_removeLeaf 8 rfl) (pc' := 17) rfl c_RG_274 (c_Tr_nodeOver g l 0 0) rfl rfl (by simp [Value.category]) (by omega) rfl (rc' := 0) (rs' := 0) (by omega) (by omega) (fun rv h' hcc => ?_) (fun i h' hcc => by obtain ⟨e9, -⟩ := hcc; cases e9)
    obtain ⟨e9, e2⟩ := hcc
    have e3 := e2.symm
    subst e3
    cases e9
    refine g_callV ok (dk m_RG_removeLeaf 9 rfl) (pc' := 20) rfl c_RG_219 (c_Tr_isBlank g (j_node l 0) 1 (by omega) H.2.1.2.1) H.2.1.2.1.1 rfl rfl (by simp [Value.category]) (by omega) rfl (rc' := 0) (rs' := 0) (by omega) (by omega) (fun rv h' hcc => ?_) (fun i h' hcc => by obtain ⟨e9, -⟩ := hcc; cases e9)
    obtain ⟨e9, e2⟩ := hcc
    have e3 := e2.symm
    subst e3
    cases e9
    refine g_if_eq ok (dk m_RG_removeLeaf 10 rfl) (tgt := 24) (by decide) (pc' := 23) rfl (fun c_20 => ?_) (fun c_20 => ?_)
    · refine g_aload_n ok (dk m_RG_removeLeaf 12 rfl) (pc' := 25) rfl (i := 1) rfl rfl ?_
      refine g_getR ok (dk m_RG_removeLeaf 13 rfl) (pc' := 28) rfl f_RG_65 H.2.1.1 rfl ?_
      refine g_iload_n ok (dk m_RG_removeLeaf 14 rfl) (pc' := 29) rfl (i := 2) rfl rfl ?_
      refine g_callV ok (dk m_RG_removeLeaf 15 rfl) (pc' := 32) rfl c_RG_277 (c_Tr_vacate g l 3 (by omega) H.2.2.2 H.2.1.2.1) H.2.1.2.1.1 rfl rfl (by simp [Value.category]) (by omega) rfl (rc' := 0) (rs' := 0) (by omega) (by omega) (fun rv h' hcc => ?_) (fun i h' hcc => by obtain ⟨e9, -⟩ := hcc; cases e9)
      obtain ⟨e9, ht1, o1⟩ := hcc
      cases e9
      have H1 := H.tT ht1 o1 (by rw [T_vac_2]; exact H.2.2.2)
      refine g_aload_n ok (dk m_RG_removeLeaf 16 rfl) (pc' := 33) rfl (i := 1) rfl rfl ?_
      refine g_dup ok (dk m_RG_removeLeaf 17 rfl) (pc' := 34) rfl rfl ?_
      refine g_get ok (dk m_RG_removeLeaf 18 rfl) (pc' := 37) rfl f_RG_245 H1.2.1.1 rfl ?_
      refine g_iconst ok (dk m_RG_removeLeaf 19 rfl) (pc' := 38) rfl (v := 1) (by decide) ?_
      refine g_iload_n ok (dk m_RG_removeLeaf 20 rfl) (pc' := 39) rfl (i := 2) rfl rfl ?_
      refine g_ishl ok (dk m_RG_removeLeaf 21 rfl) (pc' := 40) rfl ?_
      refine g_ior ok (dk m_RG_removeLeaf 22 rfl) (pc' := 41) rfl ?_
      refine g_put ok (dk m_RG_removeLeaf 23 rfl) (pc' := 44) rfl f_RG_245 (Or.inl rfl) H1.2.1.1 (Nat.le_of_ble_eq_true rfl) rfl rfl ?_
      refine g_gen (fun h2 e2 => ?_)
      have H2 := H1.tI 4 6 (by decide) e2
      clear e2
      refine g_iconst ok (dk m_RG_removeLeaf 24 rfl) (pc' := 45) rfl (v := 0) (by decide) ?_
      refine g_istore_n ok (dk m_RG_removeLeaf 25 rfl) (pc' := 46) rfl (i := 3) rfl (Nat.le_of_ble_eq_true rfl) rfl ?_
      exact loop _ 16 0 (by omega) _ _ _ H2 rfl (by rw [RL, if_neg (fun z => by rcases z with z | z; exact c_5 z; exact b2i_0 c_20 z)])
    · exact g_vret ok (dk m_RG_removeLeaf 11 rfl) rfl ⟨rfl, by rw [RL, if_pos (Or.inr (b2i_n c_20))]; exact H⟩
set_option maxHeartbeats 1000000 in
theorem c_RG_applyRemovals (g : q_G) {h : q_H} {r : Nat} {w : Nat → Nat} {D : a_T} {ob : Nat → Option Nat} {x : Nat → Nat} {p : G_T × e_T} (d : Nat) (hd : 5 ≤ d) (hn : nq p.1 < 2 ^ 31) (H : q_GE g h r w D ob x p) : MG g y_RG_applyRemovals b_RG_applyRemovals 5 none d 0 0 [.ref r, .ref (x 0)] h (fun q h' => q = .inl none ∧ q_GE g h' r w D ob x (G_rem p)) := by
  refine MG.of (by decide +kernel) (by simp [Value.category]) (Nat.le_of_ble_eq_true rfl) ?_
  intro Z A ok
  have loop : ∀ (m k : Nat), k + m = nq p.1 → ∀ (h1 : q_H) (p1 : G_T × e_T) (x3 x4 : Option Value), q_GE g h1 r w D ob x p1 → nq p1.1 = nq p.1 → AR m k p1 = AR (nq p.1) 0 p → GW g Z A (fun q h' => q = .inl none ∧ q_GE g h' r w D ob x (G_rem p)) 0 0 h1 2 [some (.ref r), some (.ref (x 0)), some (.int (nI k)), x3, x4] [] := by
    intro m
    induction m with
    | zero =>
      intro k hk h1 p1 x3 x4 H1 hnq hv
      refine g_iload_n ok (dk m_RG_applyRemovals 2 rfl) (pc' := 3) rfl (i := 2) rfl rfl ?_
      refine g_aload_n ok (dk m_RG_applyRemovals 3 rfl) (pc' := 4) rfl (i := 0) rfl rfl ?_
      refine g_get ok (dk m_RG_applyRemovals 4 rfl) (pc' := 7) rfl f_RG_26 H1.1.fr rfl ?_
      obtain ⟨l0, l1, hlz⟩ := H1.1.lq.size
      refine g_callV ok (dk m_RG_applyRemovals 5 rfl) (pc' := 10) rfl c_RG_86 (c_AL_size g 0 hlz) hlz rfl rfl (by simp [Value.category]) (by omega) rfl (rc' := 0) (rs' := 0) (by omega) (by omega) (fun rv h' hcc => ?_) (fun i h' hcc => by obtain ⟨e9, -⟩ := hcc; cases e9)
      obtain ⟨e9, e2⟩ := hcc
      have e3 := e2.symm
      subst e3
      cases e9
      refine g_icmp_ge ok (dk m_RG_applyRemovals 6 rfl) (tgt := 52) (by decide) (pc' := 13) rfl (fun c_10 => ?_) (fun c_10 => absurd (show nI (nq p1.1) ≤ nI k from by rw [show k = nq p1.1 by omega]; exact Int32.le_refl _) c_10)
      refine g_aload_n ok (dk m_RG_applyRemovals 25 rfl) (pc' := 53) rfl (i := 1) rfl rfl ?_
      refine g_getR ok (dk m_RG_applyRemovals 26 rfl) (pc' := 56) rfl f_RG_65 H1.2.1.1 rfl ?_
      refine g_callV ok (dk m_RG_applyRemovals 27 rfl) (pc' := 59) rfl c_RG_271 (c_Tr_shrink g 3 (by omega) H1.2.2.2 H1.2.1.2.1) H1.2.1.2.1.1 rfl rfl (by simp [Value.category]) (by omega) rfl (rc' := 0) (rs' := 0) (by omega) (by omega) (fun rv h' hcc => ?_) (fun i h' hcc => by obtain ⟨e9, -⟩ := hcc; cases e9)
      obtain ⟨e9, ht2, o2⟩ := hcc
      cases e9
      have H2 := H1.tT ht2 o2 (Nat.le_trans (T_shr_2 5 _) H1.2.2.2)
      exact g_vret ok (dk m_RG_applyRemovals 28 rfl) rfl ⟨rfl, by rw [G_rem, ← hv]; exact H2⟩
    | succ m ih =>
      intro k hk h1 p1 x3 x4 H1 hnq hv
      have hk2 : k < nq p1.1 := by omega
      refine g_iload_n ok (dk m_RG_applyRemovals 2 rfl) (pc' := 3) rfl (i := 2) rfl rfl ?_
      refine g_aload_n ok (dk m_RG_applyRemovals 3 rfl) (pc' := 4) rfl (i := 0) rfl rfl ?_
      refine g_get ok (dk m_RG_applyRemovals 4 rfl) (pc' := 7) rfl f_RG_26 H1.1.fr rfl ?_
      obtain ⟨l0, l1, hlz⟩ := H1.1.lq.size
      refine g_callV ok (dk m_RG_applyRemovals 5 rfl) (pc' := 10) rfl c_RG_86 (c_AL_size g 0 hlz) hlz rfl rfl (by simp [Value.category]) (by omega) rfl (rc' := 0) (rs' := 0) (by omega) (by omega) (fun rv h' hcc => ?_) (fun i h' hcc => by obtain ⟨e9, -⟩ := hcc; cases e9)
      obtain ⟨e9, e2⟩ := hcc
      have e3 := e2.symm
      subst e3
      cases e9
      refine g_icmp_ge ok (dk m_RG_applyRemovals 6 rfl) (tgt := 52) (by decide) (pc' := 13) rfl (fun c_10 => absurd c_10 (nI_ge hk2 (by omega))) (fun c_10 => ?_)
      refine g_aload_n ok (dk m_RG_applyRemovals 7 rfl) (pc' := 14) rfl (i := 0) rfl rfl ?_
      refine g_get ok (dk m_RG_applyRemovals 8 rfl) (pc' := 17) rfl f_RG_26 H1.1.fr rfl ?_
      refine g_iload_n ok (dk m_RG_applyRemovals 9 rfl) (pc' := 18) rfl (i := 2) rfl rfl ?_
      refine g_callV ok (dk m_RG_applyRemovals 10 rfl) (pc' := 21) rfl c_RG_112 (c_AL_get g 2 (by omega) H1.1.lq hk2) hlz rfl rfl (by simp [Value.category]) (by omega) rfl (rc' := 0) (rs' := 0) (by omega) (by omega) (fun rv h' hcc => ?_) (fun i h' hcc => by obtain ⟨e9, -⟩ := hcc; cases e9)
      obtain ⟨e9, e2⟩ := hcc
      have e3 := e2.symm
      subst e3
      cases e9
      refine g_astore ok (dk m_RG_applyRemovals 11 rfl) (pc' := 23) rfl (Nat.le_of_ble_eq_true rfl) rfl ?_
      rcases H1.1.pr hk2 with ⟨p0, hp1, hp⟩ | ⟨p0, hp⟩ | ⟨p0, hp⟩
      · refine g_aload ok (dk m_RG_applyRemovals 12 rfl) (pc' := 25) rfl rfl ?_
        refine g_instN ok (dk m_RG_applyRemovals 13 rfl) (pc' := 28) rfl k_RG_121 (by decide +kernel) ty_8 hp ?_
        refine g_if_eq ok (dk m_RG_applyRemovals 14 rfl) (tgt := 46) (by decide) (pc' := 31) rfl (fun c_28 => ?_) (fun c_28 => absurd rfl c_28)
        refine g_iinc ok (dk m_RG_applyRemovals 23 rfl) (pc' := 49) rfl rfl (nI_1 k) rfl ?_
        refine g_goto ok (dk m_RG_applyRemovals 24 rfl) (pc' := 2) (by decide) ?_
        exact ih (k + 1) (by omega) _ p1 _ _ H1 hnq (by rw [← hv, AR, AR_1, if_neg (fun z => by have z1 := z; rw [p0] at z1; cases z1)])
      · refine g_aload ok (dk m_RG_applyRemovals 12 rfl) (pc' := 25) rfl rfl ?_
        refine g_instY ok (dk m_RG_applyRemovals 13 rfl) (pc' := 28) rfl k_RG_121 xc_9 ty_9 hp ?_
        refine g_if_eq ok (dk m_RG_applyRemovals 14 rfl) (tgt := 46) (by decide) (pc' := 31) rfl (fun c_28 => absurd c_28 (by decide)) (fun c_28 => ?_)
        refine g_aload ok (dk m_RG_applyRemovals 15 rfl) (pc' := 33) rfl rfl ?_
        refine g_castY ok (dk m_RG_applyRemovals 16 rfl) (pc' := 36) rfl k_RG_121 xc_9 ty_9 hp ?_
        refine g_astore_n ok (dk m_RG_applyRemovals 17 rfl) (pc' := 37) rfl (i := 3) rfl (Nat.le_of_ble_eq_true rfl) rfl ?_
        refine g_aload_n ok (dk m_RG_applyRemovals 18 rfl) (pc' := 38) rfl (i := 0) rfl rfl ?_
        refine g_aload_n ok (dk m_RG_applyRemovals 19 rfl) (pc' := 39) rfl (i := 1) rfl rfl ?_
        refine g_aload_n ok (dk m_RG_applyRemovals 20 rfl) (pc' := 40) rfl (i := 3) rfl rfl ?_
        refine g_getR ok (dk m_RG_applyRemovals 21 rfl) (pc' := 43) rfl f_RG_267 hp rfl ?_
        refine g_callV ok (dk m_RG_applyRemovals 22 rfl) (pc' := 46) rfl c_RG_268 (c_RG_removeLeaf g (gQ p1.1 k).2.2.1 4 (by omega) H1) H1.1.fr rfl rfl (by simp [Value.category]) (by omega) rfl (rc' := 0) (rs' := 0) (by omega) (by omega) (fun rv h' hcc => ?_) (fun i h' hcc => by obtain ⟨e9, -⟩ := hcc; cases e9)
        obtain ⟨e9, H2⟩ := hcc
        cases e9
        refine g_iinc ok (dk m_RG_applyRemovals 23 rfl) (pc' := 49) rfl rfl (nI_1 k) rfl ?_
        refine g_goto ok (dk m_RG_applyRemovals 24 rfl) (pc' := 2) (by decide) ?_
        exact ih (k + 1) (by omega) _ _ _ _ H2 (by rw [← hnq]; exact congrFun (RL_k _ _).1 1) (by rw [← hv, AR, AR_1, if_pos p0])
      · refine g_aload ok (dk m_RG_applyRemovals 12 rfl) (pc' := 25) rfl rfl ?_
        refine g_instN ok (dk m_RG_applyRemovals 13 rfl) (pc' := 28) rfl k_RG_121 (by decide +kernel) ty_10 hp ?_
        refine g_if_eq ok (dk m_RG_applyRemovals 14 rfl) (tgt := 46) (by decide) (pc' := 31) rfl (fun c_28 => ?_) (fun c_28 => absurd rfl c_28)
        refine g_iinc ok (dk m_RG_applyRemovals 23 rfl) (pc' := 49) rfl rfl (nI_1 k) rfl ?_
        refine g_goto ok (dk m_RG_applyRemovals 24 rfl) (pc' := 2) (by decide) ?_
        exact ih (k + 1) (by omega) _ p1 _ _ H1 hnq (by rw [← hv, AR, AR_1, if_neg (fun z => by have z1 := z; rw [p0] at z1; cases z1)])
  refine g_iconst ok (dk m_RG_applyRemovals 0 rfl) (pc' := 1) rfl (v := 0) (by decide) ?_
  refine g_istore_n ok (dk m_RG_applyRemovals 1 rfl) (pc' := 2) rfl (i := 2) rfl (Nat.le_of_ble_eq_true rfl) rfl ?_
  exact loop (nq p.1) 0 (by omega) _ p _ _ H rfl rfl
set_option maxHeartbeats 1000000 in
theorem c_RG_applyRenewals (g : q_G) {h : q_H} {r : Nat} {w : Nat → Nat} {D : a_T} {ob : Nat → Option Nat} {x : Nat → Nat} {p : G_T × e_T} (d : Nat) (hd : 5 ≤ d) (hn : nq p.1 < 2 ^ 31) (H : q_GE g h r w D ob x p) : MG g y_RG_applyRenewals b_RG_applyRenewals 5 none d 0 0 [.ref r, .ref (x 0)] h (fun q h' => q = .inl none ∧ q_GE g h' r w D ob x (AN (nq p.1) 0 p)) := by
  refine MG.of (by decide +kernel) (by simp [Value.category]) (Nat.le_of_ble_eq_true rfl) ?_
  intro Z A ok
  have loop : ∀ (m k : Nat), k + m = nq p.1 → ∀ (h1 : q_H) (p1 : G_T × e_T) (x3 x4 : Option Value), q_GE g h1 r w D ob x p1 → nq p1.1 = nq p.1 → AN m k p1 = AN (nq p.1) 0 p → GW g Z A (fun q h' => q = .inl none ∧ q_GE g h' r w D ob x (AN (nq p.1) 0 p)) 0 0 h1 2 [some (.ref r), some (.ref (x 0)), some (.int (nI k)), x3, x4] [] := by
    intro m
    induction m with
    | zero =>
      intro k hk h1 p1 x3 x4 H1 hnq hv
      refine g_iload_n ok (dk m_RG_applyRenewals 2 rfl) (pc' := 3) rfl (i := 2) rfl rfl ?_
      refine g_aload_n ok (dk m_RG_applyRenewals 3 rfl) (pc' := 4) rfl (i := 0) rfl rfl ?_
      refine g_get ok (dk m_RG_applyRenewals 4 rfl) (pc' := 7) rfl f_RG_26 H1.1.fr rfl ?_
      obtain ⟨l0, l1, hlz⟩ := H1.1.lq.size
      refine g_callV ok (dk m_RG_applyRenewals 5 rfl) (pc' := 10) rfl c_RG_86 (c_AL_size g 0 hlz) hlz rfl rfl (by simp [Value.category]) (by omega) rfl (rc' := 0) (rs' := 0) (by omega) (by omega) (fun rv h' hcc => ?_) (fun i h' hcc => by obtain ⟨e9, -⟩ := hcc; cases e9)
      obtain ⟨e9, e2⟩ := hcc
      have e3 := e2.symm
      subst e3
      cases e9
      refine g_icmp_ge ok (dk m_RG_applyRenewals 6 rfl) (tgt := 85) (by decide) (pc' := 13) rfl (fun c_10 => ?_) (fun c_10 => absurd (show nI (nq p1.1) ≤ nI k from by rw [show k = nq p1.1 by omega]; exact Int32.le_refl _) c_10)
      exact g_vret ok (dk m_RG_applyRenewals 42 rfl) rfl ⟨rfl, by rw [← hv]; exact H1⟩
    | succ m ih =>
      intro k hk h1 p1 x3 x4 H1 hnq hv
      have hk2 : k < nq p1.1 := by omega
      refine g_iload_n ok (dk m_RG_applyRenewals 2 rfl) (pc' := 3) rfl (i := 2) rfl rfl ?_
      refine g_aload_n ok (dk m_RG_applyRenewals 3 rfl) (pc' := 4) rfl (i := 0) rfl rfl ?_
      refine g_get ok (dk m_RG_applyRenewals 4 rfl) (pc' := 7) rfl f_RG_26 H1.1.fr rfl ?_
      obtain ⟨l0, l1, hlz⟩ := H1.1.lq.size
      refine g_callV ok (dk m_RG_applyRenewals 5 rfl) (pc' := 10) rfl c_RG_86 (c_AL_size g 0 hlz) hlz rfl rfl (by simp [Value.category]) (by omega) rfl (rc' := 0) (rs' := 0) (by omega) (by omega) (fun rv h' hcc => ?_) (fun i h' hcc => by obtain ⟨e9, -⟩ := hcc; cases e9)
      obtain ⟨e9, e2⟩ := hcc
      have e3 := e2.symm
      subst e3
      cases e9
      refine g_icmp_ge ok (dk m_RG_applyRenewals 6 rfl) (tgt := 85) (by decide) (pc' := 13) rfl (fun c_10 => absurd c_10 (nI_ge hk2 (by omega))) (fun c_10 => ?_)
      refine g_aload_n ok (dk m_RG_applyRenewals 7 rfl) (pc' := 14) rfl (i := 0) rfl rfl ?_
      refine g_get ok (dk m_RG_applyRenewals 8 rfl) (pc' := 17) rfl f_RG_26 H1.1.fr rfl ?_
      refine g_iload_n ok (dk m_RG_applyRenewals 9 rfl) (pc' := 18) rfl (i := 2) rfl rfl ?_
      refine g_callV ok (dk m_RG_applyRenewals 10 rfl) (pc' := 21) rfl c_RG_112 (c_AL_get g 2 (by omega) H1.1.lq hk2) hlz rfl rfl (by simp [Value.category]) (by omega) rfl (rc' := 0) (rs' := 0) (by omega) (by omega) (fun rv h' hcc => ?_) (fun i h' hcc => by obtain ⟨e9, -⟩ := hcc; cases e9)
      obtain ⟨e9, e2⟩ := hcc
      have e3 := e2.symm
      subst e3
      cases e9
      refine g_astore ok (dk m_RG_applyRenewals 11 rfl) (pc' := 23) rfl (Nat.le_of_ble_eq_true rfl) rfl ?_
      rcases H1.1.pr hk2 with ⟨p0, hp1, hp⟩ | ⟨p0, hp⟩ | ⟨p0, hp⟩
      · refine g_aload ok (dk m_RG_applyRenewals 12 rfl) (pc' := 25) rfl rfl ?_
        refine g_instN ok (dk m_RG_applyRenewals 13 rfl) (pc' := 28) rfl k_RG_127 (by decide +kernel) ty_8 hp ?_
        refine g_if_eq ok (dk m_RG_applyRenewals 14 rfl) (tgt := 79) (by decide) (pc' := 31) rfl (fun c_28 => ?_) (fun c_28 => absurd rfl c_28)
        refine g_iinc ok (dk m_RG_applyRenewals 40 rfl) (pc' := 82) rfl rfl (nI_1 k) rfl ?_
        refine g_goto ok (dk m_RG_applyRenewals 41 rfl) (pc' := 2) (by decide) ?_
        exact ih (k + 1) (by omega) _ p1 _ _ H1 hnq (by rw [← hv, AN, AN_1, if_neg (fun z => by have z1 := z.1; rw [p0] at z1; cases z1)])
      · refine g_aload ok (dk m_RG_applyRenewals 12 rfl) (pc' := 25) rfl rfl ?_
        refine g_instN ok (dk m_RG_applyRenewals 13 rfl) (pc' := 28) rfl k_RG_127 (by decide +kernel) ty_9 hp ?_
        refine g_if_eq ok (dk m_RG_applyRenewals 14 rfl) (tgt := 79) (by decide) (pc' := 31) rfl (fun c_28 => ?_) (fun c_28 => absurd rfl c_28)
        refine g_iinc ok (dk m_RG_applyRenewals 40 rfl) (pc' := 82) rfl rfl (nI_1 k) rfl ?_
        refine g_goto ok (dk m_RG_applyRenewals 41 rfl) (pc' := 2) (by decide) ?_
        exact ih (k + 1) (by omega) _ p1 _ _ H1 hnq (by rw [← hv, AN, AN_1, if_neg (fun z => by have z1 := z.1; rw [p0] at z1; cases z1)])
      · refine g_aload ok (dk m_RG_applyRenewals 12 rfl) (pc' := 25) rfl rfl ?_
        refine g_instY ok (dk m_RG_applyRenewals 13 rfl) (pc' := 28) rfl k_RG_127 xc_10 ty_10 hp ?_
        refine g_if_eq ok (dk m_RG_applyRenewals 14 rfl) (tgt := 79) (by decide) (pc' := 31) rfl (fun c_28 => absurd c_28 (by decide)) (fun c_28 => ?_)
        refine g_aload ok (dk m_RG_applyRenewals 15 rfl) (pc' := 33) rfl rfl ?_
        refine g_castY ok (dk m_RG_applyRenewals 16 rfl) (pc' := 36) rfl k_RG_127 xc_10 ty_10 hp ?_
        refine g_astore_n ok (dk m_RG_applyRenewals 17 rfl) (pc' := 37) rfl (i := 3) rfl (Nat.le_of_ble_eq_true rfl) rfl ?_
        refine g_aload_n ok (dk m_RG_applyRenewals 18 rfl) (pc' := 38) rfl (i := 1) rfl rfl ?_
        refine g_aload_n ok (dk m_RG_applyRenewals 19 rfl) (pc' := 39) rfl (i := 3) rfl rfl ?_
        refine g_callV ok (dk m_RG_applyRenewals 20 rfl) (pc' := 42) rfl c_RG_283 (c_Ep_lets g 1 (by omega) hp H1.2.1) H1.2.1.1 rfl rfl (by simp [Value.category]) (by omega) rfl (rc' := 0) (rs' := 0) (by omega) (by omega) (fun rv h' hcc => ?_) (fun i h' hcc => by obtain ⟨e9, -⟩ := hcc; cases e9)
        obtain ⟨e9, e2⟩ := hcc
        have e3 := e2.symm
        subst e3
        cases e9
        refine g_if_eq ok (dk m_RG_applyRenewals 21 rfl) (tgt := 79) (by decide) (pc' := 45) rfl (fun c_42 => ?_) (fun c_42 => ?_)
        · refine g_iinc ok (dk m_RG_applyRenewals 40 rfl) (pc' := 82) rfl rfl (nI_1 k) rfl ?_
          refine g_goto ok (dk m_RG_applyRenewals 41 rfl) (pc' := 2) (by decide) ?_
          exact ih (k + 1) (by omega) _ p1 _ _ H1 hnq (by rw [← hv, AN, AN_1, if_neg (fun z => b2i_0 c_42 z.2)])
        · refine g_aload_n ok (dk m_RG_applyRenewals 22 rfl) (pc' := 46) rfl (i := 1) rfl rfl ?_
          refine g_getR ok (dk m_RG_applyRenewals 23 rfl) (pc' := 49) rfl f_RG_65 H1.2.1.1 rfl ?_
          refine g_aload_n ok (dk m_RG_applyRenewals 24 rfl) (pc' := 50) rfl (i := 3) rfl rfl ?_
          refine g_getR ok (dk m_RG_applyRenewals 25 rfl) (pc' := 53) rfl f_RG_287 hp rfl ?_
          refine g_aload_n ok (dk m_RG_applyRenewals 26 rfl) (pc' := 54) rfl (i := 3) rfl rfl ?_
          refine g_getR ok (dk m_RG_applyRenewals 27 rfl) (pc' := 57) rfl f_RG_288 hp rfl ?_
          refine g_aload_n ok (dk m_RG_applyRenewals 28 rfl) (pc' := 58) rfl (i := 1) rfl rfl ?_
          refine g_getR ok (dk m_RG_applyRenewals 29 rfl) (pc' := 61) rfl f_RG_136 H1.2.1.1 rfl ?_
          refine g_callV ok (dk m_RG_applyRenewals 30 rfl) (pc' := 64) rfl c_RG_291 (c_Tr_renew g (gQ p1.1 k).2.2.1 (gQ p1.1 k).2.2.2 (p1.2.1 0) 3 (by omega) H1.2.2.2 H1.2.1.2.1) H1.2.1.2.1.1 rfl rfl (by simp [Value.category]) (by omega) rfl (rc' := 0) (rs' := 0) (by omega) (by omega) (fun rv h' hcc => ?_) (fun i h' hcc => by obtain ⟨e9, -⟩ := hcc; cases e9)
          obtain ⟨e9, ht2, o2⟩ := hcc
          cases e9
          have H2 := H1.tT ht2 o2 (by rw [T_ren_2]; exact H1.2.2.2)
          have hp2 := o2.kp _ _ hp (fun z => by have q : w (qA D k) = 5 := H1.1.prT hk2; have q2 := H1.2.2.1 _ (ep_P_A (Or.inr (Or.inr z))); omega)
          refine g_aload_n ok (dk m_RG_applyRenewals 31 rfl) (pc' := 65) rfl (i := 1) rfl rfl ?_
          refine g_dup ok (dk m_RG_applyRenewals 32 rfl) (pc' := 66) rfl rfl ?_
          refine g_get ok (dk m_RG_applyRenewals 33 rfl) (pc' := 69) rfl f_RG_248 H2.2.1.1 rfl ?_
          refine g_iconst ok (dk m_RG_applyRenewals 34 rfl) (pc' := 70) rfl (v := 1) (by decide) ?_
          refine g_aload_n ok (dk m_RG_applyRenewals 35 rfl) (pc' := 71) rfl (i := 3) rfl rfl ?_
          refine g_getR ok (dk m_RG_applyRenewals 36 rfl) (pc' := 74) rfl f_RG_287 hp2 rfl ?_
          refine g_ishl ok (dk m_RG_applyRenewals 37 rfl) (pc' := 75) rfl ?_
          refine g_ior ok (dk m_RG_applyRenewals 38 rfl) (pc' := 76) rfl ?_
          refine g_put ok (dk m_RG_applyRenewals 39 rfl) (pc' := 79) rfl f_RG_248 (Or.inl rfl) H2.2.1.1 (Nat.le_of_ble_eq_true rfl) rfl rfl ?_
          refine g_gen (fun h3 e3 => ?_)
          have H3 := H2.tI 5 7 (by decide) e3
          clear e3
          refine g_iinc ok (dk m_RG_applyRenewals 40 rfl) (pc' := 82) rfl rfl (nI_1 k) rfl ?_
          refine g_goto ok (dk m_RG_applyRenewals 41 rfl) (pc' := 2) (by decide) ?_
          exact ih (k + 1) (by omega) _ _ _ _ H3 hnq (by rw [← hv, AN, AN_1, if_pos ⟨p0, b2i_n c_42⟩])
  refine g_iconst ok (dk m_RG_applyRenewals 0 rfl) (pc' := 1) rfl (v := 0) (by decide) ?_
  refine g_istore_n ok (dk m_RG_applyRenewals 1 rfl) (pc' := 2) rfl (i := 2) rfl (Nat.le_of_ble_eq_true rfl) rfl ?_
  exact loop (nq p.1) 0 (by omega) _ p _ _ H rfl rfl
