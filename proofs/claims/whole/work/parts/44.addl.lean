/-! ===== commit: additions and welcomes ===== -/
noncomputable def GL (p : G_T × e_T) (i : Nat) : G_T × e_T := by
  classical exact if ¬ (gK p.1 i).2 2 = -1 ∨ ¬ (gM p.1 (gK p.1 i).1).1 2 = -1 ∨ T_seats p.2.2.1 ((gM p.1 (gK p.1 i).1).1 0) then p else if T_low p.2.2.1 16 0 = -1 then p else
    (sK p.1 i ((gK p.1 i).1, upd (upd (gK p.1 i).2 2 (p.2.1 0)) 3 (T_low p.2.2.1 16 0)), upd p.2.1 6 (p.2.1 6 ||| ((1 : Int32) <<< (T_low p.2.2.1 16 0 &&& 31))), T_seat p.2.2.1 (ix (T_low p.2.2.1 16 0)) ((gM p.1 (gK p.1 i).1).1 0) ((gK p.1 i).2 1) (p.2.1 0), p.2.2.2)
theorem GL_k (p : G_T × e_T) (i : Nat) : gN (GL p i).1 = gN p.1 ∧ gQ (GL p i).1 = gQ p.1 ∧ gE (GL p i).1 = gE p.1 ∧ gM (GL p i).1 = gM p.1 ∧ gS (GL p i).1 = gS p.1 := by
  unfold GL
  split
  · exact ⟨rfl, rfl, rfl, rfl, rfl⟩
  · split
    · exact ⟨rfl, rfl, rfl, rfl, rfl⟩
    · exact ⟨rfl, rfl, rfl, rfl, rfl⟩
noncomputable def AA_1 (k : Nat) (p : G_T × e_T) : G_T × e_T := if (gQ p.1 k).1 = 0 then GL p (gQ p.1 k).2.1 else p
noncomputable def AA : Nat → Nat → G_T × e_T → G_T × e_T
  | 0, _, p => p
  | m + 1, k, p => AA m (k + 1) (AA_1 k p)
noncomputable def AW_1 (jn : Int32) (k : Nat) (p : G_T × e_T) : G_T × e_T :=
  if (gK p.1 k).2 2 = p.2.1 0 then (if E_lc (E_enc p.2) ((gK p.1 k).2 3) p.2.2.1.2 1 = -1 then (sS p.1 (S_open (gS p.1) ((gK p.1 k).2 0) 0 jn), E_enc p.2) else
    (sS p.1 (S_open (S_open (gS p.1) ((gK p.1 k).2 0) 0 jn) ((gK p.1 k).2 0) 0 (r_get 5 p.2.2.2 (E_lc (E_enc p.2) ((gK p.1 k).2 3) p.2.2.1.2 1))), E_enc (E_enc p.2))) else p
noncomputable def AW (jn : Int32) : Nat → Nat → G_T × e_T → G_T × e_T
  | 0, _, p => p
  | m + 1, k, p => AW jn m (k + 1) (AW_1 jn k p)
set_option maxHeartbeats 1000000 in
theorem c_RG_addLeaf (g : q_G) {h : q_H} {r : Nat} {w : Nat → Nat} {D : a_T} {ob : Nat → Option Nat} {x : Nat → Nat} {p : G_T × e_T} {i : Nat} (d : Nat) (hd : 3 ≤ d) (hi : i < np p.1) (hnp : np p.1 ≤ 60) (H : q_GE g h r w D ob x p) : MG g y_RG_addLeaf b_RG_addLeaf 5 none d 0 0 [.ref r, .ref (x 0), .ref (pA D i)] h (fun q h' => q = .inl none ∧ q_GE g h' r w D ob x (GL p i)) := by
  refine MG.of (by decide +kernel) (by simp [Value.category]) (Nat.le_of_ble_eq_true rfl) ?_
  intro Z A ok
  have hpk := H.1.pk hi
  have hm := H.1.mem (H.1.own hi)
  refine g_aload_n ok (dk m_RG_addLeaf 0 rfl) (pc' := 1) rfl (i := 2) rfl rfl ?_
  refine g_getR ok (dk m_RG_addLeaf 1 rfl) (pc' := 4) rfl f_RG_303 hpk rfl ?_
  refine g_astore_n ok (dk m_RG_addLeaf 2 rfl) (pc' := 5) rfl (i := 3) rfl (Nat.le_of_ble_eq_true rfl) rfl ?_
  refine g_aload_n ok (dk m_RG_addLeaf 3 rfl) (pc' := 6) rfl (i := 2) rfl rfl ?_
  refine g_callV ok (dk m_RG_addLeaf 4 rfl) (pc' := 9) rfl c_RG_307 (c_KP_isUsed g 0 hpk) hpk rfl rfl (by simp [Value.category]) (by omega) rfl (rc' := 0) (rs' := 0) (by omega) (by omega) (fun rv h' hcc => ?_) (fun i h' hcc => by obtain ⟨e9, -⟩ := hcc; cases e9)
  obtain ⟨e9, e2⟩ := hcc
  have e3 := e2.symm
  subst e3
  cases e9
  refine g_if_ne ok (dk m_RG_addLeaf 5 rfl) (tgt := 34) (by decide) (pc' := 12) rfl (fun c_9 => ?_) (fun c_9 => ?_)
  · exact g_vret ok (dk m_RG_addLeaf 16 rfl) rfl ⟨rfl, by rw [GL, if_pos (Or.inl (b2i_n c_9))]; exact H⟩
  · refine g_aload_n ok (dk m_RG_addLeaf 6 rfl) (pc' := 13) rfl (i := 3) rfl rfl ?_
    refine g_get ok (dk m_RG_addLeaf 7 rfl) (pc' := 16) rfl f_RG_133 hm.1 rfl ?_
    refine g_iconst ok (dk m_RG_addLeaf 8 rfl) (pc' := 17) rfl (v := (-1)) (by decide) ?_
    refine g_icmp_ne ok (dk m_RG_addLeaf 9 rfl) (tgt := 34) (by decide) (pc' := 20) rfl (fun c_17 => ?_) (fun c_17 => ?_)
    · exact g_vret ok (dk m_RG_addLeaf 16 rfl) rfl ⟨rfl, by rw [GL, if_pos (Or.inr (Or.inl c_17))]; exact H⟩
    · refine g_aload_n ok (dk m_RG_addLeaf 10 rfl) (pc' := 21) rfl (i := 1) rfl rfl ?_
      refine g_getR ok (dk m_RG_addLeaf 11 rfl) (pc' := 24) rfl f_RG_65 H.2.1.1 rfl ?_
      refine g_aload_n ok (dk m_RG_addLeaf 12 rfl) (pc' := 25) rfl (i := 3) rfl rfl ?_
      refine g_getR ok (dk m_RG_addLeaf 13 rfl) (pc' := 28) rfl f_RG_69 hm.1 rfl ?_
      refine g_callV ok (dk m_RG_addLeaf 14 rfl) (pc' := 31) rfl c_RG_311 (c_Tr_seats g _ 1 (by omega) H.2.1.2.1) H.2.1.2.1.1 rfl rfl (by simp [Value.category]) (by omega) rfl (rc' := 0) (rs' := 0) (by omega) (by omega) (fun rv h' hcc => ?_) (fun i h' hcc => by obtain ⟨e9, -⟩ := hcc; cases e9)
      obtain ⟨e9, e2⟩ := hcc
      have e3 := e2.symm
      subst e3
      cases e9
      refine g_if_eq ok (dk m_RG_addLeaf 15 rfl) (tgt := 35) (by decide) (pc' := 34) rfl (fun c_31 => ?_) (fun c_31 => ?_)
      · have hno : ¬ (¬ (gK p.1 i).2 2 = -1 ∨ ¬ (gM p.1 (gK p.1 i).1).1 2 = -1 ∨ T_seats p.2.2.1 ((gM p.1 (gK p.1 i).1).1 0)) := by
          rintro (z | z | z)
          · exact b2i_0 c_9 z
          · exact z c_17
          · exact b2i_0 c_31 z
        refine g_aload_n ok (dk m_RG_addLeaf 17 rfl) (pc' := 36) rfl (i := 1) rfl rfl ?_
        refine g_getR ok (dk m_RG_addLeaf 18 rfl) (pc' := 39) rfl f_RG_65 H.2.1.1 rfl ?_
        refine g_callV ok (dk m_RG_addLeaf 19 rfl) (pc' := 42) rfl c_RG_314 (c_Tr_lowestFreeLeaf g 2 (by omega) H.2.1.2.1) H.2.1.2.1.1 rfl rfl (by simp [Value.category]) (by omega) rfl (rc' := 0) (rs' := 0) (by omega) (by omega) (fun rv h' hcc => ?_) (fun i h' hcc => by obtain ⟨e9, -⟩ := hcc; cases e9)
        obtain ⟨e9, e2⟩ := hcc
        have e3 := e2.symm
        subst e3
        cases e9
        refine g_istore ok (dk m_RG_addLeaf 20 rfl) (pc' := 44) rfl (Nat.le_of_ble_eq_true rfl) rfl ?_
        refine g_iload ok (dk m_RG_addLeaf 21 rfl) (pc' := 46) rfl rfl ?_
        refine g_iconst ok (dk m_RG_addLeaf 22 rfl) (pc' := 47) rfl (v := (-1)) (by decide) ?_
        refine g_icmp_ne ok (dk m_RG_addLeaf 23 rfl) (tgt := 51) (by decide) (pc' := 50) rfl (fun c_47 => ?_) (fun c_47 => ?_)
        · obtain ⟨l, hl, hll⟩ := (T_low_or p.2.2.1 16 0 (by omega)).resolve_left c_47
          have hG : GL p i = (sK p.1 i ((gK p.1 i).1, upd (upd (gK p.1 i).2 2 (p.2.1 0)) 3 (nI l)), upd p.2.1 6 (p.2.1 6 ||| ((1 : Int32) <<< (nI l &&& 31))), T_seat p.2.2.1 l ((gM p.1 (gK p.1 i).1).1 0) ((gK p.1 i).2 1) (p.2.1 0), p.2.2.2) := by rw [GL, if_neg hno, if_neg c_47, hll, ix_nI (by omega)]
          rw [hll]
          refine g_aload_n ok (dk m_RG_addLeaf 25 rfl) (pc' := 52) rfl (i := 1) rfl rfl ?_
          refine g_getR ok (dk m_RG_addLeaf 26 rfl) (pc' := 55) rfl f_RG_65 H.2.1.1 rfl ?_
          refine g_iload ok (dk m_RG_addLeaf 27 rfl) (pc' := 57) rfl rfl ?_
          refine g_aload_n ok (dk m_RG_addLeaf 28 rfl) (pc' := 58) rfl (i := 3) rfl rfl ?_
          refine g_getR ok (dk m_RG_addLeaf 29 rfl) (pc' := 61) rfl f_RG_69 hm.1 rfl ?_
          refine g_aload_n ok (dk m_RG_addLeaf 30 rfl) (pc' := 62) rfl (i := 2) rfl rfl ?_
          refine g_getR ok (dk m_RG_addLeaf 31 rfl) (pc' := 65) rfl f_RG_317 hpk rfl ?_
          refine g_aload_n ok (dk m_RG_addLeaf 32 rfl) (pc' := 66) rfl (i := 1) rfl rfl ?_
          refine g_getR ok (dk m_RG_addLeaf 33 rfl) (pc' := 69) rfl f_RG_136 H.2.1.1 rfl ?_
          refine g_callV ok (dk m_RG_addLeaf 34 rfl) (pc' := 72) rfl c_RG_72 (c_Tr_seat g _ _ _ 2 (by omega) hl H.2.2.2 H.2.1.2.1) H.2.1.2.1.1 rfl rfl (by simp [Value.category]) (by omega) rfl (rc' := 0) (rs' := 0) (by omega) (by omega) (fun rv h' hcc => ?_) (fun i h' hcc => by obtain ⟨e9, -⟩ := hcc; cases e9)
          obtain ⟨e9, ht1, o1⟩ := hcc
          cases e9
          have H1 := H.tT ht1 o1 (T_seat_2 H.2.2.2 _ _ _ _)
          refine g_aload_n ok (dk m_RG_addLeaf 35 rfl) (pc' := 73) rfl (i := 1) rfl rfl ?_
          refine g_dup ok (dk m_RG_addLeaf 36 rfl) (pc' := 74) rfl rfl ?_
          refine g_get ok (dk m_RG_addLeaf 37 rfl) (pc' := 77) rfl f_RG_251 H1.2.1.1 rfl ?_
          refine g_iconst ok (dk m_RG_addLeaf 38 rfl) (pc' := 78) rfl (v := 1) (by decide) ?_
          refine g_iload ok (dk m_RG_addLeaf 39 rfl) (pc' := 80) rfl rfl ?_
          refine g_ishl ok (dk m_RG_addLeaf 40 rfl) (pc' := 81) rfl ?_
          refine g_ior ok (dk m_RG_addLeaf 41 rfl) (pc' := 82) rfl ?_
          refine g_put ok (dk m_RG_addLeaf 42 rfl) (pc' := 85) rfl f_RG_251 (Or.inl rfl) H1.2.1.1 (Nat.le_of_ble_eq_true rfl) rfl rfl ?_
          refine g_gen (fun h2 e2 => ?_)
          have H2 := H1.tI 6 8 (by decide) e2
          clear e2
          refine g_aload_n ok (dk m_RG_addLeaf 43 rfl) (pc' := 86) rfl (i := 2) rfl rfl ?_
          refine g_aload_n ok (dk m_RG_addLeaf 44 rfl) (pc' := 87) rfl (i := 1) rfl rfl ?_
          refine g_getR ok (dk m_RG_addLeaf 45 rfl) (pc' := 90) rfl f_RG_136 H2.2.1.1 rfl ?_
          refine g_put ok (dk m_RG_addLeaf 46 rfl) (pc' := 93) rfl f_RG_320 (Or.inl rfl) (H2.1.pk hi) (Nat.le_of_ble_eq_true rfl) rfl rfl ?_
          refine g_gen (fun h3 e3 => ?_)
          have hq3 : h3 (pA D i) = some (.inl (7, k_fs (mA D (gK p.1 i).1) (upd (gK p.1 i).2 2 (p.2.1 0)))) := by rw [e3, q_up_s]; rfl
          have k3 := q_kp.up (q_kp.rf (X := fun y => y = pA D i)) rfl e3
          clear e3
          refine g_aload_n ok (dk m_RG_addLeaf 47 rfl) (pc' := 94) rfl (i := 2) rfl rfl ?_
          refine g_iload ok (dk m_RG_addLeaf 48 rfl) (pc' := 96) rfl rfl ?_
          refine g_put ok (dk m_RG_addLeaf 49 rfl) (pc' := 99) rfl f_RG_321 (Or.inl rfl) hq3 (Nat.le_of_ble_eq_true rfl) rfl rfl ?_
          refine g_gen (fun h4 e4 => ?_)
          have hq4 : h4 (pA D i) = some (.inl (7, k_fs (mA D (gK p.1 i).1) (upd (upd (gK p.1 i).2 2 (p.2.1 0)) 3 (nI l)))) := by rw [e4, q_up_s]; rfl
          have k4 := q_kp.up k3 rfl e4
          have H4 := H2.tK hi hnp hq4 k4
          exact g_vret ok (dk m_RG_addLeaf 50 rfl) rfl ⟨rfl, by rw [hG]; exact H4⟩
        · exact g_vret ok (dk m_RG_addLeaf 24 rfl) rfl ⟨rfl, by rw [GL, if_neg hno, if_pos c_47]; exact H⟩
      · exact g_vret ok (dk m_RG_addLeaf 16 rfl) rfl ⟨rfl, by rw [GL, if_pos (Or.inr (Or.inr (b2i_n c_31)))]; exact H⟩
set_option maxHeartbeats 1000000 in
theorem c_RG_applyAdditions (g : q_G) {h : q_H} {r : Nat} {w : Nat → Nat} {D : a_T} {ob : Nat → Option Nat} {x : Nat → Nat} {p : G_T × e_T} (hnp0 : np p.1 ≤ 60) (d : Nat) (hd : 4 ≤ d) (hn : nq p.1 < 2 ^ 31) (H : q_GE g h r w D ob x p) : MG g y_RG_applyAdditions b_RG_applyAdditions 5 none d 0 0 [.ref r, .ref (x 0)] h (fun q h' => q = .inl none ∧ q_GE g h' r w D ob x (AA (nq p.1) 0 p)) := by
  refine MG.of (by decide +kernel) (by simp [Value.category]) (Nat.le_of_ble_eq_true rfl) ?_
  intro Z A ok
  have loop : ∀ (m k : Nat), k + m = nq p.1 → ∀ (h1 : q_H) (p1 : G_T × e_T) (x3 x4 : Option Value), q_GE g h1 r w D ob x p1 → nq p1.1 = nq p.1 → np p1.1 ≤ 60 → AA m k p1 = AA (nq p.1) 0 p → GW g Z A (fun q h' => q = .inl none ∧ q_GE g h' r w D ob x (AA (nq p.1) 0 p)) 0 0 h1 2 [some (.ref r), some (.ref (x 0)), some (.int (nI k)), x3, x4] [] := by
    intro m
    induction m with
    | zero =>
      intro k hk h1 p1 x3 x4 H1 hnq hnp hv
      refine g_iload_n ok (dk m_RG_applyAdditions 2 rfl) (pc' := 3) rfl (i := 2) rfl rfl ?_
      refine g_aload_n ok (dk m_RG_applyAdditions 3 rfl) (pc' := 4) rfl (i := 0) rfl rfl ?_
      refine g_get ok (dk m_RG_applyAdditions 4 rfl) (pc' := 7) rfl f_RG_26 H1.1.fr rfl ?_
      obtain ⟨l0, l1, hlz⟩ := H1.1.lq.size
      refine g_callV ok (dk m_RG_applyAdditions 5 rfl) (pc' := 10) rfl c_RG_86 (c_AL_size g 0 hlz) hlz rfl rfl (by simp [Value.category]) (by omega) rfl (rc' := 0) (rs' := 0) (by omega) (by omega) (fun rv h' hcc => ?_) (fun i h' hcc => by obtain ⟨e9, -⟩ := hcc; cases e9)
      obtain ⟨e9, e2⟩ := hcc
      have e3 := e2.symm
      subst e3
      cases e9
      refine g_icmp_ge ok (dk m_RG_applyAdditions 6 rfl) (tgt := 52) (by decide) (pc' := 13) rfl (fun c_10 => ?_) (fun c_10 => absurd (show nI (nq p1.1) ≤ nI k from by rw [show k = nq p1.1 by omega]; exact Int32.le_refl _) c_10)
      exact g_vret ok (dk m_RG_applyAdditions 25 rfl) rfl ⟨rfl, by rw [← hv]; exact H1⟩
    | succ m ih =>
      intro k hk h1 p1 x3 x4 H1 hnq hnp hv
      have hk2 : k < nq p1.1 := by omega
      refine g_iload_n ok (dk m_RG_applyAdditions 2 rfl) (pc' := 3) rfl (i := 2) rfl rfl ?_
      refine g_aload_n ok (dk m_RG_applyAdditions 3 rfl) (pc' := 4) rfl (i := 0) rfl rfl ?_
      refine g_get ok (dk m_RG_applyAdditions 4 rfl) (pc' := 7) rfl f_RG_26 H1.1.fr rfl ?_
      obtain ⟨l0, l1, hlz⟩ := H1.1.lq.size
      refine g_callV ok (dk m_RG_applyAdditions 5 rfl) (pc' := 10) rfl c_RG_86 (c_AL_size g 0 hlz) hlz rfl rfl (by simp [Value.category]) (by omega) rfl (rc' := 0) (rs' := 0) (by omega) (by omega) (fun rv h' hcc => ?_) (fun i h' hcc => by obtain ⟨e9, -⟩ := hcc; cases e9)
      obtain ⟨e9, e2⟩ := hcc
      have e3 := e2.symm
      subst e3
      cases e9
      refine g_icmp_ge ok (dk m_RG_applyAdditions 6 rfl) (tgt := 52) (by decide) (pc' := 13) rfl (fun c_10 => absurd c_10 (nI_ge hk2 (by omega))) (fun c_10 => ?_)
      refine g_aload_n ok (dk m_RG_applyAdditions 7 rfl) (pc' := 14) rfl (i := 0) rfl rfl ?_
      refine g_get ok (dk m_RG_applyAdditions 8 rfl) (pc' := 17) rfl f_RG_26 H1.1.fr rfl ?_
      refine g_iload_n ok (dk m_RG_applyAdditions 9 rfl) (pc' := 18) rfl (i := 2) rfl rfl ?_
      refine g_callV ok (dk m_RG_applyAdditions 10 rfl) (pc' := 21) rfl c_RG_112 (c_AL_get g 2 (by omega) H1.1.lq hk2) hlz rfl rfl (by simp [Value.category]) (by omega) rfl (rc' := 0) (rs' := 0) (by omega) (by omega) (fun rv h' hcc => ?_) (fun i h' hcc => by obtain ⟨e9, -⟩ := hcc; cases e9)
      obtain ⟨e9, e2⟩ := hcc
      have e3 := e2.symm
      subst e3
      cases e9
      refine g_astore ok (dk m_RG_applyAdditions 11 rfl) (pc' := 23) rfl (Nat.le_of_ble_eq_true rfl) rfl ?_
      rcases H1.1.pr hk2 with ⟨p0, hp1, hp⟩ | ⟨p0, hp⟩ | ⟨p0, hp⟩
      · refine g_aload ok (dk m_RG_applyAdditions 12 rfl) (pc' := 25) rfl rfl ?_
        refine g_instY ok (dk m_RG_applyAdditions 13 rfl) (pc' := 28) rfl k_RG_110 xc_8 ty_8 hp ?_
        refine g_if_eq ok (dk m_RG_applyAdditions 14 rfl) (tgt := 46) (by decide) (pc' := 31) rfl (fun c_28 => absurd c_28 (by decide)) (fun c_28 => ?_)
        refine g_aload ok (dk m_RG_applyAdditions 15 rfl) (pc' := 33) rfl rfl ?_
        refine g_castY ok (dk m_RG_applyAdditions 16 rfl) (pc' := 36) rfl k_RG_110 xc_8 ty_8 hp ?_
        refine g_astore_n ok (dk m_RG_applyAdditions 17 rfl) (pc' := 37) rfl (i := 3) rfl (Nat.le_of_ble_eq_true rfl) rfl ?_
        refine g_aload_n ok (dk m_RG_applyAdditions 18 rfl) (pc' := 38) rfl (i := 0) rfl rfl ?_
        refine g_aload_n ok (dk m_RG_applyAdditions 19 rfl) (pc' := 39) rfl (i := 1) rfl rfl ?_
        refine g_aload_n ok (dk m_RG_applyAdditions 20 rfl) (pc' := 40) rfl (i := 3) rfl rfl ?_
        refine g_getR ok (dk m_RG_applyAdditions 21 rfl) (pc' := 43) rfl f_RG_295 hp rfl ?_
        refine g_callV ok (dk m_RG_applyAdditions 22 rfl) (pc' := 46) rfl c_RG_299 (c_RG_addLeaf g 3 (by omega) hp1 hnp H1) H1.1.fr rfl rfl (by simp [Value.category]) (by omega) rfl (rc' := 0) (rs' := 0) (by omega) (by omega) (fun rv h' hcc => ?_) (fun i h' hcc => by obtain ⟨e9, -⟩ := hcc; cases e9)
        obtain ⟨e9, H2⟩ := hcc
        cases e9
        refine g_iinc ok (dk m_RG_applyAdditions 23 rfl) (pc' := 49) rfl rfl (nI_1 k) rfl ?_
        refine g_goto ok (dk m_RG_applyAdditions 24 rfl) (pc' := 2) (by decide) ?_
        exact ih (k + 1) (by omega) _ _ _ _ H2 (by rw [← hnq]; exact congrFun (GL_k _ _).1 1) (by show gN (GL p1 _).1 0 ≤ 60; rw [(GL_k _ _).1]; exact hnp) (by rw [← hv, AA, AA_1, if_pos p0])
      · refine g_aload ok (dk m_RG_applyAdditions 12 rfl) (pc' := 25) rfl rfl ?_
        refine g_instN ok (dk m_RG_applyAdditions 13 rfl) (pc' := 28) rfl k_RG_110 (by decide +kernel) ty_9 hp ?_
        refine g_if_eq ok (dk m_RG_applyAdditions 14 rfl) (tgt := 46) (by decide) (pc' := 31) rfl (fun c_28 => ?_) (fun c_28 => absurd rfl c_28)
        refine g_iinc ok (dk m_RG_applyAdditions 23 rfl) (pc' := 49) rfl rfl (nI_1 k) rfl ?_
        refine g_goto ok (dk m_RG_applyAdditions 24 rfl) (pc' := 2) (by decide) ?_
        exact ih (k + 1) (by omega) _ p1 _ _ H1 hnq hnp (by rw [← hv, AA, AA_1, if_neg (fun z => by have z1 := z; rw [p0] at z1; cases z1)])
      · refine g_aload ok (dk m_RG_applyAdditions 12 rfl) (pc' := 25) rfl rfl ?_
        refine g_instN ok (dk m_RG_applyAdditions 13 rfl) (pc' := 28) rfl k_RG_110 (by decide +kernel) ty_10 hp ?_
        refine g_if_eq ok (dk m_RG_applyAdditions 14 rfl) (tgt := 46) (by decide) (pc' := 31) rfl (fun c_28 => ?_) (fun c_28 => absurd rfl c_28)
        refine g_iinc ok (dk m_RG_applyAdditions 23 rfl) (pc' := 49) rfl rfl (nI_1 k) rfl ?_
        refine g_goto ok (dk m_RG_applyAdditions 24 rfl) (pc' := 2) (by decide) ?_
        exact ih (k + 1) (by omega) _ p1 _ _ H1 hnq hnp (by rw [← hv, AA, AA_1, if_neg (fun z => by have z1 := z; rw [p0] at z1; cases z1)])
  refine g_iconst ok (dk m_RG_applyAdditions 0 rfl) (pc' := 1) rfl (v := 0) (by decide) ?_
  refine g_istore_n ok (dk m_RG_applyAdditions 1 rfl) (pc' := 2) rfl (i := 2) rfl (Nat.le_of_ble_eq_true rfl) rfl ?_
  exact loop (nq p.1) 0 (by omega) _ p _ _ H rfl hnp0 rfl
set_option maxHeartbeats 1000000 in
theorem c_RG_welcomeAdded (g : q_G) {h : q_H} {r : Nat} {w : Nat → Nat} {D : a_T} {ob : Nat → Option Nat} {x : Nat → Nat} {p : G_T × e_T} (jn : Int32) (d : Nat) (hd : 4 ≤ d) (hn : np p.1 < 2 ^ 31) (H : q_GE g h r w D ob x p) : MG g y_RG_welcomeAdded b_RG_welcomeAdded 6 none d 0 0 [.ref r, .ref (x 0), .int jn] h (fun q h' => q = .inl none ∧ q_GE g h' r w D ob x (AW jn (np p.1) 0 p)) := by
  refine MG.of (by decide +kernel) (by simp [Value.category]) (Nat.le_of_ble_eq_true rfl) ?_
  intro Z A ok
  have loop : ∀ (m k : Nat), k + m = np p.1 → ∀ (h1 : q_H) (p1 : G_T × e_T) (x4 x5 : Option Value), q_GE g h1 r w D ob x p1 → np p1.1 = np p.1 → AW jn m k p1 = AW jn (np p.1) 0 p → GW g Z A (fun q h' => q = .inl none ∧ q_GE g h' r w D ob x (AW jn (np p.1) 0 p)) 0 0 h1 2 [some (.ref r), some (.ref (x 0)), some (.int jn), some (.int (nI k)), x4, x5] [] := by
    intro m
    induction m with
    | zero =>
      intro k hk h1 p1 x4 x5 H1 hnq hv
      refine g_iload_n ok (dk m_RG_welcomeAdded 2 rfl) (pc' := 3) rfl (i := 3) rfl rfl ?_
      refine g_aload_n ok (dk m_RG_welcomeAdded 3 rfl) (pc' := 4) rfl (i := 0) rfl rfl ?_
      refine g_get ok (dk m_RG_welcomeAdded 4 rfl) (pc' := 7) rfl f_RG_23 H1.1.fr rfl ?_
      obtain ⟨l0, l1, hlz⟩ := H1.1.lp.size
      refine g_callV ok (dk m_RG_welcomeAdded 5 rfl) (pc' := 10) rfl c_RG_86 (c_AL_size g 0 hlz) hlz rfl rfl (by simp [Value.category]) (by omega) rfl (rc' := 0) (rs' := 0) (by omega) (by omega) (fun rv h' hcc => ?_) (fun i h' hcc => by obtain ⟨e9, -⟩ := hcc; cases e9)
      obtain ⟨e9, e2⟩ := hcc
      have e3 := e2.symm
      subst e3
      cases e9
      refine g_icmp_ge ok (dk m_RG_welcomeAdded 6 rfl) (tgt := 97) (by decide) (pc' := 13) rfl (fun c_10 => ?_) (fun c_10 => absurd (show nI (np p1.1) ≤ nI k from by rw [show k = np p1.1 by omega]; exact Int32.le_refl _) c_10)
      exact g_vret ok (dk m_RG_welcomeAdded 45 rfl) rfl ⟨rfl, by rw [← hv]; exact H1⟩
    | succ m ih =>
      intro k hk h1 p1 x4 x5 H1 hnq hv
      have hk2 : k < np p1.1 := by omega
      refine g_iload_n ok (dk m_RG_welcomeAdded 2 rfl) (pc' := 3) rfl (i := 3) rfl rfl ?_
      refine g_aload_n ok (dk m_RG_welcomeAdded 3 rfl) (pc' := 4) rfl (i := 0) rfl rfl ?_
      refine g_get ok (dk m_RG_welcomeAdded 4 rfl) (pc' := 7) rfl f_RG_23 H1.1.fr rfl ?_
      obtain ⟨l0, l1, hlz⟩ := H1.1.lp.size
      refine g_callV ok (dk m_RG_welcomeAdded 5 rfl) (pc' := 10) rfl c_RG_86 (c_AL_size g 0 hlz) hlz rfl rfl (by simp [Value.category]) (by omega) rfl (rc' := 0) (rs' := 0) (by omega) (by omega) (fun rv h' hcc => ?_) (fun i h' hcc => by obtain ⟨e9, -⟩ := hcc; cases e9)
      obtain ⟨e9, e2⟩ := hcc
      have e3 := e2.symm
      subst e3
      cases e9
      refine g_icmp_ge ok (dk m_RG_welcomeAdded 6 rfl) (tgt := 97) (by decide) (pc' := 13) rfl (fun c_10 => absurd c_10 (nI_ge hk2 (by omega))) (fun c_10 => ?_)
      refine g_aload_n ok (dk m_RG_welcomeAdded 7 rfl) (pc' := 14) rfl (i := 0) rfl rfl ?_
      refine g_get ok (dk m_RG_welcomeAdded 8 rfl) (pc' := 17) rfl f_RG_23 H1.1.fr rfl ?_
      refine g_iload_n ok (dk m_RG_welcomeAdded 9 rfl) (pc' := 18) rfl (i := 3) rfl rfl ?_
      refine g_callV ok (dk m_RG_welcomeAdded 10 rfl) (pc' := 21) rfl c_RG_112 (c_AL_get g 2 (by omega) H1.1.lp hk2) hlz rfl rfl (by simp [Value.category]) (by omega) rfl (rc' := 0) (rs' := 0) (by omega) (by omega) (fun rv h' hcc => ?_) (fun i h' hcc => by obtain ⟨e9, -⟩ := hcc; cases e9)
      obtain ⟨e9, e2⟩ := hcc
      have e3 := e2.symm
      subst e3
      cases e9
      refine g_castY ok (dk m_RG_welcomeAdded 11 rfl) (pc' := 24) rfl k_RG_96 xc_7 ty_7 (H1.1.pk hk2) ?_
      refine g_astore ok (dk m_RG_welcomeAdded 12 rfl) (pc' := 26) rfl (Nat.le_of_ble_eq_true rfl) rfl ?_
      refine g_aload ok (dk m_RG_welcomeAdded 13 rfl) (pc' := 28) rfl rfl ?_
      refine g_get ok (dk m_RG_welcomeAdded 14 rfl) (pc' := 31) rfl f_RG_320 (H1.1.pk hk2) rfl ?_
      refine g_aload_n ok (dk m_RG_welcomeAdded 15 rfl) (pc' := 32) rfl (i := 1) rfl rfl ?_
      refine g_getR ok (dk m_RG_welcomeAdded 16 rfl) (pc' := 35) rfl f_RG_136 H1.2.1.1 rfl ?_
      refine g_icmp_ne ok (dk m_RG_welcomeAdded 17 rfl) (tgt := 91) (by decide) (pc' := 38) rfl (fun c_35 => ?_) (fun c_35 => ?_)
      · refine g_iinc ok (dk m_RG_welcomeAdded 43 rfl) (pc' := 94) rfl rfl (nI_1 k) rfl ?_
        refine g_goto ok (dk m_RG_welcomeAdded 44 rfl) (pc' := 2) (by decide) ?_
        exact ih (k + 1) (by omega) _ p1 _ _ H1 hnq (by rw [← hv, AW, AW_1, if_neg c_35])
      · refine g_aload_n ok (dk m_RG_welcomeAdded 18 rfl) (pc' := 39) rfl (i := 1) rfl rfl ?_
        refine g_aload_n ok (dk m_RG_welcomeAdded 19 rfl) (pc' := 40) rfl (i := 0) rfl rfl ?_
        refine g_get ok (dk m_RG_welcomeAdded 20 rfl) (pc' := 43) rfl f_RG_12 H1.1.fr rfl ?_
        refine g_aload ok (dk m_RG_welcomeAdded 21 rfl) (pc' := 45) rfl rfl ?_
        refine g_getR ok (dk m_RG_welcomeAdded 22 rfl) (pc' := 48) rfl f_RG_322 (H1.1.pk hk2) rfl ?_
        refine g_iload_n ok (dk m_RG_welcomeAdded 23 rfl) (pc' := 49) rfl (i := 2) rfl rfl ?_
        refine g_callV ok (dk m_RG_welcomeAdded 24 rfl) (pc' := 52) rfl c_RG_325 (c_Ep_encrypt g _ _ 3 (by omega) H1.2.1 H1.1.sec H1.es) H1.2.1.1 rfl rfl (by simp [Value.category]) (by omega) rfl (rc' := 0) (rs' := 0) (by omega) (by omega) (fun rv h' hcc => ?_) (fun i h' hcc => by obtain ⟨e9, -⟩ := hcc; cases e9)
        obtain ⟨e9, he2, hs2, o2⟩ := hcc
        cases e9
        have H2 := H1.tES he2 hs2 o2 H1.2.2.2
        refine g_aload_n ok (dk m_RG_welcomeAdded 25 rfl) (pc' := 53) rfl (i := 1) rfl rfl ?_
        refine g_aload ok (dk m_RG_welcomeAdded 26 rfl) (pc' := 55) rfl rfl ?_
        refine g_get ok (dk m_RG_welcomeAdded 27 rfl) (pc' := 58) rfl f_RG_321 (H2.1.pk hk2) rfl ?_
        refine g_callV ok (dk m_RG_welcomeAdded 28 rfl) (pc' := 61) rfl c_RG_329 (c_Ep_lowestCountingOver g _ 1 (by omega) H2.2.2.2 H2.2.1) H2.2.1.1 rfl rfl (by simp [Value.category]) (by omega) rfl (rc' := 0) (rs' := 0) (by omega) (by omega) (fun rv h' hcc => ?_) (fun i h' hcc => by obtain ⟨e9, -⟩ := hcc; cases e9)
        obtain ⟨e9, e2⟩ := hcc
        have e3 := e2.symm
        subst e3
        cases e9
        refine g_istore ok (dk m_RG_welcomeAdded 29 rfl) (pc' := 63) rfl (Nat.le_of_ble_eq_true rfl) rfl ?_
        refine g_iload ok (dk m_RG_welcomeAdded 30 rfl) (pc' := 65) rfl rfl ?_
        refine g_iconst ok (dk m_RG_welcomeAdded 31 rfl) (pc' := 66) rfl (v := (-1)) (by decide) ?_
        refine g_icmp_eq ok (dk m_RG_welcomeAdded 32 rfl) (tgt := 91) (by decide) (pc' := 69) rfl (fun c_66 => ?_) (fun c_66 => ?_)
        · refine g_iinc ok (dk m_RG_welcomeAdded 43 rfl) (pc' := 94) rfl rfl (nI_1 k) rfl ?_
          refine g_goto ok (dk m_RG_welcomeAdded 44 rfl) (pc' := 2) (by decide) ?_
          exact ih (k + 1) (by omega) _ _ _ _ H2 hnq (by rw [← hv, AW, AW_1, if_pos c_35, if_pos (show E_lc (E_enc p1.2) ((gK p1.1 k).2 3) p1.2.2.1.2 1 = -1 from c_66)])
        · refine g_aload_n ok (dk m_RG_welcomeAdded 33 rfl) (pc' := 70) rfl (i := 1) rfl rfl ?_
          refine g_aload_n ok (dk m_RG_welcomeAdded 34 rfl) (pc' := 71) rfl (i := 0) rfl rfl ?_
          refine g_get ok (dk m_RG_welcomeAdded 35 rfl) (pc' := 74) rfl f_RG_12 H2.1.fr rfl ?_
          refine g_aload ok (dk m_RG_welcomeAdded 36 rfl) (pc' := 76) rfl rfl ?_
          refine g_getR ok (dk m_RG_welcomeAdded 37 rfl) (pc' := 79) rfl f_RG_322 (H2.1.pk hk2) rfl ?_
          refine g_aload_n ok (dk m_RG_welcomeAdded 38 rfl) (pc' := 80) rfl (i := 1) rfl rfl ?_
          refine g_getR ok (dk m_RG_welcomeAdded 39 rfl) (pc' := 83) rfl f_RG_332 H2.2.1.1 rfl ?_
          refine g_iload ok (dk m_RG_welcomeAdded 40 rfl) (pc' := 85) rfl rfl ?_
          refine g_callV ok (dk m_RG_welcomeAdded 41 rfl) (pc' := 88) rfl c_RG_193 (c_Row_get g _ 0 H2.2.1.2.2.1 H2.2.1.2.2.2.1 (by decide)) H2.2.1.2.2.1 rfl rfl (by simp [Value.category]) (by omega) rfl (rc' := 0) (rs' := 0) (by omega) (by omega) (fun rv h' hcc => ?_) (fun i h' hcc => by obtain ⟨e9, -⟩ := hcc; cases e9)
          obtain ⟨e9, e2⟩ := hcc
          have e3 := e2.symm
          subst e3
          cases e9
          refine g_callV ok (dk m_RG_welcomeAdded 42 rfl) (pc' := 91) rfl c_RG_325 (c_Ep_encrypt g _ _ 3 (by omega) H2.2.1 H2.1.sec H2.es) H2.2.1.1 rfl rfl (by simp [Value.category]) (by omega) rfl (rc' := 0) (rs' := 0) (by omega) (by omega) (fun rv h' hcc => ?_) (fun i h' hcc => by obtain ⟨e9, -⟩ := hcc; cases e9)
          obtain ⟨e9, he2, hs2, o2⟩ := hcc
          cases e9
          have H3 := H2.tES he2 hs2 o2 H2.2.2.2
          refine g_iinc ok (dk m_RG_welcomeAdded 43 rfl) (pc' := 94) rfl rfl (nI_1 k) rfl ?_
          refine g_goto ok (dk m_RG_welcomeAdded 44 rfl) (pc' := 2) (by decide) ?_
          exact ih (k + 1) (by omega) _ _ _ _ H3 hnq (by rw [← hv, AW, AW_1, if_pos c_35, if_neg (show ¬ E_lc (E_enc p1.2) ((gK p1.1 k).2 3) p1.2.2.1.2 1 = -1 from c_66)]; rfl)
  refine g_iconst ok (dk m_RG_welcomeAdded 0 rfl) (pc' := 1) rfl (v := 0) (by decide) ?_
  refine g_istore_n ok (dk m_RG_welcomeAdded 1 rfl) (pc' := 2) rfl (i := 3) rfl (Nat.le_of_ble_eq_true rfl) rfl ?_
  exact loop (np p.1) 0 (by omega) _ p _ _ H rfl rfl
