/-! ===== come ===== -/
def J_aw (G : G_T) (i k : Nat) : Prop := (gK G k).1 = i ∧ ¬ (gK G k).2 2 = -1 ∧ (gK G k).2 4 = 0
def J_lt (G : G_T) (k : Nat) (b : Option Nat) : Prop := ∀ q, b = some q → (gK G k).2 2 < (gK G q).2 2
noncomputable def J_1 (G : G_T) (i k : Nat) (b : Option Nat) : Option Nat := by
  classical exact if J_aw G i k ∧ J_lt G k b then some k else b
noncomputable def J_m (G : G_T) (i : Nat) : Nat → Nat → Option Nat → Option Nat
  | 0, _, b => b
  | m + 1, k, b => J_m G i m (k + 1) (J_1 G i k b)
noncomputable def O_joi1 (G : G_T) (i q : Nat) : Option G_T := by
  classical exact if r_in (ne G) ((gK G q).2 2) then some (sM (sK G q ((gK G q).1, upd (gK G q).2 4 1)) i (M_enter (gM G i) (gE G (ix ((gK G q).2 2))) ((gK G q).2 3))) else none
noncomputable def O_join (G : G_T) (i : Nat) : Option G_T := match J_m G i (np G) 0 none with
  | none => none
  | some q => O_joi1 G i q
noncomputable def O_move (G : G_T) (i : Nat) : Option G_T := by
  classical exact if r_in (ne G) ((gM G i).1 2 + 1) then some (sM G i (if j_in ((gE G (ix ((gM G i).1 2 + 1))).1 4) ((gM G i).1 3) then M_leave (gM G i) else M_fol (gM G i) (gE G (ix ((gM G i).1 2 + 1))))) else none
def O_res (G : G_T) (i : Nat) (x : Option G_T) : q_R × G_T := match x with
  | some G2 => (.inl (some (.int ((gM G2 i).1 2))), G2)
  | none => (.inr 1, G)
noncomputable def O_come (G : G_T) (m : Int32) : q_R × G_T := by
  classical exact if r_in 16 m then (if (gM G (ix m)).1 2 = -1 then O_res G (ix m) (O_join G (ix m)) else O_res G (ix m) (O_move G (ix m))) else (.inr 0, G)
def j_v (D : a_T) (b : Option Nat) : Value := match b with
  | none => .null
  | some q => .ref (pA D q)
set_option maxHeartbeats 1000000 in
theorem c_RG_joinEarliest (g : q_G) {h : q_H} {r : Nat} {w : Nat → Nat} {D : a_T} {ob : Nat → Option Nat} {G : G_T} {i : Nat} (d mc ms : Nat) (hd : 6 ≤ d) (hmc : 1 ≤ mc) (hms : 6 ≤ ms) (hi : i < 16) (hnp : np G ≤ 60) (hne : ne G < 2 ^ 31) (hT : ∀ e, e < ne G → (gE G e).2.1.2 ≤ 4) (H : q_RG g h r w D ob G) : MG g y_RG_joinEarliest b_RG_joinEarliest 6 none d mc ms [.ref r, .ref (mA D i)] h (fun q h' => (∃ G2, O_join G i = some G2 ∧ q = .inl none ∧ q_RG g h' r w D ob G2) ∨ (O_join G i = none ∧ q = .inr 1 ∧ h' = h)) := by
  obtain ⟨lp0, lp1, hlp⟩ := H.lp.size
  refine MG.of (by decide +kernel) (by simp [Value.category]) (Nat.le_of_ble_eq_true rfl) ?_
  intro Z A ok
  have loop : ∀ (m k : Nat), k + m = np G → ∀ (b : Option Nat) (x4 x5 : Option Value), (∀ q, b = some q → q < np G) → J_m G i m k b = J_m G i (np G) 0 none → GW g Z A (fun q h' => (∃ G2, O_join G i = some G2 ∧ q = .inl none ∧ q_RG g h' r w D ob G2) ∨ (O_join G i = none ∧ q = .inr 1 ∧ h' = h)) mc ms h 4 [some (.ref r), some (.ref (mA D i)), some (j_v D b), some (.int (nI k)), x4, x5] [] := by
    intro m
    induction m with
    | zero =>
      intro k hk b x4 x5 hb hv
      refine g_iload_n ok (dk m_RG_joinEarliest 4 rfl) (pc' := 5) rfl (i := 3) rfl rfl ?_
      refine g_aload_n ok (dk m_RG_joinEarliest 5 rfl) (pc' := 6) rfl (i := 0) rfl rfl ?_
      refine g_get ok (dk m_RG_joinEarliest 6 rfl) (pc' := 9) rfl f_RG_23 H.fr rfl ?_
      refine g_callV ok (dk m_RG_joinEarliest 7 rfl) (pc' := 12) rfl c_RG_86 (c_AL_size g 0 hlp) hlp rfl rfl (by simp [Value.category]) (by omega) rfl (rc' := mc) (rs' := ms) (by omega) (by omega) (fun rv h' hcc => ?_) (fun i h' hcc => by obtain ⟨e9, -⟩ := hcc; cases e9)
      obtain ⟨e9, e2⟩ := hcc
      have e3 := e2.symm
      subst e3
      cases e9
      refine g_icmp_ge ok (dk m_RG_joinEarliest 8 rfl) (tgt := 90) (by decide) (pc' := 15) rfl (fun c_12 => ?_) (fun c_12 => absurd (show nI (np G) ≤ nI k from by rw [show k = np G by omega]; exact Int32.le_refl _) c_12)
      cases b with
      | none =>
        refine g_aload_nN ok (dk m_RG_joinEarliest 42 rfl) (pc' := 91) rfl (i := 2) rfl rfl ?_
        refine g_ifnullN ok (dk m_RG_joinEarliest 43 rfl) (tgt := 105) (by decide) ?_
        exact g_throw ok (kx := 1) (sx := 338) (tx := "the member is in no epoch and was not added") (Or.inr ⟨rfl, rfl, rfl⟩) (by decide +kernel) (dk m_RG_joinEarliest 49 rfl) (dk m_RG_joinEarliest 50 rfl) (Or.inr ⟨dk m_RG_joinEarliest 51 rfl, rfl⟩) (dk m_RG_joinEarliest 52 rfl) (dk m_RG_joinEarliest 53 rfl) (by decide) (by omega) rfl (by omega) (by omega) (Or.inr ⟨by rw [O_join, ← hv]; rfl, rfl, rfl⟩)
      | some q =>
        have hq : q < np G := hb q rfl
        refine g_aload_n ok (dk m_RG_joinEarliest 42 rfl) (pc' := 91) rfl (i := 2) rfl rfl ?_
        refine g_ifnull ok (dk m_RG_joinEarliest 43 rfl) (pc' := 94) rfl ?_
        refine g_aload_n ok (dk m_RG_joinEarliest 44 rfl) (pc' := 95) rfl (i := 0) rfl rfl ?_
        refine g_aload_n ok (dk m_RG_joinEarliest 45 rfl) (pc' := 96) rfl (i := 2) rfl rfl ?_
        refine g_get ok (dk m_RG_joinEarliest 46 rfl) (pc' := 99) rfl f_RG_320 (H.pk hq) rfl ?_
        refine g_callV ok (dk m_RG_joinEarliest 47 rfl) (pc' := 102) rfl c_RG_205 (c_RG_isEpoch g ((gK G q).2 2) 1 (by omega) H) H.fr rfl rfl (by simp [Value.category]) (by omega) rfl (rc' := mc) (rs' := ms) (by omega) (by omega) (fun rv h' hcc => ?_) (fun i h' hcc => by obtain ⟨e9, -⟩ := hcc; cases e9)
        obtain ⟨e9, e2⟩ := hcc
        have e3 := e2.symm
        subst e3
        cases e9
        refine g_if_ne ok (dk m_RG_joinEarliest 48 rfl) (tgt := 116) (by decide) (pc' := 105) rfl (fun c_102 => ?_) (fun c_102 => ?_)
        · obtain ⟨e, he, hee⟩ := r_in_of hne (b2i_n c_102)
          have hxe : ix (nI e) = e := ix_nI (by omega)
          refine g_aload_n ok (dk m_RG_joinEarliest 54 rfl) (pc' := 117) rfl (i := 2) rfl rfl ?_
          refine g_iconst ok (dk m_RG_joinEarliest 55 rfl) (pc' := 118) rfl (v := 1) (by decide) ?_
          refine g_put ok (dk m_RG_joinEarliest 56 rfl) (pc' := 121) rfl f_RG_335 (Or.inl rfl) (H.pk hq) (Nat.le_of_ble_eq_true rfl) rfl rfl ?_
          refine g_gen (fun h2 e2 => ?_)
          have hq2 : h2 (pA D q) = some (.inl (7, [.ref (mA D (gK G q).1), .int ((gK G q).2 0), .int ((gK G q).2 1), .int ((gK G q).2 2), .int ((gK G q).2 3), .int 1])) := by rw [e2, q_up_s]; rfl
          have k2 := q_kp.up (q_kp.rf (X := fun y => y = pA D q)) rfl e2
          clear e2
          have H2 := H.upK (K := upd (gK G q).2 4 1) hq hnp hq2 (k2.wk (fun y hy => by rw [hy]; exact H.pkT hq))
          obtain ⟨l2, l3, hl2⟩ := H2.le.size
          refine g_aload_n ok (dk m_RG_joinEarliest 57 rfl) (pc' := 122) rfl (i := 1) rfl rfl ?_
          refine g_aload_n ok (dk m_RG_joinEarliest 58 rfl) (pc' := 123) rfl (i := 0) rfl rfl ?_
          refine g_get ok (dk m_RG_joinEarliest 59 rfl) (pc' := 126) rfl f_RG_29 H2.fr rfl ?_
          refine g_aload_n ok (dk m_RG_joinEarliest 60 rfl) (pc' := 127) rfl (i := 2) rfl rfl ?_
          refine g_get ok (dk m_RG_joinEarliest 61 rfl) (pc' := 130) rfl f_RG_320 hq2 rfl ?_
          rw [hee]
          refine g_callV ok (dk m_RG_joinEarliest 62 rfl) (pc' := 133) rfl c_RG_112 (c_AL_get g 2 (by omega) H2.le he) hl2 rfl rfl (by simp [Value.category]) (by omega) rfl (rc' := mc) (rs' := ms) (by omega) (by omega) (fun rv h' hcc => ?_) (fun i h' hcc => by obtain ⟨e9, -⟩ := hcc; cases e9)
          obtain ⟨e9, e2⟩ := hcc
          have e3 := e2.symm
          subst e3
          cases e9
          refine g_castY ok (dk m_RG_joinEarliest 63 rfl) (pc' := 136) rfl k_RG_50 xc_5 ty_5 (H2.ep he).1 ?_
          refine g_aload_n ok (dk m_RG_joinEarliest 64 rfl) (pc' := 137) rfl (i := 2) rfl rfl ?_
          refine g_get ok (dk m_RG_joinEarliest 65 rfl) (pc' := 140) rfl f_RG_321 hq2 rfl ?_
          refine g_callV ok (dk m_RG_joinEarliest 66 rfl) (pc' := 143) rfl c_RG_78 (c_Mem_enter g ((gK G q).2 3) 4 (by omega) (H2.mem hi) (H2.ep he) (fun y hy z => by have q := H2.memT hi y (m_P_A z); have q2 := H2.epT he y hy; omega) (hT e he)) (H2.mem hi).1 rfl rfl (by simp [Value.category]) (by omega) rfl (rc' := mc) (rs' := ms) (by omega) (by omega) (fun rv h' hcc => ?_) (fun i h' hcc => by obtain ⟨e9, -⟩ := hcc; cases e9)
          obtain ⟨e9, hm3, o3⟩ := hcc
          cases e9
          have H3 := H2.tM hi hm3 o3
          exact g_vret ok (dk m_RG_joinEarliest 67 rfl) rfl (Or.inl ⟨_, by rw [O_join, ← hv]; show O_joi1 G i q = _; rw [O_joi1, if_pos (b2i_n c_102), hee, hxe], rfl, H3⟩)
        · exact g_throw ok (kx := 1) (sx := 338) (tx := "the member is in no epoch and was not added") (Or.inr ⟨rfl, rfl, rfl⟩) (by decide +kernel) (dk m_RG_joinEarliest 49 rfl) (dk m_RG_joinEarliest 50 rfl) (Or.inr ⟨dk m_RG_joinEarliest 51 rfl, rfl⟩) (dk m_RG_joinEarliest 52 rfl) (dk m_RG_joinEarliest 53 rfl) (by decide) (by omega) rfl (by omega) (by omega) (Or.inr ⟨by rw [O_join, ← hv]; show O_joi1 G i q = none; rw [O_joi1, if_neg (b2i_0 c_102)], rfl, rfl⟩)
    | succ m ih =>
      intro k hk b x4 x5 hb hv
      have hk2 : k < np G := by omega
      refine g_iload_n ok (dk m_RG_joinEarliest 4 rfl) (pc' := 5) rfl (i := 3) rfl rfl ?_
      refine g_aload_n ok (dk m_RG_joinEarliest 5 rfl) (pc' := 6) rfl (i := 0) rfl rfl ?_
      refine g_get ok (dk m_RG_joinEarliest 6 rfl) (pc' := 9) rfl f_RG_23 H.fr rfl ?_
      refine g_callV ok (dk m_RG_joinEarliest 7 rfl) (pc' := 12) rfl c_RG_86 (c_AL_size g 0 hlp) hlp rfl rfl (by simp [Value.category]) (by omega) rfl (rc' := mc) (rs' := ms) (by omega) (by omega) (fun rv h' hcc => ?_) (fun i h' hcc => by obtain ⟨e9, -⟩ := hcc; cases e9)
      obtain ⟨e9, e2⟩ := hcc
      have e3 := e2.symm
      subst e3
      cases e9
      refine g_icmp_ge ok (dk m_RG_joinEarliest 8 rfl) (tgt := 90) (by decide) (pc' := 15) rfl (fun c_12 => absurd c_12 (nI_ge hk2 (by omega))) (fun c_12 => ?_)
      refine g_aload_n ok (dk m_RG_joinEarliest 9 rfl) (pc' := 16) rfl (i := 0) rfl rfl ?_
      refine g_get ok (dk m_RG_joinEarliest 10 rfl) (pc' := 19) rfl f_RG_23 H.fr rfl ?_
      refine g_iload_n ok (dk m_RG_joinEarliest 11 rfl) (pc' := 20) rfl (i := 3) rfl rfl ?_
      refine g_callV ok (dk m_RG_joinEarliest 12 rfl) (pc' := 23) rfl c_RG_112 (c_AL_get g 2 (by omega) H.lp hk2) hlp rfl rfl (by simp [Value.category]) (by omega) rfl (rc' := mc) (rs' := ms) (by omega) (by omega) (fun rv h' hcc => ?_) (fun i h' hcc => by obtain ⟨e9, -⟩ := hcc; cases e9)
      obtain ⟨e9, e2⟩ := hcc
      have e3 := e2.symm
      subst e3
      cases e9
      refine g_castY ok (dk m_RG_joinEarliest 13 rfl) (pc' := 26) rfl k_RG_96 xc_7 ty_7 (H.pk hk2) ?_
      refine g_astore ok (dk m_RG_joinEarliest 14 rfl) (pc' := 28) rfl (Nat.le_of_ble_eq_true rfl) rfl ?_
      refine g_aload ok (dk m_RG_joinEarliest 15 rfl) (pc' := 30) rfl rfl ?_
      refine g_getR ok (dk m_RG_joinEarliest 16 rfl) (pc' := 33) rfl f_RG_303 (H.pk hk2) rfl ?_
      refine g_aload_n ok (dk m_RG_joinEarliest 17 rfl) (pc' := 34) rfl (i := 1) rfl rfl ?_
      refine g_acmpR_ne ok (dk m_RG_joinEarliest 18 rfl) (tgt := 57) (by decide) (pc' := 37) rfl (fun c_34 => ?_) (fun c_34 => ?_)
      · refine g_iconst ok (dk m_RG_joinEarliest 27 rfl) (pc' := 58) rfl (v := 0) (by decide) ?_
        refine g_istore ok (dk m_RG_joinEarliest 28 rfl) (pc' := 60) rfl (Nat.le_of_ble_eq_true rfl) rfl ?_
        refine g_iload ok (dk m_RG_joinEarliest 29 rfl) (pc' := 62) rfl rfl ?_
        refine g_if_eq ok (dk m_RG_joinEarliest 30 rfl) (tgt := 84) (by decide) (pc' := 65) rfl (fun c_62 => ?_) (fun c_62 => absurd rfl c_62)
        refine g_iinc ok (dk m_RG_joinEarliest 40 rfl) (pc' := 87) rfl rfl (nI_1 k) rfl ?_
        refine g_goto ok (dk m_RG_joinEarliest 41 rfl) (pc' := 4) (by decide) ?_
        exact ih (k + 1) (by omega) b _ _ hb (by rw [← hv, J_m, J_1, if_neg (fun z => c_34 (by rw [z.1.1]))])
      · refine g_aload ok (dk m_RG_joinEarliest 19 rfl) (pc' := 39) rfl rfl ?_
        refine g_callV ok (dk m_RG_joinEarliest 20 rfl) (pc' := 42) rfl c_RG_307 (c_KP_isUsed g 0 (H.pk hk2)) (H.pk hk2) rfl rfl (by simp [Value.category]) (by omega) rfl (rc' := mc) (rs' := ms) (by omega) (by omega) (fun rv h' hcc => ?_) (fun i h' hcc => by obtain ⟨e9, -⟩ := hcc; cases e9)
        obtain ⟨e9, e2⟩ := hcc
        have e3 := e2.symm
        subst e3
        cases e9
        refine g_if_eq ok (dk m_RG_joinEarliest 21 rfl) (tgt := 57) (by decide) (pc' := 45) rfl (fun c_42 => ?_) (fun c_42 => ?_)
        · refine g_iconst ok (dk m_RG_joinEarliest 27 rfl) (pc' := 58) rfl (v := 0) (by decide) ?_
          refine g_istore ok (dk m_RG_joinEarliest 28 rfl) (pc' := 60) rfl (Nat.le_of_ble_eq_true rfl) rfl ?_
          refine g_iload ok (dk m_RG_joinEarliest 29 rfl) (pc' := 62) rfl rfl ?_
          refine g_if_eq ok (dk m_RG_joinEarliest 30 rfl) (tgt := 84) (by decide) (pc' := 65) rfl (fun c_62 => ?_) (fun c_62 => absurd rfl c_62)
          refine g_iinc ok (dk m_RG_joinEarliest 40 rfl) (pc' := 87) rfl rfl (nI_1 k) rfl ?_
          refine g_goto ok (dk m_RG_joinEarliest 41 rfl) (pc' := 4) (by decide) ?_
          exact ih (k + 1) (by omega) b _ _ hb (by rw [← hv, J_m, J_1, if_neg (fun z => b2i_0 c_42 z.1.2.1)])
        · refine g_aload ok (dk m_RG_joinEarliest 22 rfl) (pc' := 47) rfl rfl ?_
          refine g_get ok (dk m_RG_joinEarliest 23 rfl) (pc' := 50) rfl f_RG_335 (H.pk hk2) rfl ?_
          refine g_if_ne ok (dk m_RG_joinEarliest 24 rfl) (tgt := 57) (by decide) (pc' := 53) rfl (fun c_50 => ?_) (fun c_50 => ?_)
          · refine g_iconst ok (dk m_RG_joinEarliest 27 rfl) (pc' := 58) rfl (v := 0) (by decide) ?_
            refine g_istore ok (dk m_RG_joinEarliest 28 rfl) (pc' := 60) rfl (Nat.le_of_ble_eq_true rfl) rfl ?_
            refine g_iload ok (dk m_RG_joinEarliest 29 rfl) (pc' := 62) rfl rfl ?_
            refine g_if_eq ok (dk m_RG_joinEarliest 30 rfl) (tgt := 84) (by decide) (pc' := 65) rfl (fun c_62 => ?_) (fun c_62 => absurd rfl c_62)
            refine g_iinc ok (dk m_RG_joinEarliest 40 rfl) (pc' := 87) rfl rfl (nI_1 k) rfl ?_
            refine g_goto ok (dk m_RG_joinEarliest 41 rfl) (pc' := 4) (by decide) ?_
            exact ih (k + 1) (by omega) b _ _ hb (by rw [← hv, J_m, J_1, if_neg (fun z => c_50 z.1.2.2)])
          · refine g_iconst ok (dk m_RG_joinEarliest 25 rfl) (pc' := 54) rfl (v := 1) (by decide) ?_
            refine g_goto ok (dk m_RG_joinEarliest 26 rfl) (pc' := 58) (by decide) ?_
            refine g_istore ok (dk m_RG_joinEarliest 28 rfl) (pc' := 60) rfl (Nat.le_of_ble_eq_true rfl) rfl ?_
            refine g_iload ok (dk m_RG_joinEarliest 29 rfl) (pc' := 62) rfl rfl ?_
            refine g_if_eq ok (dk m_RG_joinEarliest 30 rfl) (tgt := 84) (by decide) (pc' := 65) rfl (fun c_62 => absurd c_62 (by decide)) (fun c_62 => ?_)
            have haw : J_aw G i k := ⟨H.inj (H.own hk2) hi c_34, b2i_n c_42, c_50⟩
            cases b with
            | none =>
              refine g_aload_nN ok (dk m_RG_joinEarliest 31 rfl) (pc' := 66) rfl (i := 2) rfl rfl ?_
              refine g_ifnullN ok (dk m_RG_joinEarliest 32 rfl) (tgt := 81) (by decide) ?_
              refine g_aload ok (dk m_RG_joinEarliest 38 rfl) (pc' := 83) rfl rfl ?_
              refine g_astore_n ok (dk m_RG_joinEarliest 39 rfl) (pc' := 84) rfl (i := 2) rfl (Nat.le_of_ble_eq_true rfl) rfl ?_
              refine g_iinc ok (dk m_RG_joinEarliest 40 rfl) (pc' := 87) rfl rfl (nI_1 k) rfl ?_
              refine g_goto ok (dk m_RG_joinEarliest 41 rfl) (pc' := 4) (by decide) ?_
              exact ih (k + 1) (by omega) (some k) _ _ (fun q e => by cases e; exact hk2) (by rw [← hv, J_m, J_1, if_pos ⟨haw, fun q e => by cases e⟩])
            | some q =>
              refine g_aload_n ok (dk m_RG_joinEarliest 31 rfl) (pc' := 66) rfl (i := 2) rfl rfl ?_
              refine g_ifnull ok (dk m_RG_joinEarliest 32 rfl) (pc' := 69) rfl ?_
              refine g_aload ok (dk m_RG_joinEarliest 33 rfl) (pc' := 71) rfl rfl ?_
              refine g_get ok (dk m_RG_joinEarliest 34 rfl) (pc' := 74) rfl f_RG_320 (H.pk hk2) rfl ?_
              refine g_aload_n ok (dk m_RG_joinEarliest 35 rfl) (pc' := 75) rfl (i := 2) rfl rfl ?_
              refine g_get ok (dk m_RG_joinEarliest 36 rfl) (pc' := 78) rfl f_RG_320 (H.pk (hb q rfl)) rfl ?_
              refine g_icmp_ge ok (dk m_RG_joinEarliest 37 rfl) (tgt := 84) (by decide) (pc' := 81) rfl (fun c_78 => ?_) (fun c_78 => ?_)
              · refine g_iinc ok (dk m_RG_joinEarliest 40 rfl) (pc' := 87) rfl rfl (nI_1 k) rfl ?_
                refine g_goto ok (dk m_RG_joinEarliest 41 rfl) (pc' := 4) (by decide) ?_
                exact ih (k + 1) (by omega) (some q) _ _ hb (by rw [← hv, J_m, J_1, if_neg (fun z => absurd (z.2 q rfl) (fun y => Int32.lt_irrefl (Int32.lt_of_lt_of_le y c_78)))])
              · refine g_aload ok (dk m_RG_joinEarliest 38 rfl) (pc' := 83) rfl rfl ?_
                refine g_astore_n ok (dk m_RG_joinEarliest 39 rfl) (pc' := 84) rfl (i := 2) rfl (Nat.le_of_ble_eq_true rfl) rfl ?_
                refine g_iinc ok (dk m_RG_joinEarliest 40 rfl) (pc' := 87) rfl rfl (nI_1 k) rfl ?_
                refine g_goto ok (dk m_RG_joinEarliest 41 rfl) (pc' := 4) (by decide) ?_
                exact ih (k + 1) (by omega) (some k) _ _ (fun q e => by cases e; exact hk2) (by rw [← hv, J_m, J_1, if_pos ⟨haw, fun q2 e => by cases e; exact Int32.not_le.mp c_78⟩])
  refine g_null ok (dk m_RG_joinEarliest 0 rfl) (pc' := 1) rfl ?_
  refine g_astore_nN ok (dk m_RG_joinEarliest 1 rfl) (pc' := 2) rfl (i := 2) rfl (Nat.le_of_ble_eq_true rfl) rfl ?_
  refine g_iconst ok (dk m_RG_joinEarliest 2 rfl) (pc' := 3) rfl (v := 0) (by decide) ?_
  refine g_istore_n ok (dk m_RG_joinEarliest 3 rfl) (pc' := 4) rfl (i := 3) rfl (Nat.le_of_ble_eq_true rfl) rfl ?_
  exact loop (np G) 0 (by omega) none _ _ (fun q e => by cases e) rfl
set_option maxHeartbeats 1000000 in
theorem c_RG_moveOn (g : q_G) {h : q_H} {r : Nat} {w : Nat → Nat} {D : a_T} {ob : Nat → Option Nat} {G : G_T} {i : Nat} (d mc ms : Nat) (hd : 9 ≤ d) (hmc : 1 ≤ mc) (hms : 6 ≤ ms) (hi : i < 16) (hne : ne G < 2 ^ 31) (hT : ∀ e, e < ne G → (gE G e).2.1.2 ≤ 4) (H : q_RG g h r w D ob G) : MG g y_RG_moveOn b_RG_moveOn 4 none d mc ms [.ref r, .ref (mA D i)] h (fun q h' => (∃ G2, O_move G i = some G2 ∧ q = .inl none ∧ q_RG g h' r w D ob G2) ∨ (O_move G i = none ∧ q = .inr 1 ∧ h' = h)) := by
  obtain ⟨le0, le1, hle⟩ := H.le.size
  refine MG.of (by decide +kernel) (by simp [Value.category]) (Nat.le_of_ble_eq_true rfl) ?_
  intro Z A ok
  classical
  refine g_aload_n ok (dk m_RG_moveOn 0 rfl) (pc' := 1) rfl (i := 1) rfl rfl ?_
  refine g_get ok (dk m_RG_moveOn 1 rfl) (pc' := 4) rfl f_RG_133 (H.mem hi).1 rfl ?_
  refine g_iconst ok (dk m_RG_moveOn 2 rfl) (pc' := 5) rfl (v := 1) (by decide) ?_
  refine g_iadd ok (dk m_RG_moveOn 3 rfl) (pc' := 6) rfl ?_
  refine g_istore_n ok (dk m_RG_moveOn 4 rfl) (pc' := 7) rfl (i := 2) rfl (Nat.le_of_ble_eq_true rfl) rfl ?_
  refine g_aload_n ok (dk m_RG_moveOn 5 rfl) (pc' := 8) rfl (i := 0) rfl rfl ?_
  refine g_iload_n ok (dk m_RG_moveOn 6 rfl) (pc' := 9) rfl (i := 2) rfl rfl ?_
  refine g_callV ok (dk m_RG_moveOn 7 rfl) (pc' := 12) rfl c_RG_205 (c_RG_isEpoch g ((gM G i).1 2 + 1) 1 (by omega) H) H.fr rfl rfl (by simp [Value.category]) (by omega) rfl (rc' := mc) (rs' := ms) (by omega) (by omega) (fun rv h' hcc => ?_) (fun i h' hcc => by obtain ⟨e9, -⟩ := hcc; cases e9)
  obtain ⟨e9, e2⟩ := hcc
  have e3 := e2.symm
  subst e3
  cases e9
  refine g_if_ne ok (dk m_RG_moveOn 8 rfl) (tgt := 26) (by decide) (pc' := 15) rfl (fun c_12 => ?_) (fun c_12 => ?_)
  · have hr := b2i_n c_12
    clear c_12
    obtain ⟨e, he, hee⟩ := r_in_of hne hr
    have hxe : ix (nI e) = e := ix_nI (by omega)
    have hO : O_move G i = some (sM G i (if j_in ((gE G e).1 4) ((gM G i).1 3) then M_leave (gM G i) else M_fol (gM G i) (gE G e))) := by rw [O_move, if_pos hr, hee, hxe]
    rw [hee]
    refine g_aload_n ok (dk m_RG_moveOn 14 rfl) (pc' := 27) rfl (i := 0) rfl rfl ?_
    refine g_get ok (dk m_RG_moveOn 15 rfl) (pc' := 30) rfl f_RG_29 H.fr rfl ?_
    refine g_iload_n ok (dk m_RG_moveOn 16 rfl) (pc' := 31) rfl (i := 2) rfl rfl ?_
    refine g_callV ok (dk m_RG_moveOn 17 rfl) (pc' := 34) rfl c_RG_112 (c_AL_get g 2 (by omega) H.le he) hle rfl rfl (by simp [Value.category]) (by omega) rfl (rc' := mc) (rs' := ms) (by omega) (by omega) (fun rv h' hcc => ?_) (fun i h' hcc => by obtain ⟨e9, -⟩ := hcc; cases e9)
    obtain ⟨e9, e2⟩ := hcc
    have e3 := e2.symm
    subst e3
    cases e9
    refine g_castY ok (dk m_RG_moveOn 18 rfl) (pc' := 37) rfl k_RG_50 xc_5 ty_5 (H.ep he).1 ?_
    refine g_astore_n ok (dk m_RG_moveOn 19 rfl) (pc' := 38) rfl (i := 3) rfl (Nat.le_of_ble_eq_true rfl) rfl ?_
    refine g_aload_n ok (dk m_RG_moveOn 20 rfl) (pc' := 39) rfl (i := 3) rfl rfl ?_
    refine g_get ok (dk m_RG_moveOn 21 rfl) (pc' := 42) rfl f_RG_245 (H.ep he).1 rfl ?_
    refine g_aload_n ok (dk m_RG_moveOn 22 rfl) (pc' := 43) rfl (i := 1) rfl rfl ?_
    refine g_get ok (dk m_RG_moveOn 23 rfl) (pc' := 46) rfl f_RG_129 (H.mem hi).1 rfl ?_
    refine g_callS ok (dk m_RG_moveOn 24 rfl) (pc' := 49) rfl c_RG_342 (c_RG_isIn g ((gE G e).1 4) ((gM G i).1 3) 0) rfl rfl (by simp [Value.category]) (by omega) rfl (rc' := mc) (rs' := ms) (by omega) (by omega) (fun rv h' hcc => ?_) (fun i h' hcc => by obtain ⟨e9, -⟩ := hcc; cases e9)
    obtain ⟨e9, e2⟩ := hcc
    have e3 := e2.symm
    subst e3
    cases e9
    refine g_if_eq ok (dk m_RG_moveOn 25 rfl) (tgt := 59) (by decide) (pc' := 52) rfl (fun c_49 => ?_) (fun c_49 => ?_)
    · refine g_aload_n ok (dk m_RG_moveOn 29 rfl) (pc' := 60) rfl (i := 1) rfl rfl ?_
      refine g_aload_n ok (dk m_RG_moveOn 30 rfl) (pc' := 61) rfl (i := 3) rfl rfl ?_
      refine g_callV ok (dk m_RG_moveOn 31 rfl) (pc' := 64) rfl c_RG_346 (c_Mem_follow g 8 (by omega) (H.mem hi) (H.ep he) (fun y hy z => by have q := H.memT hi y (m_P_A z); have q2 := H.epT he y hy; omega) (hT e he)) (H.mem hi).1 rfl rfl (by simp [Value.category]) (by omega) rfl (rc' := mc) (rs' := ms) (by omega) (by omega) (fun rv h' hcc => ?_) (fun i h' hcc => by obtain ⟨e9, -⟩ := hcc; cases e9)
      obtain ⟨e9, hm3, o3⟩ := hcc
      cases e9
      have H3 := H.tM hi hm3 o3
      exact g_vret ok (dk m_RG_moveOn 32 rfl) rfl (Or.inl ⟨_, by rw [hO, if_neg (b2i_0 c_49)], rfl, H3⟩)
    · refine g_aload_n ok (dk m_RG_moveOn 26 rfl) (pc' := 53) rfl (i := 1) rfl rfl ?_
      refine g_callV ok (dk m_RG_moveOn 27 rfl) (pc' := 56) rfl c_RG_280 (c_Mem_leave g 2 (by omega) (H.mem hi)) (H.mem hi).1 rfl rfl (by simp [Value.category]) (by omega) rfl (rc' := mc) (rs' := ms) (by omega) (by omega) (fun rv h' hcc => ?_) (fun i h' hcc => by obtain ⟨e9, -⟩ := hcc; cases e9)
      obtain ⟨e9, hm3, o3⟩ := hcc
      cases e9
      have H3 := H.tM hi hm3 o3
      refine g_goto ok (dk m_RG_moveOn 28 rfl) (pc' := 64) (by decide) ?_
      exact g_vret ok (dk m_RG_moveOn 32 rfl) rfl (Or.inl ⟨_, by rw [hO, if_pos (b2i_n c_49)], rfl, H3⟩)
  · exact g_throw ok (kx := 1) (sx := 340) (tx := "the member is in the latest epoch") (Or.inr ⟨rfl, rfl, rfl⟩) (by decide +kernel) (dk m_RG_moveOn 9 rfl) (dk m_RG_moveOn 10 rfl) (Or.inr ⟨dk m_RG_moveOn 11 rfl, rfl⟩) (dk m_RG_moveOn 12 rfl) (dk m_RG_moveOn 13 rfl) (by decide) (by omega) rfl (by omega) (by omega) (Or.inr ⟨by rw [O_move, if_neg (b2i_0 c_12)], rfl, rfl⟩)
set_option maxHeartbeats 1000000 in
theorem c_RG_come (g : q_G) {h : q_H} {r : Nat} {w : Nat → Nat} {D : a_T} {ob : Nat → Option Nat} {G : G_T} (m : Int32) (d mc ms : Nat) (hd : 10 ≤ d) (hmc : 2 ≤ mc) (hms : 12 ≤ ms) (hnp : np G ≤ 60) (hne : ne G < 2 ^ 31) (hT : ∀ e, e < ne G → (gE G e).2.1.2 ≤ 4) (H : q_RG g h r w D ob G) : MG g y_RG_come b_RG_come 3 (some .int) d mc ms [.ref r, .int m] h (fun q h' => ∃ w' D' ob', q = (O_come G m).1 ∧ q_RG g h' r w' D' ob' (O_come G m).2) := by
  refine MG.of (by decide +kernel) (by simp [Value.category]) (Nat.le_of_ble_eq_true rfl) ?_
  intro Z A ok
  refine g_aload_n ok (dk m_RG_come 0 rfl) (pc' := 1) rfl (i := 0) rfl rfl ?_
  refine g_iload_n ok (dk m_RG_come 1 rfl) (pc' := 2) rfl (i := 1) rfl rfl ?_
  refine g_callV ok (dk m_RG_come 2 rfl) (pc' := 5) rfl c_RG_82 (c_RG_memberNumbered g m 6 1 6 (by omega) (by omega) (by omega) H) H.fr rfl rfl (by simp [Value.category]) (by omega) rfl (rc' := (mc - 1)) (rs' := (ms - 6)) (by omega) (by omega) (fun rv h' hcc => ?_) (fun i h' hcc => by obtain ⟨e9 | ⟨hr, e9⟩, e3⟩ := hcc; exact absurd e9.2 (fun z => by cases z); exact ⟨w, D, ob, by rw [O_come, if_neg hr]; exact e9, by rw [O_come, if_neg hr, e3]; exact H⟩)
  have hr : r_in 16 m ∧ rv = some (.ref (mA D (ix m))) := by
    rcases hcc.1 with ⟨a, b⟩ | ⟨a, b⟩
    · exact ⟨a, Sum.inl.inj b⟩
    · cases b
  obtain ⟨hr, rfl⟩ := hr
  have e4 := hcc.2.symm
  clear hcc
  subst e4
  obtain ⟨j, hj, rfl⟩ := r_in_of (by decide) hr
  have hx : ix (nI j) = j := ix_nI (by omega)
  rw [hx]
  have hO : O_come G (nI j) = if (gM G j).1 2 = -1 then O_res G j (O_join G j) else O_res G j (O_move G j) := by rw [O_come, if_pos hr, hx]
  refine g_astore_n ok (dk m_RG_come 3 rfl) (pc' := 6) rfl (i := 2) rfl (Nat.le_of_ble_eq_true rfl) rfl ?_
  refine g_aload_n ok (dk m_RG_come 4 rfl) (pc' := 7) rfl (i := 2) rfl rfl ?_
  refine g_get ok (dk m_RG_come 5 rfl) (pc' := 10) rfl f_RG_133 (H.mem hj).1 rfl ?_
  refine g_iconst ok (dk m_RG_come 6 rfl) (pc' := 11) rfl (v := (-1)) (by decide) ?_
  refine g_icmp_ne ok (dk m_RG_come 7 rfl) (tgt := 22) (by decide) (pc' := 14) rfl (fun c_11 => ?_) (fun c_11 => ?_)
  · refine g_aload_n ok (dk m_RG_come 12 rfl) (pc' := 23) rfl (i := 0) rfl rfl ?_
    refine g_aload_n ok (dk m_RG_come 13 rfl) (pc' := 24) rfl (i := 2) rfl rfl ?_
    refine g_callV ok (dk m_RG_come 14 rfl) (pc' := 27) rfl c_RG_186 (c_RG_moveOn g 9 1 6 (by omega) (by omega) (by omega) hj hne hT H) H.fr rfl rfl (by simp [Value.category]) (by omega) rfl (rc' := (mc - 2)) (rs' := (ms - 12)) (by omega) (by omega) (fun rv h' hcc => ?_) (fun i h' hcc => by rcases hcc with ⟨G2, e1, e9, -⟩ | ⟨e1, e9, e3⟩; cases e9; exact ⟨w, D, ob, by rw [hO, if_neg c_11, e1]; exact e9, by rw [hO, if_neg c_11, e1, e3]; exact H⟩)
    have hc2 : ∃ G2, O_move G j = some G2 ∧ rv = none ∧ q_RG g h' r w D ob G2 := by
      rcases hcc with ⟨G2, e1, e9, H2⟩ | ⟨e1, e9, e3⟩
      · exact ⟨G2, e1, Sum.inl.inj e9, H2⟩
      · cases e9
    clear hcc
    obtain ⟨G2, e1, rfl, H2⟩ := hc2
    refine g_aload_n ok (dk m_RG_come 15 rfl) (pc' := 28) rfl (i := 2) rfl rfl ?_
    refine g_get ok (dk m_RG_come 16 rfl) (pc' := 31) rfl f_RG_133 (H2.mem hj).1 rfl ?_
    exact g_iret ok (dk m_RG_come 17 rfl) rfl rfl ⟨w, D, ob, by rw [hO, if_neg c_11, e1]; rfl, by rw [hO, if_neg c_11, e1]; exact H2⟩
  · refine g_aload_n ok (dk m_RG_come 8 rfl) (pc' := 15) rfl (i := 0) rfl rfl ?_
    refine g_aload_n ok (dk m_RG_come 9 rfl) (pc' := 16) rfl (i := 2) rfl rfl ?_
    refine g_callV ok (dk m_RG_come 10 rfl) (pc' := 19) rfl c_RG_183 (c_RG_joinEarliest g 6 1 6 (by omega) (by omega) (by omega) hj hnp hne hT H) H.fr rfl rfl (by simp [Value.category]) (by omega) rfl (rc' := (mc - 2)) (rs' := (ms - 12)) (by omega) (by omega) (fun rv h' hcc => ?_) (fun i h' hcc => by rcases hcc with ⟨G2, e1, e9, -⟩ | ⟨e1, e9, e3⟩; cases e9; exact ⟨w, D, ob, by rw [hO, if_pos c_11, e1]; exact e9, by rw [hO, if_pos c_11, e1, e3]; exact H⟩)
    have hc2 : ∃ G2, O_join G j = some G2 ∧ rv = none ∧ q_RG g h' r w D ob G2 := by
      rcases hcc with ⟨G2, e1, e9, H2⟩ | ⟨e1, e9, e3⟩
      · exact ⟨G2, e1, Sum.inl.inj e9, H2⟩
      · cases e9
    clear hcc
    obtain ⟨G2, e1, rfl, H2⟩ := hc2
    refine g_goto ok (dk m_RG_come 11 rfl) (pc' := 27) (by decide) ?_
    refine g_aload_n ok (dk m_RG_come 15 rfl) (pc' := 28) rfl (i := 2) rfl rfl ?_
    refine g_get ok (dk m_RG_come 16 rfl) (pc' := 31) rfl f_RG_133 (H2.mem hj).1 rfl ?_
    exact g_iret ok (dk m_RG_come 17 rfl) rfl rfl ⟨w, D, ob, by rw [hO, if_pos c_11, e1]; rfl, by rw [hO, if_pos c_11, e1]; exact H2⟩
