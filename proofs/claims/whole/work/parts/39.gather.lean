/-! ===== the group: gather, member, memberNumbered, compromise ===== -/
abbrev b_T : Type := Nat × (Nat → Int32)
noncomputable def b_add (b : b_T) (x : Int32) : b_T := (b.1 + 1, r_put 172 b.2 (nI b.1) x)
noncomputable def b_1 (G : G_T) (i : Nat) (b : b_T) : b_T := by
  classical exact if ¬ (gM G i).1 4 = 0 ∧ r_in (ne G) ((gM G i).1 2) then b_add b ((gE G (ix ((gM G i).1 2))).1 2) else b
noncomputable def b_2 (M : m_T) : Nat → Nat → b_T → b_T
  | 0, _, b => b
  | m + 1, k, b => b_2 M m (k + 1) (if r_get (m_len 0) (M.2 0) (nI k) = -1 then b else b_add b (r_get (m_len 0) (M.2 0) (nI k)))
noncomputable def b_3 (M : m_T) : Nat → Nat → b_T → b_T
  | 0, _, b => b
  | m + 1, k, b => b_3 M m (k + 1) (b_add b (r_get (m_len 1) (M.2 1) (nI k)))
noncomputable def b_4 (G : G_T) (i : Nat) : Nat → Nat → b_T → b_T
  | 0, _, b => b
  | m + 1, k, b => b_4 G i m (k + 1) (if (gK G k).1 = i ∧ (gK G k).2 4 = 0 then b_add (b_add b ((gK G k).2 0)) ((gK G k).2 1) else b)
noncomputable def G_gat (G : G_T) (i : Nat) : b_T := b_4 G i (np G) 0 (b_3 (gM G i) (ix ((gM G i).1 1)) 0 (b_2 (gM G i) 31 0 (b_1 G i (0, gH G))))
theorem q_RG.inj {g : q_G} {h : q_H} {r : Nat} {w : Nat → Nat} {D : a_T} {ob : Nat → Option Nat} {G : G_T} (H : q_RG g h r w D ob G) {i j : Nat} (hi : i < 16) (hj : j < 16) (e : mA D i = mA D j) : i = j := by
  have h1 := H.memT hi _ (Or.inl rfl)
  have h2 := H.memT hj _ (Or.inl rfl)
  rw [e] at h1
  omega
theorem q_RG.putH {g : q_G} {h h' : q_H} {r : Nat} {w : Nat → Nat} {D : a_T} {ob : Nat → Option Nat} {G : G_T} {f f2 : Nat → Int32} (H : q_RG g h r w D ob (sH G f)) (e : h' = q_up h (D.1 0 6) (.inr (0, 172, .inl f2))) : q_RG g h' r w D ob (sH G f2) := H.upH (by rw [e, q_up_s]) (q_kp.up q_kp.rf rfl e)
set_option maxHeartbeats 1000000 in
theorem c_RG_gather (g : q_G) {h : q_H} {r : Nat} {w : Nat → Nat} {D : a_T} {ob : Nat → Option Nat} {G : G_T} {i u : Nat} (d : Nat) (hd : 3 ≤ d) (hi : i < 16) (hu : (gM G i).1 1 = nI u) (hu20 : u ≤ 20) (hne : ne G < 2 ^ 31) (hnp : np G < 2 ^ 31) (H : q_RG g h r w D ob G) : MG g y_RG_gather b_RG_gather 5 (some .int) d 0 0 [.ref r, .ref (mA D i)] h (fun q h' => q = .inl (some (.int (nI (G_gat G i).1))) ∧ q_RG g h' r w D ob (sH G (G_gat G i).2) ∧ q_off h h' (fun y => y = D.1 0 6)) := by
  obtain ⟨le0, le1, hle⟩ := H.le.size
  have hu2 : u = ix ((gM G i).1 1) := by rw [hu, ix_nI (by omega)]
  refine MG.of (by decide +kernel) (by simp [Value.category]) (Nat.le_of_ble_eq_true rfl) ?_
  intro Z A ok
  have loop4 : ∀ (m k : Nat), k + m = np G → ∀ (h1 : q_H) (b : b_T) (x4 : Option Value), q_RG g h1 r w D ob (sH G b.2) → q_off h h1 (fun y => y = D.1 0 6) → b_4 G i m k b = G_gat G i → GW g Z A (fun q h' => q = .inl (some (.int (nI (G_gat G i).1))) ∧ q_RG g h' r w D ob (sH G (G_gat G i).2) ∧ q_off h h' (fun y => y = D.1 0 6)) 0 0 h1 130 [some (.ref r), some (.ref (mA D i)), some (.int (nI b.1)), some (.int (nI k)), x4] [] := by
    intro m
    induction m with
    | zero =>
      intro k hk h1 b x4 H1 o1 hv
      refine g_iload_n ok (dk m_RG_gather 63 rfl) (pc' := 131) rfl (i := 3) rfl rfl ?_
      refine g_aload_n ok (dk m_RG_gather 64 rfl) (pc' := 132) rfl (i := 0) rfl rfl ?_
      refine g_get ok (dk m_RG_gather 65 rfl) (pc' := 135) rfl f_RG_23 H1.fr rfl ?_
      obtain ⟨l0, l1, hlz⟩ := H1.lp.size
      refine g_callV ok (dk m_RG_gather 66 rfl) (pc' := 138) rfl c_RG_86 (c_AL_size g 0 hlz) hlz rfl rfl (by simp [Value.category]) (by omega) rfl (rc' := 0) (rs' := 0) (by omega) (by omega) (fun rv h' hcc => ?_) (fun i h' hcc => by obtain ⟨e9, -⟩ := hcc; cases e9)
      obtain ⟨e9, e2⟩ := hcc
      have e3 := e2.symm
      subst e3
      cases e9
      refine g_icmp_ge ok (dk m_RG_gather 67 rfl) (tgt := 209) (by decide) (pc' := 141) rfl (fun c_138 => ?_) (fun c_138 => absurd (show nI (np G) ≤ nI k from by rw [show k = np G by omega]; exact Int32.le_refl _) c_138)
      refine g_iload_n ok (dk m_RG_gather 97 rfl) (pc' := 210) rfl (i := 2) rfl rfl ?_
      exact g_iret ok (dk m_RG_gather 98 rfl) rfl rfl ⟨by rw [← hv]; rfl, by rw [← hv]; exact H1, o1⟩
    | succ m ih =>
      intro k hk h1 b x4 H1 o1 hv
      have hk2 : k < np G := by omega
      refine g_iload_n ok (dk m_RG_gather 63 rfl) (pc' := 131) rfl (i := 3) rfl rfl ?_
      refine g_aload_n ok (dk m_RG_gather 64 rfl) (pc' := 132) rfl (i := 0) rfl rfl ?_
      refine g_get ok (dk m_RG_gather 65 rfl) (pc' := 135) rfl f_RG_23 H1.fr rfl ?_
      obtain ⟨l0, l1, hlz⟩ := H1.lp.size
      refine g_callV ok (dk m_RG_gather 66 rfl) (pc' := 138) rfl c_RG_86 (c_AL_size g 0 hlz) hlz rfl rfl (by simp [Value.category]) (by omega) rfl (rc' := 0) (rs' := 0) (by omega) (by omega) (fun rv h' hcc => ?_) (fun i h' hcc => by obtain ⟨e9, -⟩ := hcc; cases e9)
      obtain ⟨e9, e2⟩ := hcc
      have e3 := e2.symm
      subst e3
      cases e9
      refine g_icmp_ge ok (dk m_RG_gather 67 rfl) (tgt := 209) (by decide) (pc' := 141) rfl (fun c_138 => absurd c_138 (nI_ge hk2 hnp)) (fun c_138 => ?_)
      refine g_aload_n ok (dk m_RG_gather 68 rfl) (pc' := 142) rfl (i := 0) rfl rfl ?_
      refine g_get ok (dk m_RG_gather 69 rfl) (pc' := 145) rfl f_RG_23 H1.fr rfl ?_
      refine g_iload_n ok (dk m_RG_gather 70 rfl) (pc' := 146) rfl (i := 3) rfl rfl ?_
      refine g_callV ok (dk m_RG_gather 71 rfl) (pc' := 149) rfl c_RG_112 (c_AL_get g 2 (by omega) H1.lp hk2) hlz rfl rfl (by simp [Value.category]) (by omega) rfl (rc' := 0) (rs' := 0) (by omega) (by omega) (fun rv h' hcc => ?_) (fun i h' hcc => by obtain ⟨e9, -⟩ := hcc; cases e9)
      obtain ⟨e9, e2⟩ := hcc
      have e3 := e2.symm
      subst e3
      cases e9
      refine g_castY ok (dk m_RG_gather 72 rfl) (pc' := 152) rfl k_RG_96 xc_7 ty_7 (H1.pk hk2) ?_
      refine g_astore ok (dk m_RG_gather 73 rfl) (pc' := 154) rfl (Nat.le_of_ble_eq_true rfl) rfl ?_
      refine g_aload ok (dk m_RG_gather 74 rfl) (pc' := 156) rfl rfl ?_
      refine g_getR ok (dk m_RG_gather 75 rfl) (pc' := 159) rfl f_RG_303 (H1.pk hk2) rfl ?_
      refine g_aload_n ok (dk m_RG_gather 76 rfl) (pc' := 160) rfl (i := 1) rfl rfl ?_
      refine g_acmpR_ne ok (dk m_RG_gather 77 rfl) (tgt := 203) (by decide) (pc' := 163) rfl (fun c_160 => ?_) (fun c_160 => ?_)
      · refine g_iinc ok (dk m_RG_gather 95 rfl) (pc' := 206) rfl rfl (nI_1 k) rfl ?_
        refine g_goto ok (dk m_RG_gather 96 rfl) (pc' := 130) (by decide) ?_
        exact ih (k + 1) (by omega) _ _ _ H1 o1 (by rw [← hv, b_4, if_neg (fun z => c_160 (by rw [z.1]))])
      · refine g_aload ok (dk m_RG_gather 78 rfl) (pc' := 165) rfl rfl ?_
        refine g_get ok (dk m_RG_gather 79 rfl) (pc' := 168) rfl f_RG_335 (H1.pk hk2) rfl ?_
        refine g_if_ne ok (dk m_RG_gather 80 rfl) (tgt := 203) (by decide) (pc' := 171) rfl (fun c_168 => ?_) (fun c_168 => ?_)
        · refine g_iinc ok (dk m_RG_gather 95 rfl) (pc' := 206) rfl rfl (nI_1 k) rfl ?_
          refine g_goto ok (dk m_RG_gather 96 rfl) (pc' := 130) (by decide) ?_
          exact ih (k + 1) (by omega) _ _ _ H1 o1 (by rw [← hv, b_4, if_neg (fun z => c_168 z.2)])
        · refine g_aload_n ok (dk m_RG_gather 81 rfl) (pc' := 172) rfl (i := 0) rfl rfl ?_
          refine g_get ok (dk m_RG_gather 82 rfl) (pc' := 175) rfl f_RG_37 H1.fr rfl ?_
          refine g_iload_n ok (dk m_RG_gather 83 rfl) (pc' := 176) rfl (i := 2) rfl rfl ?_
          refine g_iinc ok (dk m_RG_gather 84 rfl) (pc' := 179) rfl rfl (nI_1 b.1) rfl ?_
          refine g_aload ok (dk m_RG_gather 85 rfl) (pc' := 181) rfl rfl ?_
          refine g_getR ok (dk m_RG_gather 86 rfl) (pc' := 184) rfl f_RG_322 (H1.pk hk2) rfl ?_
          refine g_callV ok (dk m_RG_gather 87 rfl) (pc' := 187) rfl c_RG_349 (c_Row_put g (nI b.1) ((gK G k).2 0) 0 H1.hr H1.hc (by decide)) H1.hr rfl rfl (by simp [Value.category]) (by omega) rfl (rc' := 0) (rs' := 0) (by omega) (by omega) (fun rv h' hcc => ?_) (fun i h' hcc => by obtain ⟨e9, -⟩ := hcc; cases e9)
          obtain ⟨e9, e2⟩ := hcc
          cases e9
          have H2 := H1.putH e2
          have o2 := q_off.upE (q_off.rf (X := (fun y => y = D.1 0 6))) rfl e2
          clear e2
          refine g_aload_n ok (dk m_RG_gather 88 rfl) (pc' := 188) rfl (i := 0) rfl rfl ?_
          refine g_get ok (dk m_RG_gather 89 rfl) (pc' := 191) rfl f_RG_37 H2.fr rfl ?_
          refine g_iload_n ok (dk m_RG_gather 90 rfl) (pc' := 192) rfl (i := 2) rfl rfl ?_
          refine g_iinc ok (dk m_RG_gather 91 rfl) (pc' := 195) rfl rfl (nI_1 (b.1 + 1)) rfl ?_
          refine g_aload ok (dk m_RG_gather 92 rfl) (pc' := 197) rfl rfl ?_
          refine g_getR ok (dk m_RG_gather 93 rfl) (pc' := 200) rfl f_RG_317 (H2.pk hk2) rfl ?_
          refine g_callV ok (dk m_RG_gather 94 rfl) (pc' := 203) rfl c_RG_349 (c_Row_put g (nI (b_add b ((gK G k).2 0)).1) ((gK G k).2 1) 0 H2.hr H2.hc (by decide)) H2.hr rfl rfl (by simp [Value.category]) (by omega) rfl (rc' := 0) (rs' := 0) (by omega) (by omega) (fun rv h' hcc => ?_) (fun i h' hcc => by obtain ⟨e9, -⟩ := hcc; cases e9)
          obtain ⟨e9, e2⟩ := hcc
          cases e9
          have H3 := H2.putH e2
          have o3 := q_off.upE (q_off.rf (X := (fun y => y = D.1 0 6))) rfl e2
          clear e2
          refine g_iinc ok (dk m_RG_gather 95 rfl) (pc' := 206) rfl rfl (nI_1 k) rfl ?_
          refine g_goto ok (dk m_RG_gather 96 rfl) (pc' := 130) (by decide) ?_
          exact ih (k + 1) (by omega) _ _ _ H3 ((o1.tr o2).tr o3) (by rw [← hv, b_4, if_pos ⟨H1.inj (H1.own hk2) hi c_160, c_168⟩])
  have loop3 : ∀ (m k : Nat), k + m = u → ∀ (h1 : q_H) (b : b_T), q_RG g h1 r w D ob (sH G b.2) → q_off h h1 (fun y => y = D.1 0 6) → b_4 G i (np G) 0 (b_3 (gM G i) m k b) = G_gat G i → GW g Z A (fun q h' => q = .inl (some (.int (nI (G_gat G i).1))) ∧ q_RG g h' r w D ob (sH G (G_gat G i).2) ∧ q_off h h' (fun y => y = D.1 0 6)) 0 0 h1 95 [some (.ref r), some (.ref (mA D i)), some (.int (nI b.1)), some (.int (nI k)), none] [] := by
    intro m
    induction m with
    | zero =>
      intro k hk h1 b H1 o1 hv
      refine g_iload_n ok (dk m_RG_gather 46 rfl) (pc' := 96) rfl (i := 3) rfl rfl ?_
      refine g_aload_n ok (dk m_RG_gather 47 rfl) (pc' := 97) rfl (i := 1) rfl rfl ?_
      refine g_get ok (dk m_RG_gather 48 rfl) (pc' := 100) rfl f_RG_353 (H1.mem hi).1 rfl ?_
      rw [hu]
      refine g_icmp_ge ok (dk m_RG_gather 49 rfl) (tgt := 128) (by decide) (pc' := 103) rfl (fun c_100 => ?_) (fun c_100 => absurd (show nI u ≤ nI k from by rw [show k = u by omega]; exact Int32.le_refl _) c_100)
      refine g_iconst ok (dk m_RG_gather 61 rfl) (pc' := 129) rfl (v := 0) (by decide) ?_
      refine g_istore_n ok (dk m_RG_gather 62 rfl) (pc' := 130) rfl (i := 3) rfl (Nat.le_of_ble_eq_true rfl) rfl ?_
      exact loop4 (np G) 0 (by omega) _ _ _ H1 o1 hv
    | succ m ih =>
      intro k hk h1 b H1 o1 hv
      refine g_iload_n ok (dk m_RG_gather 46 rfl) (pc' := 96) rfl (i := 3) rfl rfl ?_
      refine g_aload_n ok (dk m_RG_gather 47 rfl) (pc' := 97) rfl (i := 1) rfl rfl ?_
      refine g_get ok (dk m_RG_gather 48 rfl) (pc' := 100) rfl f_RG_353 (H1.mem hi).1 rfl ?_
      rw [hu]
      refine g_icmp_ge ok (dk m_RG_gather 49 rfl) (tgt := 128) (by decide) (pc' := 103) rfl (fun c_100 => absurd c_100 (nI_ge (show k < u by omega) (by omega))) (fun c_100 => ?_)
      refine g_aload_n ok (dk m_RG_gather 50 rfl) (pc' := 104) rfl (i := 0) rfl rfl ?_
      refine g_get ok (dk m_RG_gather 51 rfl) (pc' := 107) rfl f_RG_37 H1.fr rfl ?_
      refine g_iload_n ok (dk m_RG_gather 52 rfl) (pc' := 108) rfl (i := 2) rfl rfl ?_
      refine g_iinc ok (dk m_RG_gather 53 rfl) (pc' := 111) rfl rfl (nI_1 b.1) rfl ?_
      refine g_aload_n ok (dk m_RG_gather 54 rfl) (pc' := 112) rfl (i := 1) rfl rfl ?_
      refine g_getR ok (dk m_RG_gather 55 rfl) (pc' := 115) rfl f_RG_356 (H1.mem hi).1 rfl ?_
      refine g_iload_n ok (dk m_RG_gather 56 rfl) (pc' := 116) rfl (i := 3) rfl rfl ?_
      refine g_callV ok (dk m_RG_gather 57 rfl) (pc' := 119) rfl c_RG_193 (c_Row_get g (nI k) 0 ((H1.mem hi).2.1 1 (by decide)).1 ((H1.mem hi).2.1 1 (by decide)).2 (m_len_lt _)) ((H1.mem hi).2.1 1 (by decide)).1 rfl rfl (by simp [Value.category]) (by omega) rfl (rc' := 0) (rs' := 0) (by omega) (by omega) (fun rv h' hcc => ?_) (fun i h' hcc => by obtain ⟨e9, -⟩ := hcc; cases e9)
      obtain ⟨e9, e2⟩ := hcc
      have e3 := e2.symm
      subst e3
      cases e9
      refine g_callV ok (dk m_RG_gather 58 rfl) (pc' := 122) rfl c_RG_349 (c_Row_put g (nI b.1) (r_get (m_len 1) ((gM G i).2 1) (nI k)) 0 H1.hr H1.hc (by decide)) H1.hr rfl rfl (by simp [Value.category]) (by omega) rfl (rc' := 0) (rs' := 0) (by omega) (by omega) (fun rv h' hcc => ?_) (fun i h' hcc => by obtain ⟨e9, -⟩ := hcc; cases e9)
      obtain ⟨e9, e2⟩ := hcc
      cases e9
      have H2 := H1.putH e2
      have o2 := q_off.upE (q_off.rf (X := (fun y => y = D.1 0 6))) rfl e2
      clear e2
      refine g_iinc ok (dk m_RG_gather 59 rfl) (pc' := 125) rfl rfl (nI_1 k) rfl ?_
      refine g_goto ok (dk m_RG_gather 60 rfl) (pc' := 95) (by decide) ?_
      exact ih (k + 1) (by omega) _ (b_add b (r_get (m_len 1) ((gM G i).2 1) (nI k))) H2 (o1.tr o2) (by rw [← hv]; rfl)
  have loop2 : ∀ (m k : Nat), k + m = 31 → ∀ (h1 : q_H) (b : b_T), q_RG g h1 r w D ob (sH G b.2) → q_off h h1 (fun y => y = D.1 0 6) → b_4 G i (np G) 0 (b_3 (gM G i) u 0 (b_2 (gM G i) m k b)) = G_gat G i → GW g Z A (fun q h' => q = .inl (some (.int (nI (G_gat G i).1))) ∧ q_RG g h' r w D ob (sH G (G_gat G i).2) ∧ q_off h h' (fun y => y = D.1 0 6)) 0 0 h1 50 [some (.ref r), some (.ref (mA D i)), some (.int (nI b.1)), some (.int (nI k)), none] [] := by
    intro m
    induction m with
    | zero =>
      intro k hk h1 b H1 o1 hv
      refine g_iload_n ok (dk m_RG_gather 24 rfl) (pc' := 51) rfl (i := 3) rfl rfl ?_
      refine g_bipush ok (dk m_RG_gather 25 rfl) (pc' := 53) rfl (v := 31) (by decide) ?_
      refine g_icmp_ge ok (dk m_RG_gather 26 rfl) (tgt := 93) (by decide) (pc' := 56) rfl (fun c_53 => ?_) (fun c_53 => absurd (show (31 : Int32) ≤ nI k from by rw [show k = 31 by omega]; decide) c_53)
      refine g_iconst ok (dk m_RG_gather 44 rfl) (pc' := 94) rfl (v := 0) (by decide) ?_
      refine g_istore_n ok (dk m_RG_gather 45 rfl) (pc' := 95) rfl (i := 3) rfl (Nat.le_of_ble_eq_true rfl) rfl ?_
      exact loop3 u 0 (by omega) _ _ H1 o1 hv
    | succ m ih =>
      intro k hk h1 b H1 o1 hv
      refine g_iload_n ok (dk m_RG_gather 24 rfl) (pc' := 51) rfl (i := 3) rfl rfl ?_
      refine g_bipush ok (dk m_RG_gather 25 rfl) (pc' := 53) rfl (v := 31) (by decide) ?_
      refine g_icmp_ge ok (dk m_RG_gather 26 rfl) (tgt := 93) (by decide) (pc' := 56) rfl (fun c_53 => absurd c_53 (show ¬ nI 31 ≤ nI k from nI_ge (by omega) (by decide))) (fun c_53 => ?_)
      refine g_aload_n ok (dk m_RG_gather 27 rfl) (pc' := 57) rfl (i := 1) rfl rfl ?_
      refine g_getR ok (dk m_RG_gather 28 rfl) (pc' := 60) rfl f_RG_352 (H1.mem hi).1 rfl ?_
      refine g_iload_n ok (dk m_RG_gather 29 rfl) (pc' := 61) rfl (i := 3) rfl rfl ?_
      refine g_callV ok (dk m_RG_gather 30 rfl) (pc' := 64) rfl c_RG_193 (c_Row_get g (nI k) 0 ((H1.mem hi).2.1 0 (by decide)).1 ((H1.mem hi).2.1 0 (by decide)).2 (m_len_lt _)) ((H1.mem hi).2.1 0 (by decide)).1 rfl rfl (by simp [Value.category]) (by omega) rfl (rc' := 0) (rs' := 0) (by omega) (by omega) (fun rv h' hcc => ?_) (fun i h' hcc => by obtain ⟨e9, -⟩ := hcc; cases e9)
      obtain ⟨e9, e2⟩ := hcc
      have e3 := e2.symm
      subst e3
      cases e9
      refine g_iconst ok (dk m_RG_gather 31 rfl) (pc' := 65) rfl (v := (-1)) (by decide) ?_
      refine g_icmp_eq ok (dk m_RG_gather 32 rfl) (tgt := 87) (by decide) (pc' := 68) rfl (fun c_65 => ?_) (fun c_65 => ?_)
      · refine g_iinc ok (dk m_RG_gather 42 rfl) (pc' := 90) rfl rfl (nI_1 k) rfl ?_
        refine g_goto ok (dk m_RG_gather 43 rfl) (pc' := 50) (by decide) ?_
        exact ih (k + 1) (by omega) _ b H1 o1 (by rw [← hv, b_2, if_pos c_65])
      · refine g_aload_n ok (dk m_RG_gather 33 rfl) (pc' := 69) rfl (i := 0) rfl rfl ?_
        refine g_get ok (dk m_RG_gather 34 rfl) (pc' := 72) rfl f_RG_37 H1.fr rfl ?_
        refine g_iload_n ok (dk m_RG_gather 35 rfl) (pc' := 73) rfl (i := 2) rfl rfl ?_
        refine g_iinc ok (dk m_RG_gather 36 rfl) (pc' := 76) rfl rfl (nI_1 b.1) rfl ?_
        refine g_aload_n ok (dk m_RG_gather 37 rfl) (pc' := 77) rfl (i := 1) rfl rfl ?_
        refine g_getR ok (dk m_RG_gather 38 rfl) (pc' := 80) rfl f_RG_352 (H1.mem hi).1 rfl ?_
        refine g_iload_n ok (dk m_RG_gather 39 rfl) (pc' := 81) rfl (i := 3) rfl rfl ?_
        refine g_callV ok (dk m_RG_gather 40 rfl) (pc' := 84) rfl c_RG_193 (c_Row_get g (nI k) 0 ((H1.mem hi).2.1 0 (by decide)).1 ((H1.mem hi).2.1 0 (by decide)).2 (m_len_lt _)) ((H1.mem hi).2.1 0 (by decide)).1 rfl rfl (by simp [Value.category]) (by omega) rfl (rc' := 0) (rs' := 0) (by omega) (by omega) (fun rv h' hcc => ?_) (fun i h' hcc => by obtain ⟨e9, -⟩ := hcc; cases e9)
        obtain ⟨e9, e2⟩ := hcc
        have e3 := e2.symm
        subst e3
        cases e9
        refine g_callV ok (dk m_RG_gather 41 rfl) (pc' := 87) rfl c_RG_349 (c_Row_put g (nI b.1) (r_get (m_len 0) ((gM G i).2 0) (nI k)) 0 H1.hr H1.hc (by decide)) H1.hr rfl rfl (by simp [Value.category]) (by omega) rfl (rc' := 0) (rs' := 0) (by omega) (by omega) (fun rv h' hcc => ?_) (fun i h' hcc => by obtain ⟨e9, -⟩ := hcc; cases e9)
        obtain ⟨e9, e2⟩ := hcc
        cases e9
        have H2 := H1.putH e2
        have o2 := q_off.upE (q_off.rf (X := (fun y => y = D.1 0 6))) rfl e2
        clear e2
        refine g_iinc ok (dk m_RG_gather 42 rfl) (pc' := 90) rfl rfl (nI_1 k) rfl ?_
        refine g_goto ok (dk m_RG_gather 43 rfl) (pc' := 50) (by decide) ?_
        exact ih (k + 1) (by omega) _ (b_add b (r_get (m_len 0) ((gM G i).2 0) (nI k))) H2 (o1.tr o2) (by rw [← hv, b_2, if_neg c_65])
  refine g_iconst ok (dk m_RG_gather 0 rfl) (pc' := 1) rfl (v := 0) (by decide) ?_
  refine g_istore_n ok (dk m_RG_gather 1 rfl) (pc' := 2) rfl (i := 2) rfl (Nat.le_of_ble_eq_true rfl) rfl ?_
  refine g_aload_n ok (dk m_RG_gather 2 rfl) (pc' := 3) rfl (i := 1) rfl rfl ?_
  refine g_get ok (dk m_RG_gather 3 rfl) (pc' := 6) rfl f_RG_212 (H.mem hi).1 rfl ?_
  refine g_if_eq ok (dk m_RG_gather 4 rfl) (tgt := 48) (by decide) (pc' := 9) rfl (fun c_6 => ?_) (fun c_6 => ?_)
  · refine g_iconst ok (dk m_RG_gather 22 rfl) (pc' := 49) rfl (v := 0) (by decide) ?_
    refine g_istore_n ok (dk m_RG_gather 23 rfl) (pc' := 50) rfl (i := 3) rfl (Nat.le_of_ble_eq_true rfl) rfl ?_
    exact loop2 31 0 (by omega) _ (0, gH G) H q_off.rf (by rw [G_gat, b_1, if_neg (fun z => z.1 c_6), ← hu2])
  · refine g_aload_n ok (dk m_RG_gather 5 rfl) (pc' := 10) rfl (i := 0) rfl rfl ?_
    refine g_aload_n ok (dk m_RG_gather 6 rfl) (pc' := 11) rfl (i := 1) rfl rfl ?_
    refine g_get ok (dk m_RG_gather 7 rfl) (pc' := 14) rfl f_RG_133 (H.mem hi).1 rfl ?_
    refine g_callV ok (dk m_RG_gather 8 rfl) (pc' := 17) rfl c_RG_205 (c_RG_isEpoch g ((gM G i).1 2) 1 (by omega) H) H.fr rfl rfl (by simp [Value.category]) (by omega) rfl (rc' := 0) (rs' := 0) (by omega) (by omega) (fun rv h' hcc => ?_) (fun i h' hcc => by obtain ⟨e9, -⟩ := hcc; cases e9)
    obtain ⟨e9, e2⟩ := hcc
    have e3 := e2.symm
    subst e3
    cases e9
    refine g_if_eq ok (dk m_RG_gather 9 rfl) (tgt := 48) (by decide) (pc' := 20) rfl (fun c_17 => ?_) (fun c_17 => ?_)
    · refine g_iconst ok (dk m_RG_gather 22 rfl) (pc' := 49) rfl (v := 0) (by decide) ?_
      refine g_istore_n ok (dk m_RG_gather 23 rfl) (pc' := 50) rfl (i := 3) rfl (Nat.le_of_ble_eq_true rfl) rfl ?_
      exact loop2 31 0 (by omega) _ (0, gH G) H q_off.rf (by rw [G_gat, b_1, if_neg (fun z => b2i_0 c_17 z.2), ← hu2])
    · obtain ⟨j, hj, he⟩ := r_in_of hne (b2i_n c_17)
      have hy : ix (nI j) = j := ix_nI (by omega)
      refine g_aload_n ok (dk m_RG_gather 10 rfl) (pc' := 21) rfl (i := 0) rfl rfl ?_
      refine g_get ok (dk m_RG_gather 11 rfl) (pc' := 24) rfl f_RG_37 H.fr rfl ?_
      refine g_iload_n ok (dk m_RG_gather 12 rfl) (pc' := 25) rfl (i := 2) rfl rfl ?_
      refine g_iinc ok (dk m_RG_gather 13 rfl) (pc' := 28) rfl rfl (nI_1 0) rfl ?_
      refine g_aload_n ok (dk m_RG_gather 14 rfl) (pc' := 29) rfl (i := 0) rfl rfl ?_
      refine g_get ok (dk m_RG_gather 15 rfl) (pc' := 32) rfl f_RG_29 H.fr rfl ?_
      refine g_aload_n ok (dk m_RG_gather 16 rfl) (pc' := 33) rfl (i := 1) rfl rfl ?_
      refine g_get ok (dk m_RG_gather 17 rfl) (pc' := 36) rfl f_RG_133 (H.mem hi).1 rfl ?_
      rw [he]
      refine g_callV ok (dk m_RG_gather 18 rfl) (pc' := 39) rfl c_RG_112 (c_AL_get g 2 (by omega) H.le hj) hle rfl rfl (by simp [Value.category]) (by omega) rfl (rc' := 0) (rs' := 0) (by omega) (by omega) (fun rv h' hcc => ?_) (fun i h' hcc => by obtain ⟨e9, -⟩ := hcc; cases e9)
      obtain ⟨e9, e2⟩ := hcc
      have e3 := e2.symm
      subst e3
      cases e9
      refine g_castY ok (dk m_RG_gather 19 rfl) (pc' := 42) rfl k_RG_50 xc_5 ty_5 (H.ep hj).1 ?_
      refine g_get ok (dk m_RG_gather 20 rfl) (pc' := 45) rfl f_RG_61 (H.ep hj).1 rfl ?_
      refine g_callV ok (dk m_RG_gather 21 rfl) (pc' := 48) rfl c_RG_349 (c_Row_put g (nI ((0, gH G) : b_T).1) ((gE G j).1 2) 0 (show q_RG g h r w D ob (sH G (gH G)) from H).hr (show q_RG g h r w D ob (sH G (gH G)) from H).hc (by decide)) (show q_RG g h r w D ob (sH G (gH G)) from H).hr rfl rfl (by simp [Value.category]) (by omega) rfl (rc' := 0) (rs' := 0) (by omega) (by omega) (fun rv h' hcc => ?_) (fun i h' hcc => by obtain ⟨e9, -⟩ := hcc; cases e9)
      obtain ⟨e9, e2⟩ := hcc
      cases e9
      have H2 := (show q_RG g h r w D ob (sH G (gH G)) from H).putH e2
      have o2 := q_off.upE (q_off.rf (X := (fun y => y = D.1 0 6))) rfl e2
      clear e2
      refine g_iconst ok (dk m_RG_gather 22 rfl) (pc' := 49) rfl (v := 0) (by decide) ?_
      refine g_istore_n ok (dk m_RG_gather 23 rfl) (pc' := 50) rfl (i := 3) rfl (Nat.le_of_ble_eq_true rfl) rfl ?_
      exact loop2 31 0 (by omega) _ (b_add (0, gH G) ((gE G j).1 2)) H2 o2 (by rw [G_gat, b_1, if_pos ⟨c_6, b2i_n c_17⟩, he, hy, ← hu2])
set_option maxHeartbeats 1000000 in
theorem c_RG_memberNumbered (g : q_G) {h : q_H} {r : Nat} {w : Nat → Nat} {D : a_T} {ob : Nat → Option Nat} {G : G_T} (m : Int32) (d mc ms : Nat) (hd : 6 ≤ d) (hmc : 1 ≤ mc) (hms : 6 ≤ ms) (H : q_RG g h r w D ob G) : MG g y_RG_memberNumbered b_RG_memberNumbered 2 (some (.object "RatchetGroup$Member")) d mc ms [.ref r, .int m] h (fun q h' => ((r_in 16 m ∧ q = .inl (some (.ref (mA D (ix m))))) ∨ (¬ r_in 16 m ∧ q = .inr 0)) ∧ h' = h) := by
  obtain ⟨lm0, lm1, hlm⟩ := H.lm.size
  refine MG.of (by decide +kernel) (by simp [Value.category]) (Nat.le_of_ble_eq_true rfl) ?_
  intro Z A ok
  refine g_aload_n ok (dk m_RG_memberNumbered 0 rfl) (pc' := 1) rfl (i := 0) rfl rfl ?_
  refine g_iload_n ok (dk m_RG_memberNumbered 1 rfl) (pc' := 2) rfl (i := 1) rfl rfl ?_
  refine g_callV ok (dk m_RG_memberNumbered 2 rfl) (pc' := 5) rfl c_RG_198 (c_RG_isMember g m 1 (by omega) H) H.fr rfl rfl (by simp [Value.category]) (by omega) rfl (rc' := mc) (rs' := ms) (by omega) (by omega) (fun rv h' hcc => ?_) (fun i h' hcc => by obtain ⟨e9, -⟩ := hcc; cases e9)
  obtain ⟨e9, e2⟩ := hcc
  have e3 := e2.symm
  subst e3
  cases e9
  refine g_if_ne ok (dk m_RG_memberNumbered 3 rfl) (tgt := 19) (by decide) (pc' := 8) rfl (fun c_5 => ?_) (fun c_5 => ?_)
  · obtain ⟨j, hj, rfl⟩ := r_in_of (by decide) (b2i_n c_5)
    have hx : ix (nI j) = j := ix_nI (by omega)
    refine g_aload_n ok (dk m_RG_memberNumbered 9 rfl) (pc' := 20) rfl (i := 0) rfl rfl ?_
    refine g_get ok (dk m_RG_memberNumbered 10 rfl) (pc' := 23) rfl f_RG_19 H.fr rfl ?_
    refine g_iload_n ok (dk m_RG_memberNumbered 11 rfl) (pc' := 24) rfl (i := 1) rfl rfl ?_
    refine g_callV ok (dk m_RG_memberNumbered 12 rfl) (pc' := 27) rfl c_RG_112 (c_AL_get g 2 (by omega) H.lm hj) hlm rfl rfl (by simp [Value.category]) (by omega) rfl (rc' := mc) (rs' := ms) (by omega) (by omega) (fun rv h' hcc => ?_) (fun i h' hcc => by obtain ⟨e9, -⟩ := hcc; cases e9)
    obtain ⟨e9, e2⟩ := hcc
    have e3 := e2.symm
    subst e3
    cases e9
    refine g_castY ok (dk m_RG_memberNumbered 13 rfl) (pc' := 30) rfl k_RG_41 xc_4 ty_4 (H.mem hj).1 ?_
    exact g_aret ok (dk m_RG_memberNumbered 14 rfl) rfl (Or.inl ⟨_, rfl⟩) (Or.inr ⟨_, rfl⟩) ⟨Or.inl ⟨b2i_n c_5, by rw [hx]⟩, rfl⟩
  · exact g_throw ok (kx := 0) (sx := 263) (tx := "no such member") (Or.inl ⟨rfl, rfl, rfl⟩) (by decide +kernel) (dk m_RG_memberNumbered 4 rfl) (dk m_RG_memberNumbered 5 rfl) (Or.inr ⟨dk m_RG_memberNumbered 6 rfl, rfl⟩) (dk m_RG_memberNumbered 7 rfl) (dk m_RG_memberNumbered 8 rfl) (by decide) (by omega) rfl (by omega) (by omega) ⟨Or.inr ⟨b2i_0 c_5, rfl⟩, rfl⟩
noncomputable def A_member (G : G_T) (m wh : Int32) : Int32 := by
  classical exact if r_in 16 m then (if wh = 0 then (gM G (ix m)).1 2 else if wh = 1 then (gM G (ix m)).1 3 else if wh = 2 then nI (G_gat G (ix m)).1 else if wh = 3 then (gM G (ix m)).1 5 else -1) else -1
def G_u (G : G_T) : Prop := ∀ i, i < 16 → ∃ u : Nat, u ≤ 20 ∧ (gM G i).1 1 = nI u
set_option maxHeartbeats 1000000 in
theorem c_RG_member (g : q_G) {h : q_H} {r : Nat} {w : Nat → Nat} {D : a_T} {ob : Nat → Option Nat} {G : G_T} (m wh : Int32) (d : Nat) (hd : 4 ≤ d) (hU : G_u G) (hne : ne G < 2 ^ 31) (hnp : np G < 2 ^ 31) (H : q_RG g h r w D ob G) : MG g y_RG_member b_RG_member 4 (some .int) d 0 0 [.ref r, .int m, .int wh] h (fun q h' => q = .inl (some (.int (A_member G m wh))) ∧ ∃ f, q_RG g h' r w D ob (sH G f)) := by
  obtain ⟨lm0, lm1, hlm⟩ := H.lm.size
  refine MG.of (by decide +kernel) (by simp [Value.category]) (Nat.le_of_ble_eq_true rfl) ?_
  intro Z A ok
  refine g_aload_n ok (dk m_RG_member 0 rfl) (pc' := 1) rfl (i := 0) rfl rfl ?_
  refine g_iload_n ok (dk m_RG_member 1 rfl) (pc' := 2) rfl (i := 1) rfl rfl ?_
  refine g_callV ok (dk m_RG_member 2 rfl) (pc' := 5) rfl c_RG_198 (c_RG_isMember g m 1 (by omega) H) H.fr rfl rfl (by simp [Value.category]) (by omega) rfl (rc' := 0) (rs' := 0) (by omega) (by omega) (fun rv h' hcc => ?_) (fun i h' hcc => by obtain ⟨e9, -⟩ := hcc; cases e9)
  obtain ⟨e9, e2⟩ := hcc
  have e3 := e2.symm
  subst e3
  cases e9
  refine g_if_ne ok (dk m_RG_member 3 rfl) (tgt := 10) (by decide) (pc' := 8) rfl (fun c_5 => ?_) (fun c_5 => ?_)
  · obtain ⟨j, hj, rfl⟩ := r_in_of (by decide) (b2i_n c_5)
    have hx : ix (nI j) = j := ix_nI (by omega)
    obtain ⟨u, hu20, hu⟩ := hU j hj
    refine g_aload_n ok (dk m_RG_member 6 rfl) (pc' := 11) rfl (i := 0) rfl rfl ?_
    refine g_get ok (dk m_RG_member 7 rfl) (pc' := 14) rfl f_RG_19 H.fr rfl ?_
    refine g_iload_n ok (dk m_RG_member 8 rfl) (pc' := 15) rfl (i := 1) rfl rfl ?_
    refine g_callV ok (dk m_RG_member 9 rfl) (pc' := 18) rfl c_RG_112 (c_AL_get g 2 (by omega) H.lm hj) hlm rfl rfl (by simp [Value.category]) (by omega) rfl (rc' := 0) (rs' := 0) (by omega) (by omega) (fun rv h' hcc => ?_) (fun i h' hcc => by obtain ⟨e9, -⟩ := hcc; cases e9)
    obtain ⟨e9, e2⟩ := hcc
    have e3 := e2.symm
    subst e3
    cases e9
    refine g_castY ok (dk m_RG_member 10 rfl) (pc' := 21) rfl k_RG_41 xc_4 ty_4 (H.mem hj).1 ?_
    refine g_astore_n ok (dk m_RG_member 11 rfl) (pc' := 22) rfl (i := 3) rfl (Nat.le_of_ble_eq_true rfl) rfl ?_
    refine g_iload_n ok (dk m_RG_member 12 rfl) (pc' := 23) rfl (i := 2) rfl rfl ?_
    by_cases s_0 : wh = 0
    · subst s_0
      refine g_tableIn ok (dk m_RG_member 13 rfl) (by decide) (by decide) (off := 29) rfl (tgt := 52) (by decide) ?_
      refine g_aload_n ok (dk m_RG_member 14 rfl) (pc' := 53) rfl (i := 3) rfl rfl ?_
      refine g_get ok (dk m_RG_member 15 rfl) (pc' := 56) rfl f_RG_133 (H.mem hj).1 rfl ?_
      exact g_iret ok (dk m_RG_member 16 rfl) rfl rfl ⟨by rw [A_member, if_pos (b2i_n c_5), hx]; rfl, gH G, H⟩
    by_cases s_1 : wh = 1
    · subst s_1
      refine g_tableIn ok (dk m_RG_member 13 rfl) (by decide) (by decide) (off := 34) rfl (tgt := 57) (by decide) ?_
      refine g_aload_n ok (dk m_RG_member 17 rfl) (pc' := 58) rfl (i := 3) rfl rfl ?_
      refine g_get ok (dk m_RG_member 18 rfl) (pc' := 61) rfl f_RG_129 (H.mem hj).1 rfl ?_
      exact g_iret ok (dk m_RG_member 19 rfl) rfl rfl ⟨by rw [A_member, if_pos (b2i_n c_5), hx]; rfl, gH G, H⟩
    by_cases s_2 : wh = 2
    · subst s_2
      refine g_tableIn ok (dk m_RG_member 13 rfl) (by decide) (by decide) (off := 39) rfl (tgt := 62) (by decide) ?_
      refine g_aload_n ok (dk m_RG_member 20 rfl) (pc' := 63) rfl (i := 0) rfl rfl ?_
      refine g_aload_n ok (dk m_RG_member 21 rfl) (pc' := 64) rfl (i := 3) rfl rfl ?_
      refine g_callV ok (dk m_RG_member 22 rfl) (pc' := 67) rfl c_RG_189 (c_RG_gather g 3 (by omega) hj hu hu20 hne hnp H) H.fr rfl rfl (by simp [Value.category]) (by omega) rfl (rc' := 0) (rs' := 0) (by omega) (by omega) (fun rv h' hcc => ?_) (fun i h' hcc => by obtain ⟨e9, -⟩ := hcc; cases e9)
      obtain ⟨e9, H2, o2⟩ := hcc
      cases e9
      exact g_iret ok (dk m_RG_member 23 rfl) rfl rfl ⟨by rw [A_member, if_pos (b2i_n c_5), hx]; rfl, _, H2⟩
    by_cases s_3 : wh = 3
    · subst s_3
      refine g_tableIn ok (dk m_RG_member 13 rfl) (by decide) (by decide) (off := 45) rfl (tgt := 68) (by decide) ?_
      refine g_aload_n ok (dk m_RG_member 24 rfl) (pc' := 69) rfl (i := 3) rfl rfl ?_
      refine g_get ok (dk m_RG_member 25 rfl) (pc' := 72) rfl f_RG_202 (H.mem hj).1 rfl ?_
      exact g_iret ok (dk m_RG_member 26 rfl) rfl rfl ⟨by rw [A_member, if_pos (b2i_n c_5), hx]; rfl, gH G, H⟩
    refine g_tableOut ok (dk m_RG_member 13 rfl) (sw_out4 s_0 s_1 s_2 s_3) (tgt := 73) (by decide) ?_
    refine g_iconst ok (dk m_RG_member 27 rfl) (pc' := 74) rfl (v := (-1)) (by decide) ?_
    exact g_iret ok (dk m_RG_member 28 rfl) rfl rfl ⟨by rw [A_member, if_pos (b2i_n c_5), if_neg s_0, if_neg s_1, if_neg s_2, if_neg s_3], gH G, H⟩
  · refine g_iconst ok (dk m_RG_member 4 rfl) (pc' := 9) rfl (v := (-1)) (by decide) ?_
    exact g_iret ok (dk m_RG_member 5 rfl) rfl rfl ⟨by rw [A_member, if_neg (b2i_0 c_5)], gH G, H⟩
theorem b_2_le (M : m_T) : ∀ (m k : Nat) (b : b_T), (b_2 M m k b).1 ≤ b.1 + m := by
  intro m
  induction m with
  | zero => intro k b; exact Nat.le_refl _
  | succ m ih =>
    intro k b
    refine Nat.le_trans (ih (k + 1) _) ?_
    split
    · omega
    · show b.1 + 1 + m ≤ _
      omega
theorem b_3_le (M : m_T) : ∀ (m k : Nat) (b : b_T), (b_3 M m k b).1 ≤ b.1 + m := by
  intro m
  induction m with
  | zero => intro k b; exact Nat.le_refl _
  | succ m ih =>
    intro k b
    refine Nat.le_trans (ih (k + 1) _) ?_
    show b.1 + 1 + m ≤ _
    omega
theorem b_4_le (G : G_T) (i : Nat) : ∀ (m k : Nat) (b : b_T), (b_4 G i m k b).1 ≤ b.1 + 2 * m := by
  intro m
  induction m with
  | zero => intro k b; exact Nat.le_refl _
  | succ m ih =>
    intro k b
    refine Nat.le_trans (ih (k + 1) _) ?_
    split
    · show b.1 + 1 + 1 + 2 * m ≤ _
      omega
    · omega
theorem G_gat_le {G : G_T} {i u : Nat} (hu : (gM G i).1 1 = nI u) (hu20 : u ≤ 20) : (G_gat G i).1 ≤ 52 + 2 * np G := by
  refine Nat.le_trans (b_4_le _ _ _ _ _) ?_
  have h3 := b_3_le (gM G i) (ix ((gM G i).1 1)) 0 (b_2 (gM G i) 31 0 (b_1 G i (0, gH G)))
  have h2 := b_2_le (gM G i) 31 0 (b_1 G i (0, gH G))
  have h1 : (b_1 G i (0, gH G)).1 ≤ 1 := by
    unfold b_1
    split
    · exact Nat.le_refl _
    · exact Nat.zero_le _
  rw [hu, ix_nI (by omega)] at h3
  rw [hu, ix_nI (by omega)]
  omega
noncomputable def S_tl (f : Nat → Int32) : Nat → Nat → s_T → s_T
  | 0, _, S => S
  | m + 1, k, S => S_tl f m (k + 1) (S_tell S (r_get 172 f (nI k)))
def S_n (S : s_T) (n k0 : Nat) : Prop := S.2 1 = nI n ∧ n ≤ 2600 ∧ S.2 3 = nI k0 ∧ k0 ≤ 2200
noncomputable def G_comp (G : G_T) (i : Nat) (n k0 : Nat) : G_T := sS (sH G (G_gat G i).2) (S_set n (2201 - k0) (S_tl (G_gat G i).2 (G_gat G i).1 0 (gS G)))
theorem q_RG.tS {g : q_G} {h h' : q_H} {r : Nat} {w : Nat → Nat} {D : a_T} {ob : Nat → Option Nat} {G : G_T} (H : q_RG g h r w D ob G) {S : s_T} (hs : q_sec h' (D.1 0 0) (D.1 1) (D.1 2) S) (ho : q_off h h' (s_P (D.1 0 0) (D.1 2))) : q_RG g h' r w D ob (sS G S) := H.upS hs (ho.kp.wk (fun y hy => H.secT y (s_P_A hy)))
set_option maxHeartbeats 1000000 in
theorem c_RG_compromise (g : q_G) {h : q_H} {r : Nat} {w : Nat → Nat} {D : a_T} {ob : Nat → Option Nat} {G : G_T} (m : Int32) {n k0 : Nat} (d mc ms : Nat) (hd : 7 ≤ d) (hmc : 1 ≤ mc) (hms : 6 ≤ ms) (hU : G_u G) (hne : ne G < 2 ^ 31) (hnp : np G ≤ 60) (hS : S_n (gS G) n k0) (H : q_RG g h r w D ob G) : MG g y_RG_compromise b_RG_compromise 4 (some .int) d mc ms [.ref r, .int m] h (fun q h' => (r_in 16 m ∧ q = .inl (some (.int (nI (G_gat G (ix m)).1))) ∧ q_RG g h' r w D ob (G_comp G (ix m) n k0)) ∨ (¬ r_in 16 m ∧ q = .inr 0 ∧ h' = h)) := by
  refine MG.of (by decide +kernel) (by simp [Value.category]) (Nat.le_of_ble_eq_true rfl) ?_
  intro Z A ok
  have hn := hS.2.1
  have hk0 := hS.2.2.2
  have loop : ∀ mc ms : Nat, 0 ≤ mc → 0 ≤ ms → ∀ j : Nat, j < 16 → ix (nI j) = j → r_in 16 (nI j) → (G_gat G j).1 < 2 ^ 31 → ∀ (mm k : Nat), k + mm = (G_gat G j).1 → ∀ (h1 : q_H) (S : s_T), q_RG g h1 r w D ob (sS (sH G (G_gat G j).2) S) → S_tl (G_gat G j).2 mm k S = S_tl (G_gat G j).2 (G_gat G j).1 0 (gS G) → S.2 1 = nI n → S.2 3 = nI k0 → GW g Z A (fun q h' => (r_in 16 (nI j) ∧ q = .inl (some (.int (nI (G_gat G j).1))) ∧ q_RG g h' r w D ob (G_comp G j n k0)) ∨ (¬ r_in 16 (nI j) ∧ q = .inr 0 ∧ h' = h)) mc ms h1 12 [some (.ref r), some (.int (nI j)), some (.int (nI (G_gat G j).1)), some (.int (nI k))] [] := by
    intro mc ms hmc hms j hj hx hr hc mm
    induction mm with
    | zero =>
      intro k hk h1 S H1 hv hS1 hS3
      refine g_iload_n ok (dk m_RG_compromise 8 rfl) (pc' := 13) rfl (i := 3) rfl rfl ?_
      refine g_iload_n ok (dk m_RG_compromise 9 rfl) (pc' := 14) rfl (i := 2) rfl rfl ?_
      refine g_icmp_ge ok (dk m_RG_compromise 10 rfl) (tgt := 38) (by decide) (pc' := 17) rfl (fun c_14 => ?_) (fun c_14 => absurd (show nI (G_gat G j).1 ≤ nI k from by rw [show k = (G_gat G j).1 by omega]; exact Int32.le_refl _) c_14)
      refine g_aload_n ok (dk m_RG_compromise 20 rfl) (pc' := 39) rfl (i := 0) rfl rfl ?_
      refine g_get ok (dk m_RG_compromise 21 rfl) (pc' := 42) rfl f_RG_12 H1.fr rfl ?_
      refine g_callV ok (dk m_RG_compromise 22 rfl) (pc' := 45) rfl c_RG_180 (c_Sec_settle g 3 (by omega) hS1 hn hS3 hk0 H1.sec) H1.sec.1 rfl rfl (by simp [Value.category]) (by omega) rfl (rc' := mc) (rs' := ms) (by omega) (by omega) (fun rv h' hcc => ?_) (fun i h' hcc => by obtain ⟨e9, -⟩ := hcc; cases e9)
      obtain ⟨e9, hs2, o2⟩ := hcc
      cases e9
      have H2 := H1.tS hs2 o2
      refine g_iload_n ok (dk m_RG_compromise 23 rfl) (pc' := 46) rfl (i := 2) rfl rfl ?_
      exact g_iret ok (dk m_RG_compromise 24 rfl) rfl rfl (Or.inl ⟨hr, rfl, by rw [G_comp, ← hv]; exact H2⟩)
    | succ mm ih =>
      intro k hk h1 S H1 hv hS1 hS3
      refine g_iload_n ok (dk m_RG_compromise 8 rfl) (pc' := 13) rfl (i := 3) rfl rfl ?_
      refine g_iload_n ok (dk m_RG_compromise 9 rfl) (pc' := 14) rfl (i := 2) rfl rfl ?_
      refine g_icmp_ge ok (dk m_RG_compromise 10 rfl) (tgt := 38) (by decide) (pc' := 17) rfl (fun c_14 => absurd c_14 (nI_ge (show k < (G_gat G j).1 by omega) hc)) (fun c_14 => ?_)
      refine g_aload_n ok (dk m_RG_compromise 11 rfl) (pc' := 18) rfl (i := 0) rfl rfl ?_
      refine g_get ok (dk m_RG_compromise 12 rfl) (pc' := 21) rfl f_RG_12 H1.fr rfl ?_
      refine g_aload_n ok (dk m_RG_compromise 13 rfl) (pc' := 22) rfl (i := 0) rfl rfl ?_
      refine g_get ok (dk m_RG_compromise 14 rfl) (pc' := 25) rfl f_RG_37 H1.fr rfl ?_
      refine g_iload_n ok (dk m_RG_compromise 15 rfl) (pc' := 26) rfl (i := 3) rfl rfl ?_
      refine g_callV ok (dk m_RG_compromise 16 rfl) (pc' := 29) rfl c_RG_193 (c_Row_get g (nI k) 0 H1.hr H1.hc (by decide)) H1.hr rfl rfl (by simp [Value.category]) (by omega) rfl (rc' := mc) (rs' := ms) (by omega) (by omega) (fun rv h' hcc => ?_) (fun i h' hcc => by obtain ⟨e9, -⟩ := hcc; cases e9)
      obtain ⟨e9, e2⟩ := hcc
      have e3 := e2.symm
      subst e3
      cases e9
      refine g_callV ok (dk m_RG_compromise 17 rfl) (pc' := 32) rfl c_RG_195 (c_Sec_tell g (r_get 172 (G_gat G j).2 (nI k)) 1 (by omega) H1.sec) H1.sec.1 rfl rfl (by simp [Value.category]) (by omega) rfl (rc' := mc) (rs' := ms) (by omega) (by omega) (fun rv h' hcc => ?_) (fun i h' hcc => by obtain ⟨e9, -⟩ := hcc; cases e9)
      obtain ⟨e9, hs2, o2⟩ := hcc
      cases e9
      have H2 := H1.tS hs2 o2
      refine g_iinc ok (dk m_RG_compromise 18 rfl) (pc' := 35) rfl rfl (nI_1 k) rfl ?_
      refine g_goto ok (dk m_RG_compromise 19 rfl) (pc' := 12) (by decide) ?_
      exact ih (k + 1) (by omega) _ _ H2 (by rw [← hv]; rfl) (by rw [(S_tell_k _ _).1]; exact hS1) (by rw [(S_tell_k _ _).2.2.1]; exact hS3)
  refine g_aload_n ok (dk m_RG_compromise 0 rfl) (pc' := 1) rfl (i := 0) rfl rfl ?_
  refine g_aload_n ok (dk m_RG_compromise 1 rfl) (pc' := 2) rfl (i := 0) rfl rfl ?_
  refine g_iload_n ok (dk m_RG_compromise 2 rfl) (pc' := 3) rfl (i := 1) rfl rfl ?_
  refine g_callV ok (dk m_RG_compromise 3 rfl) (pc' := 6) rfl c_RG_82 (c_RG_memberNumbered g m 6 1 6 (by omega) (by omega) (by omega) H) H.fr rfl rfl (by simp [Value.category]) (by omega) rfl (rc' := (mc - 1)) (rs' := (ms - 6)) (by omega) (by omega) (fun rv h' hcc => ?_) (fun i h' hcc => by obtain ⟨e9 | ⟨hr, e9⟩, e3⟩ := hcc; exact absurd e9.2 (fun z => by cases z); exact Or.inr ⟨hr, e9, e3⟩)
  have hr : r_in 16 m ∧ rv = some (.ref (mA D (ix m))) := by
    rcases hcc.1 with ⟨a, b⟩ | ⟨a, b⟩
    · exact ⟨a, Sum.inl.inj b⟩
    · cases b
  obtain ⟨hr, rfl⟩ := hr
  have e4 := hcc.2.symm
  clear hcc
  subst e4
  obtain ⟨j, hj, rfl⟩ := r_in_of (by decide) hr
  have hx : ix (nI j) = j := ix_nI (by omega)
  rw [hx]
  obtain ⟨u, hu20, hu⟩ := hU j hj
  have hc : (G_gat G j).1 < 2 ^ 31 := by have q := G_gat_le hu hu20; omega
  refine g_callV ok (dk m_RG_compromise 4 rfl) (pc' := 9) rfl c_RG_189 (c_RG_gather g 3 (by omega) hj hu hu20 hne (by omega) H) H.fr rfl rfl (by simp [Value.category]) (by omega) rfl (rc' := (mc - 1)) (rs' := (ms - 6)) (by omega) (by omega) (fun rv h' hcc => ?_) (fun i h' hcc => by obtain ⟨e9, -⟩ := hcc; cases e9)
  obtain ⟨e9, H2, o2⟩ := hcc
  cases e9
  refine g_istore_n ok (dk m_RG_compromise 5 rfl) (pc' := 10) rfl (i := 2) rfl (Nat.le_of_ble_eq_true rfl) rfl ?_
  refine g_iconst ok (dk m_RG_compromise 6 rfl) (pc' := 11) rfl (v := 0) (by decide) ?_
  refine g_istore_n ok (dk m_RG_compromise 7 rfl) (pc' := 12) rfl (i := 3) rfl (Nat.le_of_ble_eq_true rfl) rfl ?_
  exact loop _ _ (by omega) (by omega) j hj hx hr hc (G_gat G j).1 0 (by omega) _ (gS G) H2 rfl hS.1 hS.2.2.1
