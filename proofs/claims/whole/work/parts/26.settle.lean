/-! ===== Secrets: settle, the constructor ===== -/
theorem S_fol_k (n : Nat) : ∀ (S : s_T) (w : Int32), (S_fol n S w).2 1 = S.2 1 ∧ (S_fol n S w).2 0 = S.2 0 ∧ (S_fol n S w).2 3 = S.2 3 ∧ (S_fol n S w).1 1 = S.1 1 ∧ (S_fol n S w).1 2 = S.1 2 ∧ (S_fol n S w).1 3 = S.1 3 ∧ (S_fol n S w).1 4 = S.1 4 := by
  induction n with
  | zero => intro S w; exact ⟨rfl, rfl, rfl, rfl, rfl, rfl, rfl⟩
  | succ n ih =>
    intro S w
    rw [S_fol]
    split
    · exact ⟨rfl, rfl, rfl, rfl, rfl, rfl, rfl⟩
    · obtain ⟨a1, a2, a3, a4, a5, a6, a7⟩ := ih (S_one S w) (r_get (s_len 2) (S.1 2) w)
      obtain ⟨b1, b2, b3, b4, b5, b6, b7⟩ := S_one_k S w
      exact ⟨a1.trans b1, a2.trans b2, a3.trans b3, a4.trans b4, a5.trans b5, a6.trans b6, a7.trans b7⟩
noncomputable def S_nx (n : Nat) (S : s_T) : s_T := ((S_fol n S (r_get (s_len 1) (S.1 1) (r_get (s_len 5) (S.1 5) (S.2 3)))).1, upd (S_fol n S (r_get (s_len 1) (S.1 1) (r_get (s_len 5) (S.1 5) (S.2 3)))).2 3 (S.2 3 + 1))
noncomputable def S_set (n : Nat) : Nat → s_T → s_T
  | 0, S => S
  | m + 1, S => if S.2 3 < S.2 2 ∧ S.2 3 < 2200 then S_set n m (S_nx n S) else S
set_option maxHeartbeats 1000000 in
theorem c_Sec_settle (g : q_G) {h : q_H} {s : Nat} {ra rb : Nat → Nat} {S : s_T} {n k0 : Nat} (d : Nat) (hd : 3 ≤ d) (hw : S.2 1 = nI n) (hn : n ≤ 2600) (hf : S.2 3 = nI k0) (hk0 : k0 ≤ 2200) (hs : q_sec h s ra rb S) : MG g y_Sec_settle b_Sec_settle 1 none d 0 0 [.ref s] h (fun q h' => q = .inl none ∧ q_sec h' s ra rb (S_set n (2201 - k0) S) ∧ q_off h h' (s_P s rb)) := by
  refine MG.of (by decide +kernel) (by simp [Value.category]) (Nat.le_of_ble_eq_true rfl) ?_
  intro Z A ok
  have loop : ∀ (m k : Nat), k + m = 2201 → k ≤ 2200 → ∀ (h1 : q_H) (S1 : s_T), q_sec h1 s ra rb S1 → q_off h h1 (s_P s rb) → S1.2 1 = nI n → S1.2 3 = nI k → S_set n m S1 = S_set n (2201 - k0) S → GW g Z A (fun q h' => q = .inl none ∧ q_sec h' s ra rb (S_set n (2201 - k0) S) ∧ q_off h h' (s_P s rb)) 0 0 h1 0 [some (.ref s)] [] := by
    intro m
    induction m with
    | zero =>
      intro k hk hk2
      omega
    | succ m ih =>
      intro k hk hk2 h1 S1 hs1 ho1 hw1 hk3 hv
      refine g_aload_n ok (dk m_Sec_settle 0 rfl) (pc' := 1) rfl (i := 0) rfl rfl ?_
      refine g_get ok (dk m_Sec_settle 1 rfl) (pc' := 4) rfl f_Sec_45 hs1.1 rfl ?_
      refine g_aload_n ok (dk m_Sec_settle 2 rfl) (pc' := 5) rfl (i := 0) rfl rfl ?_
      refine g_get ok (dk m_Sec_settle 3 rfl) (pc' := 8) rfl f_Sec_42 hs1.1 rfl ?_
      refine g_icmp_ge ok (dk m_Sec_settle 4 rfl) (tgt := 49) (by decide) (pc' := 11) rfl (fun c_8 => ?_) (fun c_8 => ?_)
      · exact g_vret ok (dk m_Sec_settle 23 rfl) rfl ⟨rfl, by rw [← hv, S_set, if_neg (fun y => absurd c_8 (Int32.not_le.mpr y.1))]; exact hs1, ho1⟩
      · refine g_aload_n ok (dk m_Sec_settle 5 rfl) (pc' := 12) rfl (i := 0) rfl rfl ?_
        refine g_get ok (dk m_Sec_settle 6 rfl) (pc' := 15) rfl f_Sec_45 hs1.1 rfl ?_
        refine g_sipush ok (dk m_Sec_settle 7 rfl) (pc' := 18) rfl (v := 2200) (by decide) ?_
        refine g_icmp_ge ok (dk m_Sec_settle 8 rfl) (tgt := 49) (by decide) (pc' := 21) rfl (fun c_18 => ?_) (fun c_18 => ?_)
        · exact g_vret ok (dk m_Sec_settle 23 rfl) rfl ⟨rfl, by rw [← hv, S_set, if_neg (fun y => absurd c_18 (Int32.not_le.mpr y.2))]; exact hs1, ho1⟩
        · refine g_aload_n ok (dk m_Sec_settle 9 rfl) (pc' := 22) rfl (i := 0) rfl rfl ?_
          refine g_aload_n ok (dk m_Sec_settle 10 rfl) (pc' := 23) rfl (i := 0) rfl rfl ?_
          refine g_get ok (dk m_Sec_settle 11 rfl) (pc' := 26) rfl f_Sec_32 hs1.1 rfl ?_
          refine g_aload_n ok (dk m_Sec_settle 12 rfl) (pc' := 27) rfl (i := 0) rfl rfl ?_
          refine g_get ok (dk m_Sec_settle 13 rfl) (pc' := 30) rfl f_Sec_45 hs1.1 rfl ?_
          refine g_callV ok (dk m_Sec_settle 14 rfl) (pc' := 33) rfl c_Sec_59 (c_Row_get g (S1.2 3) 0 (hs1.2.1 5 (by decide)).1 (hs1.2.1 5 (by decide)).2 (s_len_lt _)) (hs1.2.1 5 (by decide)).1 rfl rfl (by simp [Value.category]) (by omega) rfl (rc' := 0) (rs' := 0) (by omega) (by omega) (fun rv h' hcc => ?_) (fun i h' hcc => by obtain ⟨e, -⟩ := hcc; cases e)
          obtain ⟨e, e2⟩ := hcc
          have e3 := e2.symm
          subst e3
          cases e
          refine g_callV ok (dk m_Sec_settle 15 rfl) (pc' := 36) rfl c_Sec_63 (c_Sec_followWays g (r_get (s_len 5) (S1.1 5) (S1.2 3)) 2 (by omega) hw1 hn hs1) hs1.1 rfl rfl (by simp [Value.category]) (by omega) rfl (rc' := 0) (rs' := 0) (by omega) (by omega) (fun rv h' hcc => ?_) (fun i h' hcc => by obtain ⟨e, -⟩ := hcc; cases e)
          obtain ⟨e, hs2, ho2⟩ := hcc
          cases e
          refine g_aload_n ok (dk m_Sec_settle 16 rfl) (pc' := 37) rfl (i := 0) rfl rfl ?_
          refine g_dup ok (dk m_Sec_settle 17 rfl) (pc' := 38) rfl rfl ?_
          refine g_get ok (dk m_Sec_settle 18 rfl) (pc' := 41) rfl f_Sec_45 hs2.1 rfl ?_
          refine g_iconst ok (dk m_Sec_settle 19 rfl) (pc' := 42) rfl (v := 1) (by decide) ?_
          refine g_iadd ok (dk m_Sec_settle 20 rfl) (pc' := 43) rfl ?_
          refine g_put ok (dk m_Sec_settle 21 rfl) (pc' := 46) rfl f_Sec_45 (Or.inl rfl) hs2.1 (Nat.le_of_ble_eq_true rfl) rfl rfl ?_
          refine g_gen (fun h3 e3 => ?_)
          have hs3 := hs2.cntE 3 (by decide) e3
          have ho3 := q_off.upE (ho1.tr ho2) (show s_P s rb s from Or.inl rfl) e3
          clear e3
          rw [(S_fol_k n S1 _).2.2.1] at hs3
          have c1 : S1.2 3 < S1.2 2 := Int32.not_le.mp c_8
          have c2 : S1.2 3 < 2200 := Int32.not_le.mp c_18
          have hkl : k < 2200 := (nI_ltI (a := k) (b := 2200) (by omega) (by decide)).mp (by rw [← hk3]; exact c2)
          refine g_goto ok (dk m_Sec_settle 22 rfl) (pc' := 0) (by decide) ?_
          exact ih (k + 1) (by omega) (by omega) h3 (S_nx n S1) hs3 ho3 (((S_fol_k n S1 _).1).trans hw1) (by show S1.2 3 + 1 = _; rw [hk3, nI_1]) (by rw [← hv]; show _ = S_set n (m + 1) S1; rw [S_set, if_pos ⟨c1, c2⟩])
  exact loop (2201 - k0) k0 (by omega) hk0 h S hs q_off.rf hw hf rfl
