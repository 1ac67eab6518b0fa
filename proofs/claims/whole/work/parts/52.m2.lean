/-! ===== the reference: proposals and offers, plain answers ===== -/
noncomputable def A_ask (X : x_T) (m more : Int32) : Int32 := by
  classical exact if ¬ r_in 16 m ∨ more = 0 then 1 else if ¬ X.2 27 (ix m) = X.1 12 - 1 ∨ X.1 42 = 20 then 2 else 0
abbrev mo_prop (X : x_T) (q : Nat) (kd m x : Int32) : x_T := xi (xs (xs (xs X 43 q kd) 44 q m) 45 q x) 42 (nI (q + 1))
abbrev mo_off (X : x_T) (p n : Nat) (m : Int32) : x_T := xi (xs (xs (mk (xs (mk (xs (xi X 0 0) 36 p m) n 1 0 0) 37 p (nI n)) (n + 1) 1 0 0) 38 p (nI (n + 1))) 39 p (-1)) 35 (nI (p + 1))
noncomputable def N_offer (X : x_T) (p n : Nat) (m : Int32) : Int32 × x_T := by
  classical exact if ¬ r_in 16 m then (0, xi X 0 1) else if p = 60 then (0, xi X 0 2) else (nI p, mo_off X p n m)
noncomputable def N_prop (X : x_T) (q : Nat) (m more kd x : Int32) : Int32 × x_T := if A_ask X m more = 0 then (nI (q + 1), mo_prop (xi X 0 0) q kd m x) else (0, xi X 0 (A_ask X m more))
abbrev mo_upd (X : x_T) (q n j u : Nat) (m : Int32) : x_T := mo_prop (xs (xs (mk (xi X 0 0) n 1 0 0) 34 (20 * j + u) (nI n)) 31 j (nI (u + 1))) q 2 m (nI n)
noncomputable def N_update (X : x_T) (q n : Nat) (m : Int32) : Int32 × x_T := if A_ask X m 1 = 0 then (nI (q + 1), mo_upd X q n (ix m) (ix (X.2 31 (ix m))) m) else (0, xi X 0 (A_ask X m 1))
def B_has (X : x_T) (m : Int32) : Prop := r_in 16 m ∧ ¬ X.2 32 (ix m) = 0
noncomputable def B_epoch (X : x_T) (n : Nat) (e wh : Int32) : Int32 := by
  classical exact if r_in n e then (if wh = 0 then X.2 13 (ix e) else if wh = 1 then X.2 15 (ix e) else if wh = 2 then X.2 16 (ix e) else if wh = 3 then X.2 17 (ix e) else if wh = 4 then X.2 18 (ix e) else if wh = 5 then X.2 19 (ix e) else if wh = 6 then X.2 20 (ix e) else -1) else -1
set_option maxHeartbeats 1000000 in
theorem c_Mo_thrown (g : q_G) {h : q_H} {o : Nat} {ba : Nat → Nat} {X : x_T}  (d : Nat) (H : q_mo h o ba X) : MG g y_Mo_thrown b_Mo_thrown 1 (some .int) d 0 0 [.ref o] h (fun q h' => q = .inl (some (.int (X.1 0))) ∧ h' = h) := by
  refine MG.of (by decide +kernel) (by simp [Value.category]) (Nat.le_of_ble_eq_true rfl) ?_
  intro Z A ok
  refine g_aload_n ok (dk m_Mo_thrown 0 rfl) (pc' := 1) rfl (i := 0) rfl rfl ?_
  refine g_get ok (dk m_Mo_thrown 1 rfl) (pc' := 4) rfl f_Mo_155 H.1 rfl ?_
  exact g_iret ok (dk m_Mo_thrown 2 rfl) rfl rfl ⟨rfl, rfl⟩
set_option maxHeartbeats 1000000 in
theorem c_Mo_epochs (g : q_G) {h : q_H} {o : Nat} {ba : Nat → Nat} {X : x_T}  (d : Nat) (H : q_mo h o ba X) : MG g y_Mo_epochs b_Mo_epochs 1 (some .int) d 0 0 [.ref o] h (fun q h' => q = .inl (some (.int (X.1 12))) ∧ q_mo h' o ba (xi X 0 0)) := by
  refine MG.of (by decide +kernel) (by simp [Value.category]) (Nat.le_of_ble_eq_true rfl) ?_
  intro Z A ok
  refine g_aload_n ok (dk m_Mo_epochs 0 rfl) (pc' := 1) rfl (i := 0) rfl rfl ?_
  refine g_iconst ok (dk m_Mo_epochs 1 rfl) (pc' := 2) rfl (v := 0) (by decide) ?_
  refine g_put ok (dk m_Mo_epochs 2 rfl) (pc' := 5) rfl f_Mo_155 (Or.inl rfl) H.1 (Nat.le_of_ble_eq_true rfl) rfl rfl ?_
  refine g_gen (fun z1 e1 => ?_)
  have Y1 := H.ipt 0 (by decide) e1
  clear e1
  refine g_aload_n ok (dk m_Mo_epochs 3 rfl) (pc' := 6) rfl (i := 0) rfl rfl ?_
  refine g_get ok (dk m_Mo_epochs 4 rfl) (pc' := 9) rfl f_Mo_151 Y1.1 rfl ?_
  exact g_iret ok (dk m_Mo_epochs 5 rfl) rfl rfl ⟨rfl, Y1⟩
set_option maxHeartbeats 1000000 in
theorem c_Mo_waiting (g : q_G) {h : q_H} {o : Nat} {ba : Nat → Nat} {X : x_T}  (d : Nat) (H : q_mo h o ba X) : MG g y_Mo_waiting b_Mo_waiting 1 (some .int) d 0 0 [.ref o] h (fun q h' => q = .inl (some (.int (X.1 42))) ∧ q_mo h' o ba (xi X 0 0)) := by
  refine MG.of (by decide +kernel) (by simp [Value.category]) (Nat.le_of_ble_eq_true rfl) ?_
  intro Z A ok
  refine g_aload_n ok (dk m_Mo_waiting 0 rfl) (pc' := 1) rfl (i := 0) rfl rfl ?_
  refine g_iconst ok (dk m_Mo_waiting 1 rfl) (pc' := 2) rfl (v := 0) (by decide) ?_
  refine g_put ok (dk m_Mo_waiting 2 rfl) (pc' := 5) rfl f_Mo_155 (Or.inl rfl) H.1 (Nat.le_of_ble_eq_true rfl) rfl rfl ?_
  refine g_gen (fun z1 e1 => ?_)
  have Y1 := H.ipt 0 (by decide) e1
  clear e1
  refine g_aload_n ok (dk m_Mo_waiting 3 rfl) (pc' := 6) rfl (i := 0) rfl rfl ?_
  refine g_get ok (dk m_Mo_waiting 4 rfl) (pc' := 9) rfl f_Mo_195 Y1.1 rfl ?_
  exact g_iret ok (dk m_Mo_waiting 5 rfl) rfl rfl ⟨rfl, Y1⟩
set_option maxHeartbeats 1000000 in
theorem c_Mo_isAsked (g : q_G) {h : q_H} {o : Nat} {ba : Nat → Nat} {X : x_T} (m more : Int32) (d : Nat) (hd : 1 ≤ d) (H : q_mo h o ba X) : MG g y_Mo_isAsked b_Mo_isAsked 3 (some .boolean) d 0 0 [.ref o, .int m, .int more] h (fun q h' => q = .inl (some (.int (b2i (A_ask X m more = 0)))) ∧ q_mo h' o ba (xi X 0 (A_ask X m more))) := by
  refine MG.of (by decide +kernel) (by simp [Value.category]) (Nat.le_of_ble_eq_true rfl) ?_
  intro Z A ok
  refine g_aload_n ok (dk m_Mo_isAsked 0 rfl) (pc' := 1) rfl (i := 0) rfl rfl ?_
  refine g_iload_n ok (dk m_Mo_isAsked 1 rfl) (pc' := 2) rfl (i := 1) rfl rfl ?_
  refine g_bipush ok (dk m_Mo_isAsked 2 rfl) (pc' := 4) rfl (v := 16) (by decide) ?_
  refine g_callS ok (dk m_Mo_isAsked 3 rfl) (pc' := 7) rfl c_Mo_264 (c_Mo_in g m 16 0) rfl rfl (by simp [Value.category]) (by omega) rfl (rc' := 0) (rs' := 0) (by omega) (by omega) (fun rv h' hcc => ?_) (fun i h' hcc => by obtain ⟨e9, -⟩ := hcc; cases e9)
  obtain ⟨e9, e2⟩ := hcc
  have e3 := e2.symm
  subst e3
  cases e9
  refine g_if_eq ok (dk m_Mo_isAsked 4 rfl) (tgt := 14) (by decide) (pc' := 10) rfl (fun c_7 => ?_) (fun c_7 => ?_)
  · refine g_iconst ok (dk m_Mo_isAsked 7 rfl) (pc' := 15) rfl (v := 1) (by decide) ?_
    refine g_goto ok (dk m_Mo_isAsked 8 rfl) (pc' := 40) (by decide) ?_
    have hask : A_ask X m more = 1 := by rw [A_ask, if_pos (Or.inl (b2i_0 c_7))]
    refine g_put ok (dk m_Mo_isAsked 20 rfl) (pc' := 43) rfl f_Mo_155 (Or.inl rfl) H.1 (Nat.le_of_ble_eq_true rfl) rfl rfl ?_
    refine g_gen (fun z1 e1 => ?_)
    have Y1 := H.ipt 0 (by decide) e1
    clear e1
    refine g_aload_n ok (dk m_Mo_isAsked 21 rfl) (pc' := 44) rfl (i := 0) rfl rfl ?_
    refine g_get ok (dk m_Mo_isAsked 22 rfl) (pc' := 47) rfl f_Mo_155 Y1.1 rfl ?_
    refine g_if_ne ok (dk m_Mo_isAsked 23 rfl) (tgt := 54) (by decide) (pc' := 50) rfl (fun c_47 => ?_) (fun c_47 => absurd c_47 (show ¬ (1 : Int32) = 0 by decide))
    refine g_iconst ok (dk m_Mo_isAsked 26 rfl) (pc' := 55) rfl (v := 0) (by decide) ?_
    exact g_iret ok (dk m_Mo_isAsked 27 rfl) rfl rfl ⟨by rw [hask, b2i_f (by decide)], by rw [hask]; exact Y1⟩
  · refine g_iload_n ok (dk m_Mo_isAsked 5 rfl) (pc' := 11) rfl (i := 2) rfl rfl ?_
    refine g_if_ne ok (dk m_Mo_isAsked 6 rfl) (tgt := 18) (by decide) (pc' := 14) rfl (fun c_11 => ?_) (fun c_11 => ?_)
    · obtain ⟨j, hj, rfl⟩ := r_in_of (by decide) (b2i_n c_7)
      have hx : ix (nI j) = j := ix_nI (by omega)
      refine g_aload_n ok (dk m_Mo_isAsked 9 rfl) (pc' := 19) rfl (i := 0) rfl rfl ?_
      refine g_iload_n ok (dk m_Mo_isAsked 10 rfl) (pc' := 20) rfl (i := 1) rfl rfl ?_
      refine g_callV ok (dk m_Mo_isAsked 11 rfl) (pc' := 23) rfl c_Mo_267 (c_Mo_isLatest g (mm := j) 0 hj H) H.1 rfl rfl (by simp [Value.category]) (by omega) rfl (rc' := 0) (rs' := 0) (by omega) (by omega) (fun rv h' hcc => ?_) (fun i h' hcc => by obtain ⟨e9, -⟩ := hcc; cases e9)
      obtain ⟨e9, e2⟩ := hcc
      have e3 := e2.symm
      subst e3
      cases e9
      refine g_if_eq ok (dk m_Mo_isAsked 12 rfl) (tgt := 35) (by decide) (pc' := 26) rfl (fun c_23 => ?_) (fun c_23 => ?_)
      · refine g_iconst ok (dk m_Mo_isAsked 17 rfl) (pc' := 36) rfl (v := 2) (by decide) ?_
        refine g_goto ok (dk m_Mo_isAsked 18 rfl) (pc' := 40) (by decide) ?_
        have hask : A_ask X (nI j) more = 2 := by rw [A_ask, if_neg (fun z => by rcases z with z | z; exact z (b2i_n c_7); exact c_11 z), if_pos (Or.inl (by rw [hx]; exact b2i_0 c_23))]
        refine g_put ok (dk m_Mo_isAsked 20 rfl) (pc' := 43) rfl f_Mo_155 (Or.inl rfl) H.1 (Nat.le_of_ble_eq_true rfl) rfl rfl ?_
        refine g_gen (fun z1 e1 => ?_)
        have Y1 := H.ipt 0 (by decide) e1
        clear e1
        refine g_aload_n ok (dk m_Mo_isAsked 21 rfl) (pc' := 44) rfl (i := 0) rfl rfl ?_
        refine g_get ok (dk m_Mo_isAsked 22 rfl) (pc' := 47) rfl f_Mo_155 Y1.1 rfl ?_
        refine g_if_ne ok (dk m_Mo_isAsked 23 rfl) (tgt := 54) (by decide) (pc' := 50) rfl (fun c_47 => ?_) (fun c_47 => absurd c_47 (show ¬ (2 : Int32) = 0 by decide))
        refine g_iconst ok (dk m_Mo_isAsked 26 rfl) (pc' := 55) rfl (v := 0) (by decide) ?_
        exact g_iret ok (dk m_Mo_isAsked 27 rfl) rfl rfl ⟨by rw [hask, b2i_f (by decide)], by rw [hask]; exact Y1⟩
      · refine g_aload_n ok (dk m_Mo_isAsked 13 rfl) (pc' := 27) rfl (i := 0) rfl rfl ?_
        refine g_get ok (dk m_Mo_isAsked 14 rfl) (pc' := 30) rfl f_Mo_195 H.1 rfl ?_
        refine g_bipush ok (dk m_Mo_isAsked 15 rfl) (pc' := 32) rfl (v := 20) (by decide) ?_
        refine g_icmp_ne ok (dk m_Mo_isAsked 16 rfl) (tgt := 39) (by decide) (pc' := 35) rfl (fun c_32 => ?_) (fun c_32 => ?_)
        · refine g_iconst ok (dk m_Mo_isAsked 19 rfl) (pc' := 40) rfl (v := 0) (by decide) ?_
          have hask : A_ask X (nI j) more = 0 := by rw [A_ask, if_neg (fun z => by rcases z with z | z; exact z (b2i_n c_7); exact c_11 z), if_neg (fun z => by rcases z with z | z; rw [hx] at z; exact z (b2i_n c_23); exact c_32 z)]
          refine g_put ok (dk m_Mo_isAsked 20 rfl) (pc' := 43) rfl f_Mo_155 (Or.inl rfl) H.1 (Nat.le_of_ble_eq_true rfl) rfl rfl ?_
          refine g_gen (fun z1 e1 => ?_)
          have Y1 := H.ipt 0 (by decide) e1
          clear e1
          refine g_aload_n ok (dk m_Mo_isAsked 21 rfl) (pc' := 44) rfl (i := 0) rfl rfl ?_
          refine g_get ok (dk m_Mo_isAsked 22 rfl) (pc' := 47) rfl f_Mo_155 Y1.1 rfl ?_
          refine g_if_ne ok (dk m_Mo_isAsked 23 rfl) (tgt := 54) (by decide) (pc' := 50) rfl (fun c_47 => absurd rfl c_47) (fun c_47 => ?_)
          refine g_iconst ok (dk m_Mo_isAsked 24 rfl) (pc' := 51) rfl (v := 1) (by decide) ?_
          refine g_goto ok (dk m_Mo_isAsked 25 rfl) (pc' := 55) (by decide) ?_
          exact g_iret ok (dk m_Mo_isAsked 27 rfl) rfl rfl ⟨by rw [hask, b2i_t rfl], by rw [hask]; exact Y1⟩
        · refine g_iconst ok (dk m_Mo_isAsked 17 rfl) (pc' := 36) rfl (v := 2) (by decide) ?_
          refine g_goto ok (dk m_Mo_isAsked 18 rfl) (pc' := 40) (by decide) ?_
          have hask : A_ask X (nI j) more = 2 := by rw [A_ask, if_neg (fun z => by rcases z with z | z; exact z (b2i_n c_7); exact c_11 z), if_pos (Or.inr c_32)]
          refine g_put ok (dk m_Mo_isAsked 20 rfl) (pc' := 43) rfl f_Mo_155 (Or.inl rfl) H.1 (Nat.le_of_ble_eq_true rfl) rfl rfl ?_
          refine g_gen (fun z1 e1 => ?_)
          have Y1 := H.ipt 0 (by decide) e1
          clear e1
          refine g_aload_n ok (dk m_Mo_isAsked 21 rfl) (pc' := 44) rfl (i := 0) rfl rfl ?_
          refine g_get ok (dk m_Mo_isAsked 22 rfl) (pc' := 47) rfl f_Mo_155 Y1.1 rfl ?_
          refine g_if_ne ok (dk m_Mo_isAsked 23 rfl) (tgt := 54) (by decide) (pc' := 50) rfl (fun c_47 => ?_) (fun c_47 => absurd c_47 (show ¬ (2 : Int32) = 0 by decide))
          refine g_iconst ok (dk m_Mo_isAsked 26 rfl) (pc' := 55) rfl (v := 0) (by decide) ?_
          exact g_iret ok (dk m_Mo_isAsked 27 rfl) rfl rfl ⟨by rw [hask, b2i_f (by decide)], by rw [hask]; exact Y1⟩
    · refine g_iconst ok (dk m_Mo_isAsked 7 rfl) (pc' := 15) rfl (v := 1) (by decide) ?_
      refine g_goto ok (dk m_Mo_isAsked 8 rfl) (pc' := 40) (by decide) ?_
      have hask : A_ask X m more = 1 := by rw [A_ask, if_pos (Or.inr c_11)]
      refine g_put ok (dk m_Mo_isAsked 20 rfl) (pc' := 43) rfl f_Mo_155 (Or.inl rfl) H.1 (Nat.le_of_ble_eq_true rfl) rfl rfl ?_
      refine g_gen (fun z1 e1 => ?_)
      have Y1 := H.ipt 0 (by decide) e1
      clear e1
      refine g_aload_n ok (dk m_Mo_isAsked 21 rfl) (pc' := 44) rfl (i := 0) rfl rfl ?_
      refine g_get ok (dk m_Mo_isAsked 22 rfl) (pc' := 47) rfl f_Mo_155 Y1.1 rfl ?_
      refine g_if_ne ok (dk m_Mo_isAsked 23 rfl) (tgt := 54) (by decide) (pc' := 50) rfl (fun c_47 => ?_) (fun c_47 => absurd c_47 (show ¬ (1 : Int32) = 0 by decide))
      refine g_iconst ok (dk m_Mo_isAsked 26 rfl) (pc' := 55) rfl (v := 0) (by decide) ?_
      exact g_iret ok (dk m_Mo_isAsked 27 rfl) rfl rfl ⟨by rw [hask, b2i_f (by decide)], by rw [hask]; exact Y1⟩
set_option maxHeartbeats 1000000 in
theorem c_Mo_propose (g : q_G) {h : q_H} {o : Nat} {ba : Nat → Nat} {X : x_T} {wt : Nat} (kd m x : Int32) (d : Nat) (hq : X.1 42 = nI wt) (hq2 : wt < 20) (H : q_mo h o ba X) : MG g y_Mo_propose b_Mo_propose 4 (some .int) d 0 0 [.ref o, .int kd, .int m, .int x] h (fun q h' => q = .inl (some (.int (nI (wt + 1)))) ∧ q_mo h' o ba (mo_prop X wt kd m x)) := by
  refine MG.of (by decide +kernel) (by simp [Value.category]) (Nat.le_of_ble_eq_true rfl) ?_
  intro Z A ok
  refine g_aload_n ok (dk m_Mo_propose 0 rfl) (pc' := 1) rfl (i := 0) rfl rfl ?_
  refine g_get ok (dk m_Mo_propose 1 rfl) (pc' := 4) rfl f_Mo_122 H.1 rfl ?_
  refine g_aload_n ok (dk m_Mo_propose 2 rfl) (pc' := 5) rfl (i := 0) rfl rfl ?_
  refine g_get ok (dk m_Mo_propose 3 rfl) (pc' := 8) rfl f_Mo_195 H.1 rfl ?_
  refine g_iload_n ok (dk m_Mo_propose 4 rfl) (pc' := 9) rfl (i := 1) rfl rfl ?_
  refine g_iastI ok (dk m_Mo_propose 5 rfl) (pc' := 10) rfl (j := wt) (H.ar 43 rfl) hq (show wt < 20 by omega) (by decide) (fun z1 e1 => ?_)
  have Y1 := H.ast 43 rfl e1
  clear e1
  refine g_aload_n ok (dk m_Mo_propose 6 rfl) (pc' := 11) rfl (i := 0) rfl rfl ?_
  refine g_get ok (dk m_Mo_propose 7 rfl) (pc' := 14) rfl f_Mo_125 Y1.1 rfl ?_
  refine g_aload_n ok (dk m_Mo_propose 8 rfl) (pc' := 15) rfl (i := 0) rfl rfl ?_
  refine g_get ok (dk m_Mo_propose 9 rfl) (pc' := 18) rfl f_Mo_195 Y1.1 rfl ?_
  refine g_iload_n ok (dk m_Mo_propose 10 rfl) (pc' := 19) rfl (i := 2) rfl rfl ?_
  refine g_iastI ok (dk m_Mo_propose 11 rfl) (pc' := 20) rfl (j := wt) (Y1.ar 44 rfl) hq (show wt < 20 by omega) (by decide) (fun z2 e2 => ?_)
  have Y2 := Y1.ast 44 rfl e2
  clear e2
  refine g_aload_n ok (dk m_Mo_propose 12 rfl) (pc' := 21) rfl (i := 0) rfl rfl ?_
  refine g_get ok (dk m_Mo_propose 13 rfl) (pc' := 24) rfl f_Mo_128 Y2.1 rfl ?_
  refine g_aload_n ok (dk m_Mo_propose 14 rfl) (pc' := 25) rfl (i := 0) rfl rfl ?_
  refine g_get ok (dk m_Mo_propose 15 rfl) (pc' := 28) rfl f_Mo_195 Y2.1 rfl ?_
  refine g_iload_n ok (dk m_Mo_propose 16 rfl) (pc' := 29) rfl (i := 3) rfl rfl ?_
  refine g_iastI ok (dk m_Mo_propose 17 rfl) (pc' := 30) rfl (j := wt) (Y2.ar 45 rfl) hq (show wt < 20 by omega) (by decide) (fun z3 e3 => ?_)
  have Y3 := Y2.ast 45 rfl e3
  clear e3
  refine g_aload_n ok (dk m_Mo_propose 18 rfl) (pc' := 31) rfl (i := 0) rfl rfl ?_
  refine g_dup ok (dk m_Mo_propose 19 rfl) (pc' := 32) rfl rfl ?_
  refine g_get ok (dk m_Mo_propose 20 rfl) (pc' := 35) rfl f_Mo_195 Y3.1 rfl ?_
  refine g_iconst ok (dk m_Mo_propose 21 rfl) (pc' := 36) rfl (v := 1) (by decide) ?_
  refine g_iadd ok (dk m_Mo_propose 22 rfl) (pc' := 37) rfl ?_
  refine g_top (w := .int (nI (wt + 1))) (by show Value.int (X.1 42 + 1) = _; rw [hq, nI_1]) ?_
  refine g_put ok (dk m_Mo_propose 23 rfl) (pc' := 40) rfl f_Mo_195 (Or.inl rfl) Y3.1 (Nat.le_of_ble_eq_true rfl) rfl rfl ?_
  refine g_gen (fun z4 e4 => ?_)
  have Y4 := Y3.ipt 42 (by decide) e4
  clear e4
  refine g_aload_n ok (dk m_Mo_propose 24 rfl) (pc' := 41) rfl (i := 0) rfl rfl ?_
  refine g_get ok (dk m_Mo_propose 25 rfl) (pc' := 44) rfl f_Mo_195 Y4.1 rfl ?_
  exact g_iret ok (dk m_Mo_propose 26 rfl) rfl rfl ⟨rfl, Y4⟩
set_option maxHeartbeats 1000000 in
theorem c_Mo_offer (g : q_G) {h : q_H} {o : Nat} {ba : Nat → Nat} {X : x_T} {p n : Nat} (m : Int32) (d : Nat) (hd : 1 ≤ d) (hp : X.1 35 = nI p) (hp2 : p ≤ 60) (hn : X.1 1 = nI n) (hn2 : n + 2 ≤ 2600) (H : q_mo h o ba X) : MG g y_Mo_offer b_Mo_offer 2 (some .int) d 0 0 [.ref o, .int m] h (fun q h' => q = .inl (some (.int (N_offer X p n m).1)) ∧ q_mo h' o ba (N_offer X p n m).2) := by
  refine MG.of (by decide +kernel) (by simp [Value.category]) (Nat.le_of_ble_eq_true rfl) ?_
  intro Z A ok
  refine g_aload_n ok (dk m_Mo_offer 0 rfl) (pc' := 1) rfl (i := 0) rfl rfl ?_
  refine g_iload_n ok (dk m_Mo_offer 1 rfl) (pc' := 2) rfl (i := 1) rfl rfl ?_
  refine g_bipush ok (dk m_Mo_offer 2 rfl) (pc' := 4) rfl (v := 16) (by decide) ?_
  refine g_callS ok (dk m_Mo_offer 3 rfl) (pc' := 7) rfl c_Mo_264 (c_Mo_in g m 16 0) rfl rfl (by simp [Value.category]) (by omega) rfl (rc' := 0) (rs' := 0) (by omega) (by omega) (fun rv h' hcc => ?_) (fun i h' hcc => by obtain ⟨e9, -⟩ := hcc; cases e9)
  obtain ⟨e9, e2⟩ := hcc
  have e3 := e2.symm
  subst e3
  cases e9
  refine g_if_ne ok (dk m_Mo_offer 4 rfl) (tgt := 14) (by decide) (pc' := 10) rfl (fun c_7 => ?_) (fun c_7 => ?_)
  · refine g_aload_n ok (dk m_Mo_offer 7 rfl) (pc' := 15) rfl (i := 0) rfl rfl ?_
    refine g_get ok (dk m_Mo_offer 8 rfl) (pc' := 18) rfl f_Mo_189 H.1 rfl ?_
    refine g_bipush ok (dk m_Mo_offer 9 rfl) (pc' := 20) rfl (v := 60) (by decide) ?_
    refine g_icmp_ne ok (dk m_Mo_offer 10 rfl) (tgt := 27) (by decide) (pc' := 23) rfl (fun c_20 => ?_) (fun c_20 => ?_)
    · refine g_iconst ok (dk m_Mo_offer 13 rfl) (pc' := 28) rfl (v := 0) (by decide) ?_
      have hp60 : ¬ p = 60 := fun z => c_20 (by rw [hp, z]; rfl)
      refine g_put ok (dk m_Mo_offer 14 rfl) (pc' := 31) rfl f_Mo_155 (Or.inl rfl) H.1 (Nat.le_of_ble_eq_true rfl) rfl rfl ?_
      refine g_gen (fun z1 e1 => ?_)
      have Y1 := H.ipt 0 (by decide) e1
      clear e1
      refine g_aload_n ok (dk m_Mo_offer 15 rfl) (pc' := 32) rfl (i := 0) rfl rfl ?_
      refine g_get ok (dk m_Mo_offer 16 rfl) (pc' := 35) rfl f_Mo_155 Y1.1 rfl ?_
      refine g_if_le ok (dk m_Mo_offer 17 rfl) (tgt := 40) (by decide) (pc' := 38) rfl (fun c_35 => ?_) (fun c_35 => absurd (show (0 : Int32) ≤ 0 by decide) c_35)
      refine g_aload_n ok (dk m_Mo_offer 20 rfl) (pc' := 41) rfl (i := 0) rfl rfl ?_
      refine g_get ok (dk m_Mo_offer 21 rfl) (pc' := 44) rfl f_Mo_104 Y1.1 rfl ?_
      refine g_aload_n ok (dk m_Mo_offer 22 rfl) (pc' := 45) rfl (i := 0) rfl rfl ?_
      refine g_get ok (dk m_Mo_offer 23 rfl) (pc' := 48) rfl f_Mo_189 Y1.1 rfl ?_
      refine g_iload_n ok (dk m_Mo_offer 24 rfl) (pc' := 49) rfl (i := 1) rfl rfl ?_
      refine g_iastI ok (dk m_Mo_offer 25 rfl) (pc' := 50) rfl (j := p) (Y1.ar 36 rfl) hp (show p < 60 by omega) (by decide) (fun z2 e2 => ?_)
      have Y2 := Y1.ast 36 rfl e2
      clear e2
      refine g_aload_n ok (dk m_Mo_offer 26 rfl) (pc' := 51) rfl (i := 0) rfl rfl ?_
      refine g_get ok (dk m_Mo_offer 27 rfl) (pc' := 54) rfl f_Mo_107 Y2.1 rfl ?_
      refine g_aload_n ok (dk m_Mo_offer 28 rfl) (pc' := 55) rfl (i := 0) rfl rfl ?_
      refine g_get ok (dk m_Mo_offer 29 rfl) (pc' := 58) rfl f_Mo_189 Y2.1 rfl ?_
      refine g_aload_n ok (dk m_Mo_offer 30 rfl) (pc' := 59) rfl (i := 0) rfl rfl ?_
      refine g_iconst ok (dk m_Mo_offer 31 rfl) (pc' := 60) rfl (v := 1) (by decide) ?_
      refine g_iconst ok (dk m_Mo_offer 32 rfl) (pc' := 61) rfl (v := 0) (by decide) ?_
      refine g_iconst ok (dk m_Mo_offer 33 rfl) (pc' := 62) rfl (v := 0) (by decide) ?_
      refine g_callV ok (dk m_Mo_offer 34 rfl) (pc' := 65) rfl c_Mo_143 (c_Mo_make g 1 0 0 0 (n := n) (by exact hn) (by omega) Y2) Y2.1 rfl rfl (by simp [Value.category]) (by omega) rfl (rc' := 0) (rs' := 0) (by omega) (by omega) (fun rv h' hcc => ?_) (fun i h' hcc => by obtain ⟨e9, -⟩ := hcc; cases e9)
      obtain ⟨e9, Y3⟩ := hcc
      cases e9
      refine g_iastI ok (dk m_Mo_offer 35 rfl) (pc' := 66) rfl (j := p) (Y3.ar 37 rfl) hp (show p < 60 by omega) (by decide) (fun z4 e4 => ?_)
      have Y4 := Y3.ast 37 rfl e4
      clear e4
      refine g_aload_n ok (dk m_Mo_offer 36 rfl) (pc' := 67) rfl (i := 0) rfl rfl ?_
      refine g_get ok (dk m_Mo_offer 37 rfl) (pc' := 70) rfl f_Mo_110 Y4.1 rfl ?_
      refine g_aload_n ok (dk m_Mo_offer 38 rfl) (pc' := 71) rfl (i := 0) rfl rfl ?_
      refine g_get ok (dk m_Mo_offer 39 rfl) (pc' := 74) rfl f_Mo_189 Y4.1 rfl ?_
      refine g_aload_n ok (dk m_Mo_offer 40 rfl) (pc' := 75) rfl (i := 0) rfl rfl ?_
      refine g_iconst ok (dk m_Mo_offer 41 rfl) (pc' := 76) rfl (v := 1) (by decide) ?_
      refine g_iconst ok (dk m_Mo_offer 42 rfl) (pc' := 77) rfl (v := 0) (by decide) ?_
      refine g_iconst ok (dk m_Mo_offer 43 rfl) (pc' := 78) rfl (v := 0) (by decide) ?_
      refine g_callV ok (dk m_Mo_offer 44 rfl) (pc' := 81) rfl c_Mo_143 (c_Mo_make g 1 0 0 0 (n := n + 1) rfl (by omega) Y4) Y4.1 rfl rfl (by simp [Value.category]) (by omega) rfl (rc' := 0) (rs' := 0) (by omega) (by omega) (fun rv h' hcc => ?_) (fun i h' hcc => by obtain ⟨e9, -⟩ := hcc; cases e9)
      obtain ⟨e9, Y5⟩ := hcc
      cases e9
      refine g_iastI ok (dk m_Mo_offer 45 rfl) (pc' := 82) rfl (j := p) (Y5.ar 38 rfl) hp (show p < 60 by omega) (by decide) (fun z6 e6 => ?_)
      have Y6 := Y5.ast 38 rfl e6
      clear e6
      refine g_aload_n ok (dk m_Mo_offer 46 rfl) (pc' := 83) rfl (i := 0) rfl rfl ?_
      refine g_get ok (dk m_Mo_offer 47 rfl) (pc' := 86) rfl f_Mo_113 Y6.1 rfl ?_
      refine g_aload_n ok (dk m_Mo_offer 48 rfl) (pc' := 87) rfl (i := 0) rfl rfl ?_
      refine g_get ok (dk m_Mo_offer 49 rfl) (pc' := 90) rfl f_Mo_189 Y6.1 rfl ?_
      refine g_iconst ok (dk m_Mo_offer 50 rfl) (pc' := 91) rfl (v := (-1)) (by decide) ?_
      refine g_iastI ok (dk m_Mo_offer 51 rfl) (pc' := 92) rfl (j := p) (Y6.ar 39 rfl) hp (show p < 60 by omega) (by decide) (fun z7 e7 => ?_)
      have Y7 := Y6.ast 39 rfl e7
      clear e7
      refine g_aload_n ok (dk m_Mo_offer 52 rfl) (pc' := 93) rfl (i := 0) rfl rfl ?_
      refine g_dup ok (dk m_Mo_offer 53 rfl) (pc' := 94) rfl rfl ?_
      refine g_get ok (dk m_Mo_offer 54 rfl) (pc' := 97) rfl f_Mo_189 Y7.1 rfl ?_
      refine g_iconst ok (dk m_Mo_offer 55 rfl) (pc' := 98) rfl (v := 1) (by decide) ?_
      refine g_iadd ok (dk m_Mo_offer 56 rfl) (pc' := 99) rfl ?_
      refine g_top (w := .int (nI (p + 1))) (by show Value.int (X.1 35 + 1) = _; rw [hp, nI_1]) ?_
      refine g_put ok (dk m_Mo_offer 57 rfl) (pc' := 102) rfl f_Mo_189 (Or.inl rfl) Y7.1 (Nat.le_of_ble_eq_true rfl) rfl rfl ?_
      refine g_gen (fun z8 e8 => ?_)
      have Y8 := Y7.ipt 35 (by decide) e8
      clear e8
      refine g_aload_n ok (dk m_Mo_offer 58 rfl) (pc' := 103) rfl (i := 0) rfl rfl ?_
      refine g_get ok (dk m_Mo_offer 59 rfl) (pc' := 106) rfl f_Mo_189 Y8.1 rfl ?_
      refine g_iconst ok (dk m_Mo_offer 60 rfl) (pc' := 107) rfl (v := 1) (by decide) ?_
      refine g_isub ok (dk m_Mo_offer 61 rfl) (pc' := 108) rfl ?_
      refine g_top (w := .int (nI p)) (by show Value.int (nI (p + 1) - 1) = _; rw [nI_pred]) ?_
      exact g_iret ok (dk m_Mo_offer 62 rfl) rfl rfl ⟨by rw [N_offer, if_neg (fun z => z (b2i_n c_7)), if_neg hp60], by rw [N_offer, if_neg (fun z => z (b2i_n c_7)), if_neg hp60]; exact Y8⟩
    · refine g_iconst ok (dk m_Mo_offer 11 rfl) (pc' := 24) rfl (v := 2) (by decide) ?_
      refine g_goto ok (dk m_Mo_offer 12 rfl) (pc' := 28) (by decide) ?_
      refine g_put ok (dk m_Mo_offer 14 rfl) (pc' := 31) rfl f_Mo_155 (Or.inl rfl) H.1 (Nat.le_of_ble_eq_true rfl) rfl rfl ?_
      refine g_gen (fun z1 e1 => ?_)
      have Y1 := H.ipt 0 (by decide) e1
      clear e1
      refine g_aload_n ok (dk m_Mo_offer 15 rfl) (pc' := 32) rfl (i := 0) rfl rfl ?_
      refine g_get ok (dk m_Mo_offer 16 rfl) (pc' := 35) rfl f_Mo_155 Y1.1 rfl ?_
      refine g_if_le ok (dk m_Mo_offer 17 rfl) (tgt := 40) (by decide) (pc' := 38) rfl (fun c_35 => absurd c_35 (show ¬ (2 : Int32) ≤ 0 by decide)) (fun c_35 => ?_)
      refine g_iconst ok (dk m_Mo_offer 18 rfl) (pc' := 39) rfl (v := 0) (by decide) ?_
      exact g_iret ok (dk m_Mo_offer 19 rfl) rfl rfl ⟨by rw [N_offer, if_neg (fun z => z (b2i_n c_7)), if_pos ((nI_eq (by omega) (by decide)).mp (hp.symm.trans c_20))], by rw [N_offer, if_neg (fun z => z (b2i_n c_7)), if_pos ((nI_eq (by omega) (by decide)).mp (hp.symm.trans c_20))]; exact Y1⟩
  · refine g_iconst ok (dk m_Mo_offer 5 rfl) (pc' := 11) rfl (v := 1) (by decide) ?_
    refine g_goto ok (dk m_Mo_offer 6 rfl) (pc' := 28) (by decide) ?_
    refine g_put ok (dk m_Mo_offer 14 rfl) (pc' := 31) rfl f_Mo_155 (Or.inl rfl) H.1 (Nat.le_of_ble_eq_true rfl) rfl rfl ?_
    refine g_gen (fun z1 e1 => ?_)
    have Y1 := H.ipt 0 (by decide) e1
    clear e1
    refine g_aload_n ok (dk m_Mo_offer 15 rfl) (pc' := 32) rfl (i := 0) rfl rfl ?_
    refine g_get ok (dk m_Mo_offer 16 rfl) (pc' := 35) rfl f_Mo_155 Y1.1 rfl ?_
    refine g_if_le ok (dk m_Mo_offer 17 rfl) (tgt := 40) (by decide) (pc' := 38) rfl (fun c_35 => absurd c_35 (show ¬ (1 : Int32) ≤ 0 by decide)) (fun c_35 => ?_)
    refine g_iconst ok (dk m_Mo_offer 18 rfl) (pc' := 39) rfl (v := 0) (by decide) ?_
    exact g_iret ok (dk m_Mo_offer 19 rfl) rfl rfl ⟨by rw [N_offer, if_pos (b2i_0 c_7)], by rw [N_offer, if_pos (b2i_0 c_7)]; exact Y1⟩
set_option maxHeartbeats 1000000 in
theorem c_Mo_add (g : q_G) {h : q_H} {o : Nat} {ba : Nat → Nat} {X : x_T} {p wt : Nat} (m k : Int32) (d : Nat) (hd : 2 ≤ d) (hp : X.1 35 = nI p) (hq : X.1 42 = nI wt) (hq2 : wt ≤ 20) (H : q_mo h o ba X) : MG g y_Mo_add b_Mo_add 3 (some .int) d 0 0 [.ref o, .int m, .int k] h (fun q h' => q = .inl (some (.int (N_prop X wt m (b2i (r_in p k)) 0 k).1)) ∧ q_mo h' o ba (N_prop X wt m (b2i (r_in p k)) 0 k).2) := by
  refine MG.of (by decide +kernel) (by simp [Value.category]) (Nat.le_of_ble_eq_true rfl) ?_
  intro Z A ok
  refine g_aload_n ok (dk m_Mo_add 0 rfl) (pc' := 1) rfl (i := 0) rfl rfl ?_
  refine g_iload_n ok (dk m_Mo_add 1 rfl) (pc' := 2) rfl (i := 1) rfl rfl ?_
  refine g_iload_n ok (dk m_Mo_add 2 rfl) (pc' := 3) rfl (i := 2) rfl rfl ?_
  refine g_aload_n ok (dk m_Mo_add 3 rfl) (pc' := 4) rfl (i := 0) rfl rfl ?_
  refine g_get ok (dk m_Mo_add 4 rfl) (pc' := 7) rfl f_Mo_189 H.1 rfl ?_
  rw [hp]
  refine g_callS ok (dk m_Mo_add 5 rfl) (pc' := 10) rfl c_Mo_264 (c_Mo_in g k p 0) rfl rfl (by simp [Value.category]) (by omega) rfl (rc' := 0) (rs' := 0) (by omega) (by omega) (fun rv h' hcc => ?_) (fun i h' hcc => by obtain ⟨e9, -⟩ := hcc; cases e9)
  obtain ⟨e9, e2⟩ := hcc
  have e3 := e2.symm
  subst e3
  cases e9
  refine g_callV ok (dk m_Mo_add 6 rfl) (pc' := 13) rfl c_Mo_270 (c_Mo_isAsked g m (b2i (r_in p k)) 1 (by omega) H) H.1 rfl rfl (by simp [Value.category]) (by omega) rfl (rc' := 0) (rs' := 0) (by omega) (by omega) (fun rv h' hcc => ?_) (fun i h' hcc => by obtain ⟨e9, -⟩ := hcc; cases e9)
  obtain ⟨e9, Y1⟩ := hcc
  cases e9
  refine g_if_eq ok (dk m_Mo_add 7 rfl) (tgt := 26) (by decide) (pc' := 16) rfl (fun c_13 => ?_) (fun c_13 => ?_)
  · refine g_iconst ok (dk m_Mo_add 14 rfl) (pc' := 27) rfl (v := 0) (by decide) ?_
    exact g_iret ok (dk m_Mo_add 15 rfl) rfl rfl ⟨by rw [N_prop, if_neg (b2i_0 c_13)], by rw [N_prop, if_neg (b2i_0 c_13)]; exact Y1⟩
  · have hl : X.1 42 ≠ 20 := fun z => by
      have q := b2i_n c_13
      rw [A_ask] at q
      split at q
      · exact absurd q (by decide)
      · split at q
        · exact absurd q (by decide)
        · rename_i h1 h2
          exact h2 (Or.inr z)
    have hq20 : wt < 20 := by
      rcases Nat.lt_or_ge wt 20 with z | z
      · exact z
      · exact absurd (by rw [hq, show wt = 20 by omega]; rfl) hl
    have ha := b2i_n c_13
    refine g_aload_n ok (dk m_Mo_add 8 rfl) (pc' := 17) rfl (i := 0) rfl rfl ?_
    refine g_iconst ok (dk m_Mo_add 9 rfl) (pc' := 18) rfl (v := 0) (by decide) ?_
    refine g_iload_n ok (dk m_Mo_add 10 rfl) (pc' := 19) rfl (i := 1) rfl rfl ?_
    refine g_iload_n ok (dk m_Mo_add 11 rfl) (pc' := 20) rfl (i := 2) rfl rfl ?_
    refine g_callV ok (dk m_Mo_add 12 rfl) (pc' := 23) rfl c_Mo_274 (c_Mo_propose g (wt := wt) 0 m k 0 (by exact hq) hq20 Y1) Y1.1 rfl rfl (by simp [Value.category]) (by omega) rfl (rc' := 0) (rs' := 0) (by omega) (by omega) (fun rv h' hcc => ?_) (fun i h' hcc => by obtain ⟨e9, -⟩ := hcc; cases e9)
    obtain ⟨e9, Y2⟩ := hcc
    cases e9
    refine g_goto ok (dk m_Mo_add 13 rfl) (pc' := 27) (by decide) ?_
    exact g_iret ok (dk m_Mo_add 15 rfl) rfl rfl ⟨by rw [N_prop, if_pos ha], by rw [N_prop, if_pos ha]; exact (by rw [ha] at Y2; exact Y2)⟩
set_option maxHeartbeats 1000000 in
theorem c_Mo_remove (g : q_G) {h : q_H} {o : Nat} {ba : Nat → Nat} {X : x_T} {wt : Nat} (m k : Int32) (d : Nat) (hd : 2 ≤ d) (hq : X.1 42 = nI wt) (hq2 : wt ≤ 20) (H : q_mo h o ba X) : MG g y_Mo_remove b_Mo_remove 3 (some .int) d 0 0 [.ref o, .int m, .int k] h (fun q h' => q = .inl (some (.int (N_prop X wt m (b2i (r_in 16 k)) 1 k).1)) ∧ q_mo h' o ba (N_prop X wt m (b2i (r_in 16 k)) 1 k).2) := by
  refine MG.of (by decide +kernel) (by simp [Value.category]) (Nat.le_of_ble_eq_true rfl) ?_
  intro Z A ok
  refine g_aload_n ok (dk m_Mo_remove 0 rfl) (pc' := 1) rfl (i := 0) rfl rfl ?_
  refine g_iload_n ok (dk m_Mo_remove 1 rfl) (pc' := 2) rfl (i := 1) rfl rfl ?_
  refine g_iload_n ok (dk m_Mo_remove 2 rfl) (pc' := 3) rfl (i := 2) rfl rfl ?_
  refine g_bipush ok (dk m_Mo_remove 3 rfl) (pc' := 5) rfl (v := 16) (by decide) ?_
  refine g_callS ok (dk m_Mo_remove 4 rfl) (pc' := 8) rfl c_Mo_264 (c_Mo_in g k 16 0) rfl rfl (by simp [Value.category]) (by omega) rfl (rc' := 0) (rs' := 0) (by omega) (by omega) (fun rv h' hcc => ?_) (fun i h' hcc => by obtain ⟨e9, -⟩ := hcc; cases e9)
  obtain ⟨e9, e2⟩ := hcc
  have e3 := e2.symm
  subst e3
  cases e9
  refine g_callV ok (dk m_Mo_remove 5 rfl) (pc' := 11) rfl c_Mo_270 (c_Mo_isAsked g m (b2i (r_in 16 k)) 1 (by omega) H) H.1 rfl rfl (by simp [Value.category]) (by omega) rfl (rc' := 0) (rs' := 0) (by omega) (by omega) (fun rv h' hcc => ?_) (fun i h' hcc => by obtain ⟨e9, -⟩ := hcc; cases e9)
  obtain ⟨e9, Y1⟩ := hcc
  cases e9
  refine g_if_eq ok (dk m_Mo_remove 6 rfl) (tgt := 24) (by decide) (pc' := 14) rfl (fun c_11 => ?_) (fun c_11 => ?_)
  · refine g_iconst ok (dk m_Mo_remove 13 rfl) (pc' := 25) rfl (v := 0) (by decide) ?_
    exact g_iret ok (dk m_Mo_remove 14 rfl) rfl rfl ⟨by rw [N_prop, if_neg (b2i_0 c_11)], by rw [N_prop, if_neg (b2i_0 c_11)]; exact Y1⟩
  · have hl : X.1 42 ≠ 20 := fun z => by
      have q := b2i_n c_11
      rw [A_ask] at q
      split at q
      · exact absurd q (by decide)
      · split at q
        · exact absurd q (by decide)
        · rename_i h1 h2
          exact h2 (Or.inr z)
    have hq20 : wt < 20 := by
      rcases Nat.lt_or_ge wt 20 with z | z
      · exact z
      · exact absurd (by rw [hq, show wt = 20 by omega]; rfl) hl
    have ha := b2i_n c_11
    refine g_aload_n ok (dk m_Mo_remove 7 rfl) (pc' := 15) rfl (i := 0) rfl rfl ?_
    refine g_iconst ok (dk m_Mo_remove 8 rfl) (pc' := 16) rfl (v := 1) (by decide) ?_
    refine g_iload_n ok (dk m_Mo_remove 9 rfl) (pc' := 17) rfl (i := 1) rfl rfl ?_
    refine g_iload_n ok (dk m_Mo_remove 10 rfl) (pc' := 18) rfl (i := 2) rfl rfl ?_
    refine g_callV ok (dk m_Mo_remove 11 rfl) (pc' := 21) rfl c_Mo_274 (c_Mo_propose g (wt := wt) 1 m k 0 (by exact hq) hq20 Y1) Y1.1 rfl rfl (by simp [Value.category]) (by omega) rfl (rc' := 0) (rs' := 0) (by omega) (by omega) (fun rv h' hcc => ?_) (fun i h' hcc => by obtain ⟨e9, -⟩ := hcc; cases e9)
    obtain ⟨e9, Y2⟩ := hcc
    cases e9
    refine g_goto ok (dk m_Mo_remove 12 rfl) (pc' := 25) (by decide) ?_
    exact g_iret ok (dk m_Mo_remove 14 rfl) rfl rfl ⟨by rw [N_prop, if_pos ha], by rw [N_prop, if_pos ha]; exact (by rw [ha] at Y2; exact Y2)⟩
set_option maxHeartbeats 1000000 in
theorem c_Mo_update (g : q_G) {h : q_H} {o : Nat} {ba : Nat → Nat} {X : x_T} {wt n : Nat} (m : Int32) (d : Nat) (hd : 2 ≤ d) (hq : X.1 42 = nI wt) (hq2 : wt ≤ 20) (hn : X.1 1 = nI n) (hn2 : n + 1 ≤ 2600) (hU : ∀ j, j < 16 → X.2 27 j = X.1 12 - 1 → ∃ u, u ≤ wt ∧ X.2 31 j = nI u) (H : q_mo h o ba X) : MG g y_Mo_update b_Mo_update 3 (some .int) d 0 0 [.ref o, .int m] h (fun q h' => q = .inl (some (.int (N_update X wt n m).1)) ∧ q_mo h' o ba (N_update X wt n m).2) := by
  refine MG.of (by decide +kernel) (by simp [Value.category]) (Nat.le_of_ble_eq_true rfl) ?_
  intro Z A ok
  refine g_aload_n ok (dk m_Mo_update 0 rfl) (pc' := 1) rfl (i := 0) rfl rfl ?_
  refine g_iload_n ok (dk m_Mo_update 1 rfl) (pc' := 2) rfl (i := 1) rfl rfl ?_
  refine g_iconst ok (dk m_Mo_update 2 rfl) (pc' := 3) rfl (v := 1) (by decide) ?_
  refine g_callV ok (dk m_Mo_update 3 rfl) (pc' := 6) rfl c_Mo_270 (c_Mo_isAsked g m 1 1 (by omega) H) H.1 rfl rfl (by simp [Value.category]) (by omega) rfl (rc' := 0) (rs' := 0) (by omega) (by omega) (fun rv h' hcc => ?_) (fun i h' hcc => by obtain ⟨e9, -⟩ := hcc; cases e9)
  obtain ⟨e9, Y1⟩ := hcc
  cases e9
  refine g_if_ne ok (dk m_Mo_update 4 rfl) (tgt := 11) (by decide) (pc' := 9) rfl (fun c_6 => ?_) (fun c_6 => ?_)
  · have hl : X.1 42 ≠ 20 := fun z => by
      have q := b2i_n c_6
      rw [A_ask] at q
      split at q
      · exact absurd q (by decide)
      · split at q
        · exact absurd q (by decide)
        · rename_i h1 h2
          exact h2 (Or.inr z)
    have hq20 : wt < 20 := by
      rcases Nat.lt_or_ge wt 20 with z | z
      · exact z
      · exact absurd (by rw [hq, show wt = 20 by omega]; rfl) hl
    have ha := b2i_n c_6
    have hr : r_in 16 m ∧ X.2 27 (ix m) = X.1 12 - 1 := by
      have q := ha
      rw [A_ask] at q
      split at q
      · exact absurd q (by decide)
      · rename_i h1
        split at q
        · exact absurd q (by decide)
        · rename_i h2
          exact ⟨Classical.not_not.mp (fun z => h1 (Or.inl z)), Classical.not_not.mp (fun z => h2 (Or.inl z))⟩
    rw [ha] at Y1
    obtain ⟨j, hj, rfl⟩ := r_in_of (by decide) hr.1
    have hx : ix (nI j) = j := ix_nI (by omega)
    obtain ⟨u, hu1, hu⟩ := hU j hj (by rw [← hx]; exact hr.2)
    have hN : N_update X wt n (nI j) = (nI (wt + 1), mo_upd X wt n j u (nI j)) := by rw [N_update, if_pos ha, hx, hu, ix_nI (by omega)]
    refine g_aload_n ok (dk m_Mo_update 7 rfl) (pc' := 12) rfl (i := 0) rfl rfl ?_
    refine g_iconst ok (dk m_Mo_update 8 rfl) (pc' := 13) rfl (v := 1) (by decide) ?_
    refine g_iconst ok (dk m_Mo_update 9 rfl) (pc' := 14) rfl (v := 0) (by decide) ?_
    refine g_iconst ok (dk m_Mo_update 10 rfl) (pc' := 15) rfl (v := 0) (by decide) ?_
    refine g_callV ok (dk m_Mo_update 11 rfl) (pc' := 18) rfl c_Mo_143 (c_Mo_make g 1 0 0 0 (n := n) (by exact hn) (by omega) Y1) Y1.1 rfl rfl (by simp [Value.category]) (by omega) rfl (rc' := 0) (rs' := 0) (by omega) (by omega) (fun rv h' hcc => ?_) (fun i h' hcc => by obtain ⟨e9, -⟩ := hcc; cases e9)
    obtain ⟨e9, Y2⟩ := hcc
    cases e9
    refine g_istore_n ok (dk m_Mo_update 12 rfl) (pc' := 19) rfl (i := 2) rfl (Nat.le_of_ble_eq_true rfl) rfl ?_
    refine g_aload_n ok (dk m_Mo_update 13 rfl) (pc' := 20) rfl (i := 0) rfl rfl ?_
    refine g_get ok (dk m_Mo_update 14 rfl) (pc' := 23) rfl f_Mo_101 Y2.1 rfl ?_
    refine g_bipush ok (dk m_Mo_update 15 rfl) (pc' := 25) rfl (v := 20) (by decide) ?_
    refine g_iload_n ok (dk m_Mo_update 16 rfl) (pc' := 26) rfl (i := 1) rfl rfl ?_
    refine g_imul ok (dk m_Mo_update 17 rfl) (pc' := 27) rfl ?_
    refine g_aload_n ok (dk m_Mo_update 18 rfl) (pc' := 28) rfl (i := 0) rfl rfl ?_
    refine g_get ok (dk m_Mo_update 19 rfl) (pc' := 31) rfl f_Mo_92 Y2.1 rfl ?_
    refine g_iload_n ok (dk m_Mo_update 20 rfl) (pc' := 32) rfl (i := 1) rfl rfl ?_
    refine g_ialdI ok (dk m_Mo_update 21 rfl) (pc' := 33) rfl (j := j) (Y2.ar 31 rfl) rfl (show j < 16 by omega) (by decide) ?_
    refine g_top (w := .int (nI u)) (congrArg Value.int hu) ?_
    refine g_iadd ok (dk m_Mo_update 22 rfl) (pc' := 34) rfl ?_
    refine g_iload_n ok (dk m_Mo_update 23 rfl) (pc' := 35) rfl (i := 2) rfl rfl ?_
    refine g_iastI ok (dk m_Mo_update 24 rfl) (pc' := 36) rfl (j := 20 * j + u) (Y2.ar 34 rfl) (ix20 j u) (show 20 * j + u < 320 by omega) (by decide) (fun z3 e3 => ?_)
    have Y3 := Y2.ast 34 rfl e3
    clear e3
    refine g_aload_n ok (dk m_Mo_update 25 rfl) (pc' := 37) rfl (i := 0) rfl rfl ?_
    refine g_get ok (dk m_Mo_update 26 rfl) (pc' := 40) rfl f_Mo_92 Y3.1 rfl ?_
    refine g_iload_n ok (dk m_Mo_update 27 rfl) (pc' := 41) rfl (i := 1) rfl rfl ?_
    refine g_dup2 ok (dk m_Mo_update 28 rfl) (pc' := 42) rfl rfl rfl ?_
    refine g_ialdI ok (dk m_Mo_update 29 rfl) (pc' := 43) rfl (j := j) (Y3.ar 31 rfl) rfl (show j < 16 by omega) (by decide) ?_
    refine g_iconst ok (dk m_Mo_update 30 rfl) (pc' := 44) rfl (v := 1) (by decide) ?_
    refine g_iadd ok (dk m_Mo_update 31 rfl) (pc' := 45) rfl ?_
    refine g_top (w := .int (nI (u + 1))) (by show Value.int (X.2 31 j + 1) = _; rw [hu, nI_1]) ?_
    refine g_iastI ok (dk m_Mo_update 32 rfl) (pc' := 46) rfl (j := j) (Y3.ar 31 rfl) rfl (show j < 16 by omega) (by decide) (fun z4 e4 => ?_)
    have Y4 := Y3.ast 31 rfl e4
    clear e4
    refine g_aload_n ok (dk m_Mo_update 33 rfl) (pc' := 47) rfl (i := 0) rfl rfl ?_
    refine g_iconst ok (dk m_Mo_update 34 rfl) (pc' := 48) rfl (v := 2) (by decide) ?_
    refine g_iload_n ok (dk m_Mo_update 35 rfl) (pc' := 49) rfl (i := 1) rfl rfl ?_
    refine g_iload_n ok (dk m_Mo_update 36 rfl) (pc' := 50) rfl (i := 2) rfl rfl ?_
    refine g_callV ok (dk m_Mo_update 37 rfl) (pc' := 53) rfl c_Mo_274 (c_Mo_propose g (wt := wt) 2 (nI j) (nI n) 0 (by exact hq) hq20 Y4) Y4.1 rfl rfl (by simp [Value.category]) (by omega) rfl (rc' := 0) (rs' := 0) (by omega) (by omega) (fun rv h' hcc => ?_) (fun i h' hcc => by obtain ⟨e9, -⟩ := hcc; cases e9)
    obtain ⟨e9, Y5⟩ := hcc
    cases e9
    exact g_iret ok (dk m_Mo_update 38 rfl) rfl rfl ⟨by rw [hN], by rw [hN]; exact Y5⟩
  · refine g_iconst ok (dk m_Mo_update 5 rfl) (pc' := 10) rfl (v := 0) (by decide) ?_
    exact g_iret ok (dk m_Mo_update 6 rfl) rfl rfl ⟨by rw [N_update, if_neg (b2i_0 c_6)], by rw [N_update, if_neg (b2i_0 c_6)]; exact Y1⟩
set_option maxHeartbeats 1000000 in
theorem c_Mo_has (g : q_G) {h : q_H} {o : Nat} {ba : Nat → Nat} {X : x_T} (m : Int32) (d : Nat) (hd : 1 ≤ d) (H : q_mo h o ba X) : MG g y_Mo_has b_Mo_has 2 (some .boolean) d 0 0 [.ref o, .int m] h (fun q h' => q = .inl (some (.int (b2i (B_has X m)))) ∧ q_mo h' o ba (xi X 0 0)) := by
  refine MG.of (by decide +kernel) (by simp [Value.category]) (Nat.le_of_ble_eq_true rfl) ?_
  intro Z A ok
  refine g_aload_n ok (dk m_Mo_has 0 rfl) (pc' := 1) rfl (i := 0) rfl rfl ?_
  refine g_iconst ok (dk m_Mo_has 1 rfl) (pc' := 2) rfl (v := 0) (by decide) ?_
  refine g_put ok (dk m_Mo_has 2 rfl) (pc' := 5) rfl f_Mo_155 (Or.inl rfl) H.1 (Nat.le_of_ble_eq_true rfl) rfl rfl ?_
  refine g_gen (fun z1 e1 => ?_)
  have Y1 := H.ipt 0 (by decide) e1
  clear e1
  refine g_iload_n ok (dk m_Mo_has 3 rfl) (pc' := 6) rfl (i := 1) rfl rfl ?_
  refine g_bipush ok (dk m_Mo_has 4 rfl) (pc' := 8) rfl (v := 16) (by decide) ?_
  refine g_callS ok (dk m_Mo_has 5 rfl) (pc' := 11) rfl c_Mo_264 (c_Mo_in g m 16 0) rfl rfl (by simp [Value.category]) (by omega) rfl (rc' := 0) (rs' := 0) (by omega) (by omega) (fun rv h' hcc => ?_) (fun i h' hcc => by obtain ⟨e9, -⟩ := hcc; cases e9)
  obtain ⟨e9, e2⟩ := hcc
  have e3 := e2.symm
  subst e3
  cases e9
  refine g_if_eq ok (dk m_Mo_has 6 rfl) (tgt := 27) (by decide) (pc' := 14) rfl (fun c_11 => ?_) (fun c_11 => ?_)
  · refine g_iconst ok (dk m_Mo_has 14 rfl) (pc' := 28) rfl (v := 0) (by decide) ?_
    exact g_iret ok (dk m_Mo_has 15 rfl) rfl rfl ⟨by rw [b2i_f (p := B_has X m) (fun z => b2i_0 c_11 z.1)], Y1⟩
  · obtain ⟨j, hj, rfl⟩ := r_in_of (by decide) (b2i_n c_11)
    have hx : ix (nI j) = j := ix_nI (by omega)
    refine g_aload_n ok (dk m_Mo_has 7 rfl) (pc' := 15) rfl (i := 0) rfl rfl ?_
    refine g_get ok (dk m_Mo_has 8 rfl) (pc' := 18) rfl f_Mo_95 Y1.1 rfl ?_
    refine g_iload_n ok (dk m_Mo_has 9 rfl) (pc' := 19) rfl (i := 1) rfl rfl ?_
    refine g_zaldI ok (dk m_Mo_has 10 rfl) (pc' := 20) rfl (j := j) (Y1.ar 32 rfl) rfl (show j < 16 by omega) (by decide) ?_
    refine g_if_eq ok (dk m_Mo_has 11 rfl) (tgt := 27) (by decide) (pc' := 23) rfl (fun c_20 => ?_) (fun c_20 => ?_)
    · refine g_iconst ok (dk m_Mo_has 14 rfl) (pc' := 28) rfl (v := 0) (by decide) ?_
      exact g_iret ok (dk m_Mo_has 15 rfl) rfl rfl ⟨by rw [b2i_f (p := B_has X (nI j)) (fun z => z.2 (by rw [hx]; exact c_20))], Y1⟩
    · refine g_iconst ok (dk m_Mo_has 12 rfl) (pc' := 24) rfl (v := 1) (by decide) ?_
      refine g_goto ok (dk m_Mo_has 13 rfl) (pc' := 28) (by decide) ?_
      exact g_iret ok (dk m_Mo_has 15 rfl) rfl rfl ⟨by rw [b2i_t (p := B_has X (nI j)) ⟨b2i_n c_11, by rw [hx]; exact c_20⟩], Y1⟩
set_option maxHeartbeats 1000000 in
theorem c_Mo_epoch (g : q_G) {h : q_H} {o : Nat} {ba : Nat → Nat} {X : x_T} {n : Nat} (e wh : Int32) (d : Nat) (hd : 1 ≤ d) (hn : X.1 12 = nI n) (hn2 : n ≤ 60) (H : q_mo h o ba X) : MG g y_Mo_epoch b_Mo_epoch 3 (some .int) d 0 0 [.ref o, .int e, .int wh] h (fun q h' => q = .inl (some (.int (B_epoch X n e wh))) ∧ q_mo h' o ba (xi X 0 0)) := by
  refine MG.of (by decide +kernel) (by simp [Value.category]) (Nat.le_of_ble_eq_true rfl) ?_
  intro Z A ok
  refine g_aload_n ok (dk m_Mo_epoch 0 rfl) (pc' := 1) rfl (i := 0) rfl rfl ?_
  refine g_iconst ok (dk m_Mo_epoch 1 rfl) (pc' := 2) rfl (v := 0) (by decide) ?_
  refine g_put ok (dk m_Mo_epoch 2 rfl) (pc' := 5) rfl f_Mo_155 (Or.inl rfl) H.1 (Nat.le_of_ble_eq_true rfl) rfl rfl ?_
  refine g_gen (fun z1 e1 => ?_)
  have Y1 := H.ipt 0 (by decide) e1
  clear e1
  refine g_iload_n ok (dk m_Mo_epoch 3 rfl) (pc' := 6) rfl (i := 1) rfl rfl ?_
  refine g_aload_n ok (dk m_Mo_epoch 4 rfl) (pc' := 7) rfl (i := 0) rfl rfl ?_
  refine g_get ok (dk m_Mo_epoch 5 rfl) (pc' := 10) rfl f_Mo_151 Y1.1 rfl ?_
  refine g_top (w := .int (nI n)) (congrArg Value.int hn) ?_
  refine g_callS ok (dk m_Mo_epoch 6 rfl) (pc' := 13) rfl c_Mo_264 (c_Mo_in g e n 0) rfl rfl (by simp [Value.category]) (by omega) rfl (rc' := 0) (rs' := 0) (by omega) (by omega) (fun rv h' hcc => ?_) (fun i h' hcc => by obtain ⟨e9, -⟩ := hcc; cases e9)
  obtain ⟨e9, e2⟩ := hcc
  have e3 := e2.symm
  subst e3
  cases e9
  refine g_if_ne ok (dk m_Mo_epoch 7 rfl) (tgt := 18) (by decide) (pc' := 16) rfl (fun c_13 => ?_) (fun c_13 => ?_)
  · obtain ⟨j, hj, rfl⟩ := r_in_of (by omega) (b2i_n c_13)
    have hx : ix (nI j) = j := ix_nI (by omega)
    refine g_iload_n ok (dk m_Mo_epoch 10 rfl) (pc' := 19) rfl (i := 2) rfl rfl ?_
    by_cases s_0 : wh = 0
    · subst s_0
      refine g_tableIn ok (dk m_Mo_epoch 11 rfl) (by decide) (by decide) (off := 41) rfl (tgt := 60) (by decide) ?_
      refine g_aload_n ok (dk m_Mo_epoch 12 rfl) (pc' := 61) rfl (i := 0) rfl rfl ?_
      refine g_get ok (dk m_Mo_epoch 13 rfl) (pc' := 64) rfl f_Mo_38 Y1.1 rfl ?_
      refine g_iload_n ok (dk m_Mo_epoch 14 rfl) (pc' := 65) rfl (i := 1) rfl rfl ?_
      refine g_ialdI ok (dk m_Mo_epoch 15 rfl) (pc' := 66) rfl (j := j) (Y1.ar 13 rfl) rfl (show j < 60 by omega) (by decide) ?_
      exact g_iret ok (dk m_Mo_epoch 16 rfl) rfl rfl ⟨by rw [B_epoch, if_pos (b2i_n c_13), hx]; rfl, Y1⟩
    by_cases s_1 : wh = 1
    · subst s_1
      refine g_tableIn ok (dk m_Mo_epoch 11 rfl) (by decide) (by decide) (off := 48) rfl (tgt := 67) (by decide) ?_
      refine g_aload_n ok (dk m_Mo_epoch 17 rfl) (pc' := 68) rfl (i := 0) rfl rfl ?_
      refine g_get ok (dk m_Mo_epoch 18 rfl) (pc' := 71) rfl f_Mo_44 Y1.1 rfl ?_
      refine g_iload_n ok (dk m_Mo_epoch 19 rfl) (pc' := 72) rfl (i := 1) rfl rfl ?_
      refine g_ialdI ok (dk m_Mo_epoch 20 rfl) (pc' := 73) rfl (j := j) (Y1.ar 15 rfl) rfl (show j < 60 by omega) (by decide) ?_
      exact g_iret ok (dk m_Mo_epoch 21 rfl) rfl rfl ⟨by rw [B_epoch, if_pos (b2i_n c_13), hx]; rfl, Y1⟩
    by_cases s_2 : wh = 2
    · subst s_2
      refine g_tableIn ok (dk m_Mo_epoch 11 rfl) (by decide) (by decide) (off := 55) rfl (tgt := 74) (by decide) ?_
      refine g_aload_n ok (dk m_Mo_epoch 22 rfl) (pc' := 75) rfl (i := 0) rfl rfl ?_
      refine g_get ok (dk m_Mo_epoch 23 rfl) (pc' := 78) rfl f_Mo_47 Y1.1 rfl ?_
      refine g_iload_n ok (dk m_Mo_epoch 24 rfl) (pc' := 79) rfl (i := 1) rfl rfl ?_
      refine g_ialdI ok (dk m_Mo_epoch 25 rfl) (pc' := 80) rfl (j := j) (Y1.ar 16 rfl) rfl (show j < 60 by omega) (by decide) ?_
      exact g_iret ok (dk m_Mo_epoch 26 rfl) rfl rfl ⟨by rw [B_epoch, if_pos (b2i_n c_13), hx]; rfl, Y1⟩
    by_cases s_3 : wh = 3
    · subst s_3
      refine g_tableIn ok (dk m_Mo_epoch 11 rfl) (by decide) (by decide) (off := 62) rfl (tgt := 81) (by decide) ?_
      refine g_aload_n ok (dk m_Mo_epoch 27 rfl) (pc' := 82) rfl (i := 0) rfl rfl ?_
      refine g_get ok (dk m_Mo_epoch 28 rfl) (pc' := 85) rfl f_Mo_50 Y1.1 rfl ?_
      refine g_iload_n ok (dk m_Mo_epoch 29 rfl) (pc' := 86) rfl (i := 1) rfl rfl ?_
      refine g_ialdI ok (dk m_Mo_epoch 30 rfl) (pc' := 87) rfl (j := j) (Y1.ar 17 rfl) rfl (show j < 60 by omega) (by decide) ?_
      exact g_iret ok (dk m_Mo_epoch 31 rfl) rfl rfl ⟨by rw [B_epoch, if_pos (b2i_n c_13), hx]; rfl, Y1⟩
    by_cases s_4 : wh = 4
    · subst s_4
      refine g_tableIn ok (dk m_Mo_epoch 11 rfl) (by decide) (by decide) (off := 69) rfl (tgt := 88) (by decide) ?_
      refine g_aload_n ok (dk m_Mo_epoch 32 rfl) (pc' := 89) rfl (i := 0) rfl rfl ?_
      refine g_get ok (dk m_Mo_epoch 33 rfl) (pc' := 92) rfl f_Mo_53 Y1.1 rfl ?_
      refine g_iload_n ok (dk m_Mo_epoch 34 rfl) (pc' := 93) rfl (i := 1) rfl rfl ?_
      refine g_ialdI ok (dk m_Mo_epoch 35 rfl) (pc' := 94) rfl (j := j) (Y1.ar 18 rfl) rfl (show j < 60 by omega) (by decide) ?_
      exact g_iret ok (dk m_Mo_epoch 36 rfl) rfl rfl ⟨by rw [B_epoch, if_pos (b2i_n c_13), hx]; rfl, Y1⟩
    by_cases s_5 : wh = 5
    · subst s_5
      refine g_tableIn ok (dk m_Mo_epoch 11 rfl) (by decide) (by decide) (off := 76) rfl (tgt := 95) (by decide) ?_
      refine g_aload_n ok (dk m_Mo_epoch 37 rfl) (pc' := 96) rfl (i := 0) rfl rfl ?_
      refine g_get ok (dk m_Mo_epoch 38 rfl) (pc' := 99) rfl f_Mo_56 Y1.1 rfl ?_
      refine g_iload_n ok (dk m_Mo_epoch 39 rfl) (pc' := 100) rfl (i := 1) rfl rfl ?_
      refine g_ialdI ok (dk m_Mo_epoch 40 rfl) (pc' := 101) rfl (j := j) (Y1.ar 19 rfl) rfl (show j < 60 by omega) (by decide) ?_
      exact g_iret ok (dk m_Mo_epoch 41 rfl) rfl rfl ⟨by rw [B_epoch, if_pos (b2i_n c_13), hx]; rfl, Y1⟩
    by_cases s_6 : wh = 6
    · subst s_6
      refine g_tableIn ok (dk m_Mo_epoch 11 rfl) (by decide) (by decide) (off := 83) rfl (tgt := 102) (by decide) ?_
      refine g_aload_n ok (dk m_Mo_epoch 42 rfl) (pc' := 103) rfl (i := 0) rfl rfl ?_
      refine g_get ok (dk m_Mo_epoch 43 rfl) (pc' := 106) rfl f_Mo_59 Y1.1 rfl ?_
      refine g_iload_n ok (dk m_Mo_epoch 44 rfl) (pc' := 107) rfl (i := 1) rfl rfl ?_
      refine g_ialdI ok (dk m_Mo_epoch 45 rfl) (pc' := 108) rfl (j := j) (Y1.ar 20 rfl) rfl (show j < 60 by omega) (by decide) ?_
      exact g_iret ok (dk m_Mo_epoch 46 rfl) rfl rfl ⟨by rw [B_epoch, if_pos (b2i_n c_13), hx]; rfl, Y1⟩
    refine g_tableOut ok (dk m_Mo_epoch 11 rfl) (sw_out7 s_0 s_1 s_2 s_3 s_4 s_5 s_6) (tgt := 109) (by decide) ?_
    refine g_iconst ok (dk m_Mo_epoch 47 rfl) (pc' := 110) rfl (v := (-1)) (by decide) ?_
    exact g_iret ok (dk m_Mo_epoch 48 rfl) rfl rfl ⟨by rw [B_epoch, if_pos (b2i_n c_13), if_neg s_0, if_neg s_1, if_neg s_2, if_neg s_3, if_neg s_4, if_neg s_5, if_neg s_6], Y1⟩
  · refine g_iconst ok (dk m_Mo_epoch 8 rfl) (pc' := 17) rfl (v := (-1)) (by decide) ?_
    exact g_iret ok (dk m_Mo_epoch 9 rfl) rfl rfl ⟨by rw [B_epoch, if_neg (b2i_0 c_13)], Y1⟩
