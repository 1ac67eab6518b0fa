/-! ===== Tree: copy, the constructor ===== -/
noncomputable def T_cpr (T U : tr_T) (i : Nat) : Nat → Int32 := r_copy (tr_len i) (fun j => r_get (tr_len i) (U.1 i) (nI j)) (T.1 i)
noncomputable def T_copy (T U : tr_T) : tr_T := (va_up (va_up (va_up (va_up T.1 0 (T_cpr T U 0)) 1 (T_cpr T U 1)) 2 (T_cpr T U 2)) 3 (T_cpr T U 3), U.2)
/-- two trees apart: nothing of u is among the cells that a change of t writes -/
def q_apt (h : q_H) (t u : Nat) (rb rc rd : Nat → Nat) : Prop := ¬ tr_P t rb u ∧ ∀ i, i < 4 → ¬ tr_P t rb (rc i) ∧ ¬ tr_P t rb (rd i)
set_option maxHeartbeats 1000000 in
theorem c_Tr_copy (g : q_G) {h : q_H} {t u : Nat} {ra rb rc rd : Nat → Nat} {T U : tr_T} (d : Nat) (hd : 2 ≤ d) (ht : q_tree h t ra rb T) (hu : q_tree h u rc rd U) (hap : q_apt h t u rb rc rd) : MG g y_Tr_copy b_Tr_copy 2 none d 0 0 [.ref t, .ref u] h (fun q h' => q = .inl none ∧ q_tree h' t ra rb (T_copy T U) ∧ q_off h h' (tr_P t rb)) := by
  refine MG.of (by decide +kernel) (by simp [Value.category]) (Nat.le_of_ble_eq_true rfl) ?_
  intro Z A ok
  refine g_aload_n ok (dk m_Tr_copy 0 rfl) (pc' := 1) rfl (i := 0) rfl rfl ?_
  refine g_aload_n ok (dk m_Tr_copy 1 rfl) (pc' := 2) rfl (i := 1) rfl rfl ?_
  refine g_get ok (dk m_Tr_copy 2 rfl) (pc' := 5) rfl f_Tr_29 hu.1 rfl ?_
  refine g_put ok (dk m_Tr_copy 3 rfl) (pc' := 8) rfl f_Tr_29 (Or.inl rfl) ht.1 (Nat.le_of_ble_eq_true rfl) rfl rfl ?_
  refine g_gen (fun h0 e0 => ?_)
  have h0t := ht.depE e0
  have o0 := q_off.upE (q_off.rf (X := tr_P t rb)) (Or.inl rfl) e0
  replace hu := hu.off o0 hap.1 hap.2
  clear e0
  refine g_aload_n ok (dk m_Tr_copy 4 rfl) (pc' := 9) rfl (i := 0) rfl rfl ?_
  refine g_get ok (dk m_Tr_copy 5 rfl) (pc' := 12) rfl f_Tr_14 h0t.1 rfl ?_
  refine g_aload_n ok (dk m_Tr_copy 6 rfl) (pc' := 13) rfl (i := 1) rfl rfl ?_
  refine g_get ok (dk m_Tr_copy 7 rfl) (pc' := 16) rfl f_Tr_14 hu.1 rfl ?_
  refine g_callV ok (dk m_Tr_copy 8 rfl) (pc' := 19) rfl c_Tr_37 (c_Row_copy g 1 (by omega) (h0t.2.1 0 (by decide)).1 (h0t.2.1 0 (by decide)).2 (tr_len_lt _) (hu.2.1 0 (by decide)).1 (hu.2.1 0 (by decide)).2 (tr_len_lt _) (fun e => (hap.2 0 (by decide)).2 (Or.inr ⟨0, by decide, e⟩))) (h0t.2.1 0 (by decide)).1 rfl rfl (by simp [Value.category]) (by omega) rfl (rc' := 0) (rs' := 0) (by omega) (by omega) (fun rv h' hcc => ?_) (fun i h' hcc => by obtain ⟨e, -⟩ := hcc; cases e)
  obtain ⟨e9, e2⟩ := hcc
  cases e9
  have h1t := h0t.putE 0 (by decide) e2
  have o9 := q_off.upE (q_off.rf (X := tr_P t rb)) (Or.inr ⟨0, by decide, rfl⟩) e2
  have o1 := o0.tr o9
  replace hu := hu.off o9 hap.1 hap.2
  clear e2 o9
  refine g_aload_n ok (dk m_Tr_copy 9 rfl) (pc' := 20) rfl (i := 0) rfl rfl ?_
  refine g_get ok (dk m_Tr_copy 10 rfl) (pc' := 23) rfl f_Tr_20 h1t.1 rfl ?_
  refine g_aload_n ok (dk m_Tr_copy 11 rfl) (pc' := 24) rfl (i := 1) rfl rfl ?_
  refine g_get ok (dk m_Tr_copy 12 rfl) (pc' := 27) rfl f_Tr_20 hu.1 rfl ?_
  refine g_callV ok (dk m_Tr_copy 13 rfl) (pc' := 30) rfl c_Tr_37 (c_Row_copy g 1 (by omega) (h1t.2.1 1 (by decide)).1 (h1t.2.1 1 (by decide)).2 (tr_len_lt _) (hu.2.1 1 (by decide)).1 (hu.2.1 1 (by decide)).2 (tr_len_lt _) (fun e => (hap.2 1 (by decide)).2 (Or.inr ⟨1, by decide, e⟩))) (h1t.2.1 1 (by decide)).1 rfl rfl (by simp [Value.category]) (by omega) rfl (rc' := 0) (rs' := 0) (by omega) (by omega) (fun rv h' hcc => ?_) (fun i h' hcc => by obtain ⟨e, -⟩ := hcc; cases e)
  obtain ⟨e9, e2⟩ := hcc
  cases e9
  have h2t := h1t.putE 1 (by decide) e2
  have o9 := q_off.upE (q_off.rf (X := tr_P t rb)) (Or.inr ⟨1, by decide, rfl⟩) e2
  have o2 := o1.tr o9
  replace hu := hu.off o9 hap.1 hap.2
  clear e2 o9
  refine g_aload_n ok (dk m_Tr_copy 14 rfl) (pc' := 31) rfl (i := 0) rfl rfl ?_
  refine g_get ok (dk m_Tr_copy 15 rfl) (pc' := 34) rfl f_Tr_23 h2t.1 rfl ?_
  refine g_aload_n ok (dk m_Tr_copy 16 rfl) (pc' := 35) rfl (i := 1) rfl rfl ?_
  refine g_get ok (dk m_Tr_copy 17 rfl) (pc' := 38) rfl f_Tr_23 hu.1 rfl ?_
  refine g_callV ok (dk m_Tr_copy 18 rfl) (pc' := 41) rfl c_Tr_37 (c_Row_copy g 1 (by omega) (h2t.2.1 2 (by decide)).1 (h2t.2.1 2 (by decide)).2 (tr_len_lt _) (hu.2.1 2 (by decide)).1 (hu.2.1 2 (by decide)).2 (tr_len_lt _) (fun e => (hap.2 2 (by decide)).2 (Or.inr ⟨2, by decide, e⟩))) (h2t.2.1 2 (by decide)).1 rfl rfl (by simp [Value.category]) (by omega) rfl (rc' := 0) (rs' := 0) (by omega) (by omega) (fun rv h' hcc => ?_) (fun i h' hcc => by obtain ⟨e, -⟩ := hcc; cases e)
  obtain ⟨e9, e2⟩ := hcc
  cases e9
  have h3t := h2t.putE 2 (by decide) e2
  have o9 := q_off.upE (q_off.rf (X := tr_P t rb)) (Or.inr ⟨2, by decide, rfl⟩) e2
  have o3 := o2.tr o9
  replace hu := hu.off o9 hap.1 hap.2
  clear e2 o9
  refine g_aload_n ok (dk m_Tr_copy 19 rfl) (pc' := 42) rfl (i := 0) rfl rfl ?_
  refine g_get ok (dk m_Tr_copy 20 rfl) (pc' := 45) rfl f_Tr_26 h3t.1 rfl ?_
  refine g_aload_n ok (dk m_Tr_copy 21 rfl) (pc' := 46) rfl (i := 1) rfl rfl ?_
  refine g_get ok (dk m_Tr_copy 22 rfl) (pc' := 49) rfl f_Tr_26 hu.1 rfl ?_
  refine g_callV ok (dk m_Tr_copy 23 rfl) (pc' := 52) rfl c_Tr_37 (c_Row_copy g 1 (by omega) (h3t.2.1 3 (by decide)).1 (h3t.2.1 3 (by decide)).2 (tr_len_lt _) (hu.2.1 3 (by decide)).1 (hu.2.1 3 (by decide)).2 (tr_len_lt _) (fun e => (hap.2 3 (by decide)).2 (Or.inr ⟨3, by decide, e⟩))) (h3t.2.1 3 (by decide)).1 rfl rfl (by simp [Value.category]) (by omega) rfl (rc' := 0) (rs' := 0) (by omega) (by omega) (fun rv h' hcc => ?_) (fun i h' hcc => by obtain ⟨e, -⟩ := hcc; cases e)
  obtain ⟨e9, e2⟩ := hcc
  cases e9
  have h4t := h3t.putE 3 (by decide) e2
  have o9 := q_off.upE (q_off.rf (X := tr_P t rb)) (Or.inr ⟨3, by decide, rfl⟩) e2
  have o4 := o3.tr o9
  replace hu := hu.off o9 hap.1 hap.2
  clear e2 o9
  exact g_vret ok (dk m_Tr_copy 24 rfl) rfl ⟨rfl, h4t, o4⟩
def T_new : tr_T := (fun i => if i = 0 then r_fill 31 (fun _ => 0) (-1) else if i = 1 then r_fill 31 (fun _ => 0) 0 else if i = 2 then r_fill 31 (fun _ => 0) (-1) else r_fill 16 (fun _ => 0) (-1), 0)
/-- what a constructor leaves: nothing of what was there changes but s; the new cells are the rows' -/
def q_made (h h' : q_H) (s nr : Nat) (ra rb : Nat → Nat) : Prop := (∀ y o, h y = some o → y ≠ s → h' y = some o) ∧ (∀ i, i < nr → h (ra i) = none ∧ h (rb i) = none) ∧ ∀ y, h y = none → (∀ i, i < nr → y ≠ ra i ∧ y ≠ rb i) → h' y = none
set_option maxHeartbeats 4000000 in
theorem c_Tr_init (g : q_G) {h : q_H} {s : Nat} (d mc ms : Nat) (hd : 2 ≤ d) (hm : 8 ≤ mc) (hms : 113 ≤ ms) (hs0 : h s = some (.inl (6, [.null, .null, .null, .null, .int 0]))) : MG g y_Tr_init b_Tr_init 1 none d mc ms [.ref s] h (fun q h' => q = .inl none ∧ ∃ ra rb, q_tree h' s ra rb T_new ∧ q_made h h' s 4 ra rb) := by
  refine MG.of (by decide +kernel) (by simp [Value.category]) (Nat.le_of_ble_eq_true rfl) ?_
  intro Z A ok
  refine g_aload_n ok (dk m_Tr_init 0 rfl) (pc' := 1) rfl (i := 0) rfl rfl ?_
  refine g_objInit ok (dk m_Tr_init 1 rfl) (pc' := 4) rfl c_Tr_3 (by simp [Value.category]) (by omega) rfl ?_
  refine g_aload_n ok (dk m_Tr_init 2 rfl) (pc' := 5) rfl (i := 0) rfl rfl ?_
  refine g_new ok (dk m_Tr_init 3 rfl) (pc' := 8) rfl o_Tr_9 (rc' := (mc - 1)) (rs' := (ms - 1)) (by omega) (by omega) (fun r0 hr0 hrb0 => ?_)
  refine g_dup ok (dk m_Tr_init 4 rfl) (pc' := 9) rfl rfl ?_
  refine g_bipush ok (dk m_Tr_init 5 rfl) (pc' := 11) rfl (v := 31) (by decide) ?_
  refine g_iconst ok (dk m_Tr_init 6 rfl) (pc' := 12) rfl (v := (-1)) (by decide) ?_
  refine g_callI ok (dk m_Tr_init 7 rfl) (pc' := 15) rfl c_Tr_11 (c_Row_init g (-1) 1 (by omega) (N := 31) (q_up_s _ _ _) (by decide) (by decide)) rfl rfl (by simp [Value.category]) (by omega) rfl (rc' := (mc - 2)) (rs' := (ms - 32)) (by omega) (by omega) (fun rv h' hcc => ?_) (fun i h' hcc => by obtain ⟨e, -⟩ := hcc; cases e)
  obtain ⟨e, c0, hc0, hcb0, e2⟩ := hcc
  cases e
  obtain ⟨a0, b0, p0, n0, q0, d0⟩ := mk_row hr0 hc0 e2
  clear e2
  refine g_put ok (dk m_Tr_init 8 rfl) (pc' := 18) rfl f_Tr_14 (Or.inr rfl) (p0 _ _ hs0) (Nat.le_of_ble_eq_true rfl) rfl rfl ?_
  refine g_gen (fun v0 e0 => ?_)
  have s0 : v0 s = some (.inl (6, [.ref r0, .null, .null, .null, .int 0])) := by rw [e0, q_up_s]; rfl
  have P0 : ∀ y o, h y = some o → y ≠ s → v0 y = some o := fun y o hy hne => by rw [e0, q_up_n hne]; exact p0 y o hy
  have Q0 : ∀ y, h y = none → y ≠ r0 → y ≠ c0 → v0 y = none := fun y hy h1 h2 => by rw [e0, q_up_n (fun e => by rw [e, hs0] at hy; cases hy)]; exact q0 y hy h1 h2
  have A0 : v0 r0 = some (.inl (2, [.ref c0])) := by rw [e0, q_up_n (fun e => by rw [e, p0 _ _ hs0] at a0; cases a0)]; exact a0
  have B0 : v0 c0 = some (.inr (0, 31, .inl (r_fill 31 (fun _ => 0) (-1)))) := by rw [e0, q_up_n (fun e => by rw [e, p0 _ _ hs0] at b0; cases b0)]; exact b0
  have nr0 : r0 ≠ s := fun e => by rw [e, s0] at A0; cases A0
  have nc0 : c0 ≠ s := fun e => by rw [e, s0] at B0; cases B0
  clear e0
  refine g_aload_n ok (dk m_Tr_init 9 rfl) (pc' := 19) rfl (i := 0) rfl rfl ?_
  refine g_new ok (dk m_Tr_init 10 rfl) (pc' := 22) rfl o_Tr_9 (rc' := (mc - 3)) (rs' := (ms - 33)) (by omega) (by omega) (fun r1 hr1 hrb1 => ?_)
  refine g_dup ok (dk m_Tr_init 11 rfl) (pc' := 23) rfl rfl ?_
  refine g_bipush ok (dk m_Tr_init 12 rfl) (pc' := 25) rfl (v := 31) (by decide) ?_
  refine g_iconst ok (dk m_Tr_init 13 rfl) (pc' := 26) rfl (v := 0) (by decide) ?_
  refine g_callI ok (dk m_Tr_init 14 rfl) (pc' := 29) rfl c_Tr_11 (c_Row_init g 0 1 (by omega) (N := 31) (q_up_s _ _ _) (by decide) (by decide)) rfl rfl (by simp [Value.category]) (by omega) rfl (rc' := (mc - 4)) (rs' := (ms - 64)) (by omega) (by omega) (fun rv h' hcc => ?_) (fun i h' hcc => by obtain ⟨e, -⟩ := hcc; cases e)
  obtain ⟨e, c1, hc1, hcb1, e2⟩ := hcc
  cases e
  obtain ⟨a1, b1, p1, n1, q1, d1⟩ := mk_row hr1 hc1 e2
  clear e2
  have x0_1 : c0 ≠ c1 := q_on B0 n1
  refine g_put ok (dk m_Tr_init 15 rfl) (pc' := 32) rfl f_Tr_20 (Or.inr rfl) (p1 _ _ s0) (Nat.le_of_ble_eq_true rfl) rfl rfl ?_
  refine g_gen (fun v1 e1 => ?_)
  have s1 : v1 s = some (.inl (6, [.ref r0, .ref r1, .null, .null, .int 0])) := by rw [e1, q_up_s]; rfl
  have P1 : ∀ y o, v0 y = some o → y ≠ s → v1 y = some o := fun y o hy hne => by rw [e1, q_up_n hne]; exact p1 y o hy
  have Q1 : ∀ y, v0 y = none → y ≠ r1 → y ≠ c1 → v1 y = none := fun y hy h1 h2 => by rw [e1, q_up_n (fun e => by rw [e, s0] at hy; cases hy)]; exact q1 y hy h1 h2
  have A1 : v1 r1 = some (.inl (2, [.ref c1])) := by rw [e1, q_up_n (fun e => by rw [e, p1 _ _ s0] at a1; cases a1)]; exact a1
  have B1 : v1 c1 = some (.inr (0, 31, .inl (r_fill 31 (fun _ => 0) 0))) := by rw [e1, q_up_n (fun e => by rw [e, p1 _ _ s0] at b1; cases b1)]; exact b1
  have nr1 : r1 ≠ s := fun e => by rw [e, s1] at A1; cases A1
  have nc1 : c1 ≠ s := fun e => by rw [e, s1] at B1; cases B1
  replace A0 := P1 _ _ A0 nr0
  replace B0 := P1 _ _ B0 nc0
  clear e1
  refine g_aload_n ok (dk m_Tr_init 16 rfl) (pc' := 33) rfl (i := 0) rfl rfl ?_
  refine g_new ok (dk m_Tr_init 17 rfl) (pc' := 36) rfl o_Tr_9 (rc' := (mc - 5)) (rs' := (ms - 65)) (by omega) (by omega) (fun r2 hr2 hrb2 => ?_)
  refine g_dup ok (dk m_Tr_init 18 rfl) (pc' := 37) rfl rfl ?_
  refine g_bipush ok (dk m_Tr_init 19 rfl) (pc' := 39) rfl (v := 31) (by decide) ?_
  refine g_iconst ok (dk m_Tr_init 20 rfl) (pc' := 40) rfl (v := (-1)) (by decide) ?_
  refine g_callI ok (dk m_Tr_init 21 rfl) (pc' := 43) rfl c_Tr_11 (c_Row_init g (-1) 1 (by omega) (N := 31) (q_up_s _ _ _) (by decide) (by decide)) rfl rfl (by simp [Value.category]) (by omega) rfl (rc' := (mc - 6)) (rs' := (ms - 96)) (by omega) (by omega) (fun rv h' hcc => ?_) (fun i h' hcc => by obtain ⟨e, -⟩ := hcc; cases e)
  obtain ⟨e, c2, hc2, hcb2, e2⟩ := hcc
  cases e
  obtain ⟨a2, b2, p2, n2, q2, d2⟩ := mk_row hr2 hc2 e2
  clear e2
  have x0_2 : c0 ≠ c2 := q_on B0 n2
  have x1_2 : c1 ≠ c2 := q_on B1 n2
  refine g_put ok (dk m_Tr_init 22 rfl) (pc' := 46) rfl f_Tr_23 (Or.inr rfl) (p2 _ _ s1) (Nat.le_of_ble_eq_true rfl) rfl rfl ?_
  refine g_gen (fun v2 e2 => ?_)
  have s2 : v2 s = some (.inl (6, [.ref r0, .ref r1, .ref r2, .null, .int 0])) := by rw [e2, q_up_s]; rfl
  have P2 : ∀ y o, v1 y = some o → y ≠ s → v2 y = some o := fun y o hy hne => by rw [e2, q_up_n hne]; exact p2 y o hy
  have Q2 : ∀ y, v1 y = none → y ≠ r2 → y ≠ c2 → v2 y = none := fun y hy h1 h2 => by rw [e2, q_up_n (fun e => by rw [e, s1] at hy; cases hy)]; exact q2 y hy h1 h2
  have A2 : v2 r2 = some (.inl (2, [.ref c2])) := by rw [e2, q_up_n (fun e => by rw [e, p2 _ _ s1] at a2; cases a2)]; exact a2
  have B2 : v2 c2 = some (.inr (0, 31, .inl (r_fill 31 (fun _ => 0) (-1)))) := by rw [e2, q_up_n (fun e => by rw [e, p2 _ _ s1] at b2; cases b2)]; exact b2
  have nr2 : r2 ≠ s := fun e => by rw [e, s2] at A2; cases A2
  have nc2 : c2 ≠ s := fun e => by rw [e, s2] at B2; cases B2
  replace A0 := P2 _ _ A0 nr0
  replace B0 := P2 _ _ B0 nc0
  replace A1 := P2 _ _ A1 nr1
  replace B1 := P2 _ _ B1 nc1
  clear e2
  refine g_aload_n ok (dk m_Tr_init 23 rfl) (pc' := 47) rfl (i := 0) rfl rfl ?_
  refine g_new ok (dk m_Tr_init 24 rfl) (pc' := 50) rfl o_Tr_9 (rc' := (mc - 7)) (rs' := (ms - 97)) (by omega) (by omega) (fun r3 hr3 hrb3 => ?_)
  refine g_dup ok (dk m_Tr_init 25 rfl) (pc' := 51) rfl rfl ?_
  refine g_bipush ok (dk m_Tr_init 26 rfl) (pc' := 53) rfl (v := 16) (by decide) ?_
  refine g_iconst ok (dk m_Tr_init 27 rfl) (pc' := 54) rfl (v := (-1)) (by decide) ?_
  refine g_callI ok (dk m_Tr_init 28 rfl) (pc' := 57) rfl c_Tr_11 (c_Row_init g (-1) 1 (by omega) (N := 16) (q_up_s _ _ _) (by decide) (by decide)) rfl rfl (by simp [Value.category]) (by omega) rfl (rc' := (mc - 8)) (rs' := (ms - 113)) (by omega) (by omega) (fun rv h' hcc => ?_) (fun i h' hcc => by obtain ⟨e, -⟩ := hcc; cases e)
  obtain ⟨e, c3, hc3, hcb3, e2⟩ := hcc
  cases e
  obtain ⟨a3, b3, p3, n3, q3, d3⟩ := mk_row hr3 hc3 e2
  clear e2
  have x0_3 : c0 ≠ c3 := q_on B0 n3
  have x1_3 : c1 ≠ c3 := q_on B1 n3
  have x2_3 : c2 ≠ c3 := q_on B2 n3
  refine g_put ok (dk m_Tr_init 29 rfl) (pc' := 60) rfl f_Tr_26 (Or.inr rfl) (p3 _ _ s2) (Nat.le_of_ble_eq_true rfl) rfl rfl ?_
  refine g_gen (fun v3 e3 => ?_)
  have s3 : v3 s = some (.inl (6, [.ref r0, .ref r1, .ref r2, .ref r3, .int 0])) := by rw [e3, q_up_s]; rfl
  have P3 : ∀ y o, v2 y = some o → y ≠ s → v3 y = some o := fun y o hy hne => by rw [e3, q_up_n hne]; exact p3 y o hy
  have Q3 : ∀ y, v2 y = none → y ≠ r3 → y ≠ c3 → v3 y = none := fun y hy h1 h2 => by rw [e3, q_up_n (fun e => by rw [e, s2] at hy; cases hy)]; exact q3 y hy h1 h2
  have A3 : v3 r3 = some (.inl (2, [.ref c3])) := by rw [e3, q_up_n (fun e => by rw [e, p3 _ _ s2] at a3; cases a3)]; exact a3
  have B3 : v3 c3 = some (.inr (0, 16, .inl (r_fill 16 (fun _ => 0) (-1)))) := by rw [e3, q_up_n (fun e => by rw [e, p3 _ _ s2] at b3; cases b3)]; exact b3
  have nr3 : r3 ≠ s := fun e => by rw [e, s3] at A3; cases A3
  have nc3 : c3 ≠ s := fun e => by rw [e, s3] at B3; cases B3
  replace A0 := P3 _ _ A0 nr0
  replace B0 := P3 _ _ B0 nc0
  replace A1 := P3 _ _ A1 nr1
  replace B1 := P3 _ _ B1 nc1
  replace A2 := P3 _ _ A2 nr2
  replace B2 := P3 _ _ B2 nc2
  clear e3
  refine g_aload_n ok (dk m_Tr_init 30 rfl) (pc' := 61) rfl (i := 0) rfl rfl ?_
  refine g_iconst ok (dk m_Tr_init 31 rfl) (pc' := 62) rfl (v := 0) (by decide) ?_
  refine g_put ok (dk m_Tr_init 32 rfl) (pc' := 65) rfl f_Tr_29 (Or.inl rfl) s3 (Nat.le_of_ble_eq_true rfl) rfl rfl ?_
  refine g_gen (fun w0 f0 => ?_)
  have t0 : w0 s = some (.inl (6, [.ref r0, .ref r1, .ref r2, .ref r3, .int 0])) := by rw [f0, q_up_s]; rfl
  have R0 : ∀ y, y ≠ s → w0 y = v3 y := fun y hy => by rw [f0, q_up_n hy]
  replace A0 := (R0 _ nr0).trans A0
  replace B0 := (R0 _ nc0).trans B0
  replace A1 := (R0 _ nr1).trans A1
  replace B1 := (R0 _ nc1).trans B1
  replace A2 := (R0 _ nr2).trans A2
  replace B2 := (R0 _ nc2).trans B2
  replace A3 := (R0 _ nr3).trans A3
  replace B3 := (R0 _ nc3).trans B3
  clear f0
  refine g_vret ok (dk m_Tr_init 33 rfl) rfl ⟨rfl, (fun i => if i = 0 then r0 else if i = 1 then r1 else if i = 2 then r2 else r3), (fun i => if i = 0 then c0 else if i = 1 then c1 else if i = 2 then c2 else c3), ?_⟩
  have htr : q_tree w0 s (fun i => if i = 0 then r0 else if i = 1 then r1 else if i = 2 then r2 else r3) (fun i => if i = 0 then c0 else if i = 1 then c1 else if i = 2 then c2 else c3) T_new := by
    refine ⟨t0, fun i hi => ?_, fun i j hi hj => ?_⟩
    · rcases (show i = 0 ∨ i = 1 ∨ i = 2 ∨ i = 3 by omega) with rfl | rfl | rfl | rfl
      · exact ⟨A0, B0⟩
      · exact ⟨A1, B1⟩
      · exact ⟨A2, B2⟩
      · exact ⟨A3, B3⟩
    · rcases (show i = 0 ∨ i = 1 ∨ i = 2 ∨ i = 3 by omega) with rfl | rfl | rfl | rfl <;> rcases (show j = 0 ∨ j = 1 ∨ j = 2 ∨ j = 3 by omega) with rfl | rfl | rfl | rfl <;> intro e <;> first | rfl | exact absurd e (by assumption) | exact absurd e.symm (by assumption)
  refine ⟨htr, ?_, ?_, ?_⟩
  · intro y o hy hne
    rw [R0 y hne]
    exact P3 y o (P2 y o (P1 y o (P0 y o hy hne) hne) hne) hne
  · have N : ∀ (y : Nat), y ≠ s → (∀ o, h y = some o → False) → h y = none := fun y _ hf => by
      cases e : h y with
      | none => rfl
      | some o => exact absurd e (fun z => hf o z)
    intro i hi
    rcases (show i = 0 ∨ i = 1 ∨ i = 2 ∨ i = 3 by omega) with rfl | rfl | rfl | rfl
    · exact ⟨hr0, n0⟩
    · exact ⟨N r1 nr1 (fun o ho => by have hne := nr1; have hh := (P0 r1 _ ho hne); rw [hr1] at hh; cases hh), N c1 nc1 (fun o ho => by have hne := nc1; have hh := (P0 c1 _ ho hne); rw [n1] at hh; cases hh)⟩
    · exact ⟨N r2 nr2 (fun o ho => by have hne := nr2; have hh := (P1 r2 _ (P0 r2 _ ho hne) hne); rw [hr2] at hh; cases hh), N c2 nc2 (fun o ho => by have hne := nc2; have hh := (P1 c2 _ (P0 c2 _ ho hne) hne); rw [n2] at hh; cases hh)⟩
    · exact ⟨N r3 nr3 (fun o ho => by have hne := nr3; have hh := (P2 r3 _ (P1 r3 _ (P0 r3 _ ho hne) hne) hne); rw [hr3] at hh; cases hh), N c3 nc3 (fun o ho => by have hne := nc3; have hh := (P2 c3 _ (P1 c3 _ (P0 c3 _ ho hne) hne) hne); rw [n3] at hh; cases hh)⟩
  · intro y hy hall
    have hys : y ≠ s := fun e => by rw [e, hs0] at hy; cases hy
    have k0 := Q0 y hy (hall 0 (by decide)).1 (hall 0 (by decide)).2
    have k1 := Q1 y k0 (hall 1 (by decide)).1 (hall 1 (by decide)).2
    have k2 := Q2 y k1 (hall 2 (by decide)).1 (hall 2 (by decide)).2
    have k3 := Q3 y k2 (hall 3 (by decide)).1 (hall 3 (by decide)).2
    rw [R0 y hys]
    exact k3
