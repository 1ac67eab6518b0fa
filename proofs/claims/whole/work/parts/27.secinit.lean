/-! ===== Secrets(): six rows are made ===== -/
theorem q_df {h : q_H} {a b : Nat} {o o' : q_O} (ha : h a = some o) (hb : h b = some o') (hne : o ≠ o') : a ≠ b := fun e => hne (by
  rw [e, hb] at ha
  exact (Option.some.inj ha).symm)
theorem mk_row {h h1 : q_H} {r c N : Nat} {f : Nat → Int32} (hr : h r = none) (hc : q_up h r (.inl (2, [.null])) c = none) (e : h1 = q_up (q_up (q_up h r (.inl (2, [.null]))) r (.inl (2, [.ref c]))) c (.inr (0, N, .inl f))) : h1 r = some (.inl (2, [.ref c])) ∧ h1 c = some (.inr (0, N, .inl f)) ∧ (∀ y o, h y = some o → h1 y = some o) ∧ h c = none ∧ (∀ y, h y = none → y ≠ r → y ≠ c → h1 y = none) ∧ r ≠ c := by
  have hcr : c ≠ r := fun z => by
    rw [z, q_up_s] at hc
    cases hc
  have hc0 : h c = none := q_none hc
  subst e
  refine ⟨?_, q_up_s _ _ _, fun y o hy => ?_, hc0, fun y hy h1 h2 => ?_, hcr.symm⟩
  · rw [q_up_n hcr.symm, q_up_s]
  · rw [q_up_n (q_on hy hc0), q_up_n (q_on hy hr), q_up_n (q_on hy hr)]
    exact hy
  · rw [q_up_n h2, q_up_n h1, q_up_n h1]
    exact hy
def S_pre : s_T := (fun i => if i = 0 then r_fill 2200 (fun _ => 0) 0 else if i = 1 then r_fill 2200 (fun _ => 0) (-1) else if i = 2 then r_fill 2600 (fun _ => 0) (-1) else if i = 3 then r_fill 2600 (fun _ => 0) (-1) else if i = 4 then r_fill 2600 (fun _ => 0) (-1) else r_fill 2200 (fun _ => 0) (-1), fun i => if i = 0 then 1 else 0)
noncomputable def S_new : s_T := (va_up S_pre.1 0 (r_put 2200 (S_pre.1 0) 0 1), S_pre.2)
set_option maxHeartbeats 4000000 in
theorem c_Sec_init (g : q_G) {h : q_H} {s : Nat} (d mc ms : Nat) (hd : 2 ≤ d) (hm : 12 ≤ mc) (hms : 14406 ≤ ms) (hs0 : h s = some (.inl (1, [.null, .null, .null, .null, .null, .null, .int 0, .int 0, .int 0, .int 0]))) : MG g y_Sec_init b_Sec_init 1 none d mc ms [.ref s] h (fun q h' => q = .inl none ∧ ∃ ra rb, q_sec h' s ra rb S_new ∧ (∀ y o, h y = some o → y ≠ s → h' y = some o) ∧ (∀ i, i < 6 → h (ra i) = none ∧ h (rb i) = none) ∧ ∀ y, h y = none → (∀ i, i < 6 → y ≠ ra i ∧ y ≠ rb i) → h' y = none) := by
  refine MG.of (by decide +kernel) (by simp [Value.category]) (Nat.le_of_ble_eq_true rfl) ?_
  intro Z A ok
  refine g_aload_n ok (dk m_Sec_init 0 rfl) (pc' := 1) rfl (i := 0) rfl rfl ?_
  refine g_objInit ok (dk m_Sec_init 1 rfl) (pc' := 4) rfl c_Sec_3 (by simp [Value.category]) (by omega) rfl ?_
  refine g_aload_n ok (dk m_Sec_init 2 rfl) (pc' := 5) rfl (i := 0) rfl rfl ?_
  refine g_new ok (dk m_Sec_init 3 rfl) (pc' := 8) rfl o_Sec_9 (rc' := (mc - 1)) (rs' := (ms - 1)) (by omega) (by omega) (fun r0 hr0 hrb0 => ?_)
  refine g_dup ok (dk m_Sec_init 4 rfl) (pc' := 9) rfl rfl ?_
  refine g_sipush ok (dk m_Sec_init 5 rfl) (pc' := 12) rfl (v := 2200) (by decide) ?_
  refine g_iconst ok (dk m_Sec_init 6 rfl) (pc' := 13) rfl (v := 0) (by decide) ?_
  refine g_callI ok (dk m_Sec_init 7 rfl) (pc' := 16) rfl c_Sec_11 (c_Row_init g 0 1 (by omega) (N := 2200) (q_up_s _ _ _) (by decide) (by decide)) rfl rfl (by simp [Value.category]) (by omega) rfl (rc' := (mc - 2)) (rs' := (ms - 2201)) (by omega) (by omega) (fun rv h' hcc => ?_) (fun i h' hcc => by obtain ⟨e, -⟩ := hcc; cases e)
  obtain ⟨e, c0, hc0, hcb0, e2⟩ := hcc
  cases e
  obtain ⟨a0, b0, p0, n0, q0, d0⟩ := mk_row hr0 hc0 e2
  clear e2
  refine g_put ok (dk m_Sec_init 8 rfl) (pc' := 19) rfl f_Sec_14 (Or.inr rfl) (p0 _ _ hs0) (Nat.le_of_ble_eq_true rfl) rfl rfl ?_
  refine g_gen (fun v0 e0 => ?_)
  have s0 : v0 s = some (.inl (1, [.ref r0, .null, .null, .null, .null, .null, .int 0, .int 0, .int 0, .int 0])) := by rw [e0, q_up_s]; rfl
  have P0 : ∀ y o, h y = some o → y ≠ s → v0 y = some o := fun y o hy hne => by rw [e0, q_up_n hne]; exact p0 y o hy
  have Q0 : ∀ y, h y = none → y ≠ r0 → y ≠ c0 → v0 y = none := fun y hy h1 h2 => by rw [e0, q_up_n (fun e => by rw [e, hs0] at hy; cases hy)]; exact q0 y hy h1 h2
  have A0 : v0 r0 = some (.inl (2, [.ref c0])) := by rw [e0, q_up_n (fun e => by rw [e, p0 _ _ hs0] at a0; cases a0)]; exact a0
  have B0 : v0 c0 = some (.inr (0, 2200, .inl (r_fill 2200 (fun _ => 0) 0))) := by rw [e0, q_up_n (fun e => by rw [e, p0 _ _ hs0] at b0; cases b0)]; exact b0
  have nr0 : r0 ≠ s := fun e => by rw [e, s0] at A0; cases A0
  have nc0 : c0 ≠ s := fun e => by rw [e, s0] at B0; cases B0
  clear e0
  refine g_aload_n ok (dk m_Sec_init 9 rfl) (pc' := 20) rfl (i := 0) rfl rfl ?_
  refine g_new ok (dk m_Sec_init 10 rfl) (pc' := 23) rfl o_Sec_9 (rc' := (mc - 3)) (rs' := (ms - 2202)) (by omega) (by omega) (fun r1 hr1 hrb1 => ?_)
  refine g_dup ok (dk m_Sec_init 11 rfl) (pc' := 24) rfl rfl ?_
  refine g_sipush ok (dk m_Sec_init 12 rfl) (pc' := 27) rfl (v := 2200) (by decide) ?_
  refine g_iconst ok (dk m_Sec_init 13 rfl) (pc' := 28) rfl (v := (-1)) (by decide) ?_
  refine g_callI ok (dk m_Sec_init 14 rfl) (pc' := 31) rfl c_Sec_11 (c_Row_init g (-1) 1 (by omega) (N := 2200) (q_up_s _ _ _) (by decide) (by decide)) rfl rfl (by simp [Value.category]) (by omega) rfl (rc' := (mc - 4)) (rs' := (ms - 4402)) (by omega) (by omega) (fun rv h' hcc => ?_) (fun i h' hcc => by obtain ⟨e, -⟩ := hcc; cases e)
  obtain ⟨e, c1, hc1, hcb1, e2⟩ := hcc
  cases e
  obtain ⟨a1, b1, p1, n1, q1, d1⟩ := mk_row hr1 hc1 e2
  clear e2
  have x0_1 : c0 ≠ c1 := q_on B0 n1
  refine g_put ok (dk m_Sec_init 15 rfl) (pc' := 34) rfl f_Sec_20 (Or.inr rfl) (p1 _ _ s0) (Nat.le_of_ble_eq_true rfl) rfl rfl ?_
  refine g_gen (fun v1 e1 => ?_)
  have s1 : v1 s = some (.inl (1, [.ref r0, .ref r1, .null, .null, .null, .null, .int 0, .int 0, .int 0, .int 0])) := by rw [e1, q_up_s]; rfl
  have P1 : ∀ y o, v0 y = some o → y ≠ s → v1 y = some o := fun y o hy hne => by rw [e1, q_up_n hne]; exact p1 y o hy
  have Q1 : ∀ y, v0 y = none → y ≠ r1 → y ≠ c1 → v1 y = none := fun y hy h1 h2 => by rw [e1, q_up_n (fun e => by rw [e, s0] at hy; cases hy)]; exact q1 y hy h1 h2
  have A1 : v1 r1 = some (.inl (2, [.ref c1])) := by rw [e1, q_up_n (fun e => by rw [e, p1 _ _ s0] at a1; cases a1)]; exact a1
  have B1 : v1 c1 = some (.inr (0, 2200, .inl (r_fill 2200 (fun _ => 0) (-1)))) := by rw [e1, q_up_n (fun e => by rw [e, p1 _ _ s0] at b1; cases b1)]; exact b1
  have nr1 : r1 ≠ s := fun e => by rw [e, s1] at A1; cases A1
  have nc1 : c1 ≠ s := fun e => by rw [e, s1] at B1; cases B1
  replace A0 := P1 _ _ A0 nr0
  replace B0 := P1 _ _ B0 nc0
  clear e1
  refine g_aload_n ok (dk m_Sec_init 16 rfl) (pc' := 35) rfl (i := 0) rfl rfl ?_
  refine g_new ok (dk m_Sec_init 17 rfl) (pc' := 38) rfl o_Sec_9 (rc' := (mc - 5)) (rs' := (ms - 4403)) (by omega) (by omega) (fun r2 hr2 hrb2 => ?_)
  refine g_dup ok (dk m_Sec_init 18 rfl) (pc' := 39) rfl rfl ?_
  refine g_sipush ok (dk m_Sec_init 19 rfl) (pc' := 42) rfl (v := 2600) (by decide) ?_
  refine g_iconst ok (dk m_Sec_init 20 rfl) (pc' := 43) rfl (v := (-1)) (by decide) ?_
  refine g_callI ok (dk m_Sec_init 21 rfl) (pc' := 46) rfl c_Sec_11 (c_Row_init g (-1) 1 (by omega) (N := 2600) (q_up_s _ _ _) (by decide) (by decide)) rfl rfl (by simp [Value.category]) (by omega) rfl (rc' := (mc - 6)) (rs' := (ms - 7003)) (by omega) (by omega) (fun rv h' hcc => ?_) (fun i h' hcc => by obtain ⟨e, -⟩ := hcc; cases e)
  obtain ⟨e, c2, hc2, hcb2, e2⟩ := hcc
  cases e
  obtain ⟨a2, b2, p2, n2, q2, d2⟩ := mk_row hr2 hc2 e2
  clear e2
  have x0_2 : c0 ≠ c2 := q_on B0 n2
  have x1_2 : c1 ≠ c2 := q_on B1 n2
  refine g_put ok (dk m_Sec_init 22 rfl) (pc' := 49) rfl f_Sec_23 (Or.inr rfl) (p2 _ _ s1) (Nat.le_of_ble_eq_true rfl) rfl rfl ?_
  refine g_gen (fun v2 e2 => ?_)
  have s2 : v2 s = some (.inl (1, [.ref r0, .ref r1, .ref r2, .null, .null, .null, .int 0, .int 0, .int 0, .int 0])) := by rw [e2, q_up_s]; rfl
  have P2 : ∀ y o, v1 y = some o → y ≠ s → v2 y = some o := fun y o hy hne => by rw [e2, q_up_n hne]; exact p2 y o hy
  have Q2 : ∀ y, v1 y = none → y ≠ r2 → y ≠ c2 → v2 y = none := fun y hy h1 h2 => by rw [e2, q_up_n (fun e => by rw [e, s1] at hy; cases hy)]; exact q2 y hy h1 h2
  have A2 : v2 r2 = some (.inl (2, [.ref c2])) := by rw [e2, q_up_n (fun e => by rw [e, p2 _ _ s1] at a2; cases a2)]; exact a2
  have B2 : v2 c2 = some (.inr (0, 2600, .inl (r_fill 2600 (fun _ => 0) (-1)))) := by rw [e2, q_up_n (fun e => by rw [e, p2 _ _ s1] at b2; cases b2)]; exact b2
  have nr2 : r2 ≠ s := fun e => by rw [e, s2] at A2; cases A2
  have nc2 : c2 ≠ s := fun e => by rw [e, s2] at B2; cases B2
  replace A0 := P2 _ _ A0 nr0
  replace B0 := P2 _ _ B0 nc0
  replace A1 := P2 _ _ A1 nr1
  replace B1 := P2 _ _ B1 nc1
  clear e2
  refine g_aload_n ok (dk m_Sec_init 23 rfl) (pc' := 50) rfl (i := 0) rfl rfl ?_
  refine g_new ok (dk m_Sec_init 24 rfl) (pc' := 53) rfl o_Sec_9 (rc' := (mc - 7)) (rs' := (ms - 7004)) (by omega) (by omega) (fun r3 hr3 hrb3 => ?_)
  refine g_dup ok (dk m_Sec_init 25 rfl) (pc' := 54) rfl rfl ?_
  refine g_sipush ok (dk m_Sec_init 26 rfl) (pc' := 57) rfl (v := 2600) (by decide) ?_
  refine g_iconst ok (dk m_Sec_init 27 rfl) (pc' := 58) rfl (v := (-1)) (by decide) ?_
  refine g_callI ok (dk m_Sec_init 28 rfl) (pc' := 61) rfl c_Sec_11 (c_Row_init g (-1) 1 (by omega) (N := 2600) (q_up_s _ _ _) (by decide) (by decide)) rfl rfl (by simp [Value.category]) (by omega) rfl (rc' := (mc - 8)) (rs' := (ms - 9604)) (by omega) (by omega) (fun rv h' hcc => ?_) (fun i h' hcc => by obtain ⟨e, -⟩ := hcc; cases e)
  obtain ⟨e, c3, hc3, hcb3, e2⟩ := hcc
  cases e
  obtain ⟨a3, b3, p3, n3, q3, d3⟩ := mk_row hr3 hc3 e2
  clear e2
  have x0_3 : c0 ≠ c3 := q_on B0 n3
  have x1_3 : c1 ≠ c3 := q_on B1 n3
  have x2_3 : c2 ≠ c3 := q_on B2 n3
  refine g_put ok (dk m_Sec_init 29 rfl) (pc' := 64) rfl f_Sec_26 (Or.inr rfl) (p3 _ _ s2) (Nat.le_of_ble_eq_true rfl) rfl rfl ?_
  refine g_gen (fun v3 e3 => ?_)
  have s3 : v3 s = some (.inl (1, [.ref r0, .ref r1, .ref r2, .ref r3, .null, .null, .int 0, .int 0, .int 0, .int 0])) := by rw [e3, q_up_s]; rfl
  have P3 : ∀ y o, v2 y = some o → y ≠ s → v3 y = some o := fun y o hy hne => by rw [e3, q_up_n hne]; exact p3 y o hy
  have Q3 : ∀ y, v2 y = none → y ≠ r3 → y ≠ c3 → v3 y = none := fun y hy h1 h2 => by rw [e3, q_up_n (fun e => by rw [e, s2] at hy; cases hy)]; exact q3 y hy h1 h2
  have A3 : v3 r3 = some (.inl (2, [.ref c3])) := by rw [e3, q_up_n (fun e => by rw [e, p3 _ _ s2] at a3; cases a3)]; exact a3
  have B3 : v3 c3 = some (.inr (0, 2600, .inl (r_fill 2600 (fun _ => 0) (-1)))) := by rw [e3, q_up_n (fun e => by rw [e, p3 _ _ s2] at b3; cases b3)]; exact b3
  have nr3 : r3 ≠ s := fun e => by rw [e, s3] at A3; cases A3
  have nc3 : c3 ≠ s := fun e => by rw [e, s3] at B3; cases B3
  replace A0 := P3 _ _ A0 nr0
  replace B0 := P3 _ _ B0 nc0
  replace A1 := P3 _ _ A1 nr1
  replace B1 := P3 _ _ B1 nc1
  replace A2 := P3 _ _ A2 nr2
  replace B2 := P3 _ _ B2 nc2
  clear e3
  refine g_aload_n ok (dk m_Sec_init 30 rfl) (pc' := 65) rfl (i := 0) rfl rfl ?_
  refine g_new ok (dk m_Sec_init 31 rfl) (pc' := 68) rfl o_Sec_9 (rc' := (mc - 9)) (rs' := (ms - 9605)) (by omega) (by omega) (fun r4 hr4 hrb4 => ?_)
  refine g_dup ok (dk m_Sec_init 32 rfl) (pc' := 69) rfl rfl ?_
  refine g_sipush ok (dk m_Sec_init 33 rfl) (pc' := 72) rfl (v := 2600) (by decide) ?_
  refine g_iconst ok (dk m_Sec_init 34 rfl) (pc' := 73) rfl (v := (-1)) (by decide) ?_
  refine g_callI ok (dk m_Sec_init 35 rfl) (pc' := 76) rfl c_Sec_11 (c_Row_init g (-1) 1 (by omega) (N := 2600) (q_up_s _ _ _) (by decide) (by decide)) rfl rfl (by simp [Value.category]) (by omega) rfl (rc' := (mc - 10)) (rs' := (ms - 12205)) (by omega) (by omega) (fun rv h' hcc => ?_) (fun i h' hcc => by obtain ⟨e, -⟩ := hcc; cases e)
  obtain ⟨e, c4, hc4, hcb4, e2⟩ := hcc
  cases e
  obtain ⟨a4, b4, p4, n4, q4, d4⟩ := mk_row hr4 hc4 e2
  clear e2
  have x0_4 : c0 ≠ c4 := q_on B0 n4
  have x1_4 : c1 ≠ c4 := q_on B1 n4
  have x2_4 : c2 ≠ c4 := q_on B2 n4
  have x3_4 : c3 ≠ c4 := q_on B3 n4
  refine g_put ok (dk m_Sec_init 36 rfl) (pc' := 79) rfl f_Sec_29 (Or.inr rfl) (p4 _ _ s3) (Nat.le_of_ble_eq_true rfl) rfl rfl ?_
  refine g_gen (fun v4 e4 => ?_)
  have s4 : v4 s = some (.inl (1, [.ref r0, .ref r1, .ref r2, .ref r3, .ref r4, .null, .int 0, .int 0, .int 0, .int 0])) := by rw [e4, q_up_s]; rfl
  have P4 : ∀ y o, v3 y = some o → y ≠ s → v4 y = some o := fun y o hy hne => by rw [e4, q_up_n hne]; exact p4 y o hy
  have Q4 : ∀ y, v3 y = none → y ≠ r4 → y ≠ c4 → v4 y = none := fun y hy h1 h2 => by rw [e4, q_up_n (fun e => by rw [e, s3] at hy; cases hy)]; exact q4 y hy h1 h2
  have A4 : v4 r4 = some (.inl (2, [.ref c4])) := by rw [e4, q_up_n (fun e => by rw [e, p4 _ _ s3] at a4; cases a4)]; exact a4
  have B4 : v4 c4 = some (.inr (0, 2600, .inl (r_fill 2600 (fun _ => 0) (-1)))) := by rw [e4, q_up_n (fun e => by rw [e, p4 _ _ s3] at b4; cases b4)]; exact b4
  have nr4 : r4 ≠ s := fun e => by rw [e, s4] at A4; cases A4
  have nc4 : c4 ≠ s := fun e => by rw [e, s4] at B4; cases B4
  replace A0 := P4 _ _ A0 nr0
  replace B0 := P4 _ _ B0 nc0
  replace A1 := P4 _ _ A1 nr1
  replace B1 := P4 _ _ B1 nc1
  replace A2 := P4 _ _ A2 nr2
  replace B2 := P4 _ _ B2 nc2
  replace A3 := P4 _ _ A3 nr3
  replace B3 := P4 _ _ B3 nc3
  clear e4
  refine g_aload_n ok (dk m_Sec_init 37 rfl) (pc' := 80) rfl (i := 0) rfl rfl ?_
  refine g_new ok (dk m_Sec_init 38 rfl) (pc' := 83) rfl o_Sec_9 (rc' := (mc - 11)) (rs' := (ms - 12206)) (by omega) (by omega) (fun r5 hr5 hrb5 => ?_)
  refine g_dup ok (dk m_Sec_init 39 rfl) (pc' := 84) rfl rfl ?_
  refine g_sipush ok (dk m_Sec_init 40 rfl) (pc' := 87) rfl (v := 2200) (by decide) ?_
  refine g_iconst ok (dk m_Sec_init 41 rfl) (pc' := 88) rfl (v := (-1)) (by decide) ?_
  refine g_callI ok (dk m_Sec_init 42 rfl) (pc' := 91) rfl c_Sec_11 (c_Row_init g (-1) 1 (by omega) (N := 2200) (q_up_s _ _ _) (by decide) (by decide)) rfl rfl (by simp [Value.category]) (by omega) rfl (rc' := (mc - 12)) (rs' := (ms - 14406)) (by omega) (by omega) (fun rv h' hcc => ?_) (fun i h' hcc => by obtain ⟨e, -⟩ := hcc; cases e)
  obtain ⟨e, c5, hc5, hcb5, e2⟩ := hcc
  cases e
  obtain ⟨a5, b5, p5, n5, q5, d5⟩ := mk_row hr5 hc5 e2
  clear e2
  have x0_5 : c0 ≠ c5 := q_on B0 n5
  have x1_5 : c1 ≠ c5 := q_on B1 n5
  have x2_5 : c2 ≠ c5 := q_on B2 n5
  have x3_5 : c3 ≠ c5 := q_on B3 n5
  have x4_5 : c4 ≠ c5 := q_on B4 n5
  refine g_put ok (dk m_Sec_init 43 rfl) (pc' := 94) rfl f_Sec_32 (Or.inr rfl) (p5 _ _ s4) (Nat.le_of_ble_eq_true rfl) rfl rfl ?_
  refine g_gen (fun v5 e5 => ?_)
  have s5 : v5 s = some (.inl (1, [.ref r0, .ref r1, .ref r2, .ref r3, .ref r4, .ref r5, .int 0, .int 0, .int 0, .int 0])) := by rw [e5, q_up_s]; rfl
  have P5 : ∀ y o, v4 y = some o → y ≠ s → v5 y = some o := fun y o hy hne => by rw [e5, q_up_n hne]; exact p5 y o hy
  have Q5 : ∀ y, v4 y = none → y ≠ r5 → y ≠ c5 → v5 y = none := fun y hy h1 h2 => by rw [e5, q_up_n (fun e => by rw [e, s4] at hy; cases hy)]; exact q5 y hy h1 h2
  have A5 : v5 r5 = some (.inl (2, [.ref c5])) := by rw [e5, q_up_n (fun e => by rw [e, p5 _ _ s4] at a5; cases a5)]; exact a5
  have B5 : v5 c5 = some (.inr (0, 2200, .inl (r_fill 2200 (fun _ => 0) (-1)))) := by rw [e5, q_up_n (fun e => by rw [e, p5 _ _ s4] at b5; cases b5)]; exact b5
  have nr5 : r5 ≠ s := fun e => by rw [e, s5] at A5; cases A5
  have nc5 : c5 ≠ s := fun e => by rw [e, s5] at B5; cases B5
  replace A0 := P5 _ _ A0 nr0
  replace B0 := P5 _ _ B0 nc0
  replace A1 := P5 _ _ A1 nr1
  replace B1 := P5 _ _ B1 nc1
  replace A2 := P5 _ _ A2 nr2
  replace B2 := P5 _ _ B2 nc2
  replace A3 := P5 _ _ A3 nr3
  replace B3 := P5 _ _ B3 nc3
  replace A4 := P5 _ _ A4 nr4
  replace B4 := P5 _ _ B4 nc4
  clear e5
  refine g_aload_n ok (dk m_Sec_init 44 rfl) (pc' := 95) rfl (i := 0) rfl rfl ?_
  refine g_iconst ok (dk m_Sec_init 45 rfl) (pc' := 96) rfl (v := 1) (by decide) ?_
  refine g_put ok (dk m_Sec_init 46 rfl) (pc' := 99) rfl f_Sec_35 (Or.inl rfl) s5 (Nat.le_of_ble_eq_true rfl) rfl rfl ?_
  refine g_gen (fun w0 f0 => ?_)
  have t0 : w0 s = some (.inl (1, [.ref r0, .ref r1, .ref r2, .ref r3, .ref r4, .ref r5, .int 1, .int 0, .int 0, .int 0])) := by rw [f0, q_up_s]; rfl
  have R0 : ∀ y, y ≠ s → w0 y = v5 y := fun y hy => by rw [f0, q_up_n hy]
  replace A0 := (R0 _ nr0).trans A0
  replace B0 := (R0 _ nc0).trans B0
  replace A1 := (R0 _ nr1).trans A1
  replace B1 := (R0 _ nc1).trans B1
  replace A2 := (R0 _ nr2).trans A2
  replace B2 := (R0 _ nc2).trans B2
  replace A3 := (R0 _ nr3).trans A3
  replace B3 := (R0 _ nc3).trans B3
  replace A4 := (R0 _ nr4).trans A4
  replace B4 := (R0 _ nc4).trans B4
  replace A5 := (R0 _ nr5).trans A5
  replace B5 := (R0 _ nc5).trans B5
  clear f0
  refine g_aload_n ok (dk m_Sec_init 47 rfl) (pc' := 100) rfl (i := 0) rfl rfl ?_
  refine g_iconst ok (dk m_Sec_init 48 rfl) (pc' := 101) rfl (v := 0) (by decide) ?_
  refine g_put ok (dk m_Sec_init 49 rfl) (pc' := 104) rfl f_Sec_39 (Or.inl rfl) t0 (Nat.le_of_ble_eq_true rfl) rfl rfl ?_
  refine g_gen (fun w1 f1 => ?_)
  have t1 : w1 s = some (.inl (1, [.ref r0, .ref r1, .ref r2, .ref r3, .ref r4, .ref r5, .int 1, .int 0, .int 0, .int 0])) := by rw [f1, q_up_s]; rfl
  have R1 : ∀ y, y ≠ s → w1 y = w0 y := fun y hy => by rw [f1, q_up_n hy]
  replace A0 := (R1 _ nr0).trans A0
  replace B0 := (R1 _ nc0).trans B0
  replace A1 := (R1 _ nr1).trans A1
  replace B1 := (R1 _ nc1).trans B1
  replace A2 := (R1 _ nr2).trans A2
  replace B2 := (R1 _ nc2).trans B2
  replace A3 := (R1 _ nr3).trans A3
  replace B3 := (R1 _ nc3).trans B3
  replace A4 := (R1 _ nr4).trans A4
  replace B4 := (R1 _ nc4).trans B4
  replace A5 := (R1 _ nr5).trans A5
  replace B5 := (R1 _ nc5).trans B5
  clear f1
  refine g_aload_n ok (dk m_Sec_init 50 rfl) (pc' := 105) rfl (i := 0) rfl rfl ?_
  refine g_iconst ok (dk m_Sec_init 51 rfl) (pc' := 106) rfl (v := 0) (by decide) ?_
  refine g_put ok (dk m_Sec_init 52 rfl) (pc' := 109) rfl f_Sec_42 (Or.inl rfl) t1 (Nat.le_of_ble_eq_true rfl) rfl rfl ?_
  refine g_gen (fun w2 f2 => ?_)
  have t2 : w2 s = some (.inl (1, [.ref r0, .ref r1, .ref r2, .ref r3, .ref r4, .ref r5, .int 1, .int 0, .int 0, .int 0])) := by rw [f2, q_up_s]; rfl
  have R2 : ∀ y, y ≠ s → w2 y = w1 y := fun y hy => by rw [f2, q_up_n hy]
  replace A0 := (R2 _ nr0).trans A0
  replace B0 := (R2 _ nc0).trans B0
  replace A1 := (R2 _ nr1).trans A1
  replace B1 := (R2 _ nc1).trans B1
  replace A2 := (R2 _ nr2).trans A2
  replace B2 := (R2 _ nc2).trans B2
  replace A3 := (R2 _ nr3).trans A3
  replace B3 := (R2 _ nc3).trans B3
  replace A4 := (R2 _ nr4).trans A4
  replace B4 := (R2 _ nc4).trans B4
  replace A5 := (R2 _ nr5).trans A5
  replace B5 := (R2 _ nc5).trans B5
  clear f2
  refine g_aload_n ok (dk m_Sec_init 53 rfl) (pc' := 110) rfl (i := 0) rfl rfl ?_
  refine g_iconst ok (dk m_Sec_init 54 rfl) (pc' := 111) rfl (v := 0) (by decide) ?_
  refine g_put ok (dk m_Sec_init 55 rfl) (pc' := 114) rfl f_Sec_45 (Or.inl rfl) t2 (Nat.le_of_ble_eq_true rfl) rfl rfl ?_
  refine g_gen (fun w3 f3 => ?_)
  have t3 : w3 s = some (.inl (1, [.ref r0, .ref r1, .ref r2, .ref r3, .ref r4, .ref r5, .int 1, .int 0, .int 0, .int 0])) := by rw [f3, q_up_s]; rfl
  have R3 : ∀ y, y ≠ s → w3 y = w2 y := fun y hy => by rw [f3, q_up_n hy]
  replace A0 := (R3 _ nr0).trans A0
  replace B0 := (R3 _ nc0).trans B0
  replace A1 := (R3 _ nr1).trans A1
  replace B1 := (R3 _ nc1).trans B1
  replace A2 := (R3 _ nr2).trans A2
  replace B2 := (R3 _ nc2).trans B2
  replace A3 := (R3 _ nr3).trans A3
  replace B3 := (R3 _ nc3).trans B3
  replace A4 := (R3 _ nr4).trans A4
  replace B4 := (R3 _ nc4).trans B4
  replace A5 := (R3 _ nr5).trans A5
  replace B5 := (R3 _ nc5).trans B5
  clear f3
  refine g_aload_n ok (dk m_Sec_init 56 rfl) (pc' := 115) rfl (i := 0) rfl rfl ?_
  refine g_get ok (dk m_Sec_init 57 rfl) (pc' := 118) rfl f_Sec_14 t3 rfl ?_
  refine g_iconst ok (dk m_Sec_init 58 rfl) (pc' := 119) rfl (v := 0) (by decide) ?_
  refine g_iconst ok (dk m_Sec_init 59 rfl) (pc' := 120) rfl (v := 1) (by decide) ?_
  refine g_callV ok (dk m_Sec_init 60 rfl) (pc' := 123) rfl c_Sec_48 (c_Row_put g 0 1 0 A0 B0 (by decide)) A0 rfl rfl (by simp [Value.category]) (by omega) rfl (rc' := 0) (rs' := 0) (by omega) (by omega) (fun rv h' hcc => ?_) (fun i h' hcc => by obtain ⟨e, -⟩ := hcc; cases e)
  obtain ⟨e, e2⟩ := hcc
  cases e
  refine g_vret ok (dk m_Sec_init 61 rfl) rfl ⟨rfl, (fun i => if i = 0 then r0 else if i = 1 then r1 else if i = 2 then r2 else if i = 3 then r3 else if i = 4 then r4 else r5), (fun i => if i = 0 then c0 else if i = 1 then c1 else if i = 2 then c2 else if i = 3 then c3 else if i = 4 then c4 else c5), ?_⟩
  have hsec : q_sec w3 s (fun i => if i = 0 then r0 else if i = 1 then r1 else if i = 2 then r2 else if i = 3 then r3 else if i = 4 then r4 else r5) (fun i => if i = 0 then c0 else if i = 1 then c1 else if i = 2 then c2 else if i = 3 then c3 else if i = 4 then c4 else c5) S_pre := by
    refine ⟨t3, fun i hi => ?_, fun i j hi hj => ?_⟩
    · rcases (show i = 0 ∨ i = 1 ∨ i = 2 ∨ i = 3 ∨ i = 4 ∨ i = 5 by omega) with rfl | rfl | rfl | rfl | rfl | rfl
      · exact ⟨A0, B0⟩
      · exact ⟨A1, B1⟩
      · exact ⟨A2, B2⟩
      · exact ⟨A3, B3⟩
      · exact ⟨A4, B4⟩
      · exact ⟨A5, B5⟩
    · rcases (show i = 0 ∨ i = 1 ∨ i = 2 ∨ i = 3 ∨ i = 4 ∨ i = 5 by omega) with rfl | rfl | rfl | rfl | rfl | rfl <;> rcases (show j = 0 ∨ j = 1 ∨ j = 2 ∨ j = 3 ∨ j = 4 ∨ j = 5 by omega) with rfl | rfl | rfl | rfl | rfl | rfl <;> intro e <;> first | rfl | exact absurd e (by assumption) | exact absurd e.symm (by assumption)
  refine ⟨hsec.putE 0 (by decide) e2, ?_, ?_, ?_⟩
  · intro y o hy hne
    have h5 := P5 y o (P4 y o (P3 y o (P2 y o (P1 y o (P0 y o hy hne) hne) hne) hne) hne) hne
    rw [e2, q_up_n (fun e => by rw [e] at hy; exact absurd hy (by rw [n0]; intro z; cases z))]
    rw [R3 y hne, R2 y hne, R1 y hne, R0 y hne]
    exact h5
  · have N : ∀ (y : Nat), y ≠ s → (∀ o, h y = some o → False) → h y = none := fun y _ hf => by
      cases e : h y with
      | none => rfl
      | some o => exact absurd e (fun z => hf o z)
    intro i hi
    rcases (show i = 0 ∨ i = 1 ∨ i = 2 ∨ i = 3 ∨ i = 4 ∨ i = 5 by omega) with rfl | rfl | rfl | rfl | rfl | rfl
    · exact ⟨hr0, n0⟩
    · exact ⟨N r1 nr1 (fun o ho => by have hne := nr1; have hh := (P0 r1 _ ho hne); rw [hr1] at hh; cases hh), N c1 nc1 (fun o ho => by have hne := nc1; have hh := (P0 c1 _ ho hne); rw [n1] at hh; cases hh)⟩
    · exact ⟨N r2 nr2 (fun o ho => by have hne := nr2; have hh := (P1 r2 _ (P0 r2 _ ho hne) hne); rw [hr2] at hh; cases hh), N c2 nc2 (fun o ho => by have hne := nc2; have hh := (P1 c2 _ (P0 c2 _ ho hne) hne); rw [n2] at hh; cases hh)⟩
    · exact ⟨N r3 nr3 (fun o ho => by have hne := nr3; have hh := (P2 r3 _ (P1 r3 _ (P0 r3 _ ho hne) hne) hne); rw [hr3] at hh; cases hh), N c3 nc3 (fun o ho => by have hne := nc3; have hh := (P2 c3 _ (P1 c3 _ (P0 c3 _ ho hne) hne) hne); rw [n3] at hh; cases hh)⟩
    · exact ⟨N r4 nr4 (fun o ho => by have hne := nr4; have hh := (P3 r4 _ (P2 r4 _ (P1 r4 _ (P0 r4 _ ho hne) hne) hne) hne); rw [hr4] at hh; cases hh), N c4 nc4 (fun o ho => by have hne := nc4; have hh := (P3 c4 _ (P2 c4 _ (P1 c4 _ (P0 c4 _ ho hne) hne) hne) hne); rw [n4] at hh; cases hh)⟩
    · exact ⟨N r5 nr5 (fun o ho => by have hne := nr5; have hh := (P4 r5 _ (P3 r5 _ (P2 r5 _ (P1 r5 _ (P0 r5 _ ho hne) hne) hne) hne) hne); rw [hr5] at hh; cases hh), N c5 nc5 (fun o ho => by have hne := nc5; have hh := (P4 c5 _ (P3 c5 _ (P2 c5 _ (P1 c5 _ (P0 c5 _ ho hne) hne) hne) hne) hne); rw [n5] at hh; cases hh)⟩
  · intro y hy hall
    have hys : y ≠ s := fun e => by rw [e, hs0] at hy; cases hy
    have k0 := Q0 y hy (hall 0 (by decide)).1 (hall 0 (by decide)).2
    have k1 := Q1 y k0 (hall 1 (by decide)).1 (hall 1 (by decide)).2
    have k2 := Q2 y k1 (hall 2 (by decide)).1 (hall 2 (by decide)).2
    have k3 := Q3 y k2 (hall 3 (by decide)).1 (hall 3 (by decide)).2
    have k4 := Q4 y k3 (hall 4 (by decide)).1 (hall 4 (by decide)).2
    have k5 := Q5 y k4 (hall 5 (by decide)).1 (hall 5 (by decide)).2
    rw [e2, q_up_n (show y ≠ c0 from (hall 0 (by decide)).2), R3 y hys, R2 y hys, R1 y hys, R0 y hys]
    exact k5
