/-! ===== the group: what only reads ===== -/
theorem g_ldcw {g : q_G} {Z : q_Z} {A : Nat → Prop} {post : q_R → q_H → Prop} {rc rs : Nat} {h : q_H} {pc pc' : Nat} {ls : List (Option Value)} {st : List Value} {own name : String} {cc : ByteArray} {nL d : Nat} {ret : Option FieldType} (ok : q_ok g Z A own name cc nL ret d) {index : Nat} {v : Int32} (hd : decode cc pc = .ok (.ldc_w index, 3)) (hp : pc + 3 = pc') (hw : Cond.constant own index v ∈ q_T) (kk : GW g Z A post rc rs h pc' ls (.int v :: st)) : GW g Z A post rc rs h pc ls st := by
  obtain ⟨hx, hb, hml, hown, hts, -⟩ := ok
  subst hp
  exact fun H locs la n k hH hD hS hL hn hk => lv_ldcw hx hb hown (hts _ hw) hd (kk H locs la n k hH hD hS hL hn hk)
theorem xc_4 : Cond.castable "RatchetGroup$Member" "RatchetGroup$Member" ∈ q_X := q_X_in 1275 (by decide +kernel) rfl
theorem xo_4 : Cond.castable "RatchetGroup$Member" "java/lang/Object" ∈ q_X := q_X_in 1287 (by decide +kernel) rfl
theorem ty_4 : q_Ty 4 "RatchetGroup$Member" := ⟨_, _, rfl⟩
theorem xc_5 : Cond.castable "RatchetGroup$Epoch" "RatchetGroup$Epoch" ∈ q_X := q_X_in 1276 (by decide +kernel) rfl
theorem xo_5 : Cond.castable "RatchetGroup$Epoch" "java/lang/Object" ∈ q_X := q_X_in 1288 (by decide +kernel) rfl
theorem ty_5 : q_Ty 5 "RatchetGroup$Epoch" := ⟨_, _, rfl⟩
theorem xc_7 : Cond.castable "RatchetGroup$KeyPackage" "RatchetGroup$KeyPackage" ∈ q_X := q_X_in 1277 (by decide +kernel) rfl
theorem xo_7 : Cond.castable "RatchetGroup$KeyPackage" "java/lang/Object" ∈ q_X := q_X_in 1291 (by decide +kernel) rfl
theorem ty_7 : q_Ty 7 "RatchetGroup$KeyPackage" := ⟨_, _, rfl⟩
theorem xc_9 : Cond.castable "RatchetGroup$Removal" "RatchetGroup$Removal" ∈ q_X := q_X_in 1278 (by decide +kernel) rfl
theorem xo_9 : Cond.castable "RatchetGroup$Removal" "java/lang/Object" ∈ q_X := q_X_in 1293 (by decide +kernel) rfl
theorem ty_9 : q_Ty 9 "RatchetGroup$Removal" := ⟨_, _, rfl⟩
theorem xc_10 : Cond.castable "RatchetGroup$Renewal" "RatchetGroup$Renewal" ∈ q_X := q_X_in 1279 (by decide +kernel) rfl
theorem xo_10 : Cond.castable "RatchetGroup$Renewal" "java/lang/Object" ∈ q_X := q_X_in 1294 (by decide +kernel) rfl
theorem ty_10 : q_Ty 10 "RatchetGroup$Renewal" := ⟨_, _, rfl⟩
theorem xc_8 : Cond.castable "RatchetGroup$Addition" "RatchetGroup$Addition" ∈ q_X := q_X_in 1280 (by decide +kernel) rfl
theorem xo_8 : Cond.castable "RatchetGroup$Addition" "java/lang/Object" ∈ q_X := q_X_in 1292 (by decide +kernel) rfl
theorem ty_8 : q_Ty 8 "RatchetGroup$Addition" := ⟨_, _, rfl⟩
def ix (i : Int32) : Nat := i.toNatClampNeg
theorem ix_nI {j : Nat} (hj : j < 2 ^ 31) : ix (nI j) = j := by
  have h := r_get_in (n := j + 1) (f := fun k => nI k) (Nat.lt_succ_self j)
  unfold ix nI
  rw [Int32.toNatClampNeg_ofNat_of_lt hj]
theorem sw_out4 {x : Int32} (h0 : ¬ x = 0) (h1 : ¬ x = 1) (h2 : ¬ x = 2) (h3 : ¬ x = 3) : x.toInt < 0 ∨ 3 < x.toInt := by
  rcases Int.lt_or_le x.toInt 0 with q | q
  · exact Or.inl q
  · rcases Int.lt_or_le 3 x.toInt with q2 | q2
    · exact Or.inr q2
    · exfalso
      rcases (show x.toInt = 0 ∨ x.toInt = 1 ∨ x.toInt = 2 ∨ x.toInt = 3 by omega) with e | e | e | e
      · exact h0 (Int32.toInt_inj.mp e)
      · exact h1 (Int32.toInt_inj.mp e)
      · exact h2 (Int32.toInt_inj.mp e)
      · exact h3 (Int32.toInt_inj.mp e)
theorem sw_out7 {x : Int32} (h0 : ¬ x = 0) (h1 : ¬ x = 1) (h2 : ¬ x = 2) (h3 : ¬ x = 3) (h4 : ¬ x = 4) (h5 : ¬ x = 5) (h6 : ¬ x = 6) : x.toInt < 0 ∨ 6 < x.toInt := by
  rcases Int.lt_or_le x.toInt 0 with q | q
  · exact Or.inl q
  · rcases Int.lt_or_le 6 x.toInt with q2 | q2
    · exact Or.inr q2
    · exfalso
      rcases (show x.toInt = 0 ∨ x.toInt = 1 ∨ x.toInt = 2 ∨ x.toInt = 3 ∨ x.toInt = 4 ∨ x.toInt = 5 ∨ x.toInt = 6 by omega) with e | e | e | e | e | e | e
      · exact h0 (Int32.toInt_inj.mp e)
      · exact h1 (Int32.toInt_inj.mp e)
      · exact h2 (Int32.toInt_inj.mp e)
      · exact h3 (Int32.toInt_inj.mp e)
      · exact h4 (Int32.toInt_inj.mp e)
      · exact h5 (Int32.toInt_inj.mp e)
      · exact h6 (Int32.toInt_inj.mp e)
def j_bc1 (x : Int32) : Int32 := x - (j_ushr x 1 &&& 1431655765)
def j_bc2 (x : Int32) : Int32 := (x &&& 858993459) + (j_ushr x 2 &&& 858993459)
def j_bc3 (x : Int32) : Int32 := (x + j_ushr x 4) &&& 252645135
def j_bc (x : Int32) : Int32 := (j_bc3 (j_bc2 (j_bc1 x)) + j_ushr (j_bc3 (j_bc2 (j_bc1 x))) 8 + j_ushr (j_bc3 (j_bc2 (j_bc1 x)) + j_ushr (j_bc3 (j_bc2 (j_bc1 x))) 8) 16) &&& 63
set_option maxHeartbeats 1000000 in
theorem c_Int_bitCount (g : q_G) {h : q_H} (x : Int32) (d : Nat) : MG g y_Int_bitCount b_Int_bitCount 1 (some .int) d 0 0 [.int x] h (fun q h' => q = .inl (some (.int (j_bc x))) ∧ h' = h) := by
  refine MG.of (by decide +kernel) (by simp [Value.category]) (Nat.le_of_ble_eq_true rfl) ?_
  intro Z A ok
  refine g_iload_n ok (dk m_Int_bitCount 0 rfl) (pc' := 1) rfl (i := 0) rfl rfl ?_
  refine g_iload_n ok (dk m_Int_bitCount 1 rfl) (pc' := 2) rfl (i := 0) rfl rfl ?_
  refine g_iconst ok (dk m_Int_bitCount 2 rfl) (pc' := 3) rfl (v := 1) (by decide) ?_
  refine g_iushr ok (dk m_Int_bitCount 3 rfl) (pc' := 4) rfl rfl ?_
  refine g_ldcw ok (dk m_Int_bitCount 4 rfl) (pc' := 7) rfl (v := 1431655765) (q_T_in 454 (by decide +kernel) rfl) ?_
  refine g_iand ok (dk m_Int_bitCount 5 rfl) (pc' := 8) rfl ?_
  refine g_isub ok (dk m_Int_bitCount 6 rfl) (pc' := 9) rfl ?_
  refine g_istore_n ok (dk m_Int_bitCount 7 rfl) (pc' := 10) rfl (i := 0) rfl (Nat.le_of_ble_eq_true rfl) rfl ?_
  refine g_iload_n ok (dk m_Int_bitCount 8 rfl) (pc' := 11) rfl (i := 0) rfl rfl ?_
  refine g_ldcw ok (dk m_Int_bitCount 9 rfl) (pc' := 14) rfl (v := 858993459) (q_T_in 455 (by decide +kernel) rfl) ?_
  refine g_iand ok (dk m_Int_bitCount 10 rfl) (pc' := 15) rfl ?_
  refine g_iload_n ok (dk m_Int_bitCount 11 rfl) (pc' := 16) rfl (i := 0) rfl rfl ?_
  refine g_iconst ok (dk m_Int_bitCount 12 rfl) (pc' := 17) rfl (v := 2) (by decide) ?_
  refine g_iushr ok (dk m_Int_bitCount 13 rfl) (pc' := 18) rfl rfl ?_
  refine g_ldcw ok (dk m_Int_bitCount 14 rfl) (pc' := 21) rfl (v := 858993459) (q_T_in 455 (by decide +kernel) rfl) ?_
  refine g_iand ok (dk m_Int_bitCount 15 rfl) (pc' := 22) rfl ?_
  refine g_iadd ok (dk m_Int_bitCount 16 rfl) (pc' := 23) rfl ?_
  refine g_istore_n ok (dk m_Int_bitCount 17 rfl) (pc' := 24) rfl (i := 0) rfl (Nat.le_of_ble_eq_true rfl) rfl ?_
  refine g_iload_n ok (dk m_Int_bitCount 18 rfl) (pc' := 25) rfl (i := 0) rfl rfl ?_
  refine g_iload_n ok (dk m_Int_bitCount 19 rfl) (pc' := 26) rfl (i := 0) rfl rfl ?_
  refine g_iconst ok (dk m_Int_bitCount 20 rfl) (pc' := 27) rfl (v := 4) (by decide) ?_
  refine g_iushr ok (dk m_Int_bitCount 21 rfl) (pc' := 28) rfl rfl ?_
  refine g_iadd ok (dk m_Int_bitCount 22 rfl) (pc' := 29) rfl ?_
  refine g_ldcw ok (dk m_Int_bitCount 23 rfl) (pc' := 32) rfl (v := 252645135) (q_T_in 456 (by decide +kernel) rfl) ?_
  refine g_iand ok (dk m_Int_bitCount 24 rfl) (pc' := 33) rfl ?_
  refine g_istore_n ok (dk m_Int_bitCount 25 rfl) (pc' := 34) rfl (i := 0) rfl (Nat.le_of_ble_eq_true rfl) rfl ?_
  refine g_iload_n ok (dk m_Int_bitCount 26 rfl) (pc' := 35) rfl (i := 0) rfl rfl ?_
  refine g_iload_n ok (dk m_Int_bitCount 27 rfl) (pc' := 36) rfl (i := 0) rfl rfl ?_
  refine g_bipush ok (dk m_Int_bitCount 28 rfl) (pc' := 38) rfl (v := 8) (by decide) ?_
  refine g_iushr ok (dk m_Int_bitCount 29 rfl) (pc' := 39) rfl rfl ?_
  refine g_iadd ok (dk m_Int_bitCount 30 rfl) (pc' := 40) rfl ?_
  refine g_istore_n ok (dk m_Int_bitCount 31 rfl) (pc' := 41) rfl (i := 0) rfl (Nat.le_of_ble_eq_true rfl) rfl ?_
  refine g_iload_n ok (dk m_Int_bitCount 32 rfl) (pc' := 42) rfl (i := 0) rfl rfl ?_
  refine g_iload_n ok (dk m_Int_bitCount 33 rfl) (pc' := 43) rfl (i := 0) rfl rfl ?_
  refine g_bipush ok (dk m_Int_bitCount 34 rfl) (pc' := 45) rfl (v := 16) (by decide) ?_
  refine g_iushr ok (dk m_Int_bitCount 35 rfl) (pc' := 46) rfl rfl ?_
  refine g_iadd ok (dk m_Int_bitCount 36 rfl) (pc' := 47) rfl ?_
  refine g_istore_n ok (dk m_Int_bitCount 37 rfl) (pc' := 48) rfl (i := 0) rfl (Nat.le_of_ble_eq_true rfl) rfl ?_
  refine g_iload_n ok (dk m_Int_bitCount 38 rfl) (pc' := 49) rfl (i := 0) rfl rfl ?_
  refine g_bipush ok (dk m_Int_bitCount 39 rfl) (pc' := 51) rfl (v := 63) (by decide) ?_
  refine g_iand ok (dk m_Int_bitCount 40 rfl) (pc' := 52) rfl ?_
  exact g_iret ok (dk m_Int_bitCount 41 rfl) rfl rfl ⟨rfl, rfl⟩
set_option maxHeartbeats 1000000 in
theorem c_RG_isMember (g : q_G) {h : q_H} {r : Nat} {w : Nat → Nat} {D : a_T} {ob : Nat → Option Nat} {G : G_T} (n : Int32) (d : Nat) (hd : 1 ≤ d) (H : q_RG g h r w D ob G) : MG g y_RG_isMember b_RG_isMember 2 (some .boolean) d 0 0 [.ref r, .int n] h (fun q h' => q = .inl (some (.int (b2i (r_in 16 n)))) ∧ h' = h) := by
  obtain ⟨lm0, lm1, hlm⟩ := H.lm.size
  refine MG.of (by decide +kernel) (by simp [Value.category]) (Nat.le_of_ble_eq_true rfl) ?_
  intro Z A ok
  refine g_iload_n ok (dk m_RG_isMember 0 rfl) (pc' := 1) rfl (i := 1) rfl rfl ?_
  refine g_if_lt ok (dk m_RG_isMember 1 rfl) (tgt := 19) (by decide) (pc' := 4) rfl (fun c_1 => ?_) (fun c_1 => ?_)
  · refine g_iconst ok (dk m_RG_isMember 9 rfl) (pc' := 20) rfl (v := 0) (by decide) ?_
    exact g_iret ok (dk m_RG_isMember 10 rfl) rfl rfl ⟨by rw [b2i_f (p := r_in 16 n) (fun z => z.1 c_1)], rfl⟩
  · refine g_iload_n ok (dk m_RG_isMember 2 rfl) (pc' := 5) rfl (i := 1) rfl rfl ?_
    refine g_aload_n ok (dk m_RG_isMember 3 rfl) (pc' := 6) rfl (i := 0) rfl rfl ?_
    refine g_get ok (dk m_RG_isMember 4 rfl) (pc' := 9) rfl f_RG_19 H.fr rfl ?_
    refine g_callV ok (dk m_RG_isMember 5 rfl) (pc' := 12) rfl c_RG_86 (c_AL_size g 0 hlm) hlm rfl rfl (by simp [Value.category]) (by omega) rfl (rc' := 0) (rs' := 0) (by omega) (by omega) (fun rv h' hcc => ?_) (fun i h' hcc => by obtain ⟨e9, -⟩ := hcc; cases e9)
    obtain ⟨e9, e2⟩ := hcc
    have e3 := e2.symm
    subst e3
    cases e9
    refine g_icmp_ge ok (dk m_RG_isMember 6 rfl) (tgt := 19) (by decide) (pc' := 15) rfl (fun c_12 => ?_) (fun c_12 => ?_)
    · refine g_iconst ok (dk m_RG_isMember 9 rfl) (pc' := 20) rfl (v := 0) (by decide) ?_
      exact g_iret ok (dk m_RG_isMember 10 rfl) rfl rfl ⟨by rw [b2i_f (p := r_in 16 n) (fun z => z.2 c_12)], rfl⟩
    · refine g_iconst ok (dk m_RG_isMember 7 rfl) (pc' := 16) rfl (v := 1) (by decide) ?_
      refine g_goto ok (dk m_RG_isMember 8 rfl) (pc' := 20) (by decide) ?_
      exact g_iret ok (dk m_RG_isMember 10 rfl) rfl rfl ⟨by rw [b2i_t (p := r_in 16 n) ⟨c_1, c_12⟩], rfl⟩
set_option maxHeartbeats 1000000 in
theorem c_RG_isEpoch (g : q_G) {h : q_H} {r : Nat} {w : Nat → Nat} {D : a_T} {ob : Nat → Option Nat} {G : G_T} (n : Int32) (d : Nat) (hd : 1 ≤ d) (H : q_RG g h r w D ob G) : MG g y_RG_isEpoch b_RG_isEpoch 2 (some .boolean) d 0 0 [.ref r, .int n] h (fun q h' => q = .inl (some (.int (b2i (r_in (ne G) n)))) ∧ h' = h) := by
  obtain ⟨le0, le1, hle⟩ := H.le.size
  refine MG.of (by decide +kernel) (by simp [Value.category]) (Nat.le_of_ble_eq_true rfl) ?_
  intro Z A ok
  refine g_iload_n ok (dk m_RG_isEpoch 0 rfl) (pc' := 1) rfl (i := 1) rfl rfl ?_
  refine g_if_lt ok (dk m_RG_isEpoch 1 rfl) (tgt := 19) (by decide) (pc' := 4) rfl (fun c_1 => ?_) (fun c_1 => ?_)
  · refine g_iconst ok (dk m_RG_isEpoch 9 rfl) (pc' := 20) rfl (v := 0) (by decide) ?_
    exact g_iret ok (dk m_RG_isEpoch 10 rfl) rfl rfl ⟨by rw [b2i_f (p := r_in (ne G) n) (fun z => z.1 c_1)], rfl⟩
  · refine g_iload_n ok (dk m_RG_isEpoch 2 rfl) (pc' := 5) rfl (i := 1) rfl rfl ?_
    refine g_aload_n ok (dk m_RG_isEpoch 3 rfl) (pc' := 6) rfl (i := 0) rfl rfl ?_
    refine g_get ok (dk m_RG_isEpoch 4 rfl) (pc' := 9) rfl f_RG_29 H.fr rfl ?_
    refine g_callV ok (dk m_RG_isEpoch 5 rfl) (pc' := 12) rfl c_RG_86 (c_AL_size g 0 hle) hle rfl rfl (by simp [Value.category]) (by omega) rfl (rc' := 0) (rs' := 0) (by omega) (by omega) (fun rv h' hcc => ?_) (fun i h' hcc => by obtain ⟨e9, -⟩ := hcc; cases e9)
    obtain ⟨e9, e2⟩ := hcc
    have e3 := e2.symm
    subst e3
    cases e9
    refine g_icmp_ge ok (dk m_RG_isEpoch 6 rfl) (tgt := 19) (by decide) (pc' := 15) rfl (fun c_12 => ?_) (fun c_12 => ?_)
    · refine g_iconst ok (dk m_RG_isEpoch 9 rfl) (pc' := 20) rfl (v := 0) (by decide) ?_
      exact g_iret ok (dk m_RG_isEpoch 10 rfl) rfl rfl ⟨by rw [b2i_f (p := r_in (ne G) n) (fun z => z.2 c_12)], rfl⟩
    · refine g_iconst ok (dk m_RG_isEpoch 7 rfl) (pc' := 16) rfl (v := 1) (by decide) ?_
      refine g_goto ok (dk m_RG_isEpoch 8 rfl) (pc' := 20) (by decide) ?_
      exact g_iret ok (dk m_RG_isEpoch 10 rfl) rfl rfl ⟨by rw [b2i_t (p := r_in (ne G) n) ⟨c_1, c_12⟩], rfl⟩
set_option maxHeartbeats 1000000 in
theorem c_RG_epochs (g : q_G) {h : q_H} {r : Nat} {w : Nat → Nat} {D : a_T} {ob : Nat → Option Nat} {G : G_T} (d : Nat) (hd : 1 ≤ d) (H : q_RG g h r w D ob G) : MG g y_RG_epochs b_RG_epochs 1 (some .int) d 0 0 [.ref r] h (fun q h' => q = .inl (some (.int (nI (ne G)))) ∧ h' = h) := by
  obtain ⟨le0, le1, hle⟩ := H.le.size
  refine MG.of (by decide +kernel) (by simp [Value.category]) (Nat.le_of_ble_eq_true rfl) ?_
  intro Z A ok
  refine g_aload_n ok (dk m_RG_epochs 0 rfl) (pc' := 1) rfl (i := 0) rfl rfl ?_
  refine g_get ok (dk m_RG_epochs 1 rfl) (pc' := 4) rfl f_RG_29 H.fr rfl ?_
  refine g_callV ok (dk m_RG_epochs 2 rfl) (pc' := 7) rfl c_RG_86 (c_AL_size g 0 hle) hle rfl rfl (by simp [Value.category]) (by omega) rfl (rc' := 0) (rs' := 0) (by omega) (by omega) (fun rv h' hcc => ?_) (fun i h' hcc => by obtain ⟨e9, -⟩ := hcc; cases e9)
  obtain ⟨e9, e2⟩ := hcc
  have e3 := e2.symm
  subst e3
  cases e9
  exact g_iret ok (dk m_RG_epochs 3 rfl) rfl rfl ⟨rfl, rfl⟩
set_option maxHeartbeats 1000000 in
theorem c_RG_waiting (g : q_G) {h : q_H} {r : Nat} {w : Nat → Nat} {D : a_T} {ob : Nat → Option Nat} {G : G_T} (d : Nat) (hd : 1 ≤ d) (H : q_RG g h r w D ob G) : MG g y_RG_waiting b_RG_waiting 1 (some .int) d 0 0 [.ref r] h (fun q h' => q = .inl (some (.int (nI (nq G)))) ∧ h' = h) := by
  obtain ⟨lq0, lq1, hlq⟩ := H.lq.size
  refine MG.of (by decide +kernel) (by simp [Value.category]) (Nat.le_of_ble_eq_true rfl) ?_
  intro Z A ok
  refine g_aload_n ok (dk m_RG_waiting 0 rfl) (pc' := 1) rfl (i := 0) rfl rfl ?_
  refine g_get ok (dk m_RG_waiting 1 rfl) (pc' := 4) rfl f_RG_26 H.fr rfl ?_
  refine g_callV ok (dk m_RG_waiting 2 rfl) (pc' := 7) rfl c_RG_86 (c_AL_size g 0 hlq) hlq rfl rfl (by simp [Value.category]) (by omega) rfl (rc' := 0) (rs' := 0) (by omega) (by omega) (fun rv h' hcc => ?_) (fun i h' hcc => by obtain ⟨e9, -⟩ := hcc; cases e9)
  obtain ⟨e9, e2⟩ := hcc
  have e3 := e2.symm
  subst e3
  cases e9
  exact g_iret ok (dk m_RG_waiting 3 rfl) rfl rfl ⟨rfl, rfl⟩
def A_has (G : G_T) (m : Int32) : Prop := r_in 16 m ∧ ¬ (gM G (ix m)).1 4 = 0
noncomputable def A_holds (G : G_T) (m n : Int32) : Prop := r_in 16 m ∧ r_in (ne G) ((gM G (ix m)).1 2) ∧ M_hk (gM G (ix m)) (gE G (ix ((gM G (ix m)).1 2))).2.1 n
noncomputable def A_isKnown (G : G_T) (e : Int32) : Prop := r_in (ne G) e ∧ S_told (gS G) ((gE G (ix e)).1 2)
noncomputable def A_isOpen (G : G_T) (e n : Int32) : Prop := r_in (ne G) e ∧ S_told (gS G) (r_get (tr_len 0) ((gE G (ix e)).2.1.1 0) n)
noncomputable def A_epoch (G : G_T) (e wh : Int32) : Int32 := by
  classical exact if r_in (ne G) e then (if wh = 0 then nI (gE G (ix e)).2.1.2 else if wh = 1 then (gE G (ix e)).1 1 else if wh = 2 then (gE G (ix e)).1 3 else if wh = 3 then (gE G (ix e)).1 4 else if wh = 4 then (gE G (ix e)).1 5 else if wh = 5 then (gE G (ix e)).1 6 else if wh = 6 then (gE G (ix e)).1 7 else -1) else -1
noncomputable def A_node (G : G_T) (e n wh : Int32) : Int32 := by
  classical exact if r_in (ne G) e then (if T_there (gE G (ix e)).2.1 n then (if wh = 0 then (if T_isB (gE G (ix e)).2.1 n then 0 else 1) else if wh = 1 then r_get (tr_len 1) ((gE G (ix e)).2.1.1 1) n else if wh = 2 then r_get (tr_len 2) ((gE G (ix e)).2.1.1 2) n else if wh = 3 then j_bc (T_reso (gE G (ix e)).2.1 n) else -1) else -1) else -1
noncomputable def A_kn (G : G_T) : Nat → Nat → Nat → Nat
  | 0, _, c => c
  | m + 1, k, c => by classical exact A_kn G m (k + 1) (if S_told (gS G) ((gE G k).1 2) then c + 1 else c)
set_option maxHeartbeats 1000000 in
theorem c_RG_has (g : q_G) {h : q_H} {r : Nat} {w : Nat → Nat} {D : a_T} {ob : Nat → Option Nat} {G : G_T} (m : Int32) (d : Nat) (hd : 3 ≤ d) (H : q_RG g h r w D ob G) : MG g y_RG_has b_RG_has 2 (some .boolean) d 0 0 [.ref r, .int m] h (fun q h' => q = .inl (some (.int (b2i (A_has G m)))) ∧ h' = h) := by
  obtain ⟨lm0, lm1, hlm⟩ := H.lm.size
  refine MG.of (by decide +kernel) (by simp [Value.category]) (Nat.le_of_ble_eq_true rfl) ?_
  intro Z A ok
  refine g_aload_n ok (dk m_RG_has 0 rfl) (pc' := 1) rfl (i := 0) rfl rfl ?_
  refine g_iload_n ok (dk m_RG_has 1 rfl) (pc' := 2) rfl (i := 1) rfl rfl ?_
  refine g_callV ok (dk m_RG_has 2 rfl) (pc' := 5) rfl c_RG_198 (c_RG_isMember g m 1 (by omega) H) H.fr rfl rfl (by simp [Value.category]) (by omega) rfl (rc' := 0) (rs' := 0) (by omega) (by omega) (fun rv h' hcc => ?_) (fun i h' hcc => by obtain ⟨e9, -⟩ := hcc; cases e9)
  obtain ⟨e9, e2⟩ := hcc
  have e3 := e2.symm
  subst e3
  cases e9
  refine g_if_eq ok (dk m_RG_has 3 rfl) (tgt := 29) (by decide) (pc' := 8) rfl (fun c_5 => ?_) (fun c_5 => ?_)
  · refine g_iconst ok (dk m_RG_has 13 rfl) (pc' := 30) rfl (v := 0) (by decide) ?_
    exact g_iret ok (dk m_RG_has 14 rfl) rfl rfl ⟨by rw [b2i_f (p := A_has G m) (fun z => b2i_0 c_5 z.1)], rfl⟩
  · obtain ⟨j, hj, rfl⟩ := r_in_of (by decide) (b2i_n c_5)
    have hx : ix (nI j) = j := ix_nI (by omega)
    refine g_aload_n ok (dk m_RG_has 4 rfl) (pc' := 9) rfl (i := 0) rfl rfl ?_
    refine g_get ok (dk m_RG_has 5 rfl) (pc' := 12) rfl f_RG_19 H.fr rfl ?_
    refine g_iload_n ok (dk m_RG_has 6 rfl) (pc' := 13) rfl (i := 1) rfl rfl ?_
    refine g_callV ok (dk m_RG_has 7 rfl) (pc' := 16) rfl c_RG_112 (c_AL_get g 2 (by omega) H.lm hj) hlm rfl rfl (by simp [Value.category]) (by omega) rfl (rc' := 0) (rs' := 0) (by omega) (by omega) (fun rv h' hcc => ?_) (fun i h' hcc => by obtain ⟨e9, -⟩ := hcc; cases e9)
    obtain ⟨e9, e2⟩ := hcc
    have e3 := e2.symm
    subst e3
    cases e9
    refine g_castY ok (dk m_RG_has 8 rfl) (pc' := 19) rfl k_RG_41 xc_4 ty_4 (H.mem hj).1 ?_
    refine g_get ok (dk m_RG_has 9 rfl) (pc' := 22) rfl f_RG_212 (H.mem hj).1 rfl ?_
    refine g_if_eq ok (dk m_RG_has 10 rfl) (tgt := 29) (by decide) (pc' := 25) rfl (fun c_22 => ?_) (fun c_22 => ?_)
    · refine g_iconst ok (dk m_RG_has 13 rfl) (pc' := 30) rfl (v := 0) (by decide) ?_
      exact g_iret ok (dk m_RG_has 14 rfl) rfl rfl ⟨by rw [b2i_f (p := A_has G (nI j)) (fun z => z.2 (by rw [hx]; exact c_22))], rfl⟩
    · refine g_iconst ok (dk m_RG_has 11 rfl) (pc' := 26) rfl (v := 1) (by decide) ?_
      refine g_goto ok (dk m_RG_has 12 rfl) (pc' := 30) (by decide) ?_
      exact g_iret ok (dk m_RG_has 14 rfl) rfl rfl ⟨by rw [b2i_t (p := A_has G (nI j)) ⟨b2i_n c_5, by rw [hx]; exact c_22⟩], rfl⟩
set_option maxHeartbeats 1000000 in
theorem c_RG_holds (g : q_G) {h : q_H} {r : Nat} {w : Nat → Nat} {D : a_T} {ob : Nat → Option Nat} {G : G_T} (m n : Int32) (d : Nat) (hd : 3 ≤ d) (H : q_RG g h r w D ob G) (hne : ne G < 2 ^ 31) : MG g y_RG_holds b_RG_holds 4 (some .boolean) d 0 0 [.ref r, .int m, .int n] h (fun q h' => q = .inl (some (.int (b2i (A_holds G m n)))) ∧ h' = h) := by
  obtain ⟨lm0, lm1, hlm⟩ := H.lm.size
  obtain ⟨le0, le1, hle⟩ := H.le.size
  refine MG.of (by decide +kernel) (by simp [Value.category]) (Nat.le_of_ble_eq_true rfl) ?_
  intro Z A ok
  refine g_aload_n ok (dk m_RG_holds 0 rfl) (pc' := 1) rfl (i := 0) rfl rfl ?_
  refine g_iload_n ok (dk m_RG_holds 1 rfl) (pc' := 2) rfl (i := 1) rfl rfl ?_
  refine g_callV ok (dk m_RG_holds 2 rfl) (pc' := 5) rfl c_RG_198 (c_RG_isMember g m 1 (by omega) H) H.fr rfl rfl (by simp [Value.category]) (by omega) rfl (rc' := 0) (rs' := 0) (by omega) (by omega) (fun rv h' hcc => ?_) (fun i h' hcc => by obtain ⟨e9, -⟩ := hcc; cases e9)
  obtain ⟨e9, e2⟩ := hcc
  have e3 := e2.symm
  subst e3
  cases e9
  refine g_if_ne ok (dk m_RG_holds 3 rfl) (tgt := 10) (by decide) (pc' := 8) rfl (fun c_5 => ?_) (fun c_5 => ?_)
  · obtain ⟨j, hj, rfl⟩ := r_in_of (by decide) (b2i_n c_5)
    have hx : ix (nI j) = j := ix_nI (by omega)
    refine g_aload_n ok (dk m_RG_holds 6 rfl) (pc' := 11) rfl (i := 0) rfl rfl ?_
    refine g_get ok (dk m_RG_holds 7 rfl) (pc' := 14) rfl f_RG_19 H.fr rfl ?_
    refine g_iload_n ok (dk m_RG_holds 8 rfl) (pc' := 15) rfl (i := 1) rfl rfl ?_
    refine g_callV ok (dk m_RG_holds 9 rfl) (pc' := 18) rfl c_RG_112 (c_AL_get g 2 (by omega) H.lm hj) hlm rfl rfl (by simp [Value.category]) (by omega) rfl (rc' := 0) (rs' := 0) (by omega) (by omega) (fun rv h' hcc => ?_) (fun i h' hcc => by obtain ⟨e9, -⟩ := hcc; cases e9)
    obtain ⟨e9, e2⟩ := hcc
    have e3 := e2.symm
    subst e3
    cases e9
    refine g_castY ok (dk m_RG_holds 10 rfl) (pc' := 21) rfl k_RG_41 xc_4 ty_4 (H.mem hj).1 ?_
    refine g_astore_n ok (dk m_RG_holds 11 rfl) (pc' := 22) rfl (i := 3) rfl (Nat.le_of_ble_eq_true rfl) rfl ?_
    refine g_aload_n ok (dk m_RG_holds 12 rfl) (pc' := 23) rfl (i := 0) rfl rfl ?_
    refine g_aload_n ok (dk m_RG_holds 13 rfl) (pc' := 24) rfl (i := 3) rfl rfl ?_
    refine g_get ok (dk m_RG_holds 14 rfl) (pc' := 27) rfl f_RG_133 (H.mem hj).1 rfl ?_
    refine g_callV ok (dk m_RG_holds 15 rfl) (pc' := 30) rfl c_RG_205 (c_RG_isEpoch g ((gM G j).1 2) 1 (by omega) H) H.fr rfl rfl (by simp [Value.category]) (by omega) rfl (rc' := 0) (rs' := 0) (by omega) (by omega) (fun rv h' hcc => ?_) (fun i h' hcc => by obtain ⟨e9, -⟩ := hcc; cases e9)
    obtain ⟨e9, e2⟩ := hcc
    have e3 := e2.symm
    subst e3
    cases e9
    refine g_if_eq ok (dk m_RG_holds 16 rfl) (tgt := 62) (by decide) (pc' := 33) rfl (fun c_30 => ?_) (fun c_30 => ?_)
    · refine g_iconst ok (dk m_RG_holds 30 rfl) (pc' := 63) rfl (v := 0) (by decide) ?_
      exact g_iret ok (dk m_RG_holds 31 rfl) rfl rfl ⟨by rw [b2i_f (p := A_holds G (nI j) n) (fun z => b2i_0 c_30 (by have q := z.2.1; rw [hx] at q; exact q))], rfl⟩
    · obtain ⟨i, hi, he⟩ := r_in_of hne (b2i_n c_30)
      have hy : ix (nI i) = i := ix_nI (by omega)
      refine g_aload_n ok (dk m_RG_holds 17 rfl) (pc' := 34) rfl (i := 3) rfl rfl ?_
      refine g_aload_n ok (dk m_RG_holds 18 rfl) (pc' := 35) rfl (i := 0) rfl rfl ?_
      refine g_get ok (dk m_RG_holds 19 rfl) (pc' := 38) rfl f_RG_29 H.fr rfl ?_
      refine g_aload_n ok (dk m_RG_holds 20 rfl) (pc' := 39) rfl (i := 3) rfl rfl ?_
      refine g_get ok (dk m_RG_holds 21 rfl) (pc' := 42) rfl f_RG_133 (H.mem hj).1 rfl ?_
      rw [he]
      refine g_callV ok (dk m_RG_holds 22 rfl) (pc' := 45) rfl c_RG_112 (c_AL_get g 2 (by omega) H.le hi) hle rfl rfl (by simp [Value.category]) (by omega) rfl (rc' := 0) (rs' := 0) (by omega) (by omega) (fun rv h' hcc => ?_) (fun i h' hcc => by obtain ⟨e9, -⟩ := hcc; cases e9)
      obtain ⟨e9, e2⟩ := hcc
      have e3 := e2.symm
      subst e3
      cases e9
      refine g_castY ok (dk m_RG_holds 23 rfl) (pc' := 48) rfl k_RG_50 xc_5 ty_5 (H.ep hi).1 ?_
      refine g_getR ok (dk m_RG_holds 24 rfl) (pc' := 51) rfl f_RG_65 (H.ep hi).1 rfl ?_
      refine g_iload_n ok (dk m_RG_holds 25 rfl) (pc' := 52) rfl (i := 2) rfl rfl ?_
      refine g_callV ok (dk m_RG_holds 26 rfl) (pc' := 55) rfl c_RG_208 (c_Mem_holdsKeyIn g n 1 (by omega) (H.mem hj) (H.ep hi).2.1) (H.mem hj).1 rfl rfl (by simp [Value.category]) (by omega) rfl (rc' := 0) (rs' := 0) (by omega) (by omega) (fun rv h' hcc => ?_) (fun i h' hcc => by obtain ⟨e9, -⟩ := hcc; cases e9)
      obtain ⟨e9, e2⟩ := hcc
      have e3 := e2.symm
      subst e3
      cases e9
      refine g_if_eq ok (dk m_RG_holds 27 rfl) (tgt := 62) (by decide) (pc' := 58) rfl (fun c_55 => ?_) (fun c_55 => ?_)
      · refine g_iconst ok (dk m_RG_holds 30 rfl) (pc' := 63) rfl (v := 0) (by decide) ?_
        exact g_iret ok (dk m_RG_holds 31 rfl) rfl rfl ⟨by rw [b2i_f (p := A_holds G (nI j) n) (fun z => b2i_0 c_55 (by have q := z.2.2; rw [hx, he, hy] at q; exact q))], rfl⟩
      · refine g_iconst ok (dk m_RG_holds 28 rfl) (pc' := 59) rfl (v := 1) (by decide) ?_
        refine g_goto ok (dk m_RG_holds 29 rfl) (pc' := 63) (by decide) ?_
        exact g_iret ok (dk m_RG_holds 31 rfl) rfl rfl ⟨by rw [b2i_t (p := A_holds G (nI j) n) ⟨b2i_n c_5, by rw [hx]; exact b2i_n c_30, by rw [hx, he, hy]; exact b2i_n c_55⟩], rfl⟩
  · refine g_iconst ok (dk m_RG_holds 4 rfl) (pc' := 9) rfl (v := 0) (by decide) ?_
    exact g_iret ok (dk m_RG_holds 5 rfl) rfl rfl ⟨by rw [b2i_f (p := A_holds G m n) (fun z => b2i_0 c_5 z.1)], rfl⟩
set_option maxHeartbeats 1000000 in
theorem c_RG_isKnown (g : q_G) {h : q_H} {r : Nat} {w : Nat → Nat} {D : a_T} {ob : Nat → Option Nat} {G : G_T} (e : Int32) (d : Nat) (hd : 3 ≤ d) (H : q_RG g h r w D ob G) (hne : ne G < 2 ^ 31) : MG g y_RG_isKnown b_RG_isKnown 2 (some .boolean) d 0 0 [.ref r, .int e] h (fun q h' => q = .inl (some (.int (b2i (A_isKnown G e)))) ∧ h' = h) := by
  obtain ⟨le0, le1, hle⟩ := H.le.size
  refine MG.of (by decide +kernel) (by simp [Value.category]) (Nat.le_of_ble_eq_true rfl) ?_
  intro Z A ok
  refine g_aload_n ok (dk m_RG_isKnown 0 rfl) (pc' := 1) rfl (i := 0) rfl rfl ?_
  refine g_iload_n ok (dk m_RG_isKnown 1 rfl) (pc' := 2) rfl (i := 1) rfl rfl ?_
  refine g_callV ok (dk m_RG_isKnown 2 rfl) (pc' := 5) rfl c_RG_205 (c_RG_isEpoch g (e) 1 (by omega) H) H.fr rfl rfl (by simp [Value.category]) (by omega) rfl (rc' := 0) (rs' := 0) (by omega) (by omega) (fun rv h' hcc => ?_) (fun i h' hcc => by obtain ⟨e9, -⟩ := hcc; cases e9)
  obtain ⟨e9, e2⟩ := hcc
  have e3 := e2.symm
  subst e3
  cases e9
  refine g_if_eq ok (dk m_RG_isKnown 3 rfl) (tgt := 36) (by decide) (pc' := 8) rfl (fun c_5 => ?_) (fun c_5 => ?_)
  · refine g_iconst ok (dk m_RG_isKnown 16 rfl) (pc' := 37) rfl (v := 0) (by decide) ?_
    exact g_iret ok (dk m_RG_isKnown 17 rfl) rfl rfl ⟨by rw [b2i_f (p := A_isKnown G e) (fun z => b2i_0 c_5 z.1)], rfl⟩
  · obtain ⟨j, hj, rfl⟩ := r_in_of hne (b2i_n c_5)
    have hx : ix (nI j) = j := ix_nI (by omega)
    refine g_aload_n ok (dk m_RG_isKnown 4 rfl) (pc' := 9) rfl (i := 0) rfl rfl ?_
    refine g_get ok (dk m_RG_isKnown 5 rfl) (pc' := 12) rfl f_RG_12 H.fr rfl ?_
    refine g_aload_n ok (dk m_RG_isKnown 6 rfl) (pc' := 13) rfl (i := 0) rfl rfl ?_
    refine g_get ok (dk m_RG_isKnown 7 rfl) (pc' := 16) rfl f_RG_29 H.fr rfl ?_
    refine g_iload_n ok (dk m_RG_isKnown 8 rfl) (pc' := 17) rfl (i := 1) rfl rfl ?_
    refine g_callV ok (dk m_RG_isKnown 9 rfl) (pc' := 20) rfl c_RG_112 (c_AL_get g 2 (by omega) H.le hj) hle rfl rfl (by simp [Value.category]) (by omega) rfl (rc' := 0) (rs' := 0) (by omega) (by omega) (fun rv h' hcc => ?_) (fun i h' hcc => by obtain ⟨e9, -⟩ := hcc; cases e9)
    obtain ⟨e9, e2⟩ := hcc
    have e3 := e2.symm
    subst e3
    cases e9
    refine g_castY ok (dk m_RG_isKnown 10 rfl) (pc' := 23) rfl k_RG_50 xc_5 ty_5 (H.ep hj).1 ?_
    refine g_get ok (dk m_RG_isKnown 11 rfl) (pc' := 26) rfl f_RG_61 (H.ep hj).1 rfl ?_
    refine g_callV ok (dk m_RG_isKnown 12 rfl) (pc' := 29) rfl c_RG_257 (c_Sec_isTold g ((gE G j).1 2) 1 (by omega) H.sec) H.sec.1 rfl rfl (by simp [Value.category]) (by omega) rfl (rc' := 0) (rs' := 0) (by omega) (by omega) (fun rv h' hcc => ?_) (fun i h' hcc => by obtain ⟨⟨z, e9, -⟩, -⟩ := hcc; cases e9)
    obtain ⟨⟨z, e9, hz⟩, e2⟩ := hcc
    have e3 := e2.symm
    subst e3
    cases e9
    have hz := z_told hz
    refine g_if_eq ok (dk m_RG_isKnown 13 rfl) (tgt := 36) (by decide) (pc' := 32) rfl (fun c_29 => ?_) (fun c_29 => ?_)
    · refine g_iconst ok (dk m_RG_isKnown 16 rfl) (pc' := 37) rfl (v := 0) (by decide) ?_
      exact g_iret ok (dk m_RG_isKnown 17 rfl) rfl rfl ⟨by rw [b2i_f (p := A_isKnown G (nI j)) (fun y => hz.1 c_29 (by have q := y.2; rw [hx] at q; exact q))], rfl⟩
    · refine g_iconst ok (dk m_RG_isKnown 14 rfl) (pc' := 33) rfl (v := 1) (by decide) ?_
      refine g_goto ok (dk m_RG_isKnown 15 rfl) (pc' := 37) (by decide) ?_
      exact g_iret ok (dk m_RG_isKnown 17 rfl) rfl rfl ⟨by rw [b2i_t (p := A_isKnown G (nI j)) ⟨b2i_n c_5, by rw [hx]; exact hz.2 c_29⟩], rfl⟩
set_option maxHeartbeats 1000000 in
theorem c_RG_isOpen (g : q_G) {h : q_H} {r : Nat} {w : Nat → Nat} {D : a_T} {ob : Nat → Option Nat} {G : G_T} (e n : Int32) (d : Nat) (hd : 3 ≤ d) (H : q_RG g h r w D ob G) (hne : ne G < 2 ^ 31) : MG g y_RG_isOpen b_RG_isOpen 3 (some .boolean) d 0 0 [.ref r, .int e, .int n] h (fun q h' => q = .inl (some (.int (b2i (A_isOpen G e n)))) ∧ h' = h) := by
  obtain ⟨le0, le1, hle⟩ := H.le.size
  refine MG.of (by decide +kernel) (by simp [Value.category]) (Nat.le_of_ble_eq_true rfl) ?_
  intro Z A ok
  refine g_aload_n ok (dk m_RG_isOpen 0 rfl) (pc' := 1) rfl (i := 0) rfl rfl ?_
  refine g_iload_n ok (dk m_RG_isOpen 1 rfl) (pc' := 2) rfl (i := 1) rfl rfl ?_
  refine g_callV ok (dk m_RG_isOpen 2 rfl) (pc' := 5) rfl c_RG_205 (c_RG_isEpoch g (e) 1 (by omega) H) H.fr rfl rfl (by simp [Value.category]) (by omega) rfl (rc' := 0) (rs' := 0) (by omega) (by omega) (fun rv h' hcc => ?_) (fun i h' hcc => by obtain ⟨e9, -⟩ := hcc; cases e9)
  obtain ⟨e9, e2⟩ := hcc
  have e3 := e2.symm
  subst e3
  cases e9
  refine g_if_eq ok (dk m_RG_isOpen 3 rfl) (tgt := 43) (by decide) (pc' := 8) rfl (fun c_5 => ?_) (fun c_5 => ?_)
  · refine g_iconst ok (dk m_RG_isOpen 19 rfl) (pc' := 44) rfl (v := 0) (by decide) ?_
    exact g_iret ok (dk m_RG_isOpen 20 rfl) rfl rfl ⟨by rw [b2i_f (p := A_isOpen G e n) (fun z => b2i_0 c_5 z.1)], rfl⟩
  · obtain ⟨j, hj, rfl⟩ := r_in_of hne (b2i_n c_5)
    have hx : ix (nI j) = j := ix_nI (by omega)
    refine g_aload_n ok (dk m_RG_isOpen 4 rfl) (pc' := 9) rfl (i := 0) rfl rfl ?_
    refine g_get ok (dk m_RG_isOpen 5 rfl) (pc' := 12) rfl f_RG_12 H.fr rfl ?_
    refine g_aload_n ok (dk m_RG_isOpen 6 rfl) (pc' := 13) rfl (i := 0) rfl rfl ?_
    refine g_get ok (dk m_RG_isOpen 7 rfl) (pc' := 16) rfl f_RG_29 H.fr rfl ?_
    refine g_iload_n ok (dk m_RG_isOpen 8 rfl) (pc' := 17) rfl (i := 1) rfl rfl ?_
    refine g_callV ok (dk m_RG_isOpen 9 rfl) (pc' := 20) rfl c_RG_112 (c_AL_get g 2 (by omega) H.le hj) hle rfl rfl (by simp [Value.category]) (by omega) rfl (rc' := 0) (rs' := 0) (by omega) (by omega) (fun rv h' hcc => ?_) (fun i h' hcc => by obtain ⟨e9, -⟩ := hcc; cases e9)
    obtain ⟨e9, e2⟩ := hcc
    have e3 := e2.symm
    subst e3
    cases e9
    refine g_castY ok (dk m_RG_isOpen 10 rfl) (pc' := 23) rfl k_RG_50 xc_5 ty_5 (H.ep hj).1 ?_
    refine g_getR ok (dk m_RG_isOpen 11 rfl) (pc' := 26) rfl f_RG_65 (H.ep hj).1 rfl ?_
    refine g_getR ok (dk m_RG_isOpen 12 rfl) (pc' := 29) rfl f_RG_260 (H.ep hj).2.1.1 rfl ?_
    refine g_iload_n ok (dk m_RG_isOpen 13 rfl) (pc' := 30) rfl (i := 2) rfl rfl ?_
    refine g_callV ok (dk m_RG_isOpen 14 rfl) (pc' := 33) rfl c_RG_193 (c_Row_get g n 0 ((H.ep hj).2.1.2.1 0 (by decide)).1 ((H.ep hj).2.1.2.1 0 (by decide)).2 (tr_len_lt _)) ((H.ep hj).2.1.2.1 0 (by decide)).1 rfl rfl (by simp [Value.category]) (by omega) rfl (rc' := 0) (rs' := 0) (by omega) (by omega) (fun rv h' hcc => ?_) (fun i h' hcc => by obtain ⟨e9, -⟩ := hcc; cases e9)
    obtain ⟨e9, e2⟩ := hcc
    have e3 := e2.symm
    subst e3
    cases e9
    refine g_callV ok (dk m_RG_isOpen 15 rfl) (pc' := 36) rfl c_RG_257 (c_Sec_isTold g (r_get (tr_len 0) ((gE G j).2.1.1 0) n) 1 (by omega) H.sec) H.sec.1 rfl rfl (by simp [Value.category]) (by omega) rfl (rc' := 0) (rs' := 0) (by omega) (by omega) (fun rv h' hcc => ?_) (fun i h' hcc => by obtain ⟨⟨z, e9, -⟩, -⟩ := hcc; cases e9)
    obtain ⟨⟨z, e9, hz⟩, e2⟩ := hcc
    have e3 := e2.symm
    subst e3
    cases e9
    have hz := z_told hz
    refine g_if_eq ok (dk m_RG_isOpen 16 rfl) (tgt := 43) (by decide) (pc' := 39) rfl (fun c_36 => ?_) (fun c_36 => ?_)
    · refine g_iconst ok (dk m_RG_isOpen 19 rfl) (pc' := 44) rfl (v := 0) (by decide) ?_
      exact g_iret ok (dk m_RG_isOpen 20 rfl) rfl rfl ⟨by rw [b2i_f (p := A_isOpen G (nI j) n) (fun y => hz.1 c_36 (by have q := y.2; rw [hx] at q; exact q))], rfl⟩
    · refine g_iconst ok (dk m_RG_isOpen 17 rfl) (pc' := 40) rfl (v := 1) (by decide) ?_
      refine g_goto ok (dk m_RG_isOpen 18 rfl) (pc' := 44) (by decide) ?_
      exact g_iret ok (dk m_RG_isOpen 20 rfl) rfl rfl ⟨by rw [b2i_t (p := A_isOpen G (nI j) n) ⟨b2i_n c_5, by rw [hx]; exact hz.2 c_36⟩], rfl⟩
set_option maxHeartbeats 1000000 in
theorem c_RG_epoch (g : q_G) {h : q_H} {r : Nat} {w : Nat → Nat} {D : a_T} {ob : Nat → Option Nat} {G : G_T} (e wh : Int32) (d : Nat) (hd : 3 ≤ d) (H : q_RG g h r w D ob G) (hne : ne G < 2 ^ 31) : MG g y_RG_epoch b_RG_epoch 4 (some .int) d 0 0 [.ref r, .int e, .int wh] h (fun q h' => q = .inl (some (.int (A_epoch G e wh))) ∧ h' = h) := by
  obtain ⟨le0, le1, hle⟩ := H.le.size
  refine MG.of (by decide +kernel) (by simp [Value.category]) (Nat.le_of_ble_eq_true rfl) ?_
  intro Z A ok
  refine g_aload_n ok (dk m_RG_epoch 0 rfl) (pc' := 1) rfl (i := 0) rfl rfl ?_
  refine g_iload_n ok (dk m_RG_epoch 1 rfl) (pc' := 2) rfl (i := 1) rfl rfl ?_
  refine g_callV ok (dk m_RG_epoch 2 rfl) (pc' := 5) rfl c_RG_205 (c_RG_isEpoch g (e) 1 (by omega) H) H.fr rfl rfl (by simp [Value.category]) (by omega) rfl (rc' := 0) (rs' := 0) (by omega) (by omega) (fun rv h' hcc => ?_) (fun i h' hcc => by obtain ⟨e9, -⟩ := hcc; cases e9)
  obtain ⟨e9, e2⟩ := hcc
  have e3 := e2.symm
  subst e3
  cases e9
  refine g_if_ne ok (dk m_RG_epoch 3 rfl) (tgt := 10) (by decide) (pc' := 8) rfl (fun c_5 => ?_) (fun c_5 => ?_)
  · obtain ⟨j, hj, rfl⟩ := r_in_of hne (b2i_n c_5)
    have hx : ix (nI j) = j := ix_nI (by omega)
    refine g_aload_n ok (dk m_RG_epoch 6 rfl) (pc' := 11) rfl (i := 0) rfl rfl ?_
    refine g_get ok (dk m_RG_epoch 7 rfl) (pc' := 14) rfl f_RG_29 H.fr rfl ?_
    refine g_iload_n ok (dk m_RG_epoch 8 rfl) (pc' := 15) rfl (i := 1) rfl rfl ?_
    refine g_callV ok (dk m_RG_epoch 9 rfl) (pc' := 18) rfl c_RG_112 (c_AL_get g 2 (by omega) H.le hj) hle rfl rfl (by simp [Value.category]) (by omega) rfl (rc' := 0) (rs' := 0) (by omega) (by omega) (fun rv h' hcc => ?_) (fun i h' hcc => by obtain ⟨e9, -⟩ := hcc; cases e9)
    obtain ⟨e9, e2⟩ := hcc
    have e3 := e2.symm
    subst e3
    cases e9
    refine g_castY ok (dk m_RG_epoch 10 rfl) (pc' := 21) rfl k_RG_50 xc_5 ty_5 (H.ep hj).1 ?_
    refine g_astore_n ok (dk m_RG_epoch 11 rfl) (pc' := 22) rfl (i := 3) rfl (Nat.le_of_ble_eq_true rfl) rfl ?_
    refine g_iload_n ok (dk m_RG_epoch 12 rfl) (pc' := 23) rfl (i := 2) rfl rfl ?_
    by_cases s_0 : wh = 0
    · subst s_0
      refine g_tableIn ok (dk m_RG_epoch 13 rfl) (by decide) (by decide) (off := 41) rfl (tgt := 64) (by decide) ?_
      refine g_aload_n ok (dk m_RG_epoch 14 rfl) (pc' := 65) rfl (i := 3) rfl rfl ?_
      refine g_getR ok (dk m_RG_epoch 15 rfl) (pc' := 68) rfl f_RG_65 (H.ep hj).1 rfl ?_
      refine g_get ok (dk m_RG_epoch 16 rfl) (pc' := 71) rfl f_RG_236 (H.ep hj).2.1.1 rfl ?_
      exact g_iret ok (dk m_RG_epoch 17 rfl) rfl rfl ⟨by rw [A_epoch, if_pos (b2i_n c_5), hx]; rfl, rfl⟩
    by_cases s_1 : wh = 1
    · subst s_1
      refine g_tableIn ok (dk m_RG_epoch 13 rfl) (by decide) (by decide) (off := 49) rfl (tgt := 72) (by decide) ?_
      refine g_aload_n ok (dk m_RG_epoch 18 rfl) (pc' := 73) rfl (i := 3) rfl rfl ?_
      refine g_getR ok (dk m_RG_epoch 19 rfl) (pc' := 76) rfl f_RG_239 (H.ep hj).1 rfl ?_
      exact g_iret ok (dk m_RG_epoch 20 rfl) rfl rfl ⟨by rw [A_epoch, if_pos (b2i_n c_5), hx]; rfl, rfl⟩
    by_cases s_2 : wh = 2
    · subst s_2
      refine g_tableIn ok (dk m_RG_epoch 13 rfl) (by decide) (by decide) (off := 54) rfl (tgt := 77) (by decide) ?_
      refine g_aload_n ok (dk m_RG_epoch 21 rfl) (pc' := 78) rfl (i := 3) rfl rfl ?_
      refine g_get ok (dk m_RG_epoch 22 rfl) (pc' := 81) rfl f_RG_242 (H.ep hj).1 rfl ?_
      exact g_iret ok (dk m_RG_epoch 23 rfl) rfl rfl ⟨by rw [A_epoch, if_pos (b2i_n c_5), hx]; rfl, rfl⟩
    by_cases s_3 : wh = 3
    · subst s_3
      refine g_tableIn ok (dk m_RG_epoch 13 rfl) (by decide) (by decide) (off := 59) rfl (tgt := 82) (by decide) ?_
      refine g_aload_n ok (dk m_RG_epoch 24 rfl) (pc' := 83) rfl (i := 3) rfl rfl ?_
      refine g_get ok (dk m_RG_epoch 25 rfl) (pc' := 86) rfl f_RG_245 (H.ep hj).1 rfl ?_
      exact g_iret ok (dk m_RG_epoch 26 rfl) rfl rfl ⟨by rw [A_epoch, if_pos (b2i_n c_5), hx]; rfl, rfl⟩
    by_cases s_4 : wh = 4
    · subst s_4
      refine g_tableIn ok (dk m_RG_epoch 13 rfl) (by decide) (by decide) (off := 64) rfl (tgt := 87) (by decide) ?_
      refine g_aload_n ok (dk m_RG_epoch 27 rfl) (pc' := 88) rfl (i := 3) rfl rfl ?_
      refine g_get ok (dk m_RG_epoch 28 rfl) (pc' := 91) rfl f_RG_248 (H.ep hj).1 rfl ?_
      exact g_iret ok (dk m_RG_epoch 29 rfl) rfl rfl ⟨by rw [A_epoch, if_pos (b2i_n c_5), hx]; rfl, rfl⟩
    by_cases s_5 : wh = 5
    · subst s_5
      refine g_tableIn ok (dk m_RG_epoch 13 rfl) (by decide) (by decide) (off := 69) rfl (tgt := 92) (by decide) ?_
      refine g_aload_n ok (dk m_RG_epoch 30 rfl) (pc' := 93) rfl (i := 3) rfl rfl ?_
      refine g_get ok (dk m_RG_epoch 31 rfl) (pc' := 96) rfl f_RG_251 (H.ep hj).1 rfl ?_
      exact g_iret ok (dk m_RG_epoch 32 rfl) rfl rfl ⟨by rw [A_epoch, if_pos (b2i_n c_5), hx]; rfl, rfl⟩
    by_cases s_6 : wh = 6
    · subst s_6
      refine g_tableIn ok (dk m_RG_epoch 13 rfl) (by decide) (by decide) (off := 74) rfl (tgt := 97) (by decide) ?_
      refine g_aload_n ok (dk m_RG_epoch 33 rfl) (pc' := 98) rfl (i := 3) rfl rfl ?_
      refine g_get ok (dk m_RG_epoch 34 rfl) (pc' := 101) rfl f_RG_254 (H.ep hj).1 rfl ?_
      exact g_iret ok (dk m_RG_epoch 35 rfl) rfl rfl ⟨by rw [A_epoch, if_pos (b2i_n c_5), hx]; rfl, rfl⟩
    refine g_tableOut ok (dk m_RG_epoch 13 rfl) (sw_out7 s_0 s_1 s_2 s_3 s_4 s_5 s_6) (tgt := 102) (by decide) ?_
    refine g_iconst ok (dk m_RG_epoch 36 rfl) (pc' := 103) rfl (v := (-1)) (by decide) ?_
    exact g_iret ok (dk m_RG_epoch 37 rfl) rfl rfl ⟨by rw [A_epoch, if_pos (b2i_n c_5), if_neg s_0, if_neg s_1, if_neg s_2, if_neg s_3, if_neg s_4, if_neg s_5, if_neg s_6], rfl⟩
  · refine g_iconst ok (dk m_RG_epoch 4 rfl) (pc' := 9) rfl (v := (-1)) (by decide) ?_
    exact g_iret ok (dk m_RG_epoch 5 rfl) rfl rfl ⟨by rw [A_epoch, if_neg (b2i_0 c_5)], rfl⟩
set_option maxHeartbeats 1000000 in
theorem c_RG_node (g : q_G) {h : q_H} {r : Nat} {w : Nat → Nat} {D : a_T} {ob : Nat → Option Nat} {G : G_T} (e n wh : Int32) (d : Nat) (hd : 7 ≤ d) (H : q_RG g h r w D ob G) (hne : ne G < 2 ^ 31) : MG g y_RG_node b_RG_node 5 (some .int) d 0 0 [.ref r, .int e, .int n, .int wh] h (fun q h' => q = .inl (some (.int (A_node G e n wh))) ∧ h' = h) := by
  obtain ⟨le0, le1, hle⟩ := H.le.size
  refine MG.of (by decide +kernel) (by simp [Value.category]) (Nat.le_of_ble_eq_true rfl) ?_
  intro Z A ok
  refine g_aload_n ok (dk m_RG_node 0 rfl) (pc' := 1) rfl (i := 0) rfl rfl ?_
  refine g_iload_n ok (dk m_RG_node 1 rfl) (pc' := 2) rfl (i := 1) rfl rfl ?_
  refine g_callV ok (dk m_RG_node 2 rfl) (pc' := 5) rfl c_RG_205 (c_RG_isEpoch g (e) 1 (by omega) H) H.fr rfl rfl (by simp [Value.category]) (by omega) rfl (rc' := 0) (rs' := 0) (by omega) (by omega) (fun rv h' hcc => ?_) (fun i h' hcc => by obtain ⟨e9, -⟩ := hcc; cases e9)
  obtain ⟨e9, e2⟩ := hcc
  have e3 := e2.symm
  subst e3
  cases e9
  refine g_if_ne ok (dk m_RG_node 3 rfl) (tgt := 10) (by decide) (pc' := 8) rfl (fun c_5 => ?_) (fun c_5 => ?_)
  · obtain ⟨j, hj, rfl⟩ := r_in_of hne (b2i_n c_5)
    have hx : ix (nI j) = j := ix_nI (by omega)
    refine g_aload_n ok (dk m_RG_node 6 rfl) (pc' := 11) rfl (i := 0) rfl rfl ?_
    refine g_get ok (dk m_RG_node 7 rfl) (pc' := 14) rfl f_RG_29 H.fr rfl ?_
    refine g_iload_n ok (dk m_RG_node 8 rfl) (pc' := 15) rfl (i := 1) rfl rfl ?_
    refine g_callV ok (dk m_RG_node 9 rfl) (pc' := 18) rfl c_RG_112 (c_AL_get g 2 (by omega) H.le hj) hle rfl rfl (by simp [Value.category]) (by omega) rfl (rc' := 0) (rs' := 0) (by omega) (by omega) (fun rv h' hcc => ?_) (fun i h' hcc => by obtain ⟨e9, -⟩ := hcc; cases e9)
    obtain ⟨e9, e2⟩ := hcc
    have e3 := e2.symm
    subst e3
    cases e9
    refine g_castY ok (dk m_RG_node 10 rfl) (pc' := 21) rfl k_RG_50 xc_5 ty_5 (H.ep hj).1 ?_
    refine g_getR ok (dk m_RG_node 11 rfl) (pc' := 24) rfl f_RG_65 (H.ep hj).1 rfl ?_
    refine g_astore ok (dk m_RG_node 12 rfl) (pc' := 26) rfl (Nat.le_of_ble_eq_true rfl) rfl ?_
    refine g_aload ok (dk m_RG_node 13 rfl) (pc' := 28) rfl rfl ?_
    refine g_iload_n ok (dk m_RG_node 14 rfl) (pc' := 29) rfl (i := 2) rfl rfl ?_
    refine g_callV ok (dk m_RG_node 15 rfl) (pc' := 32) rfl c_RG_216 (c_Tr_isThere g n 0 (H.ep hj).2.1) (H.ep hj).2.1.1 rfl rfl (by simp [Value.category]) (by omega) rfl (rc' := 0) (rs' := 0) (by omega) (by omega) (fun rv h' hcc => ?_) (fun i h' hcc => by obtain ⟨e9, -⟩ := hcc; cases e9)
    obtain ⟨e9, e2⟩ := hcc
    have e3 := e2.symm
    subst e3
    cases e9
    refine g_if_ne ok (dk m_RG_node 16 rfl) (tgt := 37) (by decide) (pc' := 35) rfl (fun c_32 => ?_) (fun c_32 => ?_)
    · refine g_iload_n ok (dk m_RG_node 19 rfl) (pc' := 38) rfl (i := 3) rfl rfl ?_
      by_cases s_0 : wh = 0
      · subst s_0
        refine g_tableIn ok (dk m_RG_node 20 rfl) (by decide) (by decide) (off := 30) rfl (tgt := 68) (by decide) ?_
        refine g_aload ok (dk m_RG_node 21 rfl) (pc' := 70) rfl rfl ?_
        refine g_iload_n ok (dk m_RG_node 22 rfl) (pc' := 71) rfl (i := 2) rfl rfl ?_
        refine g_callV ok (dk m_RG_node 23 rfl) (pc' := 74) rfl c_RG_219 (c_Tr_isBlank g n 1 (by omega) (H.ep hj).2.1) (H.ep hj).2.1.1 rfl rfl (by simp [Value.category]) (by omega) rfl (rc' := 0) (rs' := 0) (by omega) (by omega) (fun rv h' hcc => ?_) (fun i h' hcc => by obtain ⟨e9, -⟩ := hcc; cases e9)
        obtain ⟨e9, e2⟩ := hcc
        have e3 := e2.symm
        subst e3
        cases e9
        refine g_if_eq ok (dk m_RG_node 24 rfl) (tgt := 81) (by decide) (pc' := 77) rfl (fun c_74 => ?_) (fun c_74 => ?_)
        · refine g_iconst ok (dk m_RG_node 27 rfl) (pc' := 82) rfl (v := 1) (by decide) ?_
          exact g_iret ok (dk m_RG_node 28 rfl) rfl rfl ⟨by rw [A_node, if_pos (b2i_n c_5), hx, if_pos (b2i_n c_32), if_pos rfl, if_neg (b2i_0 c_74)], rfl⟩
        · refine g_iconst ok (dk m_RG_node 25 rfl) (pc' := 78) rfl (v := 0) (by decide) ?_
          refine g_goto ok (dk m_RG_node 26 rfl) (pc' := 82) (by decide) ?_
          exact g_iret ok (dk m_RG_node 28 rfl) rfl rfl ⟨by rw [A_node, if_pos (b2i_n c_5), hx, if_pos (b2i_n c_32), if_pos rfl, if_pos (b2i_n c_74)], rfl⟩
      by_cases s_1 : wh = 1
      · subst s_1
        refine g_tableIn ok (dk m_RG_node 20 rfl) (by decide) (by decide) (off := 45) rfl (tgt := 83) (by decide) ?_
        refine g_aload ok (dk m_RG_node 29 rfl) (pc' := 85) rfl rfl ?_
        refine g_getR ok (dk m_RG_node 30 rfl) (pc' := 88) rfl f_RG_222 (H.ep hj).2.1.1 rfl ?_
        refine g_iload_n ok (dk m_RG_node 31 rfl) (pc' := 89) rfl (i := 2) rfl rfl ?_
        refine g_callV ok (dk m_RG_node 32 rfl) (pc' := 92) rfl c_RG_193 (c_Row_get g n 0 ((H.ep hj).2.1.2.1 1 (by decide)).1 ((H.ep hj).2.1.2.1 1 (by decide)).2 (tr_len_lt _)) ((H.ep hj).2.1.2.1 1 (by decide)).1 rfl rfl (by simp [Value.category]) (by omega) rfl (rc' := 0) (rs' := 0) (by omega) (by omega) (fun rv h' hcc => ?_) (fun i h' hcc => by obtain ⟨e9, -⟩ := hcc; cases e9)
        obtain ⟨e9, e2⟩ := hcc
        have e3 := e2.symm
        subst e3
        cases e9
        exact g_iret ok (dk m_RG_node 33 rfl) rfl rfl ⟨by rw [A_node, if_pos (b2i_n c_5), hx, if_pos (b2i_n c_32)]; rfl, rfl⟩
      by_cases s_2 : wh = 2
      · subst s_2
        refine g_tableIn ok (dk m_RG_node 20 rfl) (by decide) (by decide) (off := 55) rfl (tgt := 93) (by decide) ?_
        refine g_aload ok (dk m_RG_node 34 rfl) (pc' := 95) rfl rfl ?_
        refine g_getR ok (dk m_RG_node 35 rfl) (pc' := 98) rfl f_RG_225 (H.ep hj).2.1.1 rfl ?_
        refine g_iload_n ok (dk m_RG_node 36 rfl) (pc' := 99) rfl (i := 2) rfl rfl ?_
        refine g_callV ok (dk m_RG_node 37 rfl) (pc' := 102) rfl c_RG_193 (c_Row_get g n 0 ((H.ep hj).2.1.2.1 2 (by decide)).1 ((H.ep hj).2.1.2.1 2 (by decide)).2 (tr_len_lt _)) ((H.ep hj).2.1.2.1 2 (by decide)).1 rfl rfl (by simp [Value.category]) (by omega) rfl (rc' := 0) (rs' := 0) (by omega) (by omega) (fun rv h' hcc => ?_) (fun i h' hcc => by obtain ⟨e9, -⟩ := hcc; cases e9)
        obtain ⟨e9, e2⟩ := hcc
        have e3 := e2.symm
        subst e3
        cases e9
        exact g_iret ok (dk m_RG_node 38 rfl) rfl rfl ⟨by rw [A_node, if_pos (b2i_n c_5), hx, if_pos (b2i_n c_32)]; rfl, rfl⟩
      by_cases s_3 : wh = 3
      · subst s_3
        refine g_tableIn ok (dk m_RG_node 20 rfl) (by decide) (by decide) (off := 65) rfl (tgt := 103) (by decide) ?_
        refine g_aload ok (dk m_RG_node 39 rfl) (pc' := 105) rfl rfl ?_
        refine g_iload_n ok (dk m_RG_node 40 rfl) (pc' := 106) rfl (i := 2) rfl rfl ?_
        refine g_callV ok (dk m_RG_node 41 rfl) (pc' := 109) rfl c_RG_228 (c_Tr_resolution g n 6 (by omega) (H.ep hj).2.1) (H.ep hj).2.1.1 rfl rfl (by simp [Value.category]) (by omega) rfl (rc' := 0) (rs' := 0) (by omega) (by omega) (fun rv h' hcc => ?_) (fun i h' hcc => by obtain ⟨e9, -⟩ := hcc; cases e9)
        obtain ⟨e9, e2⟩ := hcc
        have e3 := e2.symm
        subst e3
        cases e9
        refine g_callS ok (dk m_RG_node 42 rfl) (pc' := 112) rfl c_RG_231 (c_Int_bitCount g (T_reso (gE G j).2.1 n) 0) rfl rfl (by simp [Value.category]) (by omega) rfl (rc' := 0) (rs' := 0) (by omega) (by omega) (fun rv h' hcc => ?_) (fun i h' hcc => by obtain ⟨e9, -⟩ := hcc; cases e9)
        obtain ⟨e9, e2⟩ := hcc
        have e3 := e2.symm
        subst e3
        cases e9
        exact g_iret ok (dk m_RG_node 43 rfl) rfl rfl ⟨by rw [A_node, if_pos (b2i_n c_5), hx, if_pos (b2i_n c_32)]; rfl, rfl⟩
      refine g_tableOut ok (dk m_RG_node 20 rfl) (sw_out4 s_0 s_1 s_2 s_3) (tgt := 113) (by decide) ?_
      refine g_iconst ok (dk m_RG_node 44 rfl) (pc' := 114) rfl (v := (-1)) (by decide) ?_
      exact g_iret ok (dk m_RG_node 45 rfl) rfl rfl ⟨by rw [A_node, if_pos (b2i_n c_5), hx, if_pos (b2i_n c_32), if_neg s_0, if_neg s_1, if_neg s_2, if_neg s_3], rfl⟩
    · refine g_iconst ok (dk m_RG_node 17 rfl) (pc' := 36) rfl (v := (-1)) (by decide) ?_
      exact g_iret ok (dk m_RG_node 18 rfl) rfl rfl ⟨by rw [A_node, if_pos (b2i_n c_5), hx, if_neg (b2i_0 c_32)], rfl⟩
  · refine g_iconst ok (dk m_RG_node 4 rfl) (pc' := 9) rfl (v := (-1)) (by decide) ?_
    exact g_iret ok (dk m_RG_node 5 rfl) rfl rfl ⟨by rw [A_node, if_neg (b2i_0 c_5)], rfl⟩
set_option maxHeartbeats 1000000 in
theorem c_RG_known (g : q_G) {h : q_H} {r : Nat} {w : Nat → Nat} {D : a_T} {ob : Nat → Option Nat} {G : G_T} (d : Nat) (hd : 3 ≤ d) (H : q_RG g h r w D ob G) (hne : ne G < 2 ^ 31) : MG g y_RG_known b_RG_known 3 (some .int) d 0 0 [.ref r] h (fun q h' => q = .inl (some (.int (nI (A_kn G (ne G) 0 0)))) ∧ h' = h) := by
  obtain ⟨le0, le1, hle⟩ := H.le.size
  refine MG.of (by decide +kernel) (by simp [Value.category]) (Nat.le_of_ble_eq_true rfl) ?_
  intro Z A ok
  have loop : ∀ (m k : Nat), k + m = ne G → ∀ c : Nat, A_kn G m k c = A_kn G (ne G) 0 0 → GW g Z A (fun q h' => q = .inl (some (.int (nI (A_kn G (ne G) 0 0)))) ∧ h' = h) 0 0 h 4 [some (.ref r), some (.int (nI c)), some (.int (nI k))] [] := by
    intro m
    induction m with
    | zero =>
      intro k hk c hv
      refine g_iload_n ok (dk m_RG_known 4 rfl) (pc' := 5) rfl (i := 2) rfl rfl ?_
      refine g_aload_n ok (dk m_RG_known 5 rfl) (pc' := 6) rfl (i := 0) rfl rfl ?_
      refine g_get ok (dk m_RG_known 6 rfl) (pc' := 9) rfl f_RG_29 H.fr rfl ?_
      refine g_callV ok (dk m_RG_known 7 rfl) (pc' := 12) rfl c_RG_86 (c_AL_size g 0 hle) hle rfl rfl (by simp [Value.category]) (by omega) rfl (rc' := 0) (rs' := 0) (by omega) (by omega) (fun rv h' hcc => ?_) (fun i h' hcc => by obtain ⟨e9, -⟩ := hcc; cases e9)
      obtain ⟨e9, e2⟩ := hcc
      have e3 := e2.symm
      subst e3
      cases e9
      refine g_icmp_ge ok (dk m_RG_known 8 rfl) (tgt := 48) (by decide) (pc' := 15) rfl (fun c_12 => ?_) (fun c_12 => absurd (show nI (ne G) ≤ nI k from by rw [show k = ne G by omega]; exact Int32.le_refl _) c_12)
      refine g_iload_n ok (dk m_RG_known 22 rfl) (pc' := 49) rfl (i := 1) rfl rfl ?_
      exact g_iret ok (dk m_RG_known 23 rfl) rfl rfl ⟨by rw [← hv]; rfl, rfl⟩
    | succ m ih =>
      intro k hk c hv
      refine g_iload_n ok (dk m_RG_known 4 rfl) (pc' := 5) rfl (i := 2) rfl rfl ?_
      refine g_aload_n ok (dk m_RG_known 5 rfl) (pc' := 6) rfl (i := 0) rfl rfl ?_
      refine g_get ok (dk m_RG_known 6 rfl) (pc' := 9) rfl f_RG_29 H.fr rfl ?_
      refine g_callV ok (dk m_RG_known 7 rfl) (pc' := 12) rfl c_RG_86 (c_AL_size g 0 hle) hle rfl rfl (by simp [Value.category]) (by omega) rfl (rc' := 0) (rs' := 0) (by omega) (by omega) (fun rv h' hcc => ?_) (fun i h' hcc => by obtain ⟨e9, -⟩ := hcc; cases e9)
      obtain ⟨e9, e2⟩ := hcc
      have e3 := e2.symm
      subst e3
      cases e9
      refine g_icmp_ge ok (dk m_RG_known 8 rfl) (tgt := 48) (by decide) (pc' := 15) rfl (fun c_12 => absurd c_12 (nI_ge (show k < ne G by omega) hne)) (fun c_12 => ?_)
      refine g_aload_n ok (dk m_RG_known 9 rfl) (pc' := 16) rfl (i := 0) rfl rfl ?_
      refine g_get ok (dk m_RG_known 10 rfl) (pc' := 19) rfl f_RG_12 H.fr rfl ?_
      refine g_aload_n ok (dk m_RG_known 11 rfl) (pc' := 20) rfl (i := 0) rfl rfl ?_
      refine g_get ok (dk m_RG_known 12 rfl) (pc' := 23) rfl f_RG_29 H.fr rfl ?_
      refine g_iload_n ok (dk m_RG_known 13 rfl) (pc' := 24) rfl (i := 2) rfl rfl ?_
      refine g_callV ok (dk m_RG_known 14 rfl) (pc' := 27) rfl c_RG_112 (c_AL_get g 2 (by omega) H.le (show k < ne G by omega)) hle rfl rfl (by simp [Value.category]) (by omega) rfl (rc' := 0) (rs' := 0) (by omega) (by omega) (fun rv h' hcc => ?_) (fun i h' hcc => by obtain ⟨e9, -⟩ := hcc; cases e9)
      obtain ⟨e9, e2⟩ := hcc
      have e3 := e2.symm
      subst e3
      cases e9
      refine g_castY ok (dk m_RG_known 15 rfl) (pc' := 30) rfl k_RG_50 xc_5 ty_5 (H.ep (show k < ne G by omega)).1 ?_
      refine g_get ok (dk m_RG_known 16 rfl) (pc' := 33) rfl f_RG_61 (H.ep (show k < ne G by omega)).1 rfl ?_
      refine g_callV ok (dk m_RG_known 17 rfl) (pc' := 36) rfl c_RG_257 (c_Sec_isTold g ((gE G k).1 2) 1 (by omega) H.sec) H.sec.1 rfl rfl (by simp [Value.category]) (by omega) rfl (rc' := 0) (rs' := 0) (by omega) (by omega) (fun rv h' hcc => ?_) (fun i h' hcc => by obtain ⟨⟨z, e9, -⟩, -⟩ := hcc; cases e9)
      obtain ⟨⟨z, e9, hz⟩, e2⟩ := hcc
      have e3 := e2.symm
      subst e3
      cases e9
      have hz := z_told hz
      refine g_if_eq ok (dk m_RG_known 18 rfl) (tgt := 42) (by decide) (pc' := 39) rfl (fun c_36 => ?_) (fun c_36 => ?_)
      · refine g_iinc ok (dk m_RG_known 20 rfl) (pc' := 45) rfl rfl (nI_1 k) rfl ?_
        refine g_goto ok (dk m_RG_known 21 rfl) (pc' := 4) (by decide) ?_
        exact ih (k + 1) (by omega) _ (by rw [← hv, A_kn, if_neg (hz.1 c_36)])
      · refine g_iinc ok (dk m_RG_known 19 rfl) (pc' := 42) rfl rfl (nI_1 c) rfl ?_
        refine g_iinc ok (dk m_RG_known 20 rfl) (pc' := 45) rfl rfl (nI_1 k) rfl ?_
        refine g_goto ok (dk m_RG_known 21 rfl) (pc' := 4) (by decide) ?_
        exact ih (k + 1) (by omega) _ (by rw [← hv, A_kn, if_pos (hz.2 c_36)])
  refine g_iconst ok (dk m_RG_known 0 rfl) (pc' := 1) rfl (v := 0) (by decide) ?_
  refine g_istore_n ok (dk m_RG_known 1 rfl) (pc' := 2) rfl (i := 1) rfl (Nat.le_of_ble_eq_true rfl) rfl ?_
  refine g_iconst ok (dk m_RG_known 2 rfl) (pc' := 3) rfl (v := 0) (by decide) ?_
  refine g_istore_n ok (dk m_RG_known 3 rfl) (pc' := 4) rfl (i := 2) rfl (Nat.le_of_ble_eq_true rfl) rfl ?_
  exact loop (ne G) 0 (by omega) 0 rfl
