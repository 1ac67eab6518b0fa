/-! ===== the reference: member, holds, compromise ===== -/
theorem gt_3_len (X : x_T) (mm : Nat) : ∀ (m k : Nat) (L : List Int32), (gt_3 X mm m k L).length ≤ L.length + m := by
  intro m
  induction m with
  | zero => intro k L; exact Nat.le_refl _
  | succ m ih =>
    intro k L
    refine Nat.le_trans (ih _ _) ?_
    split
    · omega
    · have := ins_len L (X.2 33 (31 * mm + k))
      omega
theorem gt_4_len (X : x_T) (mm : Nat) : ∀ (m k : Nat) (L : List Int32), (gt_4 X mm m k L).length ≤ L.length + m := by
  intro m
  induction m with
  | zero => intro k L; exact Nat.le_refl _
  | succ m ih =>
    intro k L
    refine Nat.le_trans (ih _ _) ?_
    have := ins_len L (X.2 34 (20 * mm + k))
    omega
theorem gt_5_len (X : x_T) (mm : Nat) : ∀ (m k : Nat) (L : List Int32), (gt_5 X mm m k L).length ≤ L.length + 2 * m := by
  intro m
  induction m with
  | zero => intro k L; exact Nat.le_refl _
  | succ m ih =>
    intro k L
    refine Nat.le_trans (ih _ _) ?_
    split
    · have := ins_len L (X.2 37 k)
      have := ins_len (ins L (X.2 37 k)) (X.2 38 k)
      omega
    · omega
theorem gat_len {X : x_T} {mm p u : Nat} (hp : X.1 35 = nI p) (hp2 : p ≤ 60) (hu : X.2 31 mm = nI u) (hu2 : u ≤ 20) : (gat X mm).length ≤ 173 := by
  rw [gat, hp, hu, ix_nI (by omega), ix_nI (by omega)]
  have h5 := gt_5_len X mm p 0 (gt_4 X mm u 0 (gt_3 X mm 31 0 (gt_2 X mm (gt_1 X mm))))
  have h4 := gt_4_len X mm u 0 (gt_3 X mm 31 0 (gt_2 X mm (gt_1 X mm)))
  have h3 := gt_3_len X mm 31 0 (gt_2 X mm (gt_1 X mm))
  have h2 : (gt_2 X mm (gt_1 X mm)).length ≤ (gt_1 X mm).length + 1 := by
    unfold gt_2
    split
    · omega
    · exact ins_len _ _
  have h1 : (gt_1 X mm).length ≤ 1 := by
    unfold gt_1
    split
    · exact Nat.zero_le _
    · exact ins_len [] _
  omega
theorem gt_3_cg {X Y : x_T} {mm : Nat} (h33 : Y.2 33 = X.2 33) : ∀ (m k : Nat) (L : List Int32), gt_3 Y mm m k L = gt_3 X mm m k L := by
  intro m
  induction m with
  | zero => intro k L; rfl
  | succ m ih =>
    intro k L
    rw [gt_3, gt_3, ih, h33]
theorem gt_4_cg {X Y : x_T} {mm : Nat} (h34 : Y.2 34 = X.2 34) : ∀ (m k : Nat) (L : List Int32), gt_4 Y mm m k L = gt_4 X mm m k L := by
  intro m
  induction m with
  | zero => intro k L; rfl
  | succ m ih =>
    intro k L
    rw [gt_4, gt_4, ih, h34]
theorem gt_5_cg {X Y : x_T} {mm : Nat} (h36 : Y.2 36 = X.2 36) (h37 : Y.2 37 = X.2 37) (h38 : Y.2 38 = X.2 38) (h41 : Y.2 41 = X.2 41) : ∀ (m k : Nat) (L : List Int32), gt_5 Y mm m k L = gt_5 X mm m k L := by
  intro m
  induction m with
  | zero => intro k L; rfl
  | succ m ih =>
    intro k L
    rw [gt_5, gt_5, ih, h36, h37, h38, h41]
theorem gat_cg {K : List Nat} {X Y : x_T} (f : xfr K X Y) (hK : ∀ k, k ∈ K → k < 14 ∨ 42 ≤ k) (h35 : Y.1 35 = X.1 35) (mm : Nat) : gat Y mm = gat X mm := by
  have e : ∀ k, 14 ≤ k → k < 42 → Y.2 k = X.2 k := fun k h1 h2 => (f k (fun z => by have := hK k z; omega)).2
  rw [gat, gat, h35, e 31 (by decide) (by decide), gt_5_cg (e 36 (by decide) (by decide)) (e 37 (by decide) (by decide)) (e 38 (by decide) (by decide)) (e 41 (by decide) (by decide)), gt_4_cg (e 34 (by decide) (by decide)), gt_3_cg (e 33 (by decide) (by decide)), gt_2, gt_2, gt_1, gt_1, e 29 (by decide) (by decide), e 32 (by decide) (by decide), e 14 (by decide) (by decide), e 27 (by decide) (by decide)]
noncomputable def B_member (X : x_T) (m wh : Int32) : Int32 := by
  classical exact if r_in 16 m then (if wh = 0 then X.2 27 (ix m) else if wh = 1 then X.2 28 (ix m) else if wh = 2 then nI (gat X (ix m)).length else if wh = 3 then X.2 30 (ix m) else -1) else -1
def B_holds (X : x_T) (m n : Int32) : Prop := r_in 16 m ∧ ¬ X.2 27 (ix m) = -1 ∧ r_in (2 ^ (ix (X.2 13 (ix (X.2 27 (ix m)))) + 1) - 1) n ∧ ¬ X.2 22 (31 * ix (X.2 27 (ix m)) + ix n) = -1 ∧ X.2 22 (31 * ix (X.2 27 (ix m)) + ix n) ∈ gat X (ix m)
set_option maxHeartbeats 1000000 in
theorem c_Mo_member (g : q_G) {h : q_H} {o : Nat} {ba : Nat → Nat} {X : x_T} {p : Nat} (m wh : Int32) (d : Nat) (hd : 2 ≤ d) (hp : X.1 35 = nI p) (hp2 : p ≤ 60) (hU : ∀ j, j < 16 → ∃ u, u ≤ 20 ∧ X.2 31 j = nI u) (hA : ∀ j, j < 16 → ¬ X.2 32 j = 0 → ∃ a, a < 60 ∧ X.2 27 j = nI a) (H : q_mo h o ba X) : MG g y_Mo_member b_Mo_member 3 (some .int) d 0 0 [.ref o, .int m, .int wh] h (fun q h' => q = .inl (some (.int (B_member X m wh))) ∧ ∃ X', q_mo h' o ba X' ∧ xfr [0, 46, 47] X X' ∧ X'.1 0 = 0) := by
  refine MG.of (by decide +kernel) (by simp [Value.category]) (Nat.le_of_ble_eq_true rfl) ?_
  intro Z A ok
  refine g_aload_n ok (dk m_Mo_member 0 rfl) (pc' := 1) rfl (i := 0) rfl rfl ?_
  refine g_iconst ok (dk m_Mo_member 1 rfl) (pc' := 2) rfl (v := 0) (by decide) ?_
  refine g_put ok (dk m_Mo_member 2 rfl) (pc' := 5) rfl f_Mo_155 (Or.inl rfl) H.1 (Nat.le_of_ble_eq_true rfl) rfl rfl ?_
  refine g_gen (fun z1 e1 => ?_)
  have Y1 := H.ipt 0 (by decide) e1
  clear e1
  refine g_iload_n ok (dk m_Mo_member 3 rfl) (pc' := 6) rfl (i := 1) rfl rfl ?_
  refine g_bipush ok (dk m_Mo_member 4 rfl) (pc' := 8) rfl (v := 16) (by decide) ?_
  refine g_callS ok (dk m_Mo_member 5 rfl) (pc' := 11) rfl c_Mo_264 (c_Mo_in g m 16 0) rfl rfl (by simp [Value.category]) (by omega) rfl (rc' := 0) (rs' := 0) (by omega) (by omega) (fun rv h' hcc => ?_) (fun i h' hcc => by obtain ⟨e9, -⟩ := hcc; cases e9)
  obtain ⟨e9, e2⟩ := hcc
  have e3 := e2.symm
  subst e3
  cases e9
  refine g_if_ne ok (dk m_Mo_member 6 rfl) (tgt := 16) (by decide) (pc' := 14) rfl (fun c_11 => ?_) (fun c_11 => ?_)
  · obtain ⟨j, hj, rfl⟩ := r_in_of (by decide) (b2i_n c_11)
    have hx : ix (nI j) = j := ix_nI (by omega)
    obtain ⟨u, hu2, hu⟩ := hU j hj
    refine g_iload_n ok (dk m_Mo_member 9 rfl) (pc' := 17) rfl (i := 2) rfl rfl ?_
    refine g_iconst ok (dk m_Mo_member 10 rfl) (pc' := 18) rfl (v := 2) (by decide) ?_
    refine g_icmp_ne ok (dk m_Mo_member 11 rfl) (tgt := 26) (by decide) (pc' := 21) rfl (fun c_18 => ?_) (fun c_18 => ?_)
    · refine g_iload_n ok (dk m_Mo_member 15 rfl) (pc' := 27) rfl (i := 2) rfl rfl ?_
      refine g_if_ne ok (dk m_Mo_member 16 rfl) (tgt := 39) (by decide) (pc' := 30) rfl (fun c_27 => ?_) (fun c_27 => ?_)
      · refine g_iload_n ok (dk m_Mo_member 22 rfl) (pc' := 40) rfl (i := 2) rfl rfl ?_
        refine g_iconst ok (dk m_Mo_member 23 rfl) (pc' := 41) rfl (v := 1) (by decide) ?_
        refine g_icmp_ne ok (dk m_Mo_member 24 rfl) (tgt := 53) (by decide) (pc' := 44) rfl (fun c_41 => ?_) (fun c_41 => ?_)
        · refine g_iload_n ok (dk m_Mo_member 30 rfl) (pc' := 54) rfl (i := 2) rfl rfl ?_
          refine g_iconst ok (dk m_Mo_member 31 rfl) (pc' := 55) rfl (v := 2) (by decide) ?_
          refine g_icmp_ne ok (dk m_Mo_member 32 rfl) (tgt := 65) (by decide) (pc' := 58) rfl (fun c_55 => ?_) (fun c_55 => absurd c_55 c_18)
          refine g_iload_n ok (dk m_Mo_member 36 rfl) (pc' := 66) rfl (i := 2) rfl rfl ?_
          refine g_iconst ok (dk m_Mo_member 37 rfl) (pc' := 67) rfl (v := 3) (by decide) ?_
          refine g_icmp_ne ok (dk m_Mo_member 38 rfl) (tgt := 79) (by decide) (pc' := 70) rfl (fun c_67 => ?_) (fun c_67 => ?_)
          · refine g_iconst ok (dk m_Mo_member 44 rfl) (pc' := 80) rfl (v := (-1)) (by decide) ?_
            exact g_iret ok (dk m_Mo_member 45 rfl) rfl rfl ⟨by rw [B_member, if_pos (b2i_n c_11), if_neg c_27, if_neg c_41, if_neg c_18, if_neg c_67], _, Y1, (xfr.rf.xi 0 0 (by decide)), rfl⟩
          · refine g_aload_n ok (dk m_Mo_member 39 rfl) (pc' := 71) rfl (i := 0) rfl rfl ?_
            refine g_get ok (dk m_Mo_member 40 rfl) (pc' := 74) rfl f_Mo_89 Y1.1 rfl ?_
            refine g_iload_n ok (dk m_Mo_member 41 rfl) (pc' := 75) rfl (i := 1) rfl rfl ?_
            refine g_ialdI ok (dk m_Mo_member 42 rfl) (pc' := 76) rfl (j := j) (Y1.ar 30 rfl) rfl (show j < 16 by omega) (by decide) ?_
            refine g_goto ok (dk m_Mo_member 43 rfl) (pc' := 80) (by decide) ?_
            exact g_iret ok (dk m_Mo_member 45 rfl) rfl rfl ⟨by rw [B_member, if_pos (b2i_n c_11), if_neg c_27, if_neg c_41, if_neg c_18, if_pos c_67, hx], _, Y1, (xfr.rf.xi 0 0 (by decide)), rfl⟩
        · refine g_aload_n ok (dk m_Mo_member 25 rfl) (pc' := 45) rfl (i := 0) rfl rfl ?_
          refine g_get ok (dk m_Mo_member 26 rfl) (pc' := 48) rfl f_Mo_83 Y1.1 rfl ?_
          refine g_iload_n ok (dk m_Mo_member 27 rfl) (pc' := 49) rfl (i := 1) rfl rfl ?_
          refine g_ialdI ok (dk m_Mo_member 28 rfl) (pc' := 50) rfl (j := j) (Y1.ar 28 rfl) rfl (show j < 16 by omega) (by decide) ?_
          refine g_goto ok (dk m_Mo_member 29 rfl) (pc' := 80) (by decide) ?_
          exact g_iret ok (dk m_Mo_member 45 rfl) rfl rfl ⟨by rw [B_member, if_pos (b2i_n c_11), if_neg c_27, if_pos c_41, hx], _, Y1, (xfr.rf.xi 0 0 (by decide)), rfl⟩
      · refine g_aload_n ok (dk m_Mo_member 17 rfl) (pc' := 31) rfl (i := 0) rfl rfl ?_
        refine g_get ok (dk m_Mo_member 18 rfl) (pc' := 34) rfl f_Mo_80 Y1.1 rfl ?_
        refine g_iload_n ok (dk m_Mo_member 19 rfl) (pc' := 35) rfl (i := 1) rfl rfl ?_
        refine g_ialdI ok (dk m_Mo_member 20 rfl) (pc' := 36) rfl (j := j) (Y1.ar 27 rfl) rfl (show j < 16 by omega) (by decide) ?_
        refine g_goto ok (dk m_Mo_member 21 rfl) (pc' := 80) (by decide) ?_
        exact g_iret ok (dk m_Mo_member 45 rfl) rfl rfl ⟨by rw [B_member, if_pos (b2i_n c_11), if_pos c_27, hx], _, Y1, (xfr.rf.xi 0 0 (by decide)), rfl⟩
    · refine g_aload_n ok (dk m_Mo_member 12 rfl) (pc' := 22) rfl (i := 0) rfl rfl ?_
      refine g_iload_n ok (dk m_Mo_member 13 rfl) (pc' := 23) rfl (i := 1) rfl rfl ?_
      refine g_callV ok (dk m_Mo_member 14 rfl) (pc' := 26) rfl c_Mo_281 (c_Mo_gather g (mm := j) (p := p) (u := u) 1 (by omega) hj (by exact hp) hp2 (by exact hu) hu2 (by exact hA j hj) Y1) Y1.1 rfl rfl (by simp [Value.category]) (by omega) rfl (rc' := 0) (rs' := 0) (by omega) (by omega) (fun rv h' hcc => ?_) (fun i h' hcc => by obtain ⟨e9, -⟩ := hcc; cases e9)
      obtain ⟨e9, X2, H2, hl2, f2⟩ := hcc
      cases e9
      have f1 := (xfr.rf.xi (X := X) 0 0 (show 0 ∈ [0, 46, 47] by decide)).tr (f2.wk (by decide))
      have h0 : X2.1 0 = 0 := (f2 0 (by decide)).1
      subst c_18
      have hg := gat_cg (K := [0, 46, 47]) (xfr.rf.xi (X := X) 0 0 (by decide)) (by decide) rfl j
      refine g_iload_n ok (dk m_Mo_member 15 rfl) (pc' := 27) rfl (i := 2) rfl rfl ?_
      refine g_if_ne ok (dk m_Mo_member 16 rfl) (tgt := 39) (by decide) (pc' := 30) rfl (fun c_27 => ?_) (fun c_27 => absurd c_27 (show ¬ (2 : Int32) = 0 by decide))
      refine g_iload_n ok (dk m_Mo_member 22 rfl) (pc' := 40) rfl (i := 2) rfl rfl ?_
      refine g_iconst ok (dk m_Mo_member 23 rfl) (pc' := 41) rfl (v := 1) (by decide) ?_
      refine g_icmp_ne ok (dk m_Mo_member 24 rfl) (tgt := 53) (by decide) (pc' := 44) rfl (fun c_41 => ?_) (fun c_41 => absurd c_41 (show ¬ (2 : Int32) = 1 by decide))
      refine g_iload_n ok (dk m_Mo_member 30 rfl) (pc' := 54) rfl (i := 2) rfl rfl ?_
      refine g_iconst ok (dk m_Mo_member 31 rfl) (pc' := 55) rfl (v := 2) (by decide) ?_
      refine g_icmp_ne ok (dk m_Mo_member 32 rfl) (tgt := 65) (by decide) (pc' := 58) rfl (fun c_55 => absurd rfl c_55) (fun c_55 => ?_)
      refine g_aload_n ok (dk m_Mo_member 33 rfl) (pc' := 59) rfl (i := 0) rfl rfl ?_
      refine g_get ok (dk m_Mo_member 34 rfl) (pc' := 62) rfl f_Mo_183 H2.1 rfl ?_
      refine g_goto ok (dk m_Mo_member 35 rfl) (pc' := 80) (by decide) ?_
      exact g_iret ok (dk m_Mo_member 45 rfl) rfl rfl ⟨by rw [B_member, if_pos (b2i_n c_11), hx, if_neg (by decide), if_neg (by decide), if_pos rfl, hl2.1, hg], X2, H2, f1, h0⟩
  · refine g_iconst ok (dk m_Mo_member 7 rfl) (pc' := 15) rfl (v := (-1)) (by decide) ?_
    exact g_iret ok (dk m_Mo_member 8 rfl) rfl rfl ⟨by rw [B_member, if_neg (b2i_0 c_11)], _, Y1, (xfr.rf.xi 0 0 (by decide)), rfl⟩
set_option maxHeartbeats 1000000 in
theorem c_Mo_holds (g : q_G) {h : q_H} {o : Nat} {ba : Nat → Nat} {X : x_T} {p : Nat} (m n : Int32) (d : Nat) (hd : 2 ≤ d) (hp : X.1 35 = nI p) (hp2 : p ≤ 60) (hU : ∀ j, j < 16 → ∃ u, u ≤ 20 ∧ X.2 31 j = nI u) (hA : ∀ j, j < 16 → ¬ X.2 32 j = 0 → ∃ a, a < 60 ∧ X.2 27 j = nI a) (hE : ∀ j, j < 16 → ¬ X.2 27 j = -1 → ∃ a, a < 60 ∧ X.2 27 j = nI a) (hDp : ∀ a, a < 60 → ∃ D, D ≤ 4 ∧ X.2 13 a = nI D) (H : q_mo h o ba X) : MG g y_Mo_holds b_Mo_holds 4 (some .boolean) d 0 0 [.ref o, .int m, .int n] h (fun q h' => q = .inl (some (.int (b2i (B_holds X m n)))) ∧ ∃ X', q_mo h' o ba X' ∧ xfr [0, 46, 47] X X' ∧ X'.1 0 = 0) := by
  refine MG.of (by decide +kernel) (by simp [Value.category]) (Nat.le_of_ble_eq_true rfl) ?_
  intro Z A ok
  refine g_aload_n ok (dk m_Mo_holds 0 rfl) (pc' := 1) rfl (i := 0) rfl rfl ?_
  refine g_iconst ok (dk m_Mo_holds 1 rfl) (pc' := 2) rfl (v := 0) (by decide) ?_
  refine g_put ok (dk m_Mo_holds 2 rfl) (pc' := 5) rfl f_Mo_155 (Or.inl rfl) H.1 (Nat.le_of_ble_eq_true rfl) rfl rfl ?_
  refine g_gen (fun z1 e1 => ?_)
  have Y1 := H.ipt 0 (by decide) e1
  clear e1
  refine g_iload_n ok (dk m_Mo_holds 3 rfl) (pc' := 6) rfl (i := 1) rfl rfl ?_
  refine g_bipush ok (dk m_Mo_holds 4 rfl) (pc' := 8) rfl (v := 16) (by decide) ?_
  refine g_callS ok (dk m_Mo_holds 5 rfl) (pc' := 11) rfl c_Mo_264 (c_Mo_in g m 16 0) rfl rfl (by simp [Value.category]) (by omega) rfl (rc' := 0) (rs' := 0) (by omega) (by omega) (fun rv h' hcc => ?_) (fun i h' hcc => by obtain ⟨e9, -⟩ := hcc; cases e9)
  obtain ⟨e9, e2⟩ := hcc
  have e3 := e2.symm
  subst e3
  cases e9
  refine g_if_eq ok (dk m_Mo_holds 6 rfl) (tgt := 41) (by decide) (pc' := 14) rfl (fun c_11 => ?_) (fun c_11 => ?_)
  · refine g_iconst ok (dk m_Mo_holds 22 rfl) (pc' := 42) rfl (v := 0) (by decide) ?_
    exact g_iret ok (dk m_Mo_holds 23 rfl) rfl rfl ⟨by rw [b2i_f (p := B_holds X m n) (fun z => b2i_0 c_11 z.1)], _, Y1, (xfr.rf.xi 0 0 (by decide)), rfl⟩
  · obtain ⟨j, hj, rfl⟩ := r_in_of (by decide) (b2i_n c_11)
    have hx : ix (nI j) = j := ix_nI (by omega)
    obtain ⟨u, hu2, hu⟩ := hU j hj
    refine g_aload_n ok (dk m_Mo_holds 7 rfl) (pc' := 15) rfl (i := 0) rfl rfl ?_
    refine g_get ok (dk m_Mo_holds 8 rfl) (pc' := 18) rfl f_Mo_80 Y1.1 rfl ?_
    refine g_iload_n ok (dk m_Mo_holds 9 rfl) (pc' := 19) rfl (i := 1) rfl rfl ?_
    refine g_ialdI ok (dk m_Mo_holds 10 rfl) (pc' := 20) rfl (j := j) (Y1.ar 27 rfl) rfl (show j < 16 by omega) (by decide) ?_
    refine g_iconst ok (dk m_Mo_holds 11 rfl) (pc' := 21) rfl (v := (-1)) (by decide) ?_
    refine g_icmp_eq ok (dk m_Mo_holds 12 rfl) (tgt := 41) (by decide) (pc' := 24) rfl (fun c_21 => ?_) (fun c_21 => ?_)
    · refine g_iconst ok (dk m_Mo_holds 22 rfl) (pc' := 42) rfl (v := 0) (by decide) ?_
      exact g_iret ok (dk m_Mo_holds 23 rfl) rfl rfl ⟨by rw [b2i_f (p := B_holds X (nI j) n) (fun z => z.2.1 (by rw [hx]; exact c_21))], _, Y1, (xfr.rf.xi 0 0 (by decide)), rfl⟩
    · obtain ⟨a, ha, hat⟩ := hE j hj c_21
      have hxa : ix (nI a) = a := ix_nI (by omega)
      obtain ⟨D, hD4, hD⟩ := hDp a ha
      have hxD : ix (nI D) = D := ix_nI (by omega)
      refine g_iload_n ok (dk m_Mo_holds 13 rfl) (pc' := 25) rfl (i := 2) rfl rfl ?_
      refine g_aload_n ok (dk m_Mo_holds 14 rfl) (pc' := 26) rfl (i := 0) rfl rfl ?_
      refine g_aload_n ok (dk m_Mo_holds 15 rfl) (pc' := 27) rfl (i := 0) rfl rfl ?_
      refine g_get ok (dk m_Mo_holds 16 rfl) (pc' := 30) rfl f_Mo_80 Y1.1 rfl ?_
      refine g_iload_n ok (dk m_Mo_holds 17 rfl) (pc' := 31) rfl (i := 1) rfl rfl ?_
      refine g_ialdI ok (dk m_Mo_holds 18 rfl) (pc' := 32) rfl (j := j) (Y1.ar 27 rfl) rfl (show j < 16 by omega) (by decide) ?_
      refine g_top (w := .int (nI a)) (congrArg Value.int hat) ?_
      refine g_callV ok (dk m_Mo_holds 19 rfl) (pc' := 35) rfl c_Mo_192 (c_Mo_width g (e := a) (D := D) 0 ha (by exact hD) hD4 Y1) Y1.1 rfl rfl (by simp [Value.category]) (by omega) rfl (rc' := 0) (rs' := 0) (by omega) (by omega) (fun rv h' hcc => ?_) (fun i h' hcc => by obtain ⟨e9, -⟩ := hcc; cases e9)
      obtain ⟨e9, e2⟩ := hcc
      have e3 := e2.symm
      subst e3
      cases e9
      refine g_callS ok (dk m_Mo_holds 20 rfl) (pc' := 38) rfl c_Mo_264 (c_Mo_in g n (2 ^ (D + 1) - 1) 0) rfl rfl (by simp [Value.category]) (by omega) rfl (rc' := 0) (rs' := 0) (by omega) (by omega) (fun rv h' hcc => ?_) (fun i h' hcc => by obtain ⟨e9, -⟩ := hcc; cases e9)
      obtain ⟨e9, e2⟩ := hcc
      have e3 := e2.symm
      subst e3
      cases e9
      refine g_if_ne ok (dk m_Mo_holds 21 rfl) (tgt := 43) (by decide) (pc' := 41) rfl (fun c_38 => ?_) (fun c_38 => ?_)
      · have hDd : 2 ^ (D + 1) ≤ 32 := by
          rcases (show D = 0 ∨ D = 1 ∨ D = 2 ∨ D = 3 ∨ D = 4 by omega) with rfl | rfl | rfl | rfl | rfl <;> decide
        have hrn := b2i_n c_38
        obtain ⟨v, hv, rfl⟩ := r_in_of (by omega) hrn
        have hxv : ix (nI v) = v := ix_nI (by omega)
        have hg := gat_cg (K := [0, 46, 47]) (xfr.rf.xi (X := X) 0 0 (by decide)) (by decide) rfl j
        refine g_aload_n ok (dk m_Mo_holds 24 rfl) (pc' := 44) rfl (i := 0) rfl rfl ?_
        refine g_get ok (dk m_Mo_holds 25 rfl) (pc' := 47) rfl f_Mo_65 Y1.1 rfl ?_
        refine g_bipush ok (dk m_Mo_holds 26 rfl) (pc' := 49) rfl (v := 31) (by decide) ?_
        refine g_aload_n ok (dk m_Mo_holds 27 rfl) (pc' := 50) rfl (i := 0) rfl rfl ?_
        refine g_get ok (dk m_Mo_holds 28 rfl) (pc' := 53) rfl f_Mo_80 Y1.1 rfl ?_
        refine g_iload_n ok (dk m_Mo_holds 29 rfl) (pc' := 54) rfl (i := 1) rfl rfl ?_
        refine g_ialdI ok (dk m_Mo_holds 30 rfl) (pc' := 55) rfl (j := j) (Y1.ar 27 rfl) rfl (show j < 16 by omega) (by decide) ?_
        refine g_top (w := .int (nI a)) (congrArg Value.int hat) ?_
        refine g_imul ok (dk m_Mo_holds 31 rfl) (pc' := 56) rfl ?_
        refine g_iload_n ok (dk m_Mo_holds 32 rfl) (pc' := 57) rfl (i := 2) rfl rfl ?_
        refine g_iadd ok (dk m_Mo_holds 33 rfl) (pc' := 58) rfl ?_
        refine g_ialdI ok (dk m_Mo_holds 34 rfl) (pc' := 59) rfl (j := 31 * a + v) (Y1.ar 22 rfl) (ix31 a v) (show 31 * a + v < 1860 by omega) (by decide) ?_
        refine g_istore_n ok (dk m_Mo_holds 35 rfl) (pc' := 60) rfl (i := 3) rfl (Nat.le_of_ble_eq_true rfl) rfl ?_
        refine g_aload_n ok (dk m_Mo_holds 36 rfl) (pc' := 61) rfl (i := 0) rfl rfl ?_
        refine g_iload_n ok (dk m_Mo_holds 37 rfl) (pc' := 62) rfl (i := 1) rfl rfl ?_
        refine g_callV ok (dk m_Mo_holds 38 rfl) (pc' := 65) rfl c_Mo_281 (c_Mo_gather g (mm := j) (p := p) (u := u) 1 (by omega) hj (by exact hp) hp2 (by exact hu) hu2 (by exact hA j hj) Y1) Y1.1 rfl rfl (by simp [Value.category]) (by omega) rfl (rc' := 0) (rs' := 0) (by omega) (by omega) (fun rv h' hcc => ?_) (fun i h' hcc => by obtain ⟨e9, -⟩ := hcc; cases e9)
        obtain ⟨e9, X2, H2, hl2, f2⟩ := hcc
        cases e9
        have f1 := (xfr.rf.xi (X := X) 0 0 (show 0 ∈ [0, 46, 47] by decide)).tr (f2.wk (by decide))
        have h0 : X2.1 0 = 0 := (f2 0 (by decide)).1
        refine g_iload_n ok (dk m_Mo_holds 39 rfl) (pc' := 66) rfl (i := 3) rfl rfl ?_
        refine g_iconst ok (dk m_Mo_holds 40 rfl) (pc' := 67) rfl (v := (-1)) (by decide) ?_
        refine g_icmp_eq ok (dk m_Mo_holds 41 rfl) (tgt := 82) (by decide) (pc' := 70) rfl (fun c_67 => ?_) (fun c_67 => ?_)
        · refine g_iconst ok (dk m_Mo_holds 48 rfl) (pc' := 83) rfl (v := 0) (by decide) ?_
          exact g_iret ok (dk m_Mo_holds 49 rfl) rfl rfl ⟨by rw [b2i_f (p := B_holds X (nI j) (nI v)) (fun z => z.2.2.2.1 (by rw [hx, hat, hxa, hxv]; exact c_67))], X2, H2, f1, h0⟩
        · refine g_aload_n ok (dk m_Mo_holds 42 rfl) (pc' := 71) rfl (i := 0) rfl rfl ?_
          refine g_iload_n ok (dk m_Mo_holds 43 rfl) (pc' := 72) rfl (i := 3) rfl rfl ?_
          refine g_callV ok (dk m_Mo_holds 44 rfl) (pc' := 75) rfl c_Mo_284 (c_Mo_isHeld g (n := (gat X j).length) _ 0 (by rw [← hg]; exact hl2.1) (by have := gat_len hp hp2 hu hu2; omega) H2) H2.1 rfl rfl (by simp [Value.category]) (by omega) rfl (rc' := 0) (rs' := 0) (by omega) (by omega) (fun rv h' hcc => ?_) (fun i h' hcc => by obtain ⟨e9, -⟩ := hcc; cases e9)
          obtain ⟨e9, e2⟩ := hcc
          have e3 := e2.symm
          subst e3
          cases e9
          refine g_if_eq ok (dk m_Mo_holds 45 rfl) (tgt := 82) (by decide) (pc' := 78) rfl (fun c_75 => ?_) (fun c_75 => ?_)
          · refine g_iconst ok (dk m_Mo_holds 48 rfl) (pc' := 83) rfl (v := 0) (by decide) ?_
            exact g_iret ok (dk m_Mo_holds 49 rfl) rfl rfl ⟨by rw [b2i_f (p := B_holds X (nI j) (nI v)) (fun z => b2i_0 c_75 (by rw [← hg]; exact (hl2.mem _).mpr (by rw [hg]; have q := z.2.2.2.2; rw [hx, hat, hxa, hxv] at q; exact q)))], X2, H2, f1, h0⟩
          · refine g_iconst ok (dk m_Mo_holds 46 rfl) (pc' := 79) rfl (v := 1) (by decide) ?_
            refine g_goto ok (dk m_Mo_holds 47 rfl) (pc' := 83) (by decide) ?_
            exact g_iret ok (dk m_Mo_holds 49 rfl) rfl rfl ⟨by rw [b2i_t (p := B_holds X (nI j) (nI v)) ⟨b2i_n c_11, by rw [hx]; exact c_21, by rw [hx, hat, hxa, hD, hxD]; exact hrn, by rw [hx, hat, hxa, hxv]; exact c_67, by rw [hx, hat, hxa, hxv]; have q := b2i_n c_75; rw [← hg] at q ⊢; exact (hl2.mem _).mp q⟩], X2, H2, f1, h0⟩
      · refine g_iconst ok (dk m_Mo_holds 22 rfl) (pc' := 42) rfl (v := 0) (by decide) ?_
        exact g_iret ok (dk m_Mo_holds 23 rfl) rfl rfl ⟨by rw [b2i_f (p := B_holds X (nI j) n) (fun z => b2i_0 c_38 (by have q := z.2.2.1; rw [hx, hat, hxa, hD, hxD] at q; exact q))], _, Y1, (xfr.rf.xi 0 0 (by decide)), rfl⟩
set_option maxHeartbeats 1000000 in
theorem c_Mo_compromise (g : q_G) {h : q_H} {o : Nat} {ba : Nat → Nat} {X : x_T} {p : Nat} (m : Int32) (d : Nat) (hd : 2 ≤ d) (hp : X.1 35 = nI p) (hp2 : p ≤ 60) (hU : ∀ j, j < 16 → ∃ u, u ≤ 20 ∧ X.2 31 j = nI u) (hA : ∀ j, j < 16 → ¬ X.2 32 j = 0 → ∃ a, a < 60 ∧ X.2 27 j = nI a) (hV : ∀ j, j < 16 → ∀ y, y ∈ gat X j → ∃ id, id < 2600 ∧ y = nI id) (H : q_mo h o ba X) : MG g y_Mo_compromise b_Mo_compromise 3 (some .int) d 0 0 [.ref o, .int m] h (fun q h' => (¬ r_in 16 m ∧ q = .inl (some (.int 0)) ∧ q_mo h' o ba (xi X 0 1)) ∨ (r_in 16 m ∧ q = .inl (some (.int (nI (gat X (ix m)).length))) ∧ ∃ X', q_mo h' o ba X' ∧ xfr [0, 5, 46, 47] X X' ∧ X'.1 0 = 0 ∧ ∀ i, i < 2600 → X'.2 5 i = if nI i ∈ gat X (ix m) then 1 else X.2 5 i)) := by
  refine MG.of (by decide +kernel) (by simp [Value.category]) (Nat.le_of_ble_eq_true rfl) ?_
  intro Z A ok
  classical
  refine g_aload_n ok (dk m_Mo_compromise 0 rfl) (pc' := 1) rfl (i := 0) rfl rfl ?_
  refine g_iload_n ok (dk m_Mo_compromise 1 rfl) (pc' := 2) rfl (i := 1) rfl rfl ?_
  refine g_bipush ok (dk m_Mo_compromise 2 rfl) (pc' := 4) rfl (v := 16) (by decide) ?_
  refine g_callS ok (dk m_Mo_compromise 3 rfl) (pc' := 7) rfl c_Mo_264 (c_Mo_in g m 16 0) rfl rfl (by simp [Value.category]) (by omega) rfl (rc' := 0) (rs' := 0) (by omega) (by omega) (fun rv h' hcc => ?_) (fun i h' hcc => by obtain ⟨e9, -⟩ := hcc; cases e9)
  obtain ⟨e9, e2⟩ := hcc
  have e3 := e2.symm
  subst e3
  cases e9
  refine g_if_ne ok (dk m_Mo_compromise 4 rfl) (tgt := 14) (by decide) (pc' := 10) rfl (fun c_7 => ?_) (fun c_7 => ?_)
  · refine g_iconst ok (dk m_Mo_compromise 7 rfl) (pc' := 15) rfl (v := 0) (by decide) ?_
    have hr := b2i_n c_7
    clear c_7
    obtain ⟨j, hj, rfl⟩ := r_in_of (by decide) hr
    have hx : ix (nI j) = j := ix_nI (by omega)
    obtain ⟨u, hu2, hu⟩ := hU j hj
    have hL := gat_len hp hp2 hu hu2
    have loop : ∀ (m k : Nat), k + m = (gat X j).length → ∀ (h1 : q_H) (X1 : x_T), q_mo h1 o ba X1 → q_HL X1 (gat X j) → xfr [0, 5, 46, 47] X X1 → X1.1 0 = 0 → (∀ i, i < 2600 → X1.2 5 i = if (∃ q, q < k ∧ (gat X j)[q]? = some (nI i)) then 1 else X.2 5 i) → GW g Z A (fun q h' => (¬ r_in 16 (nI j) ∧ q = .inl (some (.int 0)) ∧ q_mo h' o ba (xi X 0 1)) ∨ (r_in 16 (nI j) ∧ q = .inl (some (.int (nI (gat X (ix (nI j))).length))) ∧ ∃ X', q_mo h' o ba X' ∧ xfr [0, 5, 46, 47] X X' ∧ X'.1 0 = 0 ∧ ∀ i, i < 2600 → X'.2 5 i = if nI i ∈ gat X (ix (nI j)) then 1 else X.2 5 i)) 0 0 h1 34 [some (.ref o), some (.int (nI j)), some (.int (nI k))] [] := by
      intro m
      induction m with
      | zero =>
        intro k hk h1 X1 H1 hl f1 h0 ht
        refine g_iload_n ok (dk m_Mo_compromise 19 rfl) (pc' := 35) rfl (i := 2) rfl rfl ?_
        refine g_aload_n ok (dk m_Mo_compromise 20 rfl) (pc' := 36) rfl (i := 0) rfl rfl ?_
        refine g_get ok (dk m_Mo_compromise 21 rfl) (pc' := 39) rfl f_Mo_183 H1.1 rfl ?_
        refine g_top (w := .int (nI (gat X j).length)) (congrArg Value.int hl.1) ?_
        refine g_icmp_ge ok (dk m_Mo_compromise 22 rfl) (tgt := 60) (by decide) (pc' := 42) rfl (fun c_39 => ?_) (fun c_39 => absurd (nI_le (a := (gat X j).length) (b := k) (by omega) (by omega)) c_39)
        refine g_aload_n ok (dk m_Mo_compromise 33 rfl) (pc' := 61) rfl (i := 0) rfl rfl ?_
        refine g_get ok (dk m_Mo_compromise 34 rfl) (pc' := 64) rfl f_Mo_183 H1.1 rfl ?_
        refine g_top (w := .int (nI (gat X j).length)) (congrArg Value.int hl.1) ?_
        exact g_iret ok (dk m_Mo_compromise 35 rfl) rfl rfl (Or.inr ⟨hr, by rw [hx], X1, H1, f1, h0, fun i hi => by
    rw [ht i hi, hx]
    congr 1
    refine propext ⟨fun ⟨q, h1, h2⟩ => List.mem_of_getElem? h2, fun z => ?_⟩
    obtain ⟨q, hq⟩ := List.mem_iff_getElem?.mp z
    refine ⟨q, ?_, hq⟩
    rcases Nat.lt_or_ge q (gat X j).length with y | y
    · omega
    · rw [List.getElem?_eq_none y] at hq
      cases hq⟩)
      | succ m ih =>
        intro k hk h1 X1 H1 hl f1 h0 ht
        refine g_iload_n ok (dk m_Mo_compromise 19 rfl) (pc' := 35) rfl (i := 2) rfl rfl ?_
        refine g_aload_n ok (dk m_Mo_compromise 20 rfl) (pc' := 36) rfl (i := 0) rfl rfl ?_
        refine g_get ok (dk m_Mo_compromise 21 rfl) (pc' := 39) rfl f_Mo_183 H1.1 rfl ?_
        refine g_top (w := .int (nI (gat X j).length)) (congrArg Value.int hl.1) ?_
        refine g_icmp_ge ok (dk m_Mo_compromise 22 rfl) (tgt := 60) (by decide) (pc' := 42) rfl (fun c_39 => absurd c_39 (nI_ge (a := k) (b := (gat X j).length) (by omega) (by omega))) (fun c_39 => ?_)
        refine g_aload_n ok (dk m_Mo_compromise 23 rfl) (pc' := 43) rfl (i := 0) rfl rfl ?_
        refine g_get ok (dk m_Mo_compromise 24 rfl) (pc' := 46) rfl f_Mo_19 H1.1 rfl ?_
        refine g_aload_n ok (dk m_Mo_compromise 25 rfl) (pc' := 47) rfl (i := 0) rfl rfl ?_
        refine g_get ok (dk m_Mo_compromise 26 rfl) (pc' := 50) rfl f_Mo_131 H1.1 rfl ?_
        refine g_iload_n ok (dk m_Mo_compromise 27 rfl) (pc' := 51) rfl (i := 2) rfl rfl ?_
        refine g_ialdI ok (dk m_Mo_compromise 28 rfl) (pc' := 52) rfl (j := k) (H1.ar 47 rfl) rfl (show k < 256 by omega) (by decide) ?_
        have hq := hl.2 k (by omega)
        obtain ⟨id, hid, hxi⟩ := hV j hj (X1.2 47 k) (List.mem_of_getElem? hq)
        rw [hxi] at hq
        refine g_top (w := .int (nI id)) (congrArg Value.int hxi) ?_
        refine g_iconst ok (dk m_Mo_compromise 29 rfl) (pc' := 53) rfl (v := 1) (by decide) ?_
        refine g_zastI ok (dk m_Mo_compromise 30 rfl) (pc' := 54) rfl (j := id) (H1.ar 5 rfl) rfl (show id < 2600 by omega) (by decide) rfl (fun z1 e1 => ?_)
        have Y1 := H1.ast 5 rfl e1
        clear e1
        refine g_iinc ok (dk m_Mo_compromise 31 rfl) (pc' := 57) rfl rfl (nI_1 k) rfl ?_
        refine g_goto ok (dk m_Mo_compromise 32 rfl) (pc' := 34) (by decide) ?_
        exact ih (k + 1) (by omega) _ _ Y1 ⟨hl.1, fun i hi => hl.2 i hi⟩ (f1.xs 5 _ _ (by decide)) h0 (fun i hi => by
          by_cases e : i = id
          · rw [e, xs_s, if_pos ⟨k, by omega, hq⟩]
          · rw [xs_j e, ht i hi]
            congr 1
            refine propext ⟨fun ⟨q, h1, h2⟩ => ⟨q, by omega, h2⟩, fun ⟨q, h1, h2⟩ => ⟨q, ?_, h2⟩⟩
            rcases Nat.lt_or_ge q k with y | y
            · exact y
            · have hqk : q = k := by omega
              rw [hqk, hq] at h2
              exact absurd ((nI_eq (by omega) (by omega)).mp (Option.some.inj h2)).symm e)
    have hg := gat_cg (K := [0, 46, 47]) (xfr.rf.xi (X := X) 0 0 (by decide)) (by decide) rfl j
    refine g_put ok (dk m_Mo_compromise 8 rfl) (pc' := 18) rfl f_Mo_155 (Or.inl rfl) H.1 (Nat.le_of_ble_eq_true rfl) rfl rfl ?_
    refine g_gen (fun z1 e1 => ?_)
    have Y1 := H.ipt 0 (by decide) e1
    clear e1
    refine g_aload_n ok (dk m_Mo_compromise 9 rfl) (pc' := 19) rfl (i := 0) rfl rfl ?_
    refine g_get ok (dk m_Mo_compromise 10 rfl) (pc' := 22) rfl f_Mo_155 Y1.1 rfl ?_
    refine g_if_le ok (dk m_Mo_compromise 11 rfl) (tgt := 27) (by decide) (pc' := 25) rfl (fun c_22 => ?_) (fun c_22 => absurd (show (0 : Int32) ≤ 0 by decide) c_22)
    refine g_aload_n ok (dk m_Mo_compromise 14 rfl) (pc' := 28) rfl (i := 0) rfl rfl ?_
    refine g_iload_n ok (dk m_Mo_compromise 15 rfl) (pc' := 29) rfl (i := 1) rfl rfl ?_
    refine g_callV ok (dk m_Mo_compromise 16 rfl) (pc' := 32) rfl c_Mo_281 (c_Mo_gather g (mm := j) (p := p) (u := u) 1 (by omega) hj (by exact hp) hp2 (by exact hu) hu2 (by exact hA j hj) Y1) Y1.1 rfl rfl (by simp [Value.category]) (by omega) rfl (rc' := 0) (rs' := 0) (by omega) (by omega) (fun rv h' hcc => ?_) (fun i h' hcc => by obtain ⟨e9, -⟩ := hcc; cases e9)
    obtain ⟨e9, X2, H2, hl2, f2⟩ := hcc
    cases e9
    have f1 := (xfr.rf.xi (X := X) 0 0 (show 0 ∈ [0, 46, 47] by decide)).tr (f2.wk (by decide))
    have h0 : X2.1 0 = 0 := (f2 0 (by decide)).1
    refine g_iconst ok (dk m_Mo_compromise 17 rfl) (pc' := 33) rfl (v := 0) (by decide) ?_
    refine g_istore_n ok (dk m_Mo_compromise 18 rfl) (pc' := 34) rfl (i := 2) rfl (Nat.le_of_ble_eq_true rfl) rfl ?_
    exact loop _ 0 (Nat.zero_add _) _ _ H2 (by rw [← hg]; exact hl2) (f1.wk (by decide)) h0 (fun i hi => by
      rw [if_neg (fun ⟨q, h1, h2⟩ => absurd h1 (Nat.not_lt_zero _))]
      exact congrFun (f1 5 (by decide)).2 i)
  · refine g_iconst ok (dk m_Mo_compromise 5 rfl) (pc' := 11) rfl (v := 1) (by decide) ?_
    refine g_goto ok (dk m_Mo_compromise 6 rfl) (pc' := 15) (by decide) ?_
    refine g_put ok (dk m_Mo_compromise 8 rfl) (pc' := 18) rfl f_Mo_155 (Or.inl rfl) H.1 (Nat.le_of_ble_eq_true rfl) rfl rfl ?_
    refine g_gen (fun z1 e1 => ?_)
    have Y1 := H.ipt 0 (by decide) e1
    clear e1
    refine g_aload_n ok (dk m_Mo_compromise 9 rfl) (pc' := 19) rfl (i := 0) rfl rfl ?_
    refine g_get ok (dk m_Mo_compromise 10 rfl) (pc' := 22) rfl f_Mo_155 Y1.1 rfl ?_
    refine g_if_le ok (dk m_Mo_compromise 11 rfl) (tgt := 27) (by decide) (pc' := 25) rfl (fun c_22 => absurd c_22 (show ¬ (1 : Int32) ≤ 0 by decide)) (fun c_22 => ?_)
    refine g_iconst ok (dk m_Mo_compromise 12 rfl) (pc' := 26) rfl (v := 0) (by decide) ?_
    exact g_iret ok (dk m_Mo_compromise 13 rfl) rfl rfl (Or.inl ⟨b2i_0 c_7, rfl, Y1⟩)
