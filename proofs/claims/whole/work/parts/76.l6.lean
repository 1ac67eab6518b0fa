/-! ===== the law: the loop ===== -/
theorem sw_out17 {x : Int32} (h0 : ¬ x = 0) (h1 : ¬ x = 1) (h2 : ¬ x = 2) (h3 : ¬ x = 3) (h4 : ¬ x = 4) (h5 : ¬ x = 5) (h6 : ¬ x = 6) (h7 : ¬ x = 7) (h8 : ¬ x = 8) (h9 : ¬ x = 9) (h10 : ¬ x = 10) (h11 : ¬ x = 11) (h12 : ¬ x = 12) (h13 : ¬ x = 13) (h14 : ¬ x = 14) (h15 : ¬ x = 15) (h16 : ¬ x = 16) : x.toInt < 0 ∨ 16 < x.toInt := by
  rcases Int.lt_or_le x.toInt 0 with q | q
  · exact Or.inl q
  · rcases Int.lt_or_le 16 x.toInt with q2 | q2
    · exact Or.inr q2
    · exfalso
      rcases (show x.toInt = 0 ∨ x.toInt = 1 ∨ x.toInt = 2 ∨ x.toInt = 3 ∨ x.toInt = 4 ∨ x.toInt = 5 ∨ x.toInt = 6 ∨ x.toInt = 7 ∨ x.toInt = 8 ∨ x.toInt = 9 ∨ x.toInt = 10 ∨ x.toInt = 11 ∨ x.toInt = 12 ∨ x.toInt = 13 ∨ x.toInt = 14 ∨ x.toInt = 15 ∨ x.toInt = 16 by omega) with e | e | e | e | e | e | e | e | e | e | e | e | e | e | e | e | e
      · exact h0 (Int32.toInt_inj.mp e)
      · exact h1 (Int32.toInt_inj.mp e)
      · exact h2 (Int32.toInt_inj.mp e)
      · exact h3 (Int32.toInt_inj.mp e)
      · exact h4 (Int32.toInt_inj.mp e)
      · exact h5 (Int32.toInt_inj.mp e)
      · exact h6 (Int32.toInt_inj.mp e)
      · exact h7 (Int32.toInt_inj.mp e)
      · exact h8 (Int32.toInt_inj.mp e)
      · exact h9 (Int32.toInt_inj.mp e)
      · exact h10 (Int32.toInt_inj.mp e)
      · exact h11 (Int32.toInt_inj.mp e)
      · exact h12 (Int32.toInt_inj.mp e)
      · exact h13 (Int32.toInt_inj.mp e)
      · exact h14 (Int32.toInt_inj.mp e)
      · exact h15 (Int32.toInt_inj.mp e)
      · exact h16 (Int32.toInt_inj.mp e)
/-- every call keeps the relation J -/
def lw_S (J : Nat → Int32 → q_H → q_H → Prop) (g : q_G) (r o : Nat) (a b c : Int32) : Prop := (∀ n t h1 h2, J n t h1 h2 → J (n + 1) t h1 h2) ∧ (q_SW J g r o true y_RG_offer b_RG_offer 4 y_Mo_offer b_Mo_offer 2 [.int (a)]) ∧ (q_SW J g r o true y_RG_add b_RG_add 4 y_Mo_add b_Mo_add 3 [.int (a), .int (b)]) ∧ (q_SW J g r o true y_RG_remove b_RG_remove 4 y_Mo_remove b_Mo_remove 3 [.int (a), .int (b)]) ∧ (q_SW J g r o true y_RG_update b_RG_update 4 y_Mo_update b_Mo_update 3 [.int (a)]) ∧ (q_SW J g r o true y_RG_commit b_RG_commit 7 y_Mo_commit b_Mo_commit 3 [.int (a), .int (if b = 0 then 0 else 1)]) ∧ (q_SW J g r o true y_RG_come b_RG_come 3 y_Mo_come b_Mo_come 4 [.int (a)]) ∧ (q_SW J g r o false y_RG_compromise b_RG_compromise 4 y_Mo_compromise b_Mo_compromise 3 [.int (a)]) ∧ (q_SR J g r o .int y_RG_member b_RG_member 4 y_Mo_member b_Mo_member 3 [.int (a), .int (b)]) ∧ (q_SR J g r o .boolean y_RG_holds b_RG_holds 4 y_Mo_holds b_Mo_holds 4 [.int (a), .int (b)]) ∧ (q_SR J g r o .boolean y_RG_has b_RG_has 2 y_Mo_has b_Mo_has 2 [.int (a)]) ∧ (q_SR J g r o .int y_RG_node b_RG_node 5 y_Mo_node b_Mo_node 5 [.int (a), .int (b), .int (c)]) ∧ (q_SR J g r o .int y_RG_epoch b_RG_epoch 4 y_Mo_epoch b_Mo_epoch 3 [.int (a), .int (b)]) ∧ (q_SR J g r o .int y_RG_epochs b_RG_epochs 1 y_Mo_epochs b_Mo_epochs 1 []) ∧ (q_SR J g r o .int y_RG_waiting b_RG_waiting 1 y_Mo_waiting b_Mo_waiting 1 []) ∧ (q_SR J g r o .boolean y_RG_isKnown b_RG_isKnown 2 y_Mo_isKnown b_Mo_isKnown 2 [.int (a)]) ∧ (q_SR J g r o .boolean y_RG_isOpen b_RG_isOpen 3 y_Mo_isOpen b_Mo_isOpen 3 [.int (a), .int (b)]) ∧ (q_SR J g r o .int y_RG_known b_RG_known 3 y_Mo_known b_Mo_known 3 [])
section LWL
variable {J : Nat → Int32 → q_H → q_H → Prop} {g : q_G} {Z : q_Z} {A : Nat → Prop} {post : q_R → q_H → Prop} {r o u b L : Nat} {xs : Nat → Int32}
theorem lw_gt {L i : Nat} (hL : L ≤ 2048) (hi : i ≤ 2048) : nI L - 4 < nI i ↔ L < i + 4 := by
  rw [Int32.lt_iff_toInt_lt, Int32.toInt_sub, nI_toInt (by omega), nI_toInt (by omega)]
  rw [show (4 : Int32).toInt = 4 from rfl, Int.bmod_eq_of_le (by omega) (by omega)]
  omega
theorem lw_loop (E : lw_E J g Z A r o b L xs) (S : ∀ a b c, lw_S J g r o a b c) (hpost : ∀ h, post (.inl (some (.int 1))) h) : ∀ m n, n + m = 512 → ∀ t h1 h2 f l5 l6, J n t h1 h2 → q_dj h1 h2 → h1 u = none → h2 u = none → GW g Z A post (14 * m) (250 * m) (q_lv u f h1 h2) 23 [some (.ref b), some (.ref r), some (.ref o), some (.ref u), some (.int (nI (4 * n))), l5, l6] [] := by
  intro m
  induction m with
  | zero =>
    intro n hn t h1 h2 f l5 l6 hJ hdj hu1 hu2
    obtain ⟨ok, hX, hbl, hbA, hL, hTh, hRr, hRo⟩ := E
    refine g_iload ok (dk m_Law_law_0 13 rfl) (pc' := 25) rfl rfl ?_
    refine g_aload_n ok (dk m_Law_law_0 14 rfl) (pc' := 26) rfl (i := 0) rfl rfl ?_
    refine g_slen ok hX hbl hbA (dk m_Law_law_0 15 rfl) (pc' := 27) rfl ?_
    refine g_iconst ok (dk m_Law_law_0 16 rfl) (pc' := 28) rfl (v := 4) (by decide) ?_
    refine g_isub ok (dk m_Law_law_0 17 rfl) (pc' := 29) rfl ?_
    refine g_icmp_gt ok (dk m_Law_law_0 18 rfl) (tgt := 856) (by decide) (pc' := 32) rfl (fun _ => ?_) (fun c => absurd ((lw_gt hL (by omega)).mpr (by omega)) c)
    refine g_iconst ok (dk m_Law_law_21 6 rfl) (pc' := 857) rfl (v := 1) (by decide) ?_
    exact g_iret ok (dk m_Law_law_21 7 rfl) rfl rfl (hpost _)
  | succ m ih =>
    intro n hn t h1 h2 f l5 l6 hJ hdj hu1 hu2
    have E' := E
    obtain ⟨ok, hX, hbl, hbA, hL, hTh, hRr, hRo⟩ := E
    refine g_iload ok (dk m_Law_law_0 13 rfl) (pc' := 25) rfl rfl ?_
    refine g_aload_n ok (dk m_Law_law_0 14 rfl) (pc' := 26) rfl (i := 0) rfl rfl ?_
    refine g_slen ok hX hbl hbA (dk m_Law_law_0 15 rfl) (pc' := 27) rfl ?_
    refine g_iconst ok (dk m_Law_law_0 16 rfl) (pc' := 28) rfl (v := 4) (by decide) ?_
    refine g_isub ok (dk m_Law_law_0 17 rfl) (pc' := 29) rfl ?_
    refine g_icmp_gt ok (dk m_Law_law_0 18 rfl) (tgt := 856) (by decide) (pc' := 32) rfl (fun _ => ?_) (fun c => ?_)
    · refine g_iconst ok (dk m_Law_law_21 6 rfl) (pc' := 857) rfl (v := 1) (by decide) ?_
      exact g_iret ok (dk m_Law_law_21 7 rfl) rfl rfl (hpost _)
    have hi : 4 * n + 3 < L := by
      rcases Nat.lt_or_ge (4 * n + 3) L with q | q
      · exact q
      · exact absurd ((lw_gt hL (by omega)).mpr (by omega)) c
    have K : ∀ l5 l6 t' h1' h2' f', J (n + 1) t' h1' h2' → q_dj h1' h2' → h1' u = none → h2' u = none → GW g Z A post (14 * m) (250 * m) (q_lv u f' h1' h2') 850 [some (.ref b), some (.ref r), some (.ref o), some (.ref u), some (.int (nI (4 * n))), l5, l6] [] := by
      intro l5 l6 t' h1' h2' f' hJ' hdj' hu1' hu2'
      refine g_iinc ok (dk m_Law_law_21 4 rfl) (pc' := 853) rfl rfl (v := nI (4 * (n + 1))) (by rw [show Int32.ofInt 4 = nI 4 from rfl, nI_add]; exact congrArg nI (by omega)) rfl ?_
      refine g_goto ok (dk m_Law_law_21 5 rfl) (pc' := 23) (by decide) ?_
      exact ih (n + 1) (by omega) t' h1' h2' f' l5 l6 hJ' hdj' hu1' hu2'
    obtain ⟨hM, S0, S1, S2, S3, S4, S5, S6, S7, S8, S9, S10, S11, S12, S13, S14, S15, S16⟩ := S (xs (4 * n + 1)) (xs (4 * n + 2)) (xs (4 * n + 3))
    refine g_aload_n ok (dk m_Law_law_0 19 rfl) (pc' := 33) rfl (i := 0) rfl rfl ?_
    refine g_iload ok (dk m_Law_law_0 20 rfl) (pc' := 35) rfl rfl ?_
    refine g_sld ok hX hbl hbA (dk m_Law_law_0 21 rfl) (pc' := 36) rfl rfl (by omega) (by omega) ?_
    refine g_bipush ok (dk m_Law_law_0 22 rfl) (pc' := 38) rfl (v := 31) (by decide) ?_
    refine g_iand ok (dk m_Law_law_0 23 rfl) (pc' := 39) rfl ?_
    generalize xs (4 * n) &&& 31 = v
    by_cases s_0 : v = 0
    · subst s_0
      refine g_tableIn ok (dk m_Law_law_1 0 rfl) (by decide) (by decide) (off := 81) rfl (tgt := 120) (by decide) ?_
      exact lw_c0 E' hi S0 hJ (by omega) hdj hu1 hu2 K l5 l6
    by_cases s_1 : v = 1
    · subst s_1
      refine g_tableIn ok (dk m_Law_law_1 0 rfl) (by decide) (by decide) (off := 137) rfl (tgt := 176) (by decide) ?_
      exact lw_c1 E' hi S1 hJ (by omega) hdj hu1 hu2 K l5 l6
    by_cases s_2 : v = 2
    · subst s_2
      refine g_tableIn ok (dk m_Law_law_1 0 rfl) (by decide) (by decide) (off := 205) rfl (tgt := 244) (by decide) ?_
      exact lw_c2 E' hi S2 hJ (by omega) hdj hu1 hu2 K l5 l6
    by_cases s_3 : v = 3
    · subst s_3
      refine g_tableIn ok (dk m_Law_law_1 0 rfl) (by decide) (by decide) (off := 273) rfl (tgt := 312) (by decide) ?_
      exact lw_c3 E' hi S3 hJ (by omega) hdj hu1 hu2 K l5 l6
    by_cases s_4 : v = 4
    · subst s_4
      refine g_tableIn ok (dk m_Law_law_1 0 rfl) (by decide) (by decide) (off := 329) rfl (tgt := 368) (by decide) ?_
      exact lw_c4 E' hi S4 hJ (by omega) hdj hu1 hu2 K l5 l6
    by_cases s_5 : v = 5
    · subst s_5
      refine g_tableIn ok (dk m_Law_law_1 0 rfl) (by decide) (by decide) (off := 413) rfl (tgt := 452) (by decide) ?_
      exact lw_c5 E' hi S5 hJ (by omega) hdj hu1 hu2 K l5 l6
    by_cases s_6 : v = 6
    · subst s_6
      refine g_tableIn ok (dk m_Law_law_1 0 rfl) (by decide) (by decide) (off := 469) rfl (tgt := 508) (by decide) ?_
      exact lw_c6 E' hi S6 hJ (by omega) hdj hu1 hu2 K l5 l6
    by_cases s_7 : v = 7
    · subst s_7
      refine g_tableIn ok (dk m_Law_law_1 0 rfl) (by decide) (by decide) (off := 525) rfl (tgt := 564) (by decide) ?_
      exact lw_c7 E' hi S7 hJ (by omega) hdj hu1 hu2 K l5 l6
    by_cases s_8 : v = 8
    · subst s_8
      refine g_tableIn ok (dk m_Law_law_1 0 rfl) (by decide) (by decide) (off := 562) rfl (tgt := 601) (by decide) ?_
      exact lw_c8 E' hi S8 hJ (by omega) hdj hu1 hu2 K l5 l6
    by_cases s_9 : v = 9
    · subst s_9
      refine g_tableIn ok (dk m_Law_law_1 0 rfl) (by decide) (by decide) (off := 599) rfl (tgt := 638) (by decide) ?_
      exact lw_c9 E' hi S9 hJ (by omega) hdj hu1 hu2 K l5 l6
    by_cases s_10 : v = 10
    · subst s_10
      refine g_tableIn ok (dk m_Law_law_1 0 rfl) (by decide) (by decide) (off := 624) rfl (tgt := 663) (by decide) ?_
      exact lw_c10 E' hi S10 hJ (by omega) hdj hu1 hu2 K l5 l6
    by_cases s_11 : v = 11
    · subst s_11
      refine g_tableIn ok (dk m_Law_law_1 0 rfl) (by decide) (by decide) (off := 673) rfl (tgt := 712) (by decide) ?_
      exact lw_c11 E' hi S11 hJ (by omega) hdj hu1 hu2 K l5 l6
    by_cases s_12 : v = 12
    · subst s_12
      refine g_tableIn ok (dk m_Law_law_1 0 rfl) (by decide) (by decide) (off := 710) rfl (tgt := 749) (by decide) ?_
      exact lw_c12 E' hi S12 hJ (by omega) hdj hu1 hu2 K l5 l6
    by_cases s_13 : v = 13
    · subst s_13
      refine g_tableIn ok (dk m_Law_law_1 0 rfl) (by decide) (by decide) (off := 723) rfl (tgt := 762) (by decide) ?_
      exact lw_c13 E' hi S13 hJ (by omega) hdj hu1 hu2 K l5 l6
    by_cases s_14 : v = 14
    · subst s_14
      refine g_tableIn ok (dk m_Law_law_1 0 rfl) (by decide) (by decide) (off := 736) rfl (tgt := 775) (by decide) ?_
      exact lw_c14 E' hi S14 hJ (by omega) hdj hu1 hu2 K l5 l6
    by_cases s_15 : v = 15
    · subst s_15
      refine g_tableIn ok (dk m_Law_law_1 0 rfl) (by decide) (by decide) (off := 761) rfl (tgt := 800) (by decide) ?_
      exact lw_c15 E' hi S15 hJ (by omega) hdj hu1 hu2 K l5 l6
    by_cases s_16 : v = 16
    · subst s_16
      refine g_tableIn ok (dk m_Law_law_1 0 rfl) (by decide) (by decide) (off := 798) rfl (tgt := 837) (by decide) ?_
      exact lw_c16 E' hi S16 hJ (by omega) hdj hu1 hu2 K l5 l6
    refine g_tableOut ok (dk m_Law_law_1 0 rfl) (sw_out17 s_0 s_1 s_2 s_3 s_4 s_5 s_6 s_7 s_8 s_9 s_10 s_11 s_12 s_13 s_14 s_15 s_16) (tgt := 850) (by decide) ?_
    exact g_less (by omega) (by omega) (K _ _ _ _ _ _ (hM _ _ _ _ hJ) hdj hu1 hu2)
end LWL
def q_o1 (a : Nat) (x : q_O) : q_H := q_up (fun _ => none) a x
theorem q_up_jn {h : q_H} {a : Nat} {x : q_O} (ha : h a = none) : q_up h a x = q_jn h (q_o1 a x) := by
  funext b
  unfold q_up q_jn q_o1 q_up
  by_cases e : b = a
  · subst e
    rw [ha]
  · rw [if_neg e, if_neg e]
    cases h b <;> rfl
theorem q_dj_o1 {h : q_H} {a : Nat} {x : q_O} (ha : h a = none) : q_dj h (q_o1 a x) := fun b => by
  by_cases e : b = a
  · subst e
    exact Or.inl ha
  · exact Or.inr (if_neg e)
theorem lw_body {J : Nat → Nat → Nat → Int32 → q_H → q_H → Prop} {g : q_G} {Z : q_Z} {A : Nat → Prop} {post : q_R → q_H → Prop} {b L rc rs : Nat} {xs : Nat → Int32} (ok : q_ok g Z A "RatchetGroupLaw" "law" code 7 (some .boolean) 22) (hX : va_X b L xs (zs Z) (zs Z).heap) (hbl : b < (zs Z).heap.size) (hbA : ¬ A b) (hL : L ≤ 2048)
    (hJ0 : ∀ r o h1 h2 w D ob ba, q_RG g h1 r w D ob G_new → q_mo h2 o ba (X_i2 X_i1) → ∃ t, J r o 0 t h1 h2)
    (hT : ∀ r o n t h1 h2, J r o n t h1 h2 → MG g y_Mo_thrown b_Mo_thrown 1 (some .int) 20 0 0 [.ref o] h2 (fun q h' => q = .inl (some (.int t)) ∧ h' = h2))
    (hR : ∀ r o n t h1 h2, J r o n t h1 h2 → ∃ fs, h1 r = some (.inl (0, fs))) (hO : ∀ r o n t h1 h2, J r o n t h1 h2 → ∃ fs, h2 o = some (.inl (11, fs)))
    (hS : ∀ r o a b c, lw_S (J r o) g r o a b c) (hpost : ∀ h, post (.inl (some (.int 1))) h) (hrc : 7500 ≤ rc) (hrs : 200000 ≤ rs) : GW g Z A post rc rs (fun _ => none) 0 [some (.ref b), none, none, none, none, none, none] [] := by
  refine g_less (rc' := 7342 + 1 + 44 + 1 + 128 - 173 + 0) (rs' := 200000) (by omega) (by omega) ?_
  refine g_less (rc' := 7168 + 1 + 44 + 1 + 128 + 1) (rs' := 128000 + 1 + 38008 + 52 + 17581 + 7) (by omega) (by omega) ?_
  refine g_new ok (dk m_Law_law_0 0 rfl) (pc' := 3) rfl o_Law_8 (rc' := 7168 + 1 + 44 + 1 + 128) (rs' := 128000 + 1 + 38008 + 52 + 17581) (by omega) (by omega) (fun r hr0 hrb => ?_)
  refine g_dup ok (dk m_Law_law_0 1 rfl) (pc' := 4) rfl rfl ?_
  refine g_callI ok (dk m_Law_law_0 2 rfl) (pc' := 7) rfl c_Law_37 (c_RG_init g 20 128 17581 (by omega) (by omega) (by omega) (q_up_s _ _ _)) rfl rfl (by simp [Value.category]) (by omega) rfl (rc' := 7168 + 1 + 44 + 1) (rs' := 128000 + 1 + 38008 + 52) (by omega) (by omega) (fun rv h1 hcc => ?_) (fun j h' hcc => by cases hcc.1)
  obtain ⟨e, w, D, ob, HG⟩ := hcc
  cases e
  refine g_astore_n ok (dk m_Law_law_0 3 rfl) (pc' := 8) rfl (i := 1) rfl (Nat.le_of_ble_eq_true rfl) rfl ?_
  refine g_new ok (dk m_Law_law_0 4 rfl) (pc' := 11) rfl o_Law_38 (rc' := 7168 + 1 + 44) (rs' := 128000 + 1 + 38008) (by omega) (by omega) (fun o ho0 hob => ?_)
  refine g_dup ok (dk m_Law_law_0 5 rfl) (pc' := 12) rfl rfl ?_
  rw [q_up_jn ho0]
  refine g_callI ok (dk m_Law_law_0 6 rfl) (pc' := 15) rfl c_Law_40 ((c_Mo_init g 20 44 38008 (by omega) (by omega) (by omega) (q_up_s _ _ _)).right (q_dj_o1 ho0)) rfl rfl (by simp [Value.category]) (by omega) rfl (rc' := 7168 + 1) (rs' := 128000 + 1) (by omega) (by omega) (fun rv h' hcc => ?_) (fun j h' hcc => by obtain ⟨_, ⟨e, -⟩, -⟩ := hcc; cases e)
  obtain ⟨h2, ⟨e, ba, HX⟩, rfl, hdj⟩ := hcc
  cases e
  refine g_astore_n ok (dk m_Law_law_0 7 rfl) (pc' := 16) rfl (i := 2) rfl (Nat.le_of_ble_eq_true rfl) rfl ?_
  refine g_iconst ok (dk m_Law_law_0 8 rfl) (pc' := 17) rfl (v := nI 1) (by decide) ?_
  refine g_newL ok (dk m_Law_law_0 9 rfl) (pc' := 19) rfl (by decide) (rc' := 7168) (rs' := 128000) (by omega) (by omega) (fun u hu hub => ?_)
  refine g_astore_n ok (dk m_Law_law_0 10 rfl) (pc' := 20) rfl (i := 3) rfl (Nat.le_of_ble_eq_true rfl) rfl ?_
  refine g_iconst ok (dk m_Law_law_0 11 rfl) (pc' := 21) rfl (v := nI 0) (by decide) ?_
  refine g_istore ok (dk m_Law_law_0 12 rfl) (pc' := 23) rfl (Nat.le_of_ble_eq_true rfl) rfl ?_
  have hu1 : h1 u = none := by
    cases q : h1 u with
    | none => rfl
    | some x => rw [q_jn_l q] at hu; cases hu
  have hu2 : h2 u = none := by rw [q_jn_r hu1] at hu; exact hu
  have ev : q_up (q_jn h1 h2) u (.inr (3, 1, .inr (.inl (fun _ => 0)))) = q_lv u (fun _ => 0) h1 h2 := by
    funext b
    unfold q_up q_lv q_jn q_o
    by_cases e : b = u
    · subst e
      rw [hu1, if_pos rfl]
      simp
    · rw [if_neg e]
      cases h1 b <;> simp [e]
  rw [ev]
  obtain ⟨t, hJ⟩ := hJ0 r o h1 h2 w D ob ba HG HX
  exact lw_loop (J := J r o) ⟨ok, hX, hbl, hbA, hL, hT r o, hR r o, hO r o⟩ (hS r o) hpost 512 0 rfl t h1 h2 _ _ _ hJ hdj hu1 hu2
