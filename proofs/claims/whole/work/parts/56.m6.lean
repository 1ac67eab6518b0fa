/-! ===== the reference: findRemoves, findUpdates, doRemoves, doUpdates ===== -/
set_option maxHeartbeats 1000000 in
theorem c_Mo_findRemoves (g : q_G) {h : q_H} {o : Nat} {ba : Nat → Nat} {X : x_T} {e D wt : Nat} (mine : Int32) (d : Nat) (he : e + 1 < 60) (hwt : X.1 42 = nI wt) (hwt2 : wt ≤ 20) (hD : X.2 13 e = nI D) (hD4 : D ≤ 4) (hR : ∀ k, k < wt → X.2 43 k = 1 → ∃ l, l < 16 ∧ X.2 45 k = nI l) (H : q_mo h o ba X) : MG g y_Mo_findRemoves b_Mo_findRemoves 5 none d 0 0 [.ref o, .int (nI (e + 1)), .int mine] h (fun q h' => q = .inl none ∧ ∃ X', q_mo h' o ba X' ∧ xfr [17] X X' ∧ X'.2 17 = upd (X.2 17) (e + 1) (fr_m X e D mine wt 0 (X.2 17 (e + 1)))) := by
  refine MG.of (by decide +kernel) (by simp [Value.category]) (Nat.le_of_ble_eq_true rfl) ?_
  intro Z A ok
  have loop : ∀ (m k : Nat), k + m = wt → ∀ (h1 : q_H) (X1 : x_T) (r : Int32) (x4 : Option Value), q_mo h1 o ba X1 → xfr [17] X X1 → X1.2 17 = upd (X.2 17) (e + 1) r → fr_m X e D mine m k r = fr_m X e D mine wt 0 (X.2 17 (e + 1)) → GW g Z A (fun q h' => q = .inl none ∧ ∃ X', q_mo h' o ba X' ∧ xfr [17] X X' ∧ X'.2 17 = upd (X.2 17) (e + 1) (fr_m X e D mine wt 0 (X.2 17 (e + 1)))) 0 0 h1 2 [some (.ref o), some (.int (nI (e + 1))), some (.int mine), some (.int (nI k)), x4] [] := by
    intro m
    induction m with
    | zero =>
      intro k hk h1 X1 r x4 H1 f1 h17 hv
      refine g_iload_n ok (dk m_Mo_findRemoves 2 rfl) (pc' := 3) rfl (i := 3) rfl rfl ?_
      refine g_aload_n ok (dk m_Mo_findRemoves 3 rfl) (pc' := 4) rfl (i := 0) rfl rfl ?_
      refine g_get ok (dk m_Mo_findRemoves 4 rfl) (pc' := 7) rfl f_Mo_195 H1.1 rfl ?_
      refine g_top (w := .int (nI wt)) (congrArg Value.int ((f1 42 (by decide)).1.trans hwt)) ?_
      refine g_icmp_ge ok (dk m_Mo_findRemoves 5 rfl) (tgt := 88) (by decide) (pc' := 10) rfl (fun c_7 => ?_) (fun c_7 => absurd (nI_le (a := wt) (b := k) (by omega) (by omega)) c_7)
      exact g_vret ok (dk m_Mo_findRemoves 56 rfl) rfl ⟨rfl, X1, H1, f1, by rw [h17, ← hv]; rfl⟩
    | succ m ih =>
      intro k hk h1 X1 r x4 H1 f1 h17 hv
      have hk2 : k < wt := by omega
      have e45 : X1.2 45 = X.2 45 := (f1 45 (by decide)).2
      have e43 : X1.2 43 = X.2 43 := (f1 43 (by decide)).2
      have e13 : X1.2 13 = X.2 13 := (f1 13 (by decide)).2
      have e22 : X1.2 22 = X.2 22 := (f1 22 (by decide)).2
      refine g_iload_n ok (dk m_Mo_findRemoves 2 rfl) (pc' := 3) rfl (i := 3) rfl rfl ?_
      refine g_aload_n ok (dk m_Mo_findRemoves 3 rfl) (pc' := 4) rfl (i := 0) rfl rfl ?_
      refine g_get ok (dk m_Mo_findRemoves 4 rfl) (pc' := 7) rfl f_Mo_195 H1.1 rfl ?_
      refine g_top (w := .int (nI wt)) (congrArg Value.int ((f1 42 (by decide)).1.trans hwt)) ?_
      refine g_icmp_ge ok (dk m_Mo_findRemoves 5 rfl) (tgt := 88) (by decide) (pc' := 10) rfl (fun c_7 => absurd c_7 (nI_ge (show k < wt by omega) (by omega))) (fun c_7 => ?_)
      refine g_aload_n ok (dk m_Mo_findRemoves 6 rfl) (pc' := 11) rfl (i := 0) rfl rfl ?_
      refine g_get ok (dk m_Mo_findRemoves 7 rfl) (pc' := 14) rfl f_Mo_128 H1.1 rfl ?_
      refine g_iload_n ok (dk m_Mo_findRemoves 8 rfl) (pc' := 15) rfl (i := 3) rfl rfl ?_
      refine g_ialdI ok (dk m_Mo_findRemoves 9 rfl) (pc' := 16) rfl (j := k) (H1.ar 45 rfl) rfl (show k < 20 by omega) (by decide) ?_
      rw [e45]
      refine g_istore ok (dk m_Mo_findRemoves 10 rfl) (pc' := 18) rfl (Nat.le_of_ble_eq_true rfl) rfl ?_
      refine g_aload_n ok (dk m_Mo_findRemoves 11 rfl) (pc' := 19) rfl (i := 0) rfl rfl ?_
      refine g_get ok (dk m_Mo_findRemoves 12 rfl) (pc' := 22) rfl f_Mo_122 H1.1 rfl ?_
      refine g_iload_n ok (dk m_Mo_findRemoves 13 rfl) (pc' := 23) rfl (i := 3) rfl rfl ?_
      refine g_ialdI ok (dk m_Mo_findRemoves 14 rfl) (pc' := 24) rfl (j := k) (H1.ar 43 rfl) rfl (show k < 20 by omega) (by decide) ?_
      rw [e43]
      refine g_iconst ok (dk m_Mo_findRemoves 15 rfl) (pc' := 25) rfl (v := 1) (by decide) ?_
      refine g_icmp_ne ok (dk m_Mo_findRemoves 16 rfl) (tgt := 82) (by decide) (pc' := 28) rfl (fun c_25 => ?_) (fun c_25 => ?_)
      · refine g_iinc ok (dk m_Mo_findRemoves 54 rfl) (pc' := 85) rfl rfl (nI_1 k) rfl ?_
        refine g_goto ok (dk m_Mo_findRemoves 55 rfl) (pc' := 2) (by decide) ?_
        exact ih (k + 1) (by omega) _ X1 r _ H1 f1 h17 (by rw [← hv, fr_m, if_neg (fun z => c_25 z.1)])
      · obtain ⟨l, hl, hll⟩ := hR k hk2 c_25
        have hxl : ix (nI l) = l := ix_nI (by omega)
        rw [hll]
        refine g_iload ok (dk m_Mo_findRemoves 17 rfl) (pc' := 30) rfl rfl ?_
        refine g_iconst ok (dk m_Mo_findRemoves 18 rfl) (pc' := 31) rfl (v := 1) (by decide) ?_
        refine g_aload_n ok (dk m_Mo_findRemoves 19 rfl) (pc' := 32) rfl (i := 0) rfl rfl ?_
        refine g_get ok (dk m_Mo_findRemoves 20 rfl) (pc' := 35) rfl f_Mo_38 H1.1 rfl ?_
        refine g_iload_n ok (dk m_Mo_findRemoves 21 rfl) (pc' := 36) rfl (i := 1) rfl rfl ?_
        refine g_iconst ok (dk m_Mo_findRemoves 22 rfl) (pc' := 37) rfl (v := 1) (by decide) ?_
        refine g_isub ok (dk m_Mo_findRemoves 23 rfl) (pc' := 38) rfl ?_
        refine g_ialdI ok (dk m_Mo_findRemoves 24 rfl) (pc' := 39) rfl (j := e) (H1.ar 13 rfl) (nI_pred e) (show e < 60 by omega) (by decide) ?_
        rw [e13, hD]
        refine g_ishl ok (dk m_Mo_findRemoves 25 rfl) (pc' := 40) rfl ?_
        rw [j_shl D hD4]
        refine g_icmp_ge ok (dk m_Mo_findRemoves 26 rfl) (tgt := 82) (by decide) (pc' := 43) rfl (fun c_40 => ?_) (fun c_40 => ?_)
        · refine g_iinc ok (dk m_Mo_findRemoves 54 rfl) (pc' := 85) rfl rfl (nI_1 k) rfl ?_
          refine g_goto ok (dk m_Mo_findRemoves 55 rfl) (pc' := 2) (by decide) ?_
          exact ih (k + 1) (by omega) _ X1 r _ H1 f1 h17 (by rw [← hv, fr_m, if_neg (fun z => by have q := z.2.1; rw [hll] at q; exact Int32.lt_irrefl (Int32.lt_of_lt_of_le q c_40))])
        · refine g_aload_n ok (dk m_Mo_findRemoves 27 rfl) (pc' := 44) rfl (i := 0) rfl rfl ?_
          refine g_get ok (dk m_Mo_findRemoves 28 rfl) (pc' := 47) rfl f_Mo_65 H1.1 rfl ?_
          refine g_bipush ok (dk m_Mo_findRemoves 29 rfl) (pc' := 49) rfl (v := 31) (by decide) ?_
          refine g_iload_n ok (dk m_Mo_findRemoves 30 rfl) (pc' := 50) rfl (i := 1) rfl rfl ?_
          refine g_iconst ok (dk m_Mo_findRemoves 31 rfl) (pc' := 51) rfl (v := 1) (by decide) ?_
          refine g_isub ok (dk m_Mo_findRemoves 32 rfl) (pc' := 52) rfl ?_
          refine g_imul ok (dk m_Mo_findRemoves 33 rfl) (pc' := 53) rfl ?_
          refine g_iconst ok (dk m_Mo_findRemoves 34 rfl) (pc' := 54) rfl (v := 2) (by decide) ?_
          refine g_iload ok (dk m_Mo_findRemoves 35 rfl) (pc' := 56) rfl rfl ?_
          refine g_imul ok (dk m_Mo_findRemoves 36 rfl) (pc' := 57) rfl ?_
          refine g_iadd ok (dk m_Mo_findRemoves 37 rfl) (pc' := 58) rfl ?_
          refine g_ialdI ok (dk m_Mo_findRemoves 38 rfl) (pc' := 59) rfl (j := 31 * e + 2 * l) (H1.ar 22 rfl) (by rw [nI_pred, ix2, ix31]) (show 31 * e + 2 * l < 1860 by omega) (by decide) ?_
          rw [e22]
          refine g_iconst ok (dk m_Mo_findRemoves 39 rfl) (pc' := 60) rfl (v := (-1)) (by decide) ?_
          refine g_icmp_eq ok (dk m_Mo_findRemoves 40 rfl) (tgt := 82) (by decide) (pc' := 63) rfl (fun c_60 => ?_) (fun c_60 => ?_)
          · refine g_iinc ok (dk m_Mo_findRemoves 54 rfl) (pc' := 85) rfl rfl (nI_1 k) rfl ?_
            refine g_goto ok (dk m_Mo_findRemoves 55 rfl) (pc' := 2) (by decide) ?_
            exact ih (k + 1) (by omega) _ X1 r _ H1 f1 h17 (by rw [← hv, fr_m, if_neg (fun z => z.2.2.1 (by rw [hll, hxl]; exact c_60))])
          · refine g_iload ok (dk m_Mo_findRemoves 41 rfl) (pc' := 65) rfl rfl ?_
            refine g_iload_n ok (dk m_Mo_findRemoves 42 rfl) (pc' := 66) rfl (i := 2) rfl rfl ?_
            refine g_icmp_eq ok (dk m_Mo_findRemoves 43 rfl) (tgt := 82) (by decide) (pc' := 69) rfl (fun c_66 => ?_) (fun c_66 => ?_)
            · refine g_iinc ok (dk m_Mo_findRemoves 54 rfl) (pc' := 85) rfl rfl (nI_1 k) rfl ?_
              refine g_goto ok (dk m_Mo_findRemoves 55 rfl) (pc' := 2) (by decide) ?_
              exact ih (k + 1) (by omega) _ X1 r _ H1 f1 h17 (by rw [← hv, fr_m, if_neg (fun z => z.2.2.2 (by rw [hll]; exact c_66))])
            · refine g_aload_n ok (dk m_Mo_findRemoves 44 rfl) (pc' := 70) rfl (i := 0) rfl rfl ?_
              refine g_get ok (dk m_Mo_findRemoves 45 rfl) (pc' := 73) rfl f_Mo_50 H1.1 rfl ?_
              refine g_iload_n ok (dk m_Mo_findRemoves 46 rfl) (pc' := 74) rfl (i := 1) rfl rfl ?_
              refine g_dup2 ok (dk m_Mo_findRemoves 47 rfl) (pc' := 75) rfl rfl rfl ?_
              refine g_ialdI ok (dk m_Mo_findRemoves 48 rfl) (pc' := 76) rfl (j := (e + 1)) (H1.ar 17 rfl) rfl (show (e + 1) < 60 by omega) (by decide) ?_
              refine g_top (w := .int r) (congrArg Value.int (by rw [h17, upd_s])) ?_
              refine g_iconst ok (dk m_Mo_findRemoves 49 rfl) (pc' := 77) rfl (v := 1) (by decide) ?_
              refine g_iload ok (dk m_Mo_findRemoves 50 rfl) (pc' := 79) rfl rfl ?_
              refine g_ishl ok (dk m_Mo_findRemoves 51 rfl) (pc' := 80) rfl ?_
              refine g_ior ok (dk m_Mo_findRemoves 52 rfl) (pc' := 81) rfl ?_
              refine g_iastI ok (dk m_Mo_findRemoves 53 rfl) (pc' := 82) rfl (j := (e + 1)) (H1.ar 17 rfl) rfl (show (e + 1) < 60 by omega) (by decide) (fun z1 e1 => ?_)
              have Y1 := H1.ast 17 rfl e1
              clear e1
              refine g_iinc ok (dk m_Mo_findRemoves 54 rfl) (pc' := 85) rfl rfl (nI_1 k) rfl ?_
              refine g_goto ok (dk m_Mo_findRemoves 55 rfl) (pc' := 2) (by decide) ?_
              exact ih (k + 1) (by omega) _ _ _ _ Y1 (f1.xs 17 _ _ (by decide)) (by
              show upd (X1.2 17) (e + 1) _ = _
              rw [h17, upd_upd]) (by rw [← hv, fr_m, if_pos ⟨c_25, by rw [hll]; exact Int32.not_le.mp c_40, by rw [hll, hxl]; exact c_60, by rw [hll]; exact c_66⟩, hll])
  refine g_iconst ok (dk m_Mo_findRemoves 0 rfl) (pc' := 1) rfl (v := 0) (by decide) ?_
  refine g_istore_n ok (dk m_Mo_findRemoves 1 rfl) (pc' := 2) rfl (i := 3) rfl (Nat.le_of_ble_eq_true rfl) rfl ?_
  exact loop wt 0 (by omega) _ _ _ _ H xfr.rf (upd_self _ _).symm rfl
set_option maxHeartbeats 1000000 in
theorem c_Mo_findUpdates (g : q_G) {h : q_H} {o : Nat} {ba : Nat → Nat} {X : x_T} {e wt : Nat} (mine : Int32) (d : Nat) (he : e < 60) (hwt : X.1 42 = nI wt) (hwt2 : wt ≤ 20) (hP : ∀ k, k < wt → ∃ j, j < 16 ∧ X.2 44 k = nI j) (hL : ∀ k, k < wt → X.2 43 k = 2 → ∃ l, l < 16 ∧ fu_l X k = nI l) (H : q_mo h o ba X) : MG g y_Mo_findUpdates b_Mo_findUpdates 5 none d 0 0 [.ref o, .int (nI e), .int mine] h (fun q h' => q = .inl none ∧ ∃ X', q_mo h' o ba X' ∧ xfr [18, 51] X X' ∧ X'.2 18 = upd (X.2 18) e (fu_m X e mine wt 0 (X.2 18 e, X.2 51)).1 ∧ X'.2 51 = (fu_m X e mine wt 0 (X.2 18 e, X.2 51)).2) := by
  refine MG.of (by decide +kernel) (by simp [Value.category]) (Nat.le_of_ble_eq_true rfl) ?_
  intro Z A ok
  have loop : ∀ (m k : Nat), k + m = wt → ∀ (h1 : q_H) (X1 : x_T) (pr : Int32 × (Nat → Int32)) (x4 : Option Value), q_mo h1 o ba X1 → xfr [18, 51] X X1 → X1.2 18 = upd (X.2 18) e pr.1 → X1.2 51 = pr.2 → fu_m X e mine m k pr = fu_m X e mine wt 0 (X.2 18 e, X.2 51) → GW g Z A (fun q h' => q = .inl none ∧ ∃ X', q_mo h' o ba X' ∧ xfr [18, 51] X X' ∧ X'.2 18 = upd (X.2 18) e (fu_m X e mine wt 0 (X.2 18 e, X.2 51)).1 ∧ X'.2 51 = (fu_m X e mine wt 0 (X.2 18 e, X.2 51)).2) 0 0 h1 2 [some (.ref o), some (.int (nI e)), some (.int mine), some (.int (nI k)), x4] [] := by
    intro m
    induction m with
    | zero =>
      intro k hk h1 X1 pr x4 H1 f1 h18 h51 hv
      refine g_iload_n ok (dk m_Mo_findUpdates 2 rfl) (pc' := 3) rfl (i := 3) rfl rfl ?_
      refine g_aload_n ok (dk m_Mo_findUpdates 3 rfl) (pc' := 4) rfl (i := 0) rfl rfl ?_
      refine g_get ok (dk m_Mo_findUpdates 4 rfl) (pc' := 7) rfl f_Mo_195 H1.1 rfl ?_
      refine g_top (w := .int (nI wt)) (congrArg Value.int ((f1 42 (by decide)).1.trans hwt)) ?_
      refine g_icmp_ge ok (dk m_Mo_findUpdates 5 rfl) (tgt := 89) (by decide) (pc' := 10) rfl (fun c_7 => ?_) (fun c_7 => absurd (nI_le (a := wt) (b := k) (by omega) (by omega)) c_7)
      exact g_vret ok (dk m_Mo_findUpdates 54 rfl) rfl ⟨rfl, X1, H1, f1, by rw [h18, ← hv]; rfl, by rw [h51, ← hv]; rfl⟩
    | succ m ih =>
      intro k hk h1 X1 pr x4 H1 f1 h18 h51 hv
      have hk2 : k < wt := by omega
      have e45 : X1.2 45 = X.2 45 := (f1 45 (by decide)).2
      have e43 : X1.2 43 = X.2 43 := (f1 43 (by decide)).2
      have e44 : X1.2 44 = X.2 44 := (f1 44 (by decide)).2
      have e28 : X1.2 28 = X.2 28 := (f1 28 (by decide)).2
      have e17 : X1.2 17 = X.2 17 := (f1 17 (by decide)).2
      refine g_iload_n ok (dk m_Mo_findUpdates 2 rfl) (pc' := 3) rfl (i := 3) rfl rfl ?_
      refine g_aload_n ok (dk m_Mo_findUpdates 3 rfl) (pc' := 4) rfl (i := 0) rfl rfl ?_
      refine g_get ok (dk m_Mo_findUpdates 4 rfl) (pc' := 7) rfl f_Mo_195 H1.1 rfl ?_
      refine g_top (w := .int (nI wt)) (congrArg Value.int ((f1 42 (by decide)).1.trans hwt)) ?_
      refine g_icmp_ge ok (dk m_Mo_findUpdates 5 rfl) (tgt := 89) (by decide) (pc' := 10) rfl (fun c_7 => absurd c_7 (nI_ge (show k < wt by omega) (by omega))) (fun c_7 => ?_)
      refine g_aload_n ok (dk m_Mo_findUpdates 6 rfl) (pc' := 11) rfl (i := 0) rfl rfl ?_
      refine g_get ok (dk m_Mo_findUpdates 7 rfl) (pc' := 14) rfl f_Mo_83 H1.1 rfl ?_
      refine g_aload_n ok (dk m_Mo_findUpdates 8 rfl) (pc' := 15) rfl (i := 0) rfl rfl ?_
      refine g_get ok (dk m_Mo_findUpdates 9 rfl) (pc' := 18) rfl f_Mo_125 H1.1 rfl ?_
      refine g_iload_n ok (dk m_Mo_findUpdates 10 rfl) (pc' := 19) rfl (i := 3) rfl rfl ?_
      refine g_ialdI ok (dk m_Mo_findUpdates 11 rfl) (pc' := 20) rfl (j := k) (H1.ar 44 rfl) rfl (show k < 20 by omega) (by decide) ?_
      obtain ⟨j, hj, hjj⟩ := hP k hk2
      refine g_top (w := .int (nI j)) (congrArg Value.int ((congrFun e44 k).trans hjj)) ?_
      refine g_ialdI ok (dk m_Mo_findUpdates 12 rfl) (pc' := 21) rfl (j := j) (H1.ar 28 rfl) rfl (show j < 16 by omega) (by decide) ?_
      refine g_top (w := .int (fu_l X k)) (congrArg Value.int (by rw [e28, fu_l, hjj, ix_nI (by omega)])) ?_
      refine g_istore ok (dk m_Mo_findUpdates 13 rfl) (pc' := 23) rfl (Nat.le_of_ble_eq_true rfl) rfl ?_
      refine g_aload_n ok (dk m_Mo_findUpdates 14 rfl) (pc' := 24) rfl (i := 0) rfl rfl ?_
      refine g_get ok (dk m_Mo_findUpdates 15 rfl) (pc' := 27) rfl f_Mo_122 H1.1 rfl ?_
      refine g_iload_n ok (dk m_Mo_findUpdates 16 rfl) (pc' := 28) rfl (i := 3) rfl rfl ?_
      refine g_ialdI ok (dk m_Mo_findUpdates 17 rfl) (pc' := 29) rfl (j := k) (H1.ar 43 rfl) rfl (show k < 20 by omega) (by decide) ?_
      rw [e43]
      refine g_iconst ok (dk m_Mo_findUpdates 18 rfl) (pc' := 30) rfl (v := 2) (by decide) ?_
      refine g_icmp_ne ok (dk m_Mo_findUpdates 19 rfl) (tgt := 83) (by decide) (pc' := 33) rfl (fun c_30 => ?_) (fun c_30 => ?_)
      · refine g_iinc ok (dk m_Mo_findUpdates 52 rfl) (pc' := 86) rfl rfl (nI_1 k) rfl ?_
        refine g_goto ok (dk m_Mo_findUpdates 53 rfl) (pc' := 2) (by decide) ?_
        exact ih (k + 1) (by omega) _ X1 pr _ H1 f1 h18 h51 (by rw [← hv, fu_m, if_neg (fun z => c_30 z.1)])
      · obtain ⟨l, hl, hll⟩ := hL k hk2 c_30
        refine g_iload ok (dk m_Mo_findUpdates 20 rfl) (pc' := 35) rfl rfl ?_
        refine g_iload_n ok (dk m_Mo_findUpdates 21 rfl) (pc' := 36) rfl (i := 2) rfl rfl ?_
        refine g_icmp_eq ok (dk m_Mo_findUpdates 22 rfl) (tgt := 83) (by decide) (pc' := 39) rfl (fun c_36 => ?_) (fun c_36 => ?_)
        · refine g_iinc ok (dk m_Mo_findUpdates 52 rfl) (pc' := 86) rfl rfl (nI_1 k) rfl ?_
          refine g_goto ok (dk m_Mo_findUpdates 53 rfl) (pc' := 2) (by decide) ?_
          exact ih (k + 1) (by omega) _ X1 pr _ H1 f1 h18 h51 (by rw [← hv, fu_m, if_neg (fun z => z.2.1 c_36)])
        · refine g_aload_n ok (dk m_Mo_findUpdates 23 rfl) (pc' := 40) rfl (i := 0) rfl rfl ?_
          refine g_get ok (dk m_Mo_findUpdates 24 rfl) (pc' := 43) rfl f_Mo_50 H1.1 rfl ?_
          refine g_iload_n ok (dk m_Mo_findUpdates 25 rfl) (pc' := 44) rfl (i := 1) rfl rfl ?_
          refine g_ialdI ok (dk m_Mo_findUpdates 26 rfl) (pc' := 45) rfl (j := e) (H1.ar 17 rfl) rfl (show e < 60 by omega) (by decide) ?_
          rw [e17]
          refine g_iload ok (dk m_Mo_findUpdates 27 rfl) (pc' := 47) rfl rfl ?_
          refine g_ishr ok (dk m_Mo_findUpdates 28 rfl) (pc' := 48) rfl ?_
          refine g_iconst ok (dk m_Mo_findUpdates 29 rfl) (pc' := 49) rfl (v := 1) (by decide) ?_
          refine g_iand ok (dk m_Mo_findUpdates 30 rfl) (pc' := 50) rfl ?_
          refine g_iconst ok (dk m_Mo_findUpdates 31 rfl) (pc' := 51) rfl (v := 1) (by decide) ?_
          refine g_icmp_ne ok (dk m_Mo_findUpdates 32 rfl) (tgt := 57) (by decide) (pc' := 54) rfl (fun c_51 => ?_) (fun c_51 => ?_)
          · refine g_aload_n ok (dk m_Mo_findUpdates 34 rfl) (pc' := 58) rfl (i := 0) rfl rfl ?_
            refine g_get ok (dk m_Mo_findUpdates 35 rfl) (pc' := 61) rfl f_Mo_53 H1.1 rfl ?_
            refine g_iload_n ok (dk m_Mo_findUpdates 36 rfl) (pc' := 62) rfl (i := 1) rfl rfl ?_
            refine g_dup2 ok (dk m_Mo_findUpdates 37 rfl) (pc' := 63) rfl rfl rfl ?_
            refine g_ialdI ok (dk m_Mo_findUpdates 38 rfl) (pc' := 64) rfl (j := e) (H1.ar 18 rfl) rfl (show e < 60 by omega) (by decide) ?_
            refine g_top (w := .int pr.1) (congrArg Value.int (by rw [h18, upd_s])) ?_
            refine g_iconst ok (dk m_Mo_findUpdates 39 rfl) (pc' := 65) rfl (v := 1) (by decide) ?_
            refine g_iload ok (dk m_Mo_findUpdates 40 rfl) (pc' := 67) rfl rfl ?_
            refine g_ishl ok (dk m_Mo_findUpdates 41 rfl) (pc' := 68) rfl ?_
            refine g_ior ok (dk m_Mo_findUpdates 42 rfl) (pc' := 69) rfl ?_
            refine g_iastI ok (dk m_Mo_findUpdates 43 rfl) (pc' := 70) rfl (j := e) (H1.ar 18 rfl) rfl (show e < 60 by omega) (by decide) (fun z1 e1 => ?_)
            have Y1 := H1.ast 18 rfl e1
            clear e1
            refine g_aload_n ok (dk m_Mo_findUpdates 44 rfl) (pc' := 71) rfl (i := 0) rfl rfl ?_
            refine g_get ok (dk m_Mo_findUpdates 45 rfl) (pc' := 74) rfl f_Mo_140 Y1.1 rfl ?_
            refine g_iload ok (dk m_Mo_findUpdates 46 rfl) (pc' := 76) rfl rfl ?_
            refine g_aload_n ok (dk m_Mo_findUpdates 47 rfl) (pc' := 77) rfl (i := 0) rfl rfl ?_
            refine g_get ok (dk m_Mo_findUpdates 48 rfl) (pc' := 80) rfl f_Mo_128 Y1.1 rfl ?_
            refine g_iload_n ok (dk m_Mo_findUpdates 49 rfl) (pc' := 81) rfl (i := 3) rfl rfl ?_
            refine g_ialdI ok (dk m_Mo_findUpdates 50 rfl) (pc' := 82) rfl (j := k) (Y1.ar 45 rfl) rfl (show k < 20 by omega) (by decide) ?_
            refine g_top (w := .int (X.2 45 k)) (congrArg Value.int (congrFun e45 k)) ?_
            refine g_iastI ok (dk m_Mo_findUpdates 51 rfl) (pc' := 83) rfl (j := l) (Y1.ar 51 rfl) hll (show l < 16 by omega) (by decide) (fun z2 e2 => ?_)
            have Y2 := Y1.ast 51 rfl e2
            clear e2
            refine g_iinc ok (dk m_Mo_findUpdates 52 rfl) (pc' := 86) rfl rfl (nI_1 k) rfl ?_
            refine g_goto ok (dk m_Mo_findUpdates 53 rfl) (pc' := 2) (by decide) ?_
            exact ih (k + 1) (by omega) _ _ (pr.1 ||| ((1 : Int32) <<< (fu_l X k &&& 31)), upd pr.2 l (X.2 45 k)) _ Y2 ((f1.xs 18 _ _ (by decide)).xs 51 _ _ (by decide)) (by
              show upd (X1.2 18) e _ = _
              rw [h18, upd_upd]) (by
              show upd (X1.2 51) l _ = _
              rw [h51]) (by rw [← hv, fu_m, if_pos ⟨c_30, c_36, c_51⟩, hll, ix_nI (by omega)])
          · refine g_goto ok (dk m_Mo_findUpdates 33 rfl) (pc' := 83) (by decide) ?_
            refine g_iinc ok (dk m_Mo_findUpdates 52 rfl) (pc' := 86) rfl rfl (nI_1 k) rfl ?_
            refine g_goto ok (dk m_Mo_findUpdates 53 rfl) (pc' := 2) (by decide) ?_
            exact ih (k + 1) (by omega) _ X1 pr _ H1 f1 h18 h51 (by rw [← hv, fu_m, if_neg (fun z => z.2.2 c_51)])
  refine g_iconst ok (dk m_Mo_findUpdates 0 rfl) (pc' := 1) rfl (v := 0) (by decide) ?_
  refine g_istore_n ok (dk m_Mo_findUpdates 1 rfl) (pc' := 2) rfl (i := 3) rfl (Nat.le_of_ble_eq_true rfl) rfl ?_
  exact loop wt 0 (by omega) _ _ (X.2 18 e, X.2 51) _ H xfr.rf (upd_self _ _).symm rfl rfl
set_option maxHeartbeats 1000000 in
theorem c_Mo_doRemoves (g : q_G) {h : q_H} {o : Nat} {ba : Nat → Nat} {X : x_T} {e D : Nat} (d : Nat) (hd : 2 ≤ d) (he : e < 60) (hD : X.2 13 e = nI D) (hD4 : D ≤ 4) (H : q_mo h o ba X) : MG g y_Mo_doRemoves b_Mo_doRemoves 3 none d 0 0 [.ref o, .int (nI e)] h (fun q h' => q = .inl none ∧ q_mo h' o ba (dr_s e D (dr_m e D (X.2 17 e) 16 0 X))) := by
  refine MG.of (by decide +kernel) (by simp [Value.category]) (Nat.le_of_ble_eq_true rfl) ?_
  intro Z A ok
  obtain ⟨b, hb⟩ : ∃ b, X.2 17 e = b := ⟨_, rfl⟩
  have loop2 : ∀ D2 : Nat, D2 ≤ 4 → ∀ (h1 : q_H) (X1 : x_T) (x2 : Option Value), q_mo h1 o ba X1 → X1.2 13 e = nI D2 → dr_s e D2 X1 = dr_s e D (dr_m e D (X.2 17 e) 16 0 X) → GW g Z A (fun q h' => q = .inl none ∧ q_mo h' o ba (dr_s e D (dr_m e D (X.2 17 e) 16 0 X))) 0 0 h1 56 [some (.ref o), some (.int (nI e)), x2] [] := by
    intro D2
    induction D2 with
    | zero =>
      intro h4 h1 X1 x2 H1 hD1 hv
      refine g_aload_n ok (dk m_Mo_doRemoves 36 rfl) (pc' := 57) rfl (i := 0) rfl rfl ?_
      refine g_get ok (dk m_Mo_doRemoves 37 rfl) (pc' := 60) rfl f_Mo_38 H1.1 rfl ?_
      refine g_iload_n ok (dk m_Mo_doRemoves 38 rfl) (pc' := 61) rfl (i := 1) rfl rfl ?_
      refine g_ialdI ok (dk m_Mo_doRemoves 39 rfl) (pc' := 62) rfl (j := e) (H1.ar 13 rfl) rfl (show e < 60 by omega) (by decide) ?_
      rw [hD1]
      refine g_if_le ok (dk m_Mo_doRemoves 40 rfl) (tgt := 110) (by decide) (pc' := 65) rfl (fun c_62 => ?_) (fun c_62 => absurd (show nI 0 ≤ 0 by decide) c_62)
      exact g_vret ok (dk m_Mo_doRemoves 67 rfl) rfl ⟨rfl, by rw [← hv]; exact H1⟩
    | succ D2 ihD =>
      intro h4 h1 X1 x2 H1 hD1 hv
      have hDd : 2 ^ (D2 + 1) ≤ 16 := p2_le (by omega)
      have hDp : 1 ≤ 2 ^ (D2 + 1) := Nat.one_le_two_pow
      have loop3 : ∀ (x : Nat) (m k : Nat), k + m = 31 → ∀ (h1 : q_H) (X1 : x_T), q_mo h1 o ba X1 → X1.2 13 e = nI D2 → dr_s e D2 (dr_v e m k X1) = dr_s e D (dr_m e D (X.2 17 e) 16 0 X) → GW g Z A (fun q h' => q = .inl none ∧ q_mo h' o ba (dr_s e D (dr_m e D (X.2 17 e) 16 0 X))) 0 0 h1 89 [some (.ref o), some (.int (nI e)), some (.int (nI k))] [] := by
        intro x m
        induction m with
        | zero =>
          intro k hk h1 X1 H1 hD1 hv
          refine g_iload_n ok (dk m_Mo_doRemoves 57 rfl) (pc' := 90) rfl (i := 2) rfl rfl ?_
          refine g_bipush ok (dk m_Mo_doRemoves 58 rfl) (pc' := 92) rfl (v := 31) (by decide) ?_
          refine g_icmp_ge ok (dk m_Mo_doRemoves 59 rfl) (tgt := 107) (by decide) (pc' := 95) rfl (fun c_92 => ?_) (fun c_92 => absurd (show nI 31 ≤ nI k from by rw [show k = 31 by omega]; exact Int32.le_refl _) c_92)
          refine g_goto ok (dk m_Mo_doRemoves 66 rfl) (pc' := 56) (by decide) ?_
          exact ihD (by omega) _ _ _ H1 hD1 hv
        | succ m ih =>
          intro k hk h1 X1 H1 hD1 hv
          refine g_iload_n ok (dk m_Mo_doRemoves 57 rfl) (pc' := 90) rfl (i := 2) rfl rfl ?_
          refine g_bipush ok (dk m_Mo_doRemoves 58 rfl) (pc' := 92) rfl (v := 31) (by decide) ?_
          refine g_icmp_ge ok (dk m_Mo_doRemoves 59 rfl) (tgt := 107) (by decide) (pc' := 95) rfl (fun c_92 => absurd c_92 (show ¬ nI 31 ≤ nI k from nI_ge (by omega) (by decide))) (fun c_92 => ?_)
          refine g_aload_n ok (dk m_Mo_doRemoves 60 rfl) (pc' := 96) rfl (i := 0) rfl rfl ?_
          refine g_iload_n ok (dk m_Mo_doRemoves 61 rfl) (pc' := 97) rfl (i := 1) rfl rfl ?_
          refine g_iload_n ok (dk m_Mo_doRemoves 62 rfl) (pc' := 98) rfl (i := 2) rfl rfl ?_
          refine g_callV ok (dk m_Mo_doRemoves 63 rfl) (pc' := 101) rfl c_Mo_172 (c_Mo_blank g (e := e) (v := k) 0 he (by omega) H1) H1.1 rfl rfl (by simp [Value.category]) (by omega) rfl (rc' := 0) (rs' := 0) (by omega) (by omega) (fun rv h' hcc => ?_) (fun i h' hcc => by obtain ⟨e9, -⟩ := hcc; cases e9)
          obtain ⟨e9, Y1⟩ := hcc
          cases e9
          refine g_iinc ok (dk m_Mo_doRemoves 64 rfl) (pc' := 104) rfl rfl (nI_1 k) rfl ?_
          refine g_goto ok (dk m_Mo_doRemoves 65 rfl) (pc' := 89) (by decide) ?_
          exact ih (k + 1) (by omega) _ _ Y1 hD1 hv
      refine g_aload_n ok (dk m_Mo_doRemoves 36 rfl) (pc' := 57) rfl (i := 0) rfl rfl ?_
      refine g_get ok (dk m_Mo_doRemoves 37 rfl) (pc' := 60) rfl f_Mo_38 H1.1 rfl ?_
      refine g_iload_n ok (dk m_Mo_doRemoves 38 rfl) (pc' := 61) rfl (i := 1) rfl rfl ?_
      refine g_ialdI ok (dk m_Mo_doRemoves 39 rfl) (pc' := 62) rfl (j := e) (H1.ar 13 rfl) rfl (show e < 60 by omega) (by decide) ?_
      rw [hD1]
      refine g_if_le ok (dk m_Mo_doRemoves 40 rfl) (tgt := 110) (by decide) (pc' := 65) rfl (fun c_62 => absurd c_62 (nI_nle (by omega) (by omega))) (fun c_62 => ?_)
      refine g_aload_n ok (dk m_Mo_doRemoves 41 rfl) (pc' := 66) rfl (i := 0) rfl rfl ?_
      refine g_iload_n ok (dk m_Mo_doRemoves 42 rfl) (pc' := 67) rfl (i := 1) rfl rfl ?_
      refine g_callV ok (dk m_Mo_doRemoves 43 rfl) (pc' := 70) rfl c_Mo_201 (c_Mo_isRightBlank g (e := e) (D := D2 + 1) 0 he hD1 (by omega) (by omega) H1) H1.1 rfl rfl (by simp [Value.category]) (by omega) rfl (rc' := 0) (rs' := 0) (by omega) (by omega) (fun rv h' hcc => ?_) (fun i h' hcc => by obtain ⟨e9, -⟩ := hcc; cases e9)
      obtain ⟨e9, e2⟩ := hcc
      have e3 := e2.symm
      subst e3
      cases e9
      refine g_if_eq ok (dk m_Mo_doRemoves 44 rfl) (tgt := 110) (by decide) (pc' := 73) rfl (fun c_70 => ?_) (fun c_70 => ?_)
      · exact g_vret ok (dk m_Mo_doRemoves 67 rfl) rfl ⟨rfl, by rw [← hv, dr_s, if_neg (show ¬ dr_r X1 e (D2 + 1) from b2i_0 c_70)]; exact H1⟩
      · refine g_aload_n ok (dk m_Mo_doRemoves 45 rfl) (pc' := 74) rfl (i := 0) rfl rfl ?_
        refine g_get ok (dk m_Mo_doRemoves 46 rfl) (pc' := 77) rfl f_Mo_38 H1.1 rfl ?_
        refine g_iload_n ok (dk m_Mo_doRemoves 47 rfl) (pc' := 78) rfl (i := 1) rfl rfl ?_
        refine g_dup2 ok (dk m_Mo_doRemoves 48 rfl) (pc' := 79) rfl rfl rfl ?_
        refine g_ialdI ok (dk m_Mo_doRemoves 49 rfl) (pc' := 80) rfl (j := e) (H1.ar 13 rfl) rfl (show e < 60 by omega) (by decide) ?_
        rw [hD1]
        refine g_iconst ok (dk m_Mo_doRemoves 50 rfl) (pc' := 81) rfl (v := 1) (by decide) ?_
        refine g_isub ok (dk m_Mo_doRemoves 51 rfl) (pc' := 82) rfl ?_
        rw [nI_pred]
        refine g_iastI ok (dk m_Mo_doRemoves 52 rfl) (pc' := 83) rfl (j := e) (H1.ar 13 rfl) rfl (show e < 60 by omega) (by decide) (fun z1 e1 => ?_)
        have Y1 := H1.ast 13 rfl e1
        clear e1
        refine g_aload_n ok (dk m_Mo_doRemoves 53 rfl) (pc' := 84) rfl (i := 0) rfl rfl ?_
        refine g_iload_n ok (dk m_Mo_doRemoves 54 rfl) (pc' := 85) rfl (i := 1) rfl rfl ?_
        refine g_callV ok (dk m_Mo_doRemoves 55 rfl) (pc' := 88) rfl c_Mo_192 (c_Mo_width g (e := e) (D := D2) 0 he (xs_s _ _ _ _) (by omega) Y1) Y1.1 rfl rfl (by simp [Value.category]) (by omega) rfl (rc' := 0) (rs' := 0) (by omega) (by omega) (fun rv h' hcc => ?_) (fun i h' hcc => by obtain ⟨e9, -⟩ := hcc; cases e9)
        obtain ⟨e9, e2⟩ := hcc
        have e3 := e2.symm
        subst e3
        cases e9
        refine g_istore_n ok (dk m_Mo_doRemoves 56 rfl) (pc' := 89) rfl (i := 2) rfl (Nat.le_of_ble_eq_true rfl) rfl ?_
        exact loop3 0 (31 - (2 ^ (D2 + 1) - 1)) (2 ^ (D2 + 1) - 1) (by omega) _ _ Y1 (xs_s _ _ _ _) (by rw [← hv, dr_s, if_pos (show dr_r X1 e (D2 + 1) from b2i_n c_70)])
  have loop1 : ∀ (m k : Nat), k + m = 16 → ∀ (h1 : q_H) (X1 : x_T), q_mo h1 o ba X1 → X1.2 13 e = nI D → X1.2 17 e = b → dr_m e D b m k X1 = dr_m e D (X.2 17 e) 16 0 X → GW g Z A (fun q h' => q = .inl none ∧ q_mo h' o ba (dr_s e D (dr_m e D (X.2 17 e) 16 0 X))) 0 0 h1 2 [some (.ref o), some (.int (nI e)), some (.int (nI k))] [] := by
    intro m
    induction m with
    | zero =>
      intro k hk h1 X1 H1 hD1 hb hv
      refine g_iload_n ok (dk m_Mo_doRemoves 2 rfl) (pc' := 3) rfl (i := 2) rfl rfl ?_
      refine g_bipush ok (dk m_Mo_doRemoves 3 rfl) (pc' := 5) rfl (v := 16) (by decide) ?_
      refine g_icmp_ge ok (dk m_Mo_doRemoves 4 rfl) (tgt := 56) (by decide) (pc' := 8) rfl (fun c_5 => ?_) (fun c_5 => absurd (show nI 16 ≤ nI k from by rw [show k = 16 by omega]; exact Int32.le_refl _) c_5)
      exact loop2 D hD4 _ _ _ H1 hD1 (by rw [← hv]; rfl)
    | succ m ih =>
      intro k hk h1 X1 H1 hD1 hb hv
      refine g_iload_n ok (dk m_Mo_doRemoves 2 rfl) (pc' := 3) rfl (i := 2) rfl rfl ?_
      refine g_bipush ok (dk m_Mo_doRemoves 3 rfl) (pc' := 5) rfl (v := 16) (by decide) ?_
      refine g_icmp_ge ok (dk m_Mo_doRemoves 4 rfl) (tgt := 56) (by decide) (pc' := 8) rfl (fun c_5 => absurd c_5 (show ¬ nI 16 ≤ nI k from nI_ge (by omega) (by decide))) (fun c_5 => ?_)
      refine g_aload_n ok (dk m_Mo_doRemoves 5 rfl) (pc' := 9) rfl (i := 0) rfl rfl ?_
      refine g_get ok (dk m_Mo_doRemoves 6 rfl) (pc' := 12) rfl f_Mo_50 H1.1 rfl ?_
      refine g_iload_n ok (dk m_Mo_doRemoves 7 rfl) (pc' := 13) rfl (i := 1) rfl rfl ?_
      refine g_ialdI ok (dk m_Mo_doRemoves 8 rfl) (pc' := 14) rfl (j := e) (H1.ar 17 rfl) rfl (show e < 60 by omega) (by decide) ?_
      rw [hb]
      refine g_iload_n ok (dk m_Mo_doRemoves 9 rfl) (pc' := 15) rfl (i := 2) rfl rfl ?_
      refine g_ishr ok (dk m_Mo_doRemoves 10 rfl) (pc' := 16) rfl ?_
      refine g_iconst ok (dk m_Mo_doRemoves 11 rfl) (pc' := 17) rfl (v := 1) (by decide) ?_
      refine g_iand ok (dk m_Mo_doRemoves 12 rfl) (pc' := 18) rfl ?_
      refine g_if_ne ok (dk m_Mo_doRemoves 13 rfl) (tgt := 24) (by decide) (pc' := 21) rfl (fun c_18 => ?_) (fun c_18 => ?_)
      · refine g_aload_n ok (dk m_Mo_doRemoves 15 rfl) (pc' := 25) rfl (i := 0) rfl rfl ?_
        refine g_iload_n ok (dk m_Mo_doRemoves 16 rfl) (pc' := 26) rfl (i := 1) rfl rfl ?_
        refine g_iconst ok (dk m_Mo_doRemoves 17 rfl) (pc' := 27) rfl (v := 2) (by decide) ?_
        refine g_iload_n ok (dk m_Mo_doRemoves 18 rfl) (pc' := 28) rfl (i := 2) rfl rfl ?_
        refine g_imul ok (dk m_Mo_doRemoves 19 rfl) (pc' := 29) rfl ?_
        rw [ix2]
        refine g_callV ok (dk m_Mo_doRemoves 20 rfl) (pc' := 32) rfl c_Mo_172 (c_Mo_blank g (e := e) (v := 2 * k) 0 he (by omega) H1) H1.1 rfl rfl (by simp [Value.category]) (by omega) rfl (rc' := 0) (rs' := 0) (by omega) (by omega) (fun rv h' hcc => ?_) (fun i h' hcc => by obtain ⟨e9, -⟩ := hcc; cases e9)
        obtain ⟨e9, Y1⟩ := hcc
        cases e9
        refine g_aload_n ok (dk m_Mo_doRemoves 21 rfl) (pc' := 33) rfl (i := 0) rfl rfl ?_
        refine g_iload_n ok (dk m_Mo_doRemoves 22 rfl) (pc' := 34) rfl (i := 1) rfl rfl ?_
        refine g_iload_n ok (dk m_Mo_doRemoves 23 rfl) (pc' := 35) rfl (i := 2) rfl rfl ?_
        refine g_callV ok (dk m_Mo_doRemoves 24 rfl) (pc' := 38) rfl c_Mo_198 (c_Mo_blankPath g (e := e) (l := k) (D := D) 1 (by omega) he (by omega) (by exact hD1) hD4 Y1) Y1.1 rfl rfl (by simp [Value.category]) (by omega) rfl (rc' := 0) (rs' := 0) (by omega) (by omega) (fun rv h' hcc => ?_) (fun i h' hcc => by obtain ⟨e9, -⟩ := hcc; cases e9)
        obtain ⟨e9, Y2⟩ := hcc
        cases e9
        refine g_aload_n ok (dk m_Mo_doRemoves 25 rfl) (pc' := 39) rfl (i := 0) rfl rfl ?_
        refine g_get ok (dk m_Mo_doRemoves 26 rfl) (pc' := 42) rfl f_Mo_77 Y2.1 rfl ?_
        refine g_bipush ok (dk m_Mo_doRemoves 27 rfl) (pc' := 44) rfl (v := 16) (by decide) ?_
        refine g_iload_n ok (dk m_Mo_doRemoves 28 rfl) (pc' := 45) rfl (i := 1) rfl rfl ?_
        refine g_imul ok (dk m_Mo_doRemoves 29 rfl) (pc' := 46) rfl ?_
        refine g_iload_n ok (dk m_Mo_doRemoves 30 rfl) (pc' := 47) rfl (i := 2) rfl rfl ?_
        refine g_iadd ok (dk m_Mo_doRemoves 31 rfl) (pc' := 48) rfl ?_
        refine g_iconst ok (dk m_Mo_doRemoves 32 rfl) (pc' := 49) rfl (v := (-1)) (by decide) ?_
        refine g_iastI ok (dk m_Mo_doRemoves 33 rfl) (pc' := 50) rfl (j := 16 * e + k) (Y2.ar 26 rfl) (ix16 e k) (show 16 * e + k < 960 by omega) (by decide) (fun z3 e3 => ?_)
        have Y3 := Y2.ast 26 rfl e3
        clear e3
        refine g_iinc ok (dk m_Mo_doRemoves 34 rfl) (pc' := 53) rfl rfl (nI_1 k) rfl ?_
        refine g_goto ok (dk m_Mo_doRemoves 35 rfl) (pc' := 2) (by decide) ?_
        exact ih (k + 1) (by omega) _ _ Y3 ((congrFun (mo_bp_13 e k D 1 _).1 e).trans hD1) ((congrFun (mo_bp_13 e k D 1 _).2.1 e).trans hb) (by rw [← hv, dr_m, if_neg (show ¬ bit b k = 0 from c_18)])
      · refine g_goto ok (dk m_Mo_doRemoves 14 rfl) (pc' := 50) (by decide) ?_
        refine g_iinc ok (dk m_Mo_doRemoves 34 rfl) (pc' := 53) rfl rfl (nI_1 k) rfl ?_
        refine g_goto ok (dk m_Mo_doRemoves 35 rfl) (pc' := 2) (by decide) ?_
        exact ih (k + 1) (by omega) _ _ H1 hD1 hb (by rw [← hv, dr_m, if_pos (show bit b k = 0 from c_18)])
  refine g_iconst ok (dk m_Mo_doRemoves 0 rfl) (pc' := 1) rfl (v := 0) (by decide) ?_
  refine g_istore_n ok (dk m_Mo_doRemoves 1 rfl) (pc' := 2) rfl (i := 2) rfl (Nat.le_of_ble_eq_true rfl) rfl ?_
  exact loop1 16 0 (by omega) _ _ H hD hb (by rw [hb])
set_option maxHeartbeats 1000000 in
theorem c_Mo_doUpdates (g : q_G) {h : q_H} {o : Nat} {ba : Nat → Nat} {X : x_T} {e D : Nat} (d : Nat) (hd : 2 ≤ d) (he : e < 60) (hD : X.2 13 e = nI D) (hD4 : D ≤ 4) (H : q_mo h o ba X) : MG g y_Mo_doUpdates b_Mo_doUpdates 3 none d 0 0 [.ref o, .int (nI e)] h (fun q h' => q = .inl none ∧ q_mo h' o ba (du_m e D (X.2 18 e) (X.2 51) 16 0 X)) := by
  refine MG.of (by decide +kernel) (by simp [Value.category]) (Nat.le_of_ble_eq_true rfl) ?_
  intro Z A ok
  obtain ⟨b, hb⟩ : ∃ b, X.2 18 e = b := ⟨_, rfl⟩
  obtain ⟨nk, hn⟩ : ∃ nk, X.2 51 = nk := ⟨_, rfl⟩
  have loop1 : ∀ (m k : Nat), k + m = 16 → ∀ (h1 : q_H) (X1 : x_T), q_mo h1 o ba X1 → X1.2 13 e = nI D → X1.2 18 e = b → X1.2 51 = nk → du_m e D b nk m k X1 = du_m e D (X.2 18 e) (X.2 51) 16 0 X → GW g Z A (fun q h' => q = .inl none ∧ q_mo h' o ba (du_m e D (X.2 18 e) (X.2 51) 16 0 X)) 0 0 h1 2 [some (.ref o), some (.int (nI e)), some (.int (nI k))] [] := by
    intro m
    induction m with
    | zero =>
      intro k hk h1 X1 H1 hD1 hb hn hv
      refine g_iload_n ok (dk m_Mo_doUpdates 2 rfl) (pc' := 3) rfl (i := 2) rfl rfl ?_
      refine g_bipush ok (dk m_Mo_doUpdates 3 rfl) (pc' := 5) rfl (v := 16) (by decide) ?_
      refine g_icmp_ge ok (dk m_Mo_doUpdates 4 rfl) (tgt := 50) (by decide) (pc' := 8) rfl (fun c_5 => ?_) (fun c_5 => absurd (show nI 16 ≤ nI k from by rw [show k = 16 by omega]; exact Int32.le_refl _) c_5)
      exact g_vret ok (dk m_Mo_doUpdates 31 rfl) rfl ⟨rfl, by rw [← hv]; exact H1⟩
    | succ m ih =>
      intro k hk h1 X1 H1 hD1 hb hn hv
      refine g_iload_n ok (dk m_Mo_doUpdates 2 rfl) (pc' := 3) rfl (i := 2) rfl rfl ?_
      refine g_bipush ok (dk m_Mo_doUpdates 3 rfl) (pc' := 5) rfl (v := 16) (by decide) ?_
      refine g_icmp_ge ok (dk m_Mo_doUpdates 4 rfl) (tgt := 50) (by decide) (pc' := 8) rfl (fun c_5 => absurd c_5 (show ¬ nI 16 ≤ nI k from nI_ge (by omega) (by decide))) (fun c_5 => ?_)
      refine g_aload_n ok (dk m_Mo_doUpdates 5 rfl) (pc' := 9) rfl (i := 0) rfl rfl ?_
      refine g_get ok (dk m_Mo_doUpdates 6 rfl) (pc' := 12) rfl f_Mo_53 H1.1 rfl ?_
      refine g_iload_n ok (dk m_Mo_doUpdates 7 rfl) (pc' := 13) rfl (i := 1) rfl rfl ?_
      refine g_ialdI ok (dk m_Mo_doUpdates 8 rfl) (pc' := 14) rfl (j := e) (H1.ar 18 rfl) rfl (show e < 60 by omega) (by decide) ?_
      rw [hb]
      refine g_iload_n ok (dk m_Mo_doUpdates 9 rfl) (pc' := 15) rfl (i := 2) rfl rfl ?_
      refine g_ishr ok (dk m_Mo_doUpdates 10 rfl) (pc' := 16) rfl ?_
      refine g_iconst ok (dk m_Mo_doUpdates 11 rfl) (pc' := 17) rfl (v := 1) (by decide) ?_
      refine g_iand ok (dk m_Mo_doUpdates 12 rfl) (pc' := 18) rfl ?_
      refine g_if_ne ok (dk m_Mo_doUpdates 13 rfl) (tgt := 24) (by decide) (pc' := 21) rfl (fun c_18 => ?_) (fun c_18 => ?_)
      · refine g_aload_n ok (dk m_Mo_doUpdates 15 rfl) (pc' := 25) rfl (i := 0) rfl rfl ?_
        refine g_iload_n ok (dk m_Mo_doUpdates 16 rfl) (pc' := 26) rfl (i := 1) rfl rfl ?_
        refine g_iconst ok (dk m_Mo_doUpdates 17 rfl) (pc' := 27) rfl (v := 2) (by decide) ?_
        refine g_iload_n ok (dk m_Mo_doUpdates 18 rfl) (pc' := 28) rfl (i := 2) rfl rfl ?_
        refine g_imul ok (dk m_Mo_doUpdates 19 rfl) (pc' := 29) rfl ?_
        rw [ix2]
        refine g_aload_n ok (dk m_Mo_doUpdates 20 rfl) (pc' := 30) rfl (i := 0) rfl rfl ?_
        refine g_get ok (dk m_Mo_doUpdates 21 rfl) (pc' := 33) rfl f_Mo_140 H1.1 rfl ?_
        refine g_iload_n ok (dk m_Mo_doUpdates 22 rfl) (pc' := 34) rfl (i := 2) rfl rfl ?_
        refine g_ialdI ok (dk m_Mo_doUpdates 23 rfl) (pc' := 35) rfl (j := k) (H1.ar 51 rfl) rfl (show k < 16 by omega) (by decide) ?_
        rw [hn]
        refine g_callV ok (dk m_Mo_doUpdates 24 rfl) (pc' := 38) rfl c_Mo_204 (c_Mo_set g (e := e) (v := 2 * k) (nk k) 0 he (by omega) H1) H1.1 rfl rfl (by simp [Value.category]) (by omega) rfl (rc' := 0) (rs' := 0) (by omega) (by omega) (fun rv h' hcc => ?_) (fun i h' hcc => by obtain ⟨e9, -⟩ := hcc; cases e9)
        obtain ⟨e9, Y1⟩ := hcc
        cases e9
        refine g_aload_n ok (dk m_Mo_doUpdates 25 rfl) (pc' := 39) rfl (i := 0) rfl rfl ?_
        refine g_iload_n ok (dk m_Mo_doUpdates 26 rfl) (pc' := 40) rfl (i := 1) rfl rfl ?_
        refine g_iload_n ok (dk m_Mo_doUpdates 27 rfl) (pc' := 41) rfl (i := 2) rfl rfl ?_
        refine g_callV ok (dk m_Mo_doUpdates 28 rfl) (pc' := 44) rfl c_Mo_198 (c_Mo_blankPath g (e := e) (l := k) (D := D) 1 (by omega) he (by omega) (by exact hD1) hD4 Y1) Y1.1 rfl rfl (by simp [Value.category]) (by omega) rfl (rc' := 0) (rs' := 0) (by omega) (by omega) (fun rv h' hcc => ?_) (fun i h' hcc => by obtain ⟨e9, -⟩ := hcc; cases e9)
        obtain ⟨e9, Y2⟩ := hcc
        cases e9
        refine g_iinc ok (dk m_Mo_doUpdates 29 rfl) (pc' := 47) rfl rfl (nI_1 k) rfl ?_
        refine g_goto ok (dk m_Mo_doUpdates 30 rfl) (pc' := 2) (by decide) ?_
        exact ih (k + 1) (by omega) _ _ Y2 ((congrFun (mo_bp_13 e k D 1 _).1 e).trans hD1) ((congrFun (mo_bp_13 e k D 1 _).2.2.1 e).trans hb) ((mo_bp_13 e k D 1 _).2.2.2.trans hn) (by rw [← hv, du_m, if_neg (show ¬ bit b k = 0 from c_18)])
      · refine g_goto ok (dk m_Mo_doUpdates 14 rfl) (pc' := 44) (by decide) ?_
        refine g_iinc ok (dk m_Mo_doUpdates 29 rfl) (pc' := 47) rfl rfl (nI_1 k) rfl ?_
        refine g_goto ok (dk m_Mo_doUpdates 30 rfl) (pc' := 2) (by decide) ?_
        exact ih (k + 1) (by omega) _ _ H1 hD1 hb hn (by rw [← hv, du_m, if_pos (show bit b k = 0 from c_18)])
  refine g_iconst ok (dk m_Mo_doUpdates 0 rfl) (pc' := 1) rfl (v := 0) (by decide) ?_
  refine g_istore_n ok (dk m_Mo_doUpdates 1 rfl) (pc' := 2) rfl (i := 2) rfl (Nat.le_of_ble_eq_true rfl) rfl ?_
  exact loop1 16 0 (by omega) _ _ H hD hb hn (by rw [hb, hn])
