/-! ===== the reference: change, commit ===== -/
theorem ch_z4_f (X9 : x_T) (e n9 : Nat) (cv : Int32) : xfr [1, 2, 3, 4, 14] X9 (ch_z4 X9 e n9 cv) := ((((((((((xfr.rf.xs 2 _ _ (by decide)).xs 3 _ _ (by decide)).xs 4 _ _ (by decide)).xi 1 _ (by decide)).xs 2 _ _ (by decide)).xs 3 _ _ (by decide)).xs 4 _ _ (by decide)).xi 1 _ (by decide)).xs 2 _ _ (by decide)).xs 3 _ _ (by decide)).xs 4 _ _ (by decide) |>.xi 1 _ (by decide) |>.xs 14 _ _ (by decide)
theorem ch_z7_f (X9 : x_T) (e n9 p D7 : Nat) (cv : Int32) : xfr (lv_K ++ en_K ++ [1, 2, 3, 4, 12, 14]) X9 (ch_z7 X9 e n9 p D7 cv) := by
  have g0 := ch_z4_f X9 e n9 cv
  unfold ch_z7
  generalize ch_z4 X9 e n9 cv = Z4 at g0 ⊢
  have g1 := we_m_f Z4 (e + 1) D7 (nI (n9 + 1)) p 0 Z4
  generalize we_m Z4 (e + 1) D7 (nI (n9 + 1)) p 0 Z4 = Zw at g1 ⊢
  have g2 := ch_l_f e 16 0 (xi Zw 12 (nI (e + 2)))
  generalize ch_l e 16 0 (xi Zw 12 (nI (e + 2))) = Y at g2 ⊢
  exact (((g0.wk (by decide)).tr (g1.wk (by decide))).xi 12 _ (by decide)).tr (g2.wk (by decide))
theorem ch_z7_28 {X9 : x_T} {e n9 p D7 mm l : Nat} {cv : Int32} (h17 : bit (X9.2 17 (e + 1)) l = 0) (h28 : X9.2 28 mm = nI l) : (ch_z7 X9 e n9 p D7 cv).2 28 mm = nI l := by
  have g0 := ch_z4_f X9 e n9 cv
  unfold ch_z7
  generalize ch_z4 X9 e n9 cv = Z4 at g0 ⊢
  have g1 := we_m_f Z4 (e + 1) D7 (nI (n9 + 1)) p 0 Z4
  generalize we_m Z4 (e + 1) D7 (nI (n9 + 1)) p 0 Z4 = Zw at g1 ⊢
  have a1 : bit ((xi Zw 12 (nI (e + 2))).2 17 (e + 1)) l = 0 := by
    show bit (Zw.2 17 (e + 1)) l = 0
    rw [(g1 17 (by decide)).2, (g0 17 (by decide)).2]
    exact h17
  have a2 : (xi Zw 12 (nI (e + 2))).2 28 mm = nI l := by
    show Zw.2 28 mm = nI l
    rw [(g1 28 (by decide)).2, (g0 28 (by decide)).2]
    exact h28
  generalize xi Zw 12 (nI (e + 2)) = Y at a1 a2 ⊢
  exact ch_l_28 16 0 Y a1 a2
def cK7 : List Nat := [13, 15, 17, 18, 19, 22, 23, 24, 25, 26, 39, 40, 51]
def cK8 : List Nat := [13, 15, 17, 18, 19, 21, 22, 23, 24, 25, 26, 39, 40, 51]
def cK9 : List Nat := [1, 2, 3, 4, 7, 8, 9, 10, 11, 13, 15, 16, 17, 18, 19, 20, 21, 22, 23, 24, 25, 26, 39, 40, 48, 49, 50, 51]
set_option maxHeartbeats 1000000 in
theorem c_Mo_change (g : q_G) {h : q_H} {o : Nat} {ba : Nat → Nat} {X : x_T} {mm l e D wt p n c s14 : Nat} (pa : Int32) (d : Nat) (hd : 3 ≤ d) (hm : mm < 16) (he : e + 1 < 60) (h12 : X.1 12 = nI (e + 1)) (hl : X.2 28 mm = nI l) (hl2 : l < 16) (hD : X.2 13 e = nI D) (hD4 : D ≤ 4) (hwt : X.1 42 = nI wt) (hwt2 : wt ≤ 20) (hR : ∀ k, k < wt → X.2 43 k = 1 → ∃ l, l < 16 ∧ X.2 45 k = nI l) (hP : ∀ k, k < wt → ∃ j, j < 16 ∧ X.2 44 k = nI j) (hL : ∀ k, k < wt → X.2 43 k = 2 → ∃ l, l < 16 ∧ fu_l X k = nI l) (hA0 : ∀ k, k < wt → X.2 43 k = 0 → ∃ p j, p < 60 ∧ j < 16 ∧ X.2 45 k = nI p ∧ X.2 36 p = nI j) (hn : X.1 1 = nI n) (hn1 : 1 ≤ n) (hn2 : n + 13 ≤ 2600) (hc : X.1 7 = nI c) (hc2 : c + 48 + 2 * p ≤ 3600) (hp : X.1 35 = nI p) (hp2 : p ≤ 60) (hu : uk (X.2 23) e) (hw : WF X n) (h17 : bit (X.2 17 (e + 1)) l = 0) (hS6 : ∀ k, k < n → X.2 2 k = 6 → ¬ X.2 3 k = X.2 14 e) (hs14 : X.2 14 e = nI s14) (hs14b : s14 < n) (hUs : ∀ k, X.2 39 k = nI (e + 1) → ∃ l, l < 16 ∧ X.2 40 k = nI l) (H : q_mo h o ba X) : MG g y_Mo_change b_Mo_change 8 none d 0 0 [.ref o, .int (nI mm), .int pa] h (fun q h' => q = .inl none ∧ ∃ X', q_mo h' o ba X' ∧ q_CH X mm l e D wt p pa X') := by
  refine MG.of (by decide +kernel) (by simp [Value.category]) (Nat.le_of_ble_eq_true rfl) ?_
  intro Z A ok
  have mid99 : ∀ (h7 : q_H) (X7 : x_T) (D7 : Nat) (z : Int32), q_mo h7 o ba X7 → xfr cK7 X X7 → q_CH7 X l e D wt X7 D7 → X7.2 13 (e + 1) = nI D7 → D7 ≤ 4 → uk (X7.2 23) (e + 1) → bit (X7.2 17 (e + 1)) l = 0 → (∀ k, X7.2 39 k = nI (e + 1) → ∃ l, l < 16 ∧ X7.2 40 k = nI l) → z = b2i (ch_P X7 e pa) → GW g Z A (fun q h' => q = .inl none ∧ ∃ X', q_mo h' o ba X' ∧ q_CH X mm l e D wt p pa X') 0 0 h7 99 [some (.ref o), some (.int (nI mm)), some (.int pa), some (.int (nI (e + 1))), some (.int (nI l)), none, none, none] [.int z, .int (nI (e + 1)), .ref (ba 21)] := by
    intro h7 X7 D7 z H7 f7 hC7 hD7 hD74 hu7 hb17 hus7 hz
    obtain ⟨X8, hX8⟩ : ∃ X8, xs X7 21 (e + 1) z = X8 := ⟨_, rfl⟩
    have f8 : xfr cK8 X X8 := by
      rw [← hX8]
      exact (f7.wk (by decide)).xs 21 _ _ (by decide)
    have g8 : xfr [21] X7 X8 := by
      rw [← hX8]
      exact xfr.rf.xs 21 _ _ (by decide)
    have hn8 : X8.1 1 = nI n := (f8 1 (by decide)).1.trans hn
    have hc8 : X8.1 7 = nI c := (f8 7 (by decide)).1.trans hc
    have h128 : X8.1 12 = nI (e + 1) := (f8 12 (by decide)).1.trans h12
    have hu8 : uk (X8.2 23) (e + 1) := by
      rw [(g8 23 (by decide)).2]
      exact hu7
    have hw8 : WF X8 n := fun k hk => by
      rw [(f8 3 (by decide)).2]
      exact hw k hk
    rw [← (g8 13 (by decide)).2] at hD7
    rw [← (g8 17 (by decide)).2] at hb17
    rw [← (g8 39 (by decide)).2, ← (g8 40 (by decide)).2] at hus7
    have mid : ∀ (h9 : q_H) (X9 Y9 : x_T) (n9 c9 : Nat) (cv : Int32), q_mo h9 o ba X9 → xfr rs_K Y9 X9 → q_RN X8 n Y9 n9 → n9 ≤ n + 10 → Y9.1 7 = nI c9 → c9 ≤ c + 48 → q_CH9 X7 l e D7 n9 pa cv X9 → GW g Z A (fun q h' => q = .inl none ∧ ∃ X', q_mo h' o ba X' ∧ q_CH X mm l e D wt p pa X') 0 0 h9 120 [some (.ref o), some (.int (nI mm)), some (.int pa), some (.int (nI (e + 1))), some (.int (nI l)), none, none, none] [.int cv] := by
      intro h9 X9 Y9 n9 c9 cv H9 fr9 hR9 hn9b hc9y hc9b hC9
      have hn9n := hR9.2.2.1
      have f9 : xfr cK9 X X9 := ((f8.wk (by decide)).tr (hR9.1.wk (by decide))).tr (fr9.wk (by decide))
      have hn9 : X9.1 1 = nI n9 := (fr9 1 (by decide)).1.trans hR9.2.1
      have hc9 : X9.1 7 = nI c9 := (fr9 7 (by decide)).1.trans hc9y
      have h14 : X9.2 14 e = nI s14 := (congrFun (f9 14 (by decide)).2 e).trans hs14
      have h13 : X9.2 13 (e + 1) = nI D7 := by
        rw [(fr9 13 (by decide)).2, (hR9.1 13 (by decide)).2]
        exact hD7
      have hw9 : WF X9 n9 := fun k hk => by
        rw [(fr9 3 (by decide)).2]
        exact hR9.2.2.2.1 k hk
      have hno6 : ∀ k, k < n9 → ¬ (X9.2 2 k = 6 ∧ X9.2 3 k = X9.2 14 e ∧ X9.2 4 k = 0) := fun k hk z => by
        rw [(fr9 2 (by decide)).2, (fr9 3 (by decide)).2, (f9 14 (by decide)).2] at z
        rcases Nat.lt_or_ge k n with q | q
        · have q5 := hR9.2.2.2.2.1 k q
          rw [q5.1, q5.2.1, (f8 2 (by decide)).2, (f8 3 (by decide)).2] at z
          exact hS6 k q z.1 z.2.1
        · exact hR9.2.2.2.2.2 k q hk z.1
      have hwA : WF (mk X9 n9 6 (X9.2 14 e) 0) (n9 + 1) := by
        rw [h14]
        exact WF_mk hw9 6 0 (Or.inl (by omega))
      have hno4 := WF_no (a := n9) hwA (Nat.le_refl _) (by omega) (by omega) (by omega) 4 cv
      have hwB : WF (mk (mk X9 n9 6 (X9.2 14 e) 0) (n9 + 1) 4 (nI n9) cv) (n9 + 2) := WF_mk hwA 4 cv (Or.inl (by omega))
      have hno5 := WF_no (a := n9 + 1) hwB (Nat.le_refl _) (by omega) (by omega) (by omega) 5 0
      have hus : ∀ k, k < p → X9.2 39 k = nI (e + 1) → ∃ l, l < 16 ∧ X9.2 40 k = nI l := fun k hk => by
        rw [(fr9 39 (by decide)).2, (fr9 40 (by decide)).2, (hR9.1 39 (by decide)).2, (hR9.1 40 (by decide)).2]
        exact hus7 k
      have hep : X9.1 12 + 1 = nI (e + 2) := by rw [(f9 12 (by decide)).1, h12, nI_1]
      obtain ⟨W, hWe⟩ : ∃ W, ch_z7 X9 e n9 p D7 cv = W := ⟨_, rfl⟩
      have fw : xfr (lv_K ++ en_K ++ [1, 2, 3, 4, 12, 14]) X9 W := by
        rw [← hWe]
        exact ch_z7_f X9 e n9 p D7 cv
      have hW28 : W.2 28 mm = nI l := by
        rw [← hWe]
        refine ch_z7_28 ?_ ?_
        · rw [(fr9 17 (by decide)).2, (hR9.1 17 (by decide)).2]
          exact hb17
        · rw [(f9 28 (by decide)).2]
          exact hl
      have hW13 : W.2 13 (e + 1) = nI D7 := by
        rw [(fw 13 (by decide)).2]
        exact h13
      have hfin : q_CH X mm l e D wt p pa (xi (ad W mm (e + 1) l D7 (W.2 21 (e + 1))) 42 0) := ⟨X7, D7, n9, cv, X9, by omega, hC7, hC9, by rw [ch_fin, hWe]⟩
      have hWe2 : ch_l e 16 0 (xi (we_m (ch_z4 X9 e n9 cv) (e + 1) D7 (nI (n9 + 1)) p 0 (ch_z4 X9 e n9 cv)) 12 (nI (e + 2))) = W := hWe
      clear hWe
      generalize hZ : we_m (ch_z4 X9 e n9 cv) (e + 1) D7 (nI (n9 + 1)) p 0 (ch_z4 X9 e n9 cv) = Zw at hWe2
      have hep2 : Zw.1 12 + 1 = nI (e + 2) := by
        rw [← hZ, (we_m_f _ (e + 1) D7 _ p 0 _ 12 (by decide)).1]
        exact hep
      have loopL : ∀ (m k : Nat), k + m = 16 → ∀ (h1 : q_H) (X1 : x_T), q_mo h1 o ba X1 → ch_l e m k X1 = ch_l e 16 0 (xi Zw 12 (nI (e + 2))) → GW g Z A (fun q h' => q = .inl none ∧ ∃ X', q_mo h' o ba X' ∧ q_CH X mm l e D wt p pa X') 0 0 h1 180 [some (.ref o), some (.int (nI mm)), some (.int pa), some (.int (nI (e + 1))), some (.int (nI l)), some (.int cv), some (.int (nI (n9 + 1))), some (.int (nI k))] [] := by
        have hWe := hWe2
        intro m
        induction m with
        | zero =>
          intro k hk h1 X1 H1 hv
          have hXW : X1 = W := by rw [← hWe, ← hv]; rfl
          rw [hXW] at H1
          refine g_iload ok (dk m_Mo_change 108 rfl) (pc' := 182) rfl rfl ?_
          refine g_bipush ok (dk m_Mo_change 109 rfl) (pc' := 184) rfl (v := 16) (by decide) ?_
          refine g_icmp_ge ok (dk m_Mo_change 110 rfl) (tgt := 232) (by decide) (pc' := 187) rfl (fun c_184 => ?_) (fun c_184 => absurd (show nI 16 ≤ nI k from by rw [show k = 16 by omega]; exact Int32.le_refl _) c_184)
          refine g_aload_n ok (dk m_Mo_change 137 rfl) (pc' := 233) rfl (i := 0) rfl rfl ?_
          refine g_iload_n ok (dk m_Mo_change 138 rfl) (pc' := 234) rfl (i := 1) rfl rfl ?_
          refine g_iload_n ok (dk m_Mo_change 139 rfl) (pc' := 235) rfl (i := 3) rfl rfl ?_
          refine g_aload_n ok (dk m_Mo_change 140 rfl) (pc' := 236) rfl (i := 0) rfl rfl ?_
          refine g_get ok (dk m_Mo_change 141 rfl) (pc' := 239) rfl f_Mo_62 H1.1 rfl ?_
          refine g_iload_n ok (dk m_Mo_change 142 rfl) (pc' := 240) rfl (i := 3) rfl rfl ?_
          refine g_zaldI ok (dk m_Mo_change 143 rfl) (pc' := 241) rfl (j := (e + 1)) (H1.ar 21 rfl) rfl (show (e + 1) < 60 by omega) (by decide) ?_
          refine g_callV ok (dk m_Mo_change 144 rfl) (pc' := 244) rfl c_Mo_260 (c_Mo_advance g (mm := mm) (e := e + 1) (l := l) (D := D7) (W.2 21 (e + 1)) 2 (by omega) hm he hl2 (by exact hW28) (by exact hW13) hD74 H1) H1.1 rfl rfl (by simp [Value.category]) (by omega) rfl (rc' := 0) (rs' := 0) (by omega) (by omega) (fun rv h' hcc => ?_) (fun i h' hcc => by obtain ⟨e9, -⟩ := hcc; cases e9)
          obtain ⟨e9, Y1⟩ := hcc
          cases e9
          refine g_aload_n ok (dk m_Mo_change 145 rfl) (pc' := 245) rfl (i := 0) rfl rfl ?_
          refine g_iconst ok (dk m_Mo_change 146 rfl) (pc' := 246) rfl (v := 0) (by decide) ?_
          refine g_put ok (dk m_Mo_change 147 rfl) (pc' := 249) rfl f_Mo_195 (Or.inl rfl) Y1.1 (Nat.le_of_ble_eq_true rfl) rfl rfl ?_
          refine g_gen (fun z2 e2 => ?_)
          have Y2 := Y1.ipt 42 (by decide) e2
          clear e2
          exact g_vret ok (dk m_Mo_change 148 rfl) rfl ⟨rfl, _, Y2, hfin⟩
        | succ m ih =>
          intro k hk h1 X1 H1 hv
          refine g_iload ok (dk m_Mo_change 108 rfl) (pc' := 182) rfl rfl ?_
          refine g_bipush ok (dk m_Mo_change 109 rfl) (pc' := 184) rfl (v := 16) (by decide) ?_
          refine g_icmp_ge ok (dk m_Mo_change 110 rfl) (tgt := 232) (by decide) (pc' := 187) rfl (fun c_184 => absurd c_184 (show ¬ nI 16 ≤ nI k from nI_ge (by omega) (by decide))) (fun c_184 => ?_)
          refine g_aload_n ok (dk m_Mo_change 111 rfl) (pc' := 188) rfl (i := 0) rfl rfl ?_
          refine g_get ok (dk m_Mo_change 112 rfl) (pc' := 191) rfl f_Mo_80 H1.1 rfl ?_
          refine g_iload ok (dk m_Mo_change 113 rfl) (pc' := 193) rfl rfl ?_
          refine g_ialdI ok (dk m_Mo_change 114 rfl) (pc' := 194) rfl (j := k) (H1.ar 27 rfl) rfl (show k < 16 by omega) (by decide) ?_
          refine g_iload_n ok (dk m_Mo_change 115 rfl) (pc' := 195) rfl (i := 3) rfl rfl ?_
          refine g_iconst ok (dk m_Mo_change 116 rfl) (pc' := 196) rfl (v := 1) (by decide) ?_
          refine g_isub ok (dk m_Mo_change 117 rfl) (pc' := 197) rfl ?_
          rw [nI_pred]
          refine g_icmp_ne ok (dk m_Mo_change 118 rfl) (tgt := 226) (by decide) (pc' := 200) rfl (fun c_197 => ?_) (fun c_197 => ?_)
          · refine g_iinc ok (dk m_Mo_change 135 rfl) (pc' := 229) rfl rfl (nI_1 k) rfl ?_
            refine g_goto ok (dk m_Mo_change 136 rfl) (pc' := 180) (by decide) ?_
            exact ih (k + 1) (by omega) _ _ H1 (by rw [← hv, ch_l, if_neg (fun z => c_197 z.1)])
          · refine g_aload_n ok (dk m_Mo_change 119 rfl) (pc' := 201) rfl (i := 0) rfl rfl ?_
            refine g_get ok (dk m_Mo_change 120 rfl) (pc' := 204) rfl f_Mo_50 H1.1 rfl ?_
            refine g_iload_n ok (dk m_Mo_change 121 rfl) (pc' := 205) rfl (i := 3) rfl rfl ?_
            refine g_ialdI ok (dk m_Mo_change 122 rfl) (pc' := 206) rfl (j := (e + 1)) (H1.ar 17 rfl) rfl (show (e + 1) < 60 by omega) (by decide) ?_
            refine g_aload_n ok (dk m_Mo_change 123 rfl) (pc' := 207) rfl (i := 0) rfl rfl ?_
            refine g_get ok (dk m_Mo_change 124 rfl) (pc' := 210) rfl f_Mo_83 H1.1 rfl ?_
            refine g_iload ok (dk m_Mo_change 125 rfl) (pc' := 212) rfl rfl ?_
            refine g_ialdI ok (dk m_Mo_change 126 rfl) (pc' := 213) rfl (j := k) (H1.ar 28 rfl) rfl (show k < 16 by omega) (by decide) ?_
            refine g_ishr ok (dk m_Mo_change 127 rfl) (pc' := 214) rfl ?_
            refine g_iconst ok (dk m_Mo_change 128 rfl) (pc' := 215) rfl (v := 1) (by decide) ?_
            refine g_iand ok (dk m_Mo_change 129 rfl) (pc' := 216) rfl ?_
            refine g_iconst ok (dk m_Mo_change 130 rfl) (pc' := 217) rfl (v := 1) (by decide) ?_
            refine g_icmp_ne ok (dk m_Mo_change 131 rfl) (tgt := 226) (by decide) (pc' := 220) rfl (fun c_217 => ?_) (fun c_217 => ?_)
            · refine g_iinc ok (dk m_Mo_change 135 rfl) (pc' := 229) rfl rfl (nI_1 k) rfl ?_
              refine g_goto ok (dk m_Mo_change 136 rfl) (pc' := 180) (by decide) ?_
              exact ih (k + 1) (by omega) _ _ H1 (by rw [← hv, ch_l, if_neg (fun z => c_217 z.2)])
            · refine g_aload_n ok (dk m_Mo_change 132 rfl) (pc' := 221) rfl (i := 0) rfl rfl ?_
              refine g_iload ok (dk m_Mo_change 133 rfl) (pc' := 223) rfl rfl ?_
              refine g_callV ok (dk m_Mo_change 134 rfl) (pc' := 226) rfl c_Mo_147 (c_Mo_leave g (mm := k) 0 (by omega) H1) H1.1 rfl rfl (by simp [Value.category]) (by omega) rfl (rc' := 0) (rs' := 0) (by omega) (by omega) (fun rv h' hcc => ?_) (fun i h' hcc => by obtain ⟨e9, -⟩ := hcc; cases e9)
              obtain ⟨e9, Y1⟩ := hcc
              cases e9
              refine g_iinc ok (dk m_Mo_change 135 rfl) (pc' := 229) rfl rfl (nI_1 k) rfl ?_
              refine g_goto ok (dk m_Mo_change 136 rfl) (pc' := 180) (by decide) ?_
              exact ih (k + 1) (by omega) _ _ Y1 (by rw [← hv, ch_l, if_pos ⟨c_197, c_217⟩])
      refine g_istore ok (dk m_Mo_change 71 rfl) (pc' := 122) rfl (Nat.le_of_ble_eq_true rfl) rfl ?_
      refine g_aload_n ok (dk m_Mo_change 72 rfl) (pc' := 123) rfl (i := 0) rfl rfl ?_
      refine g_iconst ok (dk m_Mo_change 73 rfl) (pc' := 124) rfl (v := 4) (by decide) ?_
      refine g_aload_n ok (dk m_Mo_change 74 rfl) (pc' := 125) rfl (i := 0) rfl rfl ?_
      refine g_bipush ok (dk m_Mo_change 75 rfl) (pc' := 127) rfl (v := 6) (by decide) ?_
      refine g_aload_n ok (dk m_Mo_change 76 rfl) (pc' := 128) rfl (i := 0) rfl rfl ?_
      refine g_get ok (dk m_Mo_change 77 rfl) (pc' := 131) rfl f_Mo_41 H9.1 rfl ?_
      refine g_iload_n ok (dk m_Mo_change 78 rfl) (pc' := 132) rfl (i := 3) rfl rfl ?_
      refine g_iconst ok (dk m_Mo_change 79 rfl) (pc' := 133) rfl (v := 1) (by decide) ?_
      refine g_isub ok (dk m_Mo_change 80 rfl) (pc' := 134) rfl ?_
      refine g_ialdI ok (dk m_Mo_change 81 rfl) (pc' := 135) rfl (j := e) (H9.ar 14 rfl) (nI_pred e) (show e < 60 by omega) (by decide) ?_
      refine g_iconst ok (dk m_Mo_change 82 rfl) (pc' := 136) rfl (v := 0) (by decide) ?_
      refine g_callV ok (dk m_Mo_change 83 rfl) (pc' := 139) rfl c_Mo_221 (c_Mo_of g 6 (X9.2 14 e) 0 1 (by omega) (n := n9) (by exact hn9) (by omega) (by exact hno6) H9) H9.1 rfl rfl (by simp [Value.category]) (by omega) rfl (rc' := 0) (rs' := 0) (by omega) (by omega) (fun rv h' hcc => ?_) (fun i h' hcc => by obtain ⟨e9, -⟩ := hcc; cases e9)
      obtain ⟨e9, Y1⟩ := hcc
      cases e9
      refine g_iload ok (dk m_Mo_change 84 rfl) (pc' := 141) rfl rfl ?_
      refine g_callV ok (dk m_Mo_change 85 rfl) (pc' := 144) rfl c_Mo_221 (c_Mo_of g 4 (nI n9) cv 1 (by omega) (n := n9 + 1) (by exact rfl) (by omega) (by exact hno4) Y1) Y1.1 rfl rfl (by simp [Value.category]) (by omega) rfl (rc' := 0) (rs' := 0) (by omega) (by omega) (fun rv h' hcc => ?_) (fun i h' hcc => by obtain ⟨e9, -⟩ := hcc; cases e9)
      obtain ⟨e9, Y2⟩ := hcc
      cases e9
      refine g_istore ok (dk m_Mo_change 86 rfl) (pc' := 146) rfl (Nat.le_of_ble_eq_true rfl) rfl ?_
      refine g_aload_n ok (dk m_Mo_change 87 rfl) (pc' := 147) rfl (i := 0) rfl rfl ?_
      refine g_get ok (dk m_Mo_change 88 rfl) (pc' := 150) rfl f_Mo_41 Y2.1 rfl ?_
      refine g_iload_n ok (dk m_Mo_change 89 rfl) (pc' := 151) rfl (i := 3) rfl rfl ?_
      refine g_aload_n ok (dk m_Mo_change 90 rfl) (pc' := 152) rfl (i := 0) rfl rfl ?_
      refine g_iconst ok (dk m_Mo_change 91 rfl) (pc' := 153) rfl (v := 5) (by decide) ?_
      refine g_iload ok (dk m_Mo_change 92 rfl) (pc' := 155) rfl rfl ?_
      refine g_iconst ok (dk m_Mo_change 93 rfl) (pc' := 156) rfl (v := 0) (by decide) ?_
      refine g_callV ok (dk m_Mo_change 94 rfl) (pc' := 159) rfl c_Mo_221 (c_Mo_of g 5 (nI (n9 + 1)) 0 1 (by omega) (n := n9 + 2) (by exact rfl) (by omega) (by exact hno5) Y2) Y2.1 rfl rfl (by simp [Value.category]) (by omega) rfl (rc' := 0) (rs' := 0) (by omega) (by omega) (fun rv h' hcc => ?_) (fun i h' hcc => by obtain ⟨e9, -⟩ := hcc; cases e9)
      obtain ⟨e9, Y3⟩ := hcc
      cases e9
      refine g_iastI ok (dk m_Mo_change 95 rfl) (pc' := 160) rfl (j := (e + 1)) (Y3.ar 14 rfl) rfl (show (e + 1) < 60 by omega) (by decide) (fun z4 e4 => ?_)
      have Y4 := Y3.ast 14 rfl e4
      clear e4
      refine g_aload_n ok (dk m_Mo_change 96 rfl) (pc' := 161) rfl (i := 0) rfl rfl ?_
      refine g_iload_n ok (dk m_Mo_change 97 rfl) (pc' := 162) rfl (i := 3) rfl rfl ?_
      refine g_iload ok (dk m_Mo_change 98 rfl) (pc' := 164) rfl rfl ?_
      refine g_callV ok (dk m_Mo_change 99 rfl) (pc' := 167) rfl c_Mo_257 (c_Mo_welcome g (e := e + 1) (D := D7) (p := p) (c := c9) (nI (n9 + 1)) 2 (by omega) he (by exact (f9 35 (by decide)).1.trans hp) hp2 (by exact hc9) (by omega) (by exact (f9 12 (by decide)).1.trans h12) (by exact h13) hD74 (by exact hus) Y4) Y4.1 rfl rfl (by simp [Value.category]) (by omega) rfl (rc' := 0) (rs' := 0) (by omega) (by omega) (fun rv h' hcc => ?_) (fun i h' hcc => by obtain ⟨e9, -⟩ := hcc; cases e9)
      obtain ⟨e9, HW⟩ := hcc
      cases e9
      have HW : q_mo h' o ba Zw := by rw [← hZ]; exact HW
      refine g_aload_n ok (dk m_Mo_change 100 rfl) (pc' := 168) rfl (i := 0) rfl rfl ?_
      refine g_dup ok (dk m_Mo_change 101 rfl) (pc' := 169) rfl rfl ?_
      refine g_get ok (dk m_Mo_change 102 rfl) (pc' := 172) rfl f_Mo_151 HW.1 rfl ?_
      refine g_iconst ok (dk m_Mo_change 103 rfl) (pc' := 173) rfl (v := 1) (by decide) ?_
      refine g_iadd ok (dk m_Mo_change 104 rfl) (pc' := 174) rfl ?_
      refine g_top (w := .int (nI (e + 2))) (congrArg Value.int hep2) ?_
      refine g_put ok (dk m_Mo_change 105 rfl) (pc' := 177) rfl f_Mo_151 (Or.inl rfl) HW.1 (Nat.le_of_ble_eq_true rfl) rfl rfl ?_
      refine g_gen (fun z5 e5 => ?_)
      have Y5 := HW.ipt 12 (by decide) e5
      clear e5
      refine g_iconst ok (dk m_Mo_change 106 rfl) (pc' := 178) rfl (v := 0) (by decide) ?_
      refine g_istore ok (dk m_Mo_change 107 rfl) (pc' := 180) rfl (Nat.le_of_ble_eq_true rfl) rfl ?_
      exact loopL 16 0 (by omega) _ _ Y5 rfl
    refine g_zastI ok (dk m_Mo_change 59 rfl) (pc' := 100) rfl (j := (e + 1)) (H7.ar 21 rfl) rfl (show (e + 1) < 60 by omega) (by decide) (by rw [hz]; exact b2i_nar _) (fun z1 e1 => ?_)
    have Y1 := H7.ast 21 rfl e1
    clear e1
    rw [hX8] at Y1
    refine g_aload_n ok (dk m_Mo_change 60 rfl) (pc' := 101) rfl (i := 0) rfl rfl ?_
    refine g_get ok (dk m_Mo_change 61 rfl) (pc' := 104) rfl f_Mo_62 Y1.1 rfl ?_
    refine g_iload_n ok (dk m_Mo_change 62 rfl) (pc' := 105) rfl (i := 3) rfl rfl ?_
    refine g_zaldI ok (dk m_Mo_change 63 rfl) (pc' := 106) rfl (j := (e + 1)) (Y1.ar 21 rfl) rfl (show (e + 1) < 60 by omega) (by decide) ?_
    refine g_top (w := .int z) (congrArg Value.int (by rw [← hX8]; exact xs_s _ _ _ _)) ?_
    refine g_if_eq ok (dk m_Mo_change 64 rfl) (tgt := 119) (by decide) (pc' := 109) rfl (fun c_106 => ?_) (fun c_106 => ?_)
    · refine g_iconst ok (dk m_Mo_change 70 rfl) (pc' := 120) rfl (v := 0) (by decide) ?_
      exact mid _ _ X8 n c 0 Y1 xfr.rf ⟨xfr.rf, hn8, Nat.le_refl _, hw8, fun _ _ => ⟨rfl, rfl, rfl⟩, fun k h1 h2 => by omega⟩ (by omega) hc8 (by omega) ⟨X8, Or.inr ⟨b2i_0 (hz.symm.trans c_106), by rw [← hX8, ch_8, hz], rfl⟩, xfr.rf, hn8⟩
    · refine g_aload_n ok (dk m_Mo_change 65 rfl) (pc' := 110) rfl (i := 0) rfl rfl ?_
      refine g_iload_n ok (dk m_Mo_change 66 rfl) (pc' := 111) rfl (i := 3) rfl rfl ?_
      refine g_iload ok (dk m_Mo_change 67 rfl) (pc' := 113) rfl rfl ?_
      refine g_callV ok (dk m_Mo_change 68 rfl) (pc' := 116) rfl c_Mo_254 (c_Mo_renew g (e := e + 1) (l := l) (D := D7) (n := n) (c := c) 2 (by omega) he hl2 (by exact hD7) hD74 (by exact hn8) (by omega) (by exact hc8) (by omega) (by exact h128) (by exact hu8) (by exact hw8) Y1) Y1.1 rfl rfl (by simp [Value.category]) (by omega) rfl (rc' := 0) (rs' := 0) (by omega) (by omega) (fun rv h' hcc => ?_) (fun i h' hcc => by obtain ⟨X2, H2, f2, e9⟩ := hcc; cases e9)
      obtain ⟨X9, H9, fr9, e9⟩ := hcc
      cases e9
      refine g_goto ok (dk m_Mo_change 69 rfl) (pc' := 120) (by decide) ?_
      obtain ⟨n9, c9, hR9, hn9b, hc9, hc9b, -, -⟩ := rn_all hl2 hD7 hD74 hn8 (by omega) hc8 (by omega) h128 hu8 hw8
      exact mid _ X9 _ n9 c9 _ H9 fr9 hR9 hn9b hc9 hc9b ⟨_, Or.inl ⟨b2i_n (fun y => c_106 (hz.trans y)), by rw [show ch_8 X7 e pa = X8 by rw [← hX8, ch_8, hz]], by rw [show ch_8 X7 e pa = X8 by rw [← hX8, ch_8, hz]]⟩, fr9, hR9.2.1⟩
  refine g_aload_n ok (dk m_Mo_change 0 rfl) (pc' := 1) rfl (i := 0) rfl rfl ?_
  refine g_get ok (dk m_Mo_change 1 rfl) (pc' := 4) rfl f_Mo_151 H.1 rfl ?_
  rw [h12]
  refine g_istore_n ok (dk m_Mo_change 2 rfl) (pc' := 5) rfl (i := 3) rfl (Nat.le_of_ble_eq_true rfl) rfl ?_
  refine g_aload_n ok (dk m_Mo_change 3 rfl) (pc' := 6) rfl (i := 0) rfl rfl ?_
  refine g_get ok (dk m_Mo_change 4 rfl) (pc' := 9) rfl f_Mo_83 H.1 rfl ?_
  refine g_iload_n ok (dk m_Mo_change 5 rfl) (pc' := 10) rfl (i := 1) rfl rfl ?_
  refine g_ialdI ok (dk m_Mo_change 6 rfl) (pc' := 11) rfl (j := mm) (H.ar 28 rfl) rfl (show mm < 16 by omega) (by decide) ?_
  rw [hl]
  refine g_istore ok (dk m_Mo_change 7 rfl) (pc' := 13) rfl (Nat.le_of_ble_eq_true rfl) rfl ?_
  refine g_aload_n ok (dk m_Mo_change 8 rfl) (pc' := 14) rfl (i := 0) rfl rfl ?_
  refine g_iload_n ok (dk m_Mo_change 9 rfl) (pc' := 15) rfl (i := 3) rfl rfl ?_
  refine g_iconst ok (dk m_Mo_change 10 rfl) (pc' := 16) rfl (v := 1) (by decide) ?_
  refine g_isub ok (dk m_Mo_change 11 rfl) (pc' := 17) rfl ?_
  rw [nI_pred]
  refine g_iload_n ok (dk m_Mo_change 12 rfl) (pc' := 18) rfl (i := 3) rfl rfl ?_
  refine g_callV ok (dk m_Mo_change 13 rfl) (pc' := 21) rfl c_Mo_236 (c_Mo_copyTree g (f := e) (t := e + 1) (D := D) 1 (by omega) (by omega) he (by omega) hD hD4 H) H.1 rfl rfl (by simp [Value.category]) (by omega) rfl (rc' := 0) (rs' := 0) (by omega) (by omega) (fun rv h' hcc => ?_) (fun i h' hcc => by obtain ⟨e9, -⟩ := hcc; cases e9)
  obtain ⟨e9, X1, H1, hcp⟩ := hcc
  cases e9
  refine g_aload_n ok (dk m_Mo_change 14 rfl) (pc' := 22) rfl (i := 0) rfl rfl ?_
  refine g_get ok (dk m_Mo_change 15 rfl) (pc' := 25) rfl f_Mo_44 H1.1 rfl ?_
  refine g_iload_n ok (dk m_Mo_change 16 rfl) (pc' := 26) rfl (i := 3) rfl rfl ?_
  refine g_iload ok (dk m_Mo_change 17 rfl) (pc' := 28) rfl rfl ?_
  refine g_iastI ok (dk m_Mo_change 18 rfl) (pc' := 29) rfl (j := (e + 1)) (H1.ar 15 rfl) rfl (show (e + 1) < 60 by omega) (by decide) (fun z1 e1 => ?_)
  have Y1 := H1.ast 15 rfl e1
  clear e1
  have fA : xfr [13, 15, 22, 23, 24, 25, 26] X (xs X1 15 (e + 1) (nI l)) := (hcp.1.wk (by decide)).xs 15 _ _ (by decide)
  obtain ⟨Xa, hXa⟩ : ∃ Xa, xs X1 15 (e + 1) (nI l) = Xa := ⟨_, rfl⟩
  have hDa : Xa.2 13 e = nI D ∧ Xa.2 13 (e + 1) = nI D := by
    rw [← hXa]
    show X1.2 13 e = nI D ∧ X1.2 13 (e + 1) = nI D
    rw [hcp.2.1, upd_s, upd_n (by omega)]
    exact ⟨hD, rfl⟩
  have hu1 : uk (Xa.2 23) (e + 1) := by
    rw [← hXa]
    show uk (X1.2 23) (e + 1)
    rw [hcp.2.2.2.1]
    exact uk_cp hu
  rw [hXa] at fA Y1
  refine g_aload_n ok (dk m_Mo_change 19 rfl) (pc' := 30) rfl (i := 0) rfl rfl ?_
  refine g_iload_n ok (dk m_Mo_change 20 rfl) (pc' := 31) rfl (i := 3) rfl rfl ?_
  refine g_iload ok (dk m_Mo_change 21 rfl) (pc' := 33) rfl rfl ?_
  refine g_callV ok (dk m_Mo_change 22 rfl) (pc' := 36) rfl c_Mo_239 (c_Mo_findRemoves g (e := e) (D := D) (wt := wt) (nI l) 0 he (by exact (fA 42 (by decide)).1.trans hwt) hwt2 (by exact hDa.1) hD4 (by rw [(fA 43 (by decide)).2, (fA 45 (by decide)).2]; exact hR) Y1) Y1.1 rfl rfl (by simp [Value.category]) (by omega) rfl (rc' := 0) (rs' := 0) (by omega) (by omega) (fun rv h' hcc => ?_) (fun i h' hcc => by obtain ⟨e9, -⟩ := hcc; cases e9)
  obtain ⟨e9, X3, H3, f3, h3⟩ := hcc
  cases e9
  have g3 : xfr [13, 15, 17, 22, 23, 24, 25, 26] X X3 := (fA.wk (by decide)).tr (f3.wk (by decide))
  have hfu : ∀ k, fu_l X3 k = fu_l X k := fun k => by unfold fu_l; rw [(g3 28 (by decide)).2, (g3 44 (by decide)).2]
  refine g_aload_n ok (dk m_Mo_change 23 rfl) (pc' := 37) rfl (i := 0) rfl rfl ?_
  refine g_iload_n ok (dk m_Mo_change 24 rfl) (pc' := 38) rfl (i := 3) rfl rfl ?_
  refine g_iload ok (dk m_Mo_change 25 rfl) (pc' := 40) rfl rfl ?_
  refine g_callV ok (dk m_Mo_change 26 rfl) (pc' := 43) rfl c_Mo_242 (c_Mo_findUpdates g (e := e + 1) (wt := wt) (nI l) 0 he (by exact (g3 42 (by decide)).1.trans hwt) hwt2 (by rw [(g3 44 (by decide)).2]; exact hP) (fun k hk h2 => by rw [(g3 43 (by decide)).2] at h2; rw [hfu]; exact hL k hk h2) H3) H3.1 rfl rfl (by simp [Value.category]) (by omega) rfl (rc' := 0) (rs' := 0) (by omega) (by omega) (fun rv h' hcc => ?_) (fun i h' hcc => by obtain ⟨e9, -⟩ := hcc; cases e9)
  obtain ⟨e9, X4, H4, f4, h4a, h4b⟩ := hcc
  cases e9
  have g4 : xfr [13, 15, 17, 18, 22, 23, 24, 25, 26, 51] X X4 := (g3.wk (by decide)).tr (f4.wk (by decide))
  have hC4 : q_CH4 X l e D wt X4 := ⟨X1, Xa, X3, hcp, hXa.symm, f3, h3, f4, h4a, h4b⟩
  have hD4x : X4.2 13 (e + 1) = nI D := by
    rw [(f4 13 (by decide)).2, (f3 13 (by decide)).2]
    exact hDa.2
  have hu4 : uk (X4.2 23) (e + 1) := by
    rw [(f4 23 (by decide)).2, (f3 23 (by decide)).2]
    exact hu1
  have hb4 : bit (X4.2 17 (e + 1)) l = 0 := by
    rw [(f4 17 (by decide)).2, h3, upd_s]
    refine fr_mine hl2 wt 0 wt _ (by omega) (by rw [(fA 43 (by decide)).2, (fA 45 (by decide)).2]; exact hR) ?_
    rw [(fA 17 (by decide)).2]
    exact h17
  refine g_aload_n ok (dk m_Mo_change 27 rfl) (pc' := 44) rfl (i := 0) rfl rfl ?_
  refine g_iload_n ok (dk m_Mo_change 28 rfl) (pc' := 45) rfl (i := 3) rfl rfl ?_
  refine g_callV ok (dk m_Mo_change 29 rfl) (pc' := 48) rfl c_Mo_245 (c_Mo_doRemoves g (e := e + 1) (D := D) 2 (by omega) he hD4x hD4 H4) H4.1 rfl rfl (by simp [Value.category]) (by omega) rfl (rc' := 0) (rs' := 0) (by omega) (by omega) (fun rv h' hcc => ?_) (fun i h' hcc => by obtain ⟨e9, -⟩ := hcc; cases e9)
  obtain ⟨e9, H5⟩ := hcc
  cases e9
  obtain ⟨X5, hX5⟩ : ∃ X5, dr_s (e + 1) D (dr_m (e + 1) D (X4.2 17 (e + 1)) 16 0 X4) = X5 := ⟨_, rfl⟩
  have f5 : xfr [13, 22, 23, 26] X4 X5 := by
    rw [← hX5]
    exact ((dr_m_f (e + 1) D _ 16 0 X4).wk (by decide)).tr ((dr_s_f (e + 1) D _).wk (by decide))
  obtain ⟨D5, hD5a, hD5⟩ := dr_s_D (e + 1) D (dr_m (e + 1) D (X4.2 17 (e + 1)) 16 0 X4) (by rw [(dr_m_f (e + 1) D _ 16 0 X4 13 (by decide)).2]; exact hD4x)
  have hu5 : uk (X5.2 23) (e + 1) := by
    rw [← hX5]
    exact uk_s D _ (uk_dr 16 0 X4 hu4)
  rw [hX5] at H5 hD5
  have hD54 : D5 ≤ 4 := by omega
  refine g_aload_n ok (dk m_Mo_change 30 rfl) (pc' := 49) rfl (i := 0) rfl rfl ?_
  refine g_iload_n ok (dk m_Mo_change 31 rfl) (pc' := 50) rfl (i := 3) rfl rfl ?_
  refine g_callV ok (dk m_Mo_change 32 rfl) (pc' := 53) rfl c_Mo_248 (c_Mo_doUpdates g (e := e + 1) (D := D5) 2 (by omega) he hD5 hD54 H5) H5.1 rfl rfl (by simp [Value.category]) (by omega) rfl (rc' := 0) (rs' := 0) (by omega) (by omega) (fun rv h' hcc => ?_) (fun i h' hcc => by obtain ⟨e9, -⟩ := hcc; cases e9)
  obtain ⟨e9, H6⟩ := hcc
  cases e9
  obtain ⟨X6, hX6⟩ : ∃ X6, du_m (e + 1) D5 (X5.2 18 (e + 1)) (X5.2 51) 16 0 X5 = X6 := ⟨_, rfl⟩
  have f6 : xfr [22, 23, 24] X5 X6 := by
    rw [← hX6]
    exact du_m_f (e + 1) D5 _ _ 16 0 X5
  have hu6 : uk (X6.2 23) (e + 1) := by
    rw [← hX6]
    exact uk_du 16 0 X5 hu5
  rw [hX6] at H6
  have hD6 : X6.2 13 (e + 1) = nI D5 := by
    rw [(f6 13 (by decide)).2]
    exact hD5
  have g6 : xfr [13, 15, 17, 18, 22, 23, 24, 25, 26, 51] X X6 := (g4.tr (f5.wk (by decide))).tr (f6.wk (by decide))
  refine g_aload_n ok (dk m_Mo_change 33 rfl) (pc' := 54) rfl (i := 0) rfl rfl ?_
  refine g_iload_n ok (dk m_Mo_change 34 rfl) (pc' := 55) rfl (i := 3) rfl rfl ?_
  refine g_callV ok (dk m_Mo_change 35 rfl) (pc' := 58) rfl c_Mo_251 (c_Mo_doAdds g (e := e + 1) (D := D5) (wt := wt) 2 (by omega) he (by exact (g6 42 (by decide)).1.trans hwt) hwt2 hD6 hD54 (by rw [(g6 43 (by decide)).2, (g6 45 (by decide)).2, (g6 36 (by decide)).2]; exact hA0) H6) H6.1 rfl rfl (by simp [Value.category]) (by omega) rfl (rc' := 0) (rs' := 0) (by omega) (by omega) (fun rv h' hcc => ?_) (fun i h' hcc => by obtain ⟨e9, -⟩ := hcc; cases e9)
  obtain ⟨e9, H7⟩ := hcc
  cases e9
  obtain ⟨X7, hX7⟩ : ∃ X7, da_m (e + 1) wt 0 X6 = X7 := ⟨_, rfl⟩
  have f7a : xfr da_K X6 X7 := by
    rw [← hX7]
    exact da_m_f (e + 1) wt 0 X6
  obtain ⟨D7, hD74, hD7⟩ := da_m_D (e + 1) wt 0 D5 X6 hD6 hD54
  have hu7 : uk (X7.2 23) (e + 1) := by
    rw [← hX7]
    exact uk_am wt 0 D5 X6 hD6 hD54 hu6
  have hus7 : ∀ k, X7.2 39 k = nI (e + 1) → ∃ l, l < 16 ∧ X7.2 40 k = nI l := by
    rw [← hX7]
    exact da_us wt 0 D5 X6 hD6 hD54 (by rw [(g6 39 (by decide)).2, (g6 40 (by decide)).2]; exact hUs)
  rw [hX7] at H7 hD7
  have f7 : xfr cK7 X X7 := (g6.wk (by decide)).tr (f7a.wk (by decide))
  have hC7 : q_CH7 X l e D wt X7 D7 := ⟨X4, X5, D5, hC4, hX5.symm, hD5, hD54, by rw [← hX7, ← hX6], hD7, hD74⟩
  have hb7 : bit (X7.2 17 (e + 1)) l = 0 := by
    rw [(f7a 17 (by decide)).2, (f6 17 (by decide)).2, (f5 17 (by decide)).2]
    exact hb4
  refine g_aload_n ok (dk m_Mo_change 36 rfl) (pc' := 59) rfl (i := 0) rfl rfl ?_
  refine g_get ok (dk m_Mo_change 37 rfl) (pc' := 62) rfl f_Mo_62 H7.1 rfl ?_
  refine g_iload_n ok (dk m_Mo_change 38 rfl) (pc' := 63) rfl (i := 3) rfl rfl ?_
  refine g_iload_n ok (dk m_Mo_change 39 rfl) (pc' := 64) rfl (i := 2) rfl rfl ?_
  refine g_if_ne ok (dk m_Mo_change 40 rfl) (tgt := 94) (by decide) (pc' := 67) rfl (fun c_64 => ?_) (fun c_64 => ?_)
  · refine g_iconst ok (dk m_Mo_change 56 rfl) (pc' := 95) rfl (v := 1) (by decide) ?_
    refine g_goto ok (dk m_Mo_change 57 rfl) (pc' := 99) (by decide) ?_
    exact mid99 _ X7 D7 _ H7 f7 hC7 hD7 hD74 hu7 hb7 hus7 (b2i_t (p := ch_P X7 e pa) (Or.inl c_64)).symm
  · refine g_aload_n ok (dk m_Mo_change 41 rfl) (pc' := 68) rfl (i := 0) rfl rfl ?_
    refine g_get ok (dk m_Mo_change 42 rfl) (pc' := 71) rfl f_Mo_50 H7.1 rfl ?_
    refine g_iload_n ok (dk m_Mo_change 43 rfl) (pc' := 72) rfl (i := 3) rfl rfl ?_
    refine g_ialdI ok (dk m_Mo_change 44 rfl) (pc' := 73) rfl (j := (e + 1)) (H7.ar 17 rfl) rfl (show (e + 1) < 60 by omega) (by decide) ?_
    refine g_if_ne ok (dk m_Mo_change 45 rfl) (tgt := 94) (by decide) (pc' := 76) rfl (fun c_73 => ?_) (fun c_73 => ?_)
    · refine g_iconst ok (dk m_Mo_change 56 rfl) (pc' := 95) rfl (v := 1) (by decide) ?_
      refine g_goto ok (dk m_Mo_change 57 rfl) (pc' := 99) (by decide) ?_
      exact mid99 _ X7 D7 _ H7 f7 hC7 hD7 hD74 hu7 hb7 hus7 (b2i_t (p := ch_P X7 e pa) (Or.inr (Or.inl c_73))).symm
    · refine g_aload_n ok (dk m_Mo_change 46 rfl) (pc' := 77) rfl (i := 0) rfl rfl ?_
      refine g_get ok (dk m_Mo_change 47 rfl) (pc' := 80) rfl f_Mo_53 H7.1 rfl ?_
      refine g_iload_n ok (dk m_Mo_change 48 rfl) (pc' := 81) rfl (i := 3) rfl rfl ?_
      refine g_ialdI ok (dk m_Mo_change 49 rfl) (pc' := 82) rfl (j := (e + 1)) (H7.ar 18 rfl) rfl (show (e + 1) < 60 by omega) (by decide) ?_
      refine g_if_ne ok (dk m_Mo_change 50 rfl) (tgt := 94) (by decide) (pc' := 85) rfl (fun c_82 => ?_) (fun c_82 => ?_)
      · refine g_iconst ok (dk m_Mo_change 56 rfl) (pc' := 95) rfl (v := 1) (by decide) ?_
        refine g_goto ok (dk m_Mo_change 57 rfl) (pc' := 99) (by decide) ?_
        exact mid99 _ X7 D7 _ H7 f7 hC7 hD7 hD74 hu7 hb7 hus7 (b2i_t (p := ch_P X7 e pa) (Or.inr (Or.inr (Or.inl c_82)))).symm
      · refine g_aload_n ok (dk m_Mo_change 51 rfl) (pc' := 86) rfl (i := 0) rfl rfl ?_
        refine g_get ok (dk m_Mo_change 52 rfl) (pc' := 89) rfl f_Mo_56 H7.1 rfl ?_
        refine g_iload_n ok (dk m_Mo_change 53 rfl) (pc' := 90) rfl (i := 3) rfl rfl ?_
        refine g_ialdI ok (dk m_Mo_change 54 rfl) (pc' := 91) rfl (j := (e + 1)) (H7.ar 19 rfl) rfl (show (e + 1) < 60 by omega) (by decide) ?_
        refine g_if_ne ok (dk m_Mo_change 55 rfl) (tgt := 98) (by decide) (pc' := 94) rfl (fun c_91 => ?_) (fun c_91 => ?_)
        · refine g_iconst ok (dk m_Mo_change 58 rfl) (pc' := 99) rfl (v := 0) (by decide) ?_
          exact mid99 _ X7 D7 _ H7 f7 hC7 hD7 hD74 hu7 hb7 hus7 (b2i_f (p := ch_P X7 e pa) (fun z => by rcases z with z | z | z | z; exact z c_64; exact z c_73; exact z c_82; exact c_91 z)).symm
        · refine g_iconst ok (dk m_Mo_change 56 rfl) (pc' := 95) rfl (v := 1) (by decide) ?_
          refine g_goto ok (dk m_Mo_change 57 rfl) (pc' := 99) (by decide) ?_
          exact mid99 _ X7 D7 _ H7 f7 hC7 hD7 hD74 hu7 hb7 hus7 (b2i_t (p := ch_P X7 e pa) (Or.inr (Or.inr (Or.inr c_91)))).symm
