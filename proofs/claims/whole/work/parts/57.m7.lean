/-! ===== the reference: mayAdd, doAdds ===== -/
def m_may (X : x_T) (e p j D : Nat) : Prop := X.2 39 p = -1 ∧ mo_lo (fun l => X.2 26 (16 * e + l)) (nI j) (2 ^ D) 0 = -1 ∧ (X.2 27 j = -1 ∨ (X.2 27 j = nI e - 1 ∧ (X.2 17 e >>> (X.2 28 j &&& 31)) &&& 1 = 1))
def da_u (e l : Nat) : Nat → Nat → x_T → x_T
  | 0, _, X => X
  | m + 1, t, X => da_u e l m (t + 1) (if X.2 22 (31 * e + abv l t) = -1 then X else xs X 23 (31 * e + abv l t) (X.2 23 (31 * e + abv l t) ||| ((1 : Int32) <<< (nI l &&& 31))))
theorem da_u_f (e l : Nat) : ∀ (m t : Nat) (X : x_T), xfr [23] X (da_u e l m t X) := by
  intro m
  induction m with
  | zero => intro t X; exact xfr.rf
  | succ m ih =>
    intro t X
    refine xfr.tr ?_ (ih (t + 1) _)
    split
    · exact xfr.rf
    · exact xfr.rf.xs 23 _ _ (by decide)
theorem mo_fr_le (f : Nat → Int32) : ∀ (m k : Nat), k ≤ mo_fr f m k ∧ mo_fr f m k ≤ k + m := by
  intro m
  induction m with
  | zero => intro k; exact ⟨Nat.le_refl _, Nat.le_refl _⟩
  | succ m ih =>
    intro k
    rw [mo_fr]
    split
    · omega
    · have := ih (k + 1)
      omega
abbrev da_do (X : x_T) (e p fl j D : Nat) : x_T := xs (xs (xs (xs (da_u e fl D 1 (mo_set X e (2 * fl) (X.2 38 p))) 26 (16 * e + fl) (nI j)) 19 e ((da_u e fl D 1 (mo_set X e (2 * fl) (X.2 38 p))).2 19 e ||| ((1 : Int32) <<< (nI fl &&& 31)))) 39 p (nI e)) 40 p (nI fl)
abbrev da_fl (X : x_T) (e D : Nat) : Nat := mo_fr (fun l => X.2 22 (31 * e + 2 * l)) (2 ^ D) 0
noncomputable def da_1 (X : x_T) (e p j D : Nat) : x_T := by
  classical exact if m_may X e p j D ∧ ¬ da_fl X e D = 16 then (if da_fl X e D = 2 ^ D then da_do (xs X 13 e (nI (D + 1))) e p (da_fl X e D) j (D + 1) else da_do X e p (da_fl X e D) j D) else X
noncomputable def da_m (e : Nat) : Nat → Nat → x_T → x_T
  | 0, _, X => X
  | m + 1, k, X => da_m e m (k + 1) (if X.2 43 k = 0 then da_1 X e (ix (X.2 45 k)) (ix (X.2 36 (ix (X.2 45 k)))) (ix (X.2 13 e)) else X)
def da_K : List Nat := [13, 19, 22, 23, 24, 26, 39, 40]
theorem da_do_f (X : x_T) (e p fl j D : Nat) : xfr da_K X (da_do X e p fl j D) := ((((((xfr.rf.xs 22 _ _ (by decide)).xs 23 _ _ (by decide)).xs 24 _ _ (by decide)).tr ((da_u_f e fl D 1 _).wk (by decide))).xs 26 _ _ (by decide)).xs 19 _ _ (by decide)).xs 39 _ _ (by decide) |>.xs 40 _ _ (by decide)
set_option maxHeartbeats 1000000 in
theorem c_Mo_mayAdd (g : q_G) {h : q_H} {o : Nat} {ba : Nat → Nat} {X : x_T} {e p j D : Nat} (d : Nat) (hd : 1 ≤ d) (he : e < 60) (hp : p < 60) (hj : X.2 36 p = nI j) (hj2 : j < 16) (hD : X.2 13 e = nI D) (hD4 : D ≤ 4) (H : q_mo h o ba X) : MG g y_Mo_mayAdd b_Mo_mayAdd 4 (some .boolean) d 0 0 [.ref o, .int (nI e), .int (nI p)] h (fun q h' => q = .inl (some (.int (b2i (m_may X e p j D)))) ∧ h' = h) := by
  refine MG.of (by decide +kernel) (by simp [Value.category]) (Nat.le_of_ble_eq_true rfl) ?_
  intro Z A ok
  refine g_aload_n ok (dk m_Mo_mayAdd 0 rfl) (pc' := 1) rfl (i := 0) rfl rfl ?_
  refine g_get ok (dk m_Mo_mayAdd 1 rfl) (pc' := 4) rfl f_Mo_104 H.1 rfl ?_
  refine g_iload_n ok (dk m_Mo_mayAdd 2 rfl) (pc' := 5) rfl (i := 2) rfl rfl ?_
  refine g_ialdI ok (dk m_Mo_mayAdd 3 rfl) (pc' := 6) rfl (j := p) (H.ar 36 rfl) rfl (show p < 60 by omega) (by decide) ?_
  rw [hj]
  refine g_istore_n ok (dk m_Mo_mayAdd 4 rfl) (pc' := 7) rfl (i := 3) rfl (Nat.le_of_ble_eq_true rfl) rfl ?_
  refine g_aload_n ok (dk m_Mo_mayAdd 5 rfl) (pc' := 8) rfl (i := 0) rfl rfl ?_
  refine g_get ok (dk m_Mo_mayAdd 6 rfl) (pc' := 11) rfl f_Mo_113 H.1 rfl ?_
  refine g_iload_n ok (dk m_Mo_mayAdd 7 rfl) (pc' := 12) rfl (i := 2) rfl rfl ?_
  refine g_ialdI ok (dk m_Mo_mayAdd 8 rfl) (pc' := 13) rfl (j := p) (H.ar 39 rfl) rfl (show p < 60 by omega) (by decide) ?_
  refine g_iconst ok (dk m_Mo_mayAdd 9 rfl) (pc' := 14) rfl (v := (-1)) (by decide) ?_
  refine g_icmp_ne ok (dk m_Mo_mayAdd 10 rfl) (tgt := 27) (by decide) (pc' := 17) rfl (fun c_14 => ?_) (fun c_14 => ?_)
  · refine g_iconst ok (dk m_Mo_mayAdd 17 rfl) (pc' := 28) rfl (v := 0) (by decide) ?_
    exact g_iret ok (dk m_Mo_mayAdd 18 rfl) rfl rfl ⟨by rw [b2i_f (p := m_may X e p j D) (fun z => c_14 z.1)], rfl⟩
  · refine g_aload_n ok (dk m_Mo_mayAdd 11 rfl) (pc' := 18) rfl (i := 0) rfl rfl ?_
    refine g_iload_n ok (dk m_Mo_mayAdd 12 rfl) (pc' := 19) rfl (i := 1) rfl rfl ?_
    refine g_iload_n ok (dk m_Mo_mayAdd 13 rfl) (pc' := 20) rfl (i := 3) rfl rfl ?_
    refine g_callV ok (dk m_Mo_mayAdd 14 rfl) (pc' := 23) rfl c_Mo_208 (c_Mo_leafOf g (e := e) (D := D) (nI j) 0 he hD hD4 H) H.1 rfl rfl (by simp [Value.category]) (by omega) rfl (rc' := 0) (rs' := 0) (by omega) (by omega) (fun rv h' hcc => ?_) (fun i h' hcc => by obtain ⟨e9, -⟩ := hcc; cases e9)
    obtain ⟨e9, e2⟩ := hcc
    have e3 := e2.symm
    subst e3
    cases e9
    refine g_iconst ok (dk m_Mo_mayAdd 15 rfl) (pc' := 24) rfl (v := (-1)) (by decide) ?_
    refine g_icmp_eq ok (dk m_Mo_mayAdd 16 rfl) (tgt := 29) (by decide) (pc' := 27) rfl (fun c_24 => ?_) (fun c_24 => ?_)
    · refine g_aload_n ok (dk m_Mo_mayAdd 19 rfl) (pc' := 30) rfl (i := 0) rfl rfl ?_
      refine g_get ok (dk m_Mo_mayAdd 20 rfl) (pc' := 33) rfl f_Mo_80 H.1 rfl ?_
      refine g_iload_n ok (dk m_Mo_mayAdd 21 rfl) (pc' := 34) rfl (i := 3) rfl rfl ?_
      refine g_ialdI ok (dk m_Mo_mayAdd 22 rfl) (pc' := 35) rfl (j := j) (H.ar 27 rfl) rfl (show j < 16 by omega) (by decide) ?_
      refine g_iconst ok (dk m_Mo_mayAdd 23 rfl) (pc' := 36) rfl (v := (-1)) (by decide) ?_
      refine g_icmp_eq ok (dk m_Mo_mayAdd 24 rfl) (tgt := 70) (by decide) (pc' := 39) rfl (fun c_36 => ?_) (fun c_36 => ?_)
      · refine g_iconst ok (dk m_Mo_mayAdd 46 rfl) (pc' := 71) rfl (v := 1) (by decide) ?_
        refine g_goto ok (dk m_Mo_mayAdd 47 rfl) (pc' := 75) (by decide) ?_
        exact g_iret ok (dk m_Mo_mayAdd 49 rfl) rfl rfl ⟨by rw [b2i_t (p := m_may X e p j D) ⟨c_14, c_24, Or.inl c_36⟩], rfl⟩
      · refine g_aload_n ok (dk m_Mo_mayAdd 25 rfl) (pc' := 40) rfl (i := 0) rfl rfl ?_
        refine g_get ok (dk m_Mo_mayAdd 26 rfl) (pc' := 43) rfl f_Mo_80 H.1 rfl ?_
        refine g_iload_n ok (dk m_Mo_mayAdd 27 rfl) (pc' := 44) rfl (i := 3) rfl rfl ?_
        refine g_ialdI ok (dk m_Mo_mayAdd 28 rfl) (pc' := 45) rfl (j := j) (H.ar 27 rfl) rfl (show j < 16 by omega) (by decide) ?_
        refine g_iload_n ok (dk m_Mo_mayAdd 29 rfl) (pc' := 46) rfl (i := 1) rfl rfl ?_
        refine g_iconst ok (dk m_Mo_mayAdd 30 rfl) (pc' := 47) rfl (v := 1) (by decide) ?_
        refine g_isub ok (dk m_Mo_mayAdd 31 rfl) (pc' := 48) rfl ?_
        refine g_icmp_ne ok (dk m_Mo_mayAdd 32 rfl) (tgt := 74) (by decide) (pc' := 51) rfl (fun c_48 => ?_) (fun c_48 => ?_)
        · refine g_iconst ok (dk m_Mo_mayAdd 48 rfl) (pc' := 75) rfl (v := 0) (by decide) ?_
          exact g_iret ok (dk m_Mo_mayAdd 49 rfl) rfl rfl ⟨by rw [b2i_f (p := m_may X e p j D) (fun z => by rcases z.2.2 with q | q; exact c_36 q; exact c_48 q.1)], rfl⟩
        · refine g_aload_n ok (dk m_Mo_mayAdd 33 rfl) (pc' := 52) rfl (i := 0) rfl rfl ?_
          refine g_get ok (dk m_Mo_mayAdd 34 rfl) (pc' := 55) rfl f_Mo_50 H.1 rfl ?_
          refine g_iload_n ok (dk m_Mo_mayAdd 35 rfl) (pc' := 56) rfl (i := 1) rfl rfl ?_
          refine g_ialdI ok (dk m_Mo_mayAdd 36 rfl) (pc' := 57) rfl (j := e) (H.ar 17 rfl) rfl (show e < 60 by omega) (by decide) ?_
          refine g_aload_n ok (dk m_Mo_mayAdd 37 rfl) (pc' := 58) rfl (i := 0) rfl rfl ?_
          refine g_get ok (dk m_Mo_mayAdd 38 rfl) (pc' := 61) rfl f_Mo_83 H.1 rfl ?_
          refine g_iload_n ok (dk m_Mo_mayAdd 39 rfl) (pc' := 62) rfl (i := 3) rfl rfl ?_
          refine g_ialdI ok (dk m_Mo_mayAdd 40 rfl) (pc' := 63) rfl (j := j) (H.ar 28 rfl) rfl (show j < 16 by omega) (by decide) ?_
          refine g_ishr ok (dk m_Mo_mayAdd 41 rfl) (pc' := 64) rfl ?_
          refine g_iconst ok (dk m_Mo_mayAdd 42 rfl) (pc' := 65) rfl (v := 1) (by decide) ?_
          refine g_iand ok (dk m_Mo_mayAdd 43 rfl) (pc' := 66) rfl ?_
          refine g_iconst ok (dk m_Mo_mayAdd 44 rfl) (pc' := 67) rfl (v := 1) (by decide) ?_
          refine g_icmp_ne ok (dk m_Mo_mayAdd 45 rfl) (tgt := 74) (by decide) (pc' := 70) rfl (fun c_67 => ?_) (fun c_67 => ?_)
          · refine g_iconst ok (dk m_Mo_mayAdd 48 rfl) (pc' := 75) rfl (v := 0) (by decide) ?_
            exact g_iret ok (dk m_Mo_mayAdd 49 rfl) rfl rfl ⟨by rw [b2i_f (p := m_may X e p j D) (fun z => by rcases z.2.2 with q | q; exact c_36 q; exact c_67 q.2)], rfl⟩
          · refine g_iconst ok (dk m_Mo_mayAdd 46 rfl) (pc' := 71) rfl (v := 1) (by decide) ?_
            refine g_goto ok (dk m_Mo_mayAdd 47 rfl) (pc' := 75) (by decide) ?_
            exact g_iret ok (dk m_Mo_mayAdd 49 rfl) rfl rfl ⟨by rw [b2i_t (p := m_may X e p j D) ⟨c_14, c_24, Or.inr ⟨c_48, c_67⟩⟩], rfl⟩
    · refine g_iconst ok (dk m_Mo_mayAdd 17 rfl) (pc' := 28) rfl (v := 0) (by decide) ?_
      exact g_iret ok (dk m_Mo_mayAdd 18 rfl) rfl rfl ⟨by rw [b2i_f (p := m_may X e p j D) (fun z => c_24 z.2.1)], rfl⟩
set_option maxHeartbeats 1000000 in
theorem c_Mo_doAdds (g : q_G) {h : q_H} {o : Nat} {ba : Nat → Nat} {X : x_T} {e D wt : Nat} (d : Nat) (hd : 2 ≤ d) (he : e < 60) (hwt : X.1 42 = nI wt) (hwt2 : wt ≤ 20) (hD : X.2 13 e = nI D) (hD4 : D ≤ 4) (hA : ∀ k, k < wt → X.2 43 k = 0 → ∃ p j, p < 60 ∧ j < 16 ∧ X.2 45 k = nI p ∧ X.2 36 p = nI j) (H : q_mo h o ba X) : MG g y_Mo_doAdds b_Mo_doAdds 6 none d 0 0 [.ref o, .int (nI e)] h (fun q h' => q = .inl none ∧ q_mo h' o ba (da_m e wt 0 X)) := by
  refine MG.of (by decide +kernel) (by simp [Value.category]) (Nat.le_of_ble_eq_true rfl) ?_
  intro Z A ok
  have loop : ∀ (m k : Nat), k + m = wt → ∀ (h1 : q_H) (X1 : x_T) (D1 : Nat) (x3 x4 x5 : Option Value), q_mo h1 o ba X1 → xfr da_K X X1 → X1.2 13 e = nI D1 → D1 ≤ 4 → da_m e m k X1 = da_m e wt 0 X → GW g Z A (fun q h' => q = .inl none ∧ q_mo h' o ba (da_m e wt 0 X)) 0 0 h1 2 [some (.ref o), some (.int (nI e)), some (.int (nI k)), x3, x4, x5] [] := by
    intro m
    induction m with
    | zero =>
      intro k hk h1 X1 D1 x3 x4 x5 H1 f1 hD1 hD14 hv
      refine g_iload_n ok (dk m_Mo_doAdds 2 rfl) (pc' := 3) rfl (i := 2) rfl rfl ?_
      refine g_aload_n ok (dk m_Mo_doAdds 3 rfl) (pc' := 4) rfl (i := 0) rfl rfl ?_
      refine g_get ok (dk m_Mo_doAdds 4 rfl) (pc' := 7) rfl f_Mo_195 H1.1 rfl ?_
      refine g_top (w := .int (nI wt)) (congrArg Value.int ((f1 42 (by decide)).1.trans hwt)) ?_
      refine g_icmp_ge ok (dk m_Mo_doAdds 5 rfl) (tgt := 210) (by decide) (pc' := 10) rfl (fun c_7 => ?_) (fun c_7 => absurd (nI_le (a := wt) (b := k) (by omega) (by omega)) c_7)
      exact g_vret ok (dk m_Mo_doAdds 129 rfl) rfl ⟨rfl, by rw [← hv]; exact H1⟩
    | succ m ih =>
      intro k hk h1 X1 D1 x3 x4 x5 H1 f1 hD1 hD14 hv
      have hk2 : k < wt := by omega
      have e45 : X1.2 45 = X.2 45 := (f1 45 (by decide)).2
      have e43 : X1.2 43 = X.2 43 := (f1 43 (by decide)).2
      refine g_iload_n ok (dk m_Mo_doAdds 2 rfl) (pc' := 3) rfl (i := 2) rfl rfl ?_
      refine g_aload_n ok (dk m_Mo_doAdds 3 rfl) (pc' := 4) rfl (i := 0) rfl rfl ?_
      refine g_get ok (dk m_Mo_doAdds 4 rfl) (pc' := 7) rfl f_Mo_195 H1.1 rfl ?_
      refine g_top (w := .int (nI wt)) (congrArg Value.int ((f1 42 (by decide)).1.trans hwt)) ?_
      refine g_icmp_ge ok (dk m_Mo_doAdds 5 rfl) (tgt := 210) (by decide) (pc' := 10) rfl (fun c_7 => absurd c_7 (nI_ge (show k < wt by omega) (by omega))) (fun c_7 => ?_)
      refine g_aload_n ok (dk m_Mo_doAdds 6 rfl) (pc' := 11) rfl (i := 0) rfl rfl ?_
      refine g_get ok (dk m_Mo_doAdds 7 rfl) (pc' := 14) rfl f_Mo_128 H1.1 rfl ?_
      refine g_iload_n ok (dk m_Mo_doAdds 8 rfl) (pc' := 15) rfl (i := 2) rfl rfl ?_
      refine g_ialdI ok (dk m_Mo_doAdds 9 rfl) (pc' := 16) rfl (j := k) (H1.ar 45 rfl) rfl (show k < 20 by omega) (by decide) ?_
      rw [e45]
      refine g_istore_n ok (dk m_Mo_doAdds 10 rfl) (pc' := 17) rfl (i := 3) rfl (Nat.le_of_ble_eq_true rfl) rfl ?_
      refine g_aload_n ok (dk m_Mo_doAdds 11 rfl) (pc' := 18) rfl (i := 0) rfl rfl ?_
      refine g_get ok (dk m_Mo_doAdds 12 rfl) (pc' := 21) rfl f_Mo_122 H1.1 rfl ?_
      refine g_iload_n ok (dk m_Mo_doAdds 13 rfl) (pc' := 22) rfl (i := 2) rfl rfl ?_
      refine g_ialdI ok (dk m_Mo_doAdds 14 rfl) (pc' := 23) rfl (j := k) (H1.ar 43 rfl) rfl (show k < 20 by omega) (by decide) ?_
      rw [e43]
      refine g_if_ne ok (dk m_Mo_doAdds 15 rfl) (tgt := 204) (by decide) (pc' := 26) rfl (fun c_23 => ?_) (fun c_23 => ?_)
      · refine g_iinc ok (dk m_Mo_doAdds 127 rfl) (pc' := 207) rfl rfl (nI_1 k) rfl ?_
        refine g_goto ok (dk m_Mo_doAdds 128 rfl) (pc' := 2) (by decide) ?_
        exact ih (k + 1) (by omega) _ X1 D1 _ _ _ H1 f1 hD1 hD14 (by rw [← hv, da_m, if_neg (show ¬ X1.2 43 k = 0 by rw [e43]; exact c_23)])
      · obtain ⟨p, j, hp, hj, hpp, hjj⟩ := hA k hk2 c_23
        have hxp : ix (nI p) = p := ix_nI (by omega)
        have hxj : ix (nI j) = j := ix_nI (by omega)
        have h36 : X1.2 36 p = nI j := (congrFun (f1 36 (by decide)).2 p).trans hjj
        have hst : da_m e (m + 1) k X1 = da_m e m (k + 1) (da_1 X1 e p j D1) := by rw [da_m, e43, if_pos c_23, e45, hpp, hxp, h36, hxj, hD1, ix_nI (by omega)]
        obtain ⟨fl, hfl⟩ : ∃ fl, da_fl X1 e D1 = fl := ⟨_, rfl⟩
        have hfle : fl ≤ 2 ^ D1 := by have := (mo_fr_le (fun l => X1.2 22 (31 * e + 2 * l)) (2 ^ D1) 0).2; rw [show mo_fr (fun l => X1.2 22 (31 * e + 2 * l)) (2 ^ D1) 0 = fl from hfl] at this; omega
        have hp2 := p2_le hD14
        rw [hpp]
        refine g_aload_n ok (dk m_Mo_doAdds 16 rfl) (pc' := 27) rfl (i := 0) rfl rfl ?_
        refine g_iload_n ok (dk m_Mo_doAdds 17 rfl) (pc' := 28) rfl (i := 1) rfl rfl ?_
        refine g_iload_n ok (dk m_Mo_doAdds 18 rfl) (pc' := 29) rfl (i := 3) rfl rfl ?_
        refine g_callV ok (dk m_Mo_doAdds 19 rfl) (pc' := 32) rfl c_Mo_211 (c_Mo_mayAdd g (e := e) (p := p) (j := j) (D := D1) 1 (by omega) he hp h36 hj hD1 hD14 H1) H1.1 rfl rfl (by simp [Value.category]) (by omega) rfl (rc' := 0) (rs' := 0) (by omega) (by omega) (fun rv h' hcc => ?_) (fun i h' hcc => by obtain ⟨e9, -⟩ := hcc; cases e9)
        obtain ⟨e9, e2⟩ := hcc
        have e3 := e2.symm
        subst e3
        cases e9
        refine g_if_eq ok (dk m_Mo_doAdds 20 rfl) (tgt := 204) (by decide) (pc' := 35) rfl (fun c_32 => ?_) (fun c_32 => ?_)
        · refine g_iinc ok (dk m_Mo_doAdds 127 rfl) (pc' := 207) rfl rfl (nI_1 k) rfl ?_
          refine g_goto ok (dk m_Mo_doAdds 128 rfl) (pc' := 2) (by decide) ?_
          exact ih (k + 1) (by omega) _ X1 D1 _ _ _ H1 f1 hD1 hD14 (by rw [← hv, hst, da_1, if_neg (fun z => b2i_0 c_32 z.1)])
        · refine g_aload_n ok (dk m_Mo_doAdds 21 rfl) (pc' := 36) rfl (i := 0) rfl rfl ?_
          refine g_iload_n ok (dk m_Mo_doAdds 22 rfl) (pc' := 37) rfl (i := 1) rfl rfl ?_
          refine g_callV ok (dk m_Mo_doAdds 23 rfl) (pc' := 40) rfl c_Mo_215 (c_Mo_freeLeaf g (e := e) (D := D1) 0 he hD1 hD14 H1) H1.1 rfl rfl (by simp [Value.category]) (by omega) rfl (rc' := 0) (rs' := 0) (by omega) (by omega) (fun rv h' hcc => ?_) (fun i h' hcc => by obtain ⟨e9, -⟩ := hcc; cases e9)
          obtain ⟨e9, e2⟩ := hcc
          have e3 := e2.symm
          subst e3
          cases e9
          rw [show mo_fr (fun l => X1.2 22 (31 * e + 2 * l)) (2 ^ D1) 0 = fl from hfl]
          refine g_bipush ok (dk m_Mo_doAdds 24 rfl) (pc' := 42) rfl (v := 16) (by decide) ?_
          refine g_icmp_ne ok (dk m_Mo_doAdds 25 rfl) (tgt := 48) (by decide) (pc' := 45) rfl (fun c_42 => ?_) (fun c_42 => ?_)
          · have hf16 : fl < 16 := by
              rcases Nat.lt_or_ge fl 16 with q | q
              · exact q
              · exact absurd (by rw [show fl = 16 by omega]; rfl) c_42
            have mid : ∀ (h2 : q_H) (X2 : x_T) (D2 : Nat), q_mo h2 o ba X2 → xfr da_K X X2 → X2.2 13 e = nI D2 → D2 ≤ 4 → X2.2 36 p = nI j → da_m e m (k + 1) (da_do X2 e p fl j D2) = da_m e wt 0 X → GW g Z A (fun q h' => q = .inl none ∧ q_mo h' o ba (da_m e wt 0 X)) 0 0 h2 78 [some (.ref o), some (.int (nI e)), some (.int (nI k)), some (.int (nI p)), some (.int (nI fl)), x5] [] := by
              intro h2 X2 D2 H2 f2 hD2 hD24 h36 hv2
              have tail : ∀ (h3 : q_H) (y5 : Option Value), q_mo h3 o ba (da_u e fl D2 1 (mo_set X2 e (2 * fl) (X2.2 38 p))) → GW g Z A (fun q h' => q = .inl none ∧ q_mo h' o ba (da_m e wt 0 X)) 0 0 h3 158 [some (.ref o), some (.int (nI e)), some (.int (nI k)), some (.int (nI p)), some (.int (nI fl)), y5] [] := by
                intro h3 y5 H3
                refine g_aload_n ok (dk m_Mo_doAdds 95 rfl) (pc' := 159) rfl (i := 0) rfl rfl ?_
                refine g_get ok (dk m_Mo_doAdds 96 rfl) (pc' := 162) rfl f_Mo_77 H3.1 rfl ?_
                refine g_bipush ok (dk m_Mo_doAdds 97 rfl) (pc' := 164) rfl (v := 16) (by decide) ?_
                refine g_iload_n ok (dk m_Mo_doAdds 98 rfl) (pc' := 165) rfl (i := 1) rfl rfl ?_
                refine g_imul ok (dk m_Mo_doAdds 99 rfl) (pc' := 166) rfl ?_
                refine g_iload ok (dk m_Mo_doAdds 100 rfl) (pc' := 168) rfl rfl ?_
                refine g_iadd ok (dk m_Mo_doAdds 101 rfl) (pc' := 169) rfl ?_
                refine g_aload_n ok (dk m_Mo_doAdds 102 rfl) (pc' := 170) rfl (i := 0) rfl rfl ?_
                refine g_get ok (dk m_Mo_doAdds 103 rfl) (pc' := 173) rfl f_Mo_104 H3.1 rfl ?_
                refine g_iload_n ok (dk m_Mo_doAdds 104 rfl) (pc' := 174) rfl (i := 3) rfl rfl ?_
                refine g_ialdI ok (dk m_Mo_doAdds 105 rfl) (pc' := 175) rfl (j := p) (H3.ar 36 rfl) rfl (show p < 60 by omega) (by decide) ?_
                refine g_top (w := .int (nI j)) (congrArg Value.int (by rw [(da_u_f e fl D2 1 _ 36 (by decide)).2]; exact h36)) ?_
                refine g_iastI ok (dk m_Mo_doAdds 106 rfl) (pc' := 176) rfl (j := 16 * e + fl) (H3.ar 26 rfl) (ix16 e fl) (show 16 * e + fl < 960 by omega) (by decide) (fun z61 e61 => ?_)
                have Y61 := H3.ast 26 rfl e61
                clear e61
                refine g_aload_n ok (dk m_Mo_doAdds 107 rfl) (pc' := 177) rfl (i := 0) rfl rfl ?_
                refine g_get ok (dk m_Mo_doAdds 108 rfl) (pc' := 180) rfl f_Mo_56 Y61.1 rfl ?_
                refine g_iload_n ok (dk m_Mo_doAdds 109 rfl) (pc' := 181) rfl (i := 1) rfl rfl ?_
                refine g_dup2 ok (dk m_Mo_doAdds 110 rfl) (pc' := 182) rfl rfl rfl ?_
                refine g_ialdI ok (dk m_Mo_doAdds 111 rfl) (pc' := 183) rfl (j := e) (Y61.ar 19 rfl) rfl (show e < 60 by omega) (by decide) ?_
                refine g_iconst ok (dk m_Mo_doAdds 112 rfl) (pc' := 184) rfl (v := 1) (by decide) ?_
                refine g_iload ok (dk m_Mo_doAdds 113 rfl) (pc' := 186) rfl rfl ?_
                refine g_ishl ok (dk m_Mo_doAdds 114 rfl) (pc' := 187) rfl ?_
                refine g_ior ok (dk m_Mo_doAdds 115 rfl) (pc' := 188) rfl ?_
                refine g_iastI ok (dk m_Mo_doAdds 116 rfl) (pc' := 189) rfl (j := e) (Y61.ar 19 rfl) rfl (show e < 60 by omega) (by decide) (fun z62 e62 => ?_)
                have Y62 := Y61.ast 19 rfl e62
                clear e62
                refine g_aload_n ok (dk m_Mo_doAdds 117 rfl) (pc' := 190) rfl (i := 0) rfl rfl ?_
                refine g_get ok (dk m_Mo_doAdds 118 rfl) (pc' := 193) rfl f_Mo_113 Y62.1 rfl ?_
                refine g_iload_n ok (dk m_Mo_doAdds 119 rfl) (pc' := 194) rfl (i := 3) rfl rfl ?_
                refine g_iload_n ok (dk m_Mo_doAdds 120 rfl) (pc' := 195) rfl (i := 1) rfl rfl ?_
                refine g_iastI ok (dk m_Mo_doAdds 121 rfl) (pc' := 196) rfl (j := p) (Y62.ar 39 rfl) rfl (show p < 60 by omega) (by decide) (fun z63 e63 => ?_)
                have Y63 := Y62.ast 39 rfl e63
                clear e63
                refine g_aload_n ok (dk m_Mo_doAdds 122 rfl) (pc' := 197) rfl (i := 0) rfl rfl ?_
                refine g_get ok (dk m_Mo_doAdds 123 rfl) (pc' := 200) rfl f_Mo_116 Y63.1 rfl ?_
                refine g_iload_n ok (dk m_Mo_doAdds 124 rfl) (pc' := 201) rfl (i := 3) rfl rfl ?_
                refine g_iload ok (dk m_Mo_doAdds 125 rfl) (pc' := 203) rfl rfl ?_
                refine g_iastI ok (dk m_Mo_doAdds 126 rfl) (pc' := 204) rfl (j := p) (Y63.ar 40 rfl) rfl (show p < 60 by omega) (by decide) (fun z64 e64 => ?_)
                have Y64 := Y63.ast 40 rfl e64
                clear e64
                refine g_iinc ok (dk m_Mo_doAdds 127 rfl) (pc' := 207) rfl rfl (nI_1 k) rfl ?_
                refine g_goto ok (dk m_Mo_doAdds 128 rfl) (pc' := 2) (by decide) ?_
                exact ih (k + 1) (by omega) _ _ D2 _ _ _ Y64 (f2.tr (da_do_f _ _ _ _ _ _)) (by
                  show (da_u e fl D2 1 (mo_set X2 e (2 * fl) (X2.2 38 p))).2 13 e = nI D2
                  rw [(da_u_f e fl D2 1 _ 13 (by decide)).2]
                  exact hD2) hD24 hv2
              have loopU : ∀ (mm t : Nat), t + mm = D2 + 1 → ∀ (h3 : q_H) (X3 : x_T), q_mo h3 o ba X3 → X3.2 13 e = nI D2 → da_u e fl mm t X3 = da_u e fl D2 1 (mo_set X2 e (2 * fl) (X2.2 38 p)) → GW g Z A (fun q h' => q = .inl none ∧ q_mo h' o ba (da_m e wt 0 X)) 0 0 h3 96 [some (.ref o), some (.int (nI e)), some (.int (nI k)), some (.int (nI p)), some (.int (nI fl)), some (.int (nI t))] [] := by
                intro mm
                induction mm with
                | zero =>
                  intro t ht h3 X3 H3 hD3 hu
                  refine g_iload ok (dk m_Mo_doAdds 59 rfl) (pc' := 98) rfl rfl ?_
                  refine g_aload_n ok (dk m_Mo_doAdds 60 rfl) (pc' := 99) rfl (i := 0) rfl rfl ?_
                  refine g_get ok (dk m_Mo_doAdds 61 rfl) (pc' := 102) rfl f_Mo_38 H3.1 rfl ?_
                  refine g_iload_n ok (dk m_Mo_doAdds 62 rfl) (pc' := 103) rfl (i := 1) rfl rfl ?_
                  refine g_ialdI ok (dk m_Mo_doAdds 63 rfl) (pc' := 104) rfl (j := e) (H3.ar 13 rfl) rfl (show e < 60 by omega) (by decide) ?_
                  rw [hD3]
                  refine g_icmp_gt ok (dk m_Mo_doAdds 64 rfl) (tgt := 158) (by decide) (pc' := 107) rfl (fun c_104 => ?_) (fun c_104 => absurd (nI_lt (a := D2) (b := t) (by omega) (by omega)) c_104)
                  exact tail _ _ (by rw [← hu]; exact H3)
                | succ mm ihU =>
                  intro t ht h3 X3 H3 hD3 hu
                  refine g_iload ok (dk m_Mo_doAdds 59 rfl) (pc' := 98) rfl rfl ?_
                  refine g_aload_n ok (dk m_Mo_doAdds 60 rfl) (pc' := 99) rfl (i := 0) rfl rfl ?_
                  refine g_get ok (dk m_Mo_doAdds 61 rfl) (pc' := 102) rfl f_Mo_38 H3.1 rfl ?_
                  refine g_iload_n ok (dk m_Mo_doAdds 62 rfl) (pc' := 103) rfl (i := 1) rfl rfl ?_
                  refine g_ialdI ok (dk m_Mo_doAdds 63 rfl) (pc' := 104) rfl (j := e) (H3.ar 13 rfl) rfl (show e < 60 by omega) (by decide) ?_
                  rw [hD3]
                  refine g_icmp_gt ok (dk m_Mo_doAdds 64 rfl) (tgt := 158) (by decide) (pc' := 107) rfl (fun c_104 => absurd c_104 (nI_nlt (a := D2) (b := t) (by omega) (by omega))) (fun c_104 => ?_)
                  refine g_aload_n ok (dk m_Mo_doAdds 65 rfl) (pc' := 108) rfl (i := 0) rfl rfl ?_
                  refine g_get ok (dk m_Mo_doAdds 66 rfl) (pc' := 111) rfl f_Mo_65 H3.1 rfl ?_
                  refine g_bipush ok (dk m_Mo_doAdds 67 rfl) (pc' := 113) rfl (v := 31) (by decide) ?_
                  refine g_iload_n ok (dk m_Mo_doAdds 68 rfl) (pc' := 114) rfl (i := 1) rfl rfl ?_
                  refine g_imul ok (dk m_Mo_doAdds 69 rfl) (pc' := 115) rfl ?_
                  refine g_iload ok (dk m_Mo_doAdds 70 rfl) (pc' := 117) rfl rfl ?_
                  refine g_iload ok (dk m_Mo_doAdds 71 rfl) (pc' := 119) rfl rfl ?_
                  refine g_callS ok (dk m_Mo_doAdds 72 rfl) (pc' := 122) rfl c_Mo_168 (c_Mo_above g (nI fl) (nI t) 0) rfl rfl (by simp [Value.category]) (by omega) rfl (rc' := 0) (rs' := 0) (by omega) (by omega) (fun rv h' hcc => ?_) (fun i h' hcc => by obtain ⟨e9, -⟩ := hcc; cases e9)
                  obtain ⟨e9, e2⟩ := hcc
                  have e3 := e2.symm
                  subst e3
                  cases e9
                  rw [(abv_ok fl hf16 t (by omega)).1]
                  refine g_iadd ok (dk m_Mo_doAdds 73 rfl) (pc' := 123) rfl ?_
                  refine g_ialdI ok (dk m_Mo_doAdds 74 rfl) (pc' := 124) rfl (j := 31 * e + abv fl t) (H3.ar 22 rfl) (ix31 e (abv fl t)) (show 31 * e + abv fl t < 1860 by have := (abv_ok fl hf16 t (by omega)).2; omega) (by decide) ?_
                  refine g_iconst ok (dk m_Mo_doAdds 75 rfl) (pc' := 125) rfl (v := (-1)) (by decide) ?_
                  refine g_icmp_eq ok (dk m_Mo_doAdds 76 rfl) (tgt := 152) (by decide) (pc' := 128) rfl (fun c_125 => ?_) (fun c_125 => ?_)
                  · refine g_iinc ok (dk m_Mo_doAdds 93 rfl) (pc' := 155) rfl rfl (nI_1 t) rfl ?_
                    refine g_goto ok (dk m_Mo_doAdds 94 rfl) (pc' := 96) (by decide) ?_
                    exact ihU (t + 1) (by omega) _ _ H3 hD3 (by rw [← hu, da_u, if_pos c_125])
                  · refine g_aload_n ok (dk m_Mo_doAdds 77 rfl) (pc' := 129) rfl (i := 0) rfl rfl ?_
                    refine g_get ok (dk m_Mo_doAdds 78 rfl) (pc' := 132) rfl f_Mo_68 H3.1 rfl ?_
                    refine g_bipush ok (dk m_Mo_doAdds 79 rfl) (pc' := 134) rfl (v := 31) (by decide) ?_
                    refine g_iload_n ok (dk m_Mo_doAdds 80 rfl) (pc' := 135) rfl (i := 1) rfl rfl ?_
                    refine g_imul ok (dk m_Mo_doAdds 81 rfl) (pc' := 136) rfl ?_
                    refine g_iload ok (dk m_Mo_doAdds 82 rfl) (pc' := 138) rfl rfl ?_
                    refine g_iload ok (dk m_Mo_doAdds 83 rfl) (pc' := 140) rfl rfl ?_
                    refine g_callS ok (dk m_Mo_doAdds 84 rfl) (pc' := 143) rfl c_Mo_168 (c_Mo_above g (nI fl) (nI t) 0) rfl rfl (by simp [Value.category]) (by omega) rfl (rc' := 0) (rs' := 0) (by omega) (by omega) (fun rv h' hcc => ?_) (fun i h' hcc => by obtain ⟨e9, -⟩ := hcc; cases e9)
                    obtain ⟨e9, e2⟩ := hcc
                    have e3 := e2.symm
                    subst e3
                    cases e9
                    rw [(abv_ok fl hf16 t (by omega)).1]
                    refine g_iadd ok (dk m_Mo_doAdds 85 rfl) (pc' := 144) rfl ?_
                    refine g_dup2 ok (dk m_Mo_doAdds 86 rfl) (pc' := 145) rfl rfl rfl ?_
                    refine g_ialdI ok (dk m_Mo_doAdds 87 rfl) (pc' := 146) rfl (j := 31 * e + abv fl t) (H3.ar 23 rfl) (ix31 e (abv fl t)) (show 31 * e + abv fl t < 1860 by have := (abv_ok fl hf16 t (by omega)).2; omega) (by decide) ?_
                    refine g_iconst ok (dk m_Mo_doAdds 88 rfl) (pc' := 147) rfl (v := 1) (by decide) ?_
                    refine g_iload ok (dk m_Mo_doAdds 89 rfl) (pc' := 149) rfl rfl ?_
                    refine g_ishl ok (dk m_Mo_doAdds 90 rfl) (pc' := 150) rfl ?_
                    refine g_ior ok (dk m_Mo_doAdds 91 rfl) (pc' := 151) rfl ?_
                    refine g_iastI ok (dk m_Mo_doAdds 92 rfl) (pc' := 152) rfl (j := 31 * e + abv fl t) (H3.ar 23 rfl) (ix31 e (abv fl t)) (show 31 * e + abv fl t < 1860 by have := (abv_ok fl hf16 t (by omega)).2; omega) (by decide) (fun z101 e101 => ?_)
                    have Y101 := H3.ast 23 rfl e101
                    clear e101
                    refine g_iinc ok (dk m_Mo_doAdds 93 rfl) (pc' := 155) rfl rfl (nI_1 t) rfl ?_
                    refine g_goto ok (dk m_Mo_doAdds 94 rfl) (pc' := 96) (by decide) ?_
                    exact ihU (t + 1) (by omega) _ _ Y101 hD3 (by rw [← hu, da_u, if_neg c_125])
              refine g_aload_n ok (dk m_Mo_doAdds 47 rfl) (pc' := 79) rfl (i := 0) rfl rfl ?_
              refine g_iload_n ok (dk m_Mo_doAdds 48 rfl) (pc' := 80) rfl (i := 1) rfl rfl ?_
              refine g_iconst ok (dk m_Mo_doAdds 49 rfl) (pc' := 81) rfl (v := 2) (by decide) ?_
              refine g_iload ok (dk m_Mo_doAdds 50 rfl) (pc' := 83) rfl rfl ?_
              refine g_imul ok (dk m_Mo_doAdds 51 rfl) (pc' := 84) rfl ?_
              rw [ix2]
              refine g_aload_n ok (dk m_Mo_doAdds 52 rfl) (pc' := 85) rfl (i := 0) rfl rfl ?_
              refine g_get ok (dk m_Mo_doAdds 53 rfl) (pc' := 88) rfl f_Mo_110 H2.1 rfl ?_
              refine g_iload_n ok (dk m_Mo_doAdds 54 rfl) (pc' := 89) rfl (i := 3) rfl rfl ?_
              refine g_ialdI ok (dk m_Mo_doAdds 55 rfl) (pc' := 90) rfl (j := p) (H2.ar 38 rfl) rfl (show p < 60 by omega) (by decide) ?_
              refine g_callV ok (dk m_Mo_doAdds 56 rfl) (pc' := 93) rfl c_Mo_204 (c_Mo_set g (e := e) (v := 2 * fl) (X2.2 38 p) 0 he (by omega) H2) H2.1 rfl rfl (by simp [Value.category]) (by omega) rfl (rc' := 0) (rs' := 0) (by omega) (by omega) (fun rv h' hcc => ?_) (fun i h' hcc => by obtain ⟨e9, -⟩ := hcc; cases e9)
              obtain ⟨e9, Y121⟩ := hcc
              cases e9
              refine g_iconst ok (dk m_Mo_doAdds 57 rfl) (pc' := 94) rfl (v := 1) (by decide) ?_
              refine g_istore ok (dk m_Mo_doAdds 58 rfl) (pc' := 96) rfl (Nat.le_of_ble_eq_true rfl) rfl ?_
              exact loopU D2 1 (by omega) _ _ Y121 hD2 rfl
            refine g_aload_n ok (dk m_Mo_doAdds 27 rfl) (pc' := 49) rfl (i := 0) rfl rfl ?_
            refine g_iload_n ok (dk m_Mo_doAdds 28 rfl) (pc' := 50) rfl (i := 1) rfl rfl ?_
            refine g_callV ok (dk m_Mo_doAdds 29 rfl) (pc' := 53) rfl c_Mo_215 (c_Mo_freeLeaf g (e := e) (D := D1) 0 he hD1 hD14 H1) H1.1 rfl rfl (by simp [Value.category]) (by omega) rfl (rc' := 0) (rs' := 0) (by omega) (by omega) (fun rv h' hcc => ?_) (fun i h' hcc => by obtain ⟨e9, -⟩ := hcc; cases e9)
            obtain ⟨e9, e2⟩ := hcc
            have e3 := e2.symm
            subst e3
            cases e9
            rw [show mo_fr (fun l => X1.2 22 (31 * e + 2 * l)) (2 ^ D1) 0 = fl from hfl]
            refine g_istore ok (dk m_Mo_doAdds 30 rfl) (pc' := 55) rfl (Nat.le_of_ble_eq_true rfl) rfl ?_
            refine g_iload ok (dk m_Mo_doAdds 31 rfl) (pc' := 57) rfl rfl ?_
            refine g_iconst ok (dk m_Mo_doAdds 32 rfl) (pc' := 58) rfl (v := 1) (by decide) ?_
            refine g_aload_n ok (dk m_Mo_doAdds 33 rfl) (pc' := 59) rfl (i := 0) rfl rfl ?_
            refine g_get ok (dk m_Mo_doAdds 34 rfl) (pc' := 62) rfl f_Mo_38 H1.1 rfl ?_
            refine g_iload_n ok (dk m_Mo_doAdds 35 rfl) (pc' := 63) rfl (i := 1) rfl rfl ?_
            refine g_ialdI ok (dk m_Mo_doAdds 36 rfl) (pc' := 64) rfl (j := e) (H1.ar 13 rfl) rfl (show e < 60 by omega) (by decide) ?_
            rw [hD1]
            refine g_ishl ok (dk m_Mo_doAdds 37 rfl) (pc' := 65) rfl ?_
            rw [j_shl D1 hD14]
            refine g_icmp_ne ok (dk m_Mo_doAdds 38 rfl) (tgt := 78) (by decide) (pc' := 68) rfl (fun c_65 => ?_) (fun c_65 => ?_)
            · exact mid _ X1 D1 H1 f1 hD1 hD14 h36 (by rw [← hv, hst, da_1, if_pos ⟨b2i_n c_32, by rw [hfl]; exact fun z => absurd z (by omega)⟩, hfl, if_neg (fun z => c_65 (by rw [z]))])
            · refine g_aload_n ok (dk m_Mo_doAdds 39 rfl) (pc' := 69) rfl (i := 0) rfl rfl ?_
              refine g_get ok (dk m_Mo_doAdds 40 rfl) (pc' := 72) rfl f_Mo_38 H1.1 rfl ?_
              refine g_iload_n ok (dk m_Mo_doAdds 41 rfl) (pc' := 73) rfl (i := 1) rfl rfl ?_
              refine g_dup2 ok (dk m_Mo_doAdds 42 rfl) (pc' := 74) rfl rfl rfl ?_
              refine g_ialdI ok (dk m_Mo_doAdds 43 rfl) (pc' := 75) rfl (j := e) (H1.ar 13 rfl) rfl (show e < 60 by omega) (by decide) ?_
              rw [hD1]
              refine g_iconst ok (dk m_Mo_doAdds 44 rfl) (pc' := 76) rfl (v := 1) (by decide) ?_
              refine g_iadd ok (dk m_Mo_doAdds 45 rfl) (pc' := 77) rfl ?_
              rw [nI_1]
              refine g_iastI ok (dk m_Mo_doAdds 46 rfl) (pc' := 78) rfl (j := e) (H1.ar 13 rfl) rfl (show e < 60 by omega) (by decide) (fun z1 e1 => ?_)
              have Y1 := H1.ast 13 rfl e1
              clear e1
              exact mid _ _ (D1 + 1) Y1 (f1.xs 13 _ _ (by decide)) (xs_s _ _ _ _) (by
                have q := (nI_eq (by omega) (by omega)).mp c_65
                rcases (show D1 = 0 ∨ D1 = 1 ∨ D1 = 2 ∨ D1 = 3 ∨ D1 = 4 by omega) with z | z | z | z | z
                · omega
                · omega
                · omega
                · omega
                · rw [z] at q
                  have q3 : fl = 16 := q
                  omega) h36 (by rw [← hv, hst, da_1, if_pos ⟨b2i_n c_32, by rw [hfl]; exact fun z => absurd z (by omega)⟩, hfl, if_pos ((nI_eq (by omega) (by omega)).mp c_65)])
          · refine g_goto ok (dk m_Mo_doAdds 26 rfl) (pc' := 204) (by decide) ?_
            refine g_iinc ok (dk m_Mo_doAdds 127 rfl) (pc' := 207) rfl rfl (nI_1 k) rfl ?_
            refine g_goto ok (dk m_Mo_doAdds 128 rfl) (pc' := 2) (by decide) ?_
            exact ih (k + 1) (by omega) _ X1 D1 _ _ _ H1 f1 hD1 hD14 (by rw [← hv, hst, da_1, if_neg (fun z => z.2 (by rw [hfl]; exact (nI_eq (by omega) (by decide)).mp c_42))])
  refine g_iconst ok (dk m_Mo_doAdds 0 rfl) (pc' := 1) rfl (v := 0) (by decide) ?_
  refine g_istore_n ok (dk m_Mo_doAdds 1 rfl) (pc' := 2) rfl (i := 2) rfl (Nat.le_of_ble_eq_true rfl) rfl ?_
  exact loop wt 0 (by omega) _ _ D _ _ _ H xfr.rf hD hD4 rfl
