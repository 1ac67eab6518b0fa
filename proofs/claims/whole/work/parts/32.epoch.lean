/-! ===== Epoch ===== -/
abbrev e_T : Type := (Nat → Int32) × tr_T × (Nat → Int32)
abbrev e_fs (t pr : Nat) (E : Nat → Int32) : List Value := [.int (E 0), .int (E 1), .ref t, .ref pr, .int (E 2), .int (E 3), .int (E 4), .int (E 5), .int (E 6), .int (E 7)]
def q_ep (h : q_H) (e t pr pb : Nat) (ra rb : Nat → Nat) (E : e_T) : Prop := h e = some (.inl (5, e_fs t pr E.1)) ∧ q_tree h t ra rb E.2.1 ∧ h pr = some (.inl (2, [.ref pb])) ∧ h pb = some (.inr (0, 5, .inl E.2.2)) ∧ ∀ i, i < 4 → rb i ≠ pb
def ep_A (e t pr pb : Nat) (ra rb : Nat → Nat) : Nat → Prop := fun y => y = e ∨ y = t ∨ y = pr ∨ y = pb ∨ ∃ i, i < 4 ∧ (y = ra i ∨ y = rb i)
def ep_P (e t pb : Nat) (rb : Nat → Nat) : Nat → Prop := fun y => y = e ∨ y = pb ∨ tr_P t rb y
def s_A (s : Nat) (ra rb : Nat → Nat) : Nat → Prop := fun y => y = s ∨ ∃ i, i < 6 ∧ (y = ra i ∨ y = rb i)
theorem q_ep.off {h h' : q_H} {e t pr pb : Nat} {ra rb : Nat → Nat} {E : e_T} {X : Nat → Prop} (he : q_ep h e t pr pb ra rb E) (ho : q_off h h' X) (hA : ∀ y, ep_A e t pr pb ra rb y → ¬ X y) : q_ep h' e t pr pb ra rb E := by
  obtain ⟨h1, h2, h3, h4, h5⟩ := he
  exact ⟨(ho _ (hA _ (Or.inl rfl))).trans h1, h2.off ho (hA _ (Or.inr (Or.inl rfl))) (fun i hi => ⟨hA _ (Or.inr (Or.inr (Or.inr (Or.inr ⟨i, hi, Or.inl rfl⟩)))), hA _ (Or.inr (Or.inr (Or.inr (Or.inr ⟨i, hi, Or.inr rfl⟩))))⟩), (ho _ (hA _ (Or.inr (Or.inr (Or.inl rfl))))).trans h3, (ho _ (hA _ (Or.inr (Or.inr (Or.inr (Or.inl rfl)))))).trans h4, h5⟩
theorem q_sec.off {h h' : q_H} {s : Nat} {ra rb : Nat → Nat} {S : s_T} {X : Nat → Prop} (hs : q_sec h s ra rb S) (ho : q_off h h' X) (hA : ∀ y, s_A s ra rb y → ¬ X y) : q_sec h' s ra rb S := by
  obtain ⟨h1, h2, h3⟩ := hs
  exact ⟨(ho _ (hA _ (Or.inl rfl))).trans h1, fun i hi => ⟨(ho _ (hA _ (Or.inr ⟨i, hi, Or.inl rfl⟩))).trans (h2 i hi).1, (ho _ (hA _ (Or.inr ⟨i, hi, Or.inr rfl⟩))).trans (h2 i hi).2⟩, h3⟩
theorem q_off.wk {h h' : q_H} {X Y : Nat → Prop} (ho : q_off h h' X) (hXY : ∀ y, X y → Y y) : q_off h h' Y := fun y hy => ho y (fun z => hy (hXY y z))
theorem q_ep.intE {h h' : q_H} {e t pr pb : Nat} {ra rb : Nat → Nat} {E : e_T} (he : q_ep h e t pr pb ra rb E) (k p : Nat) (hk : (k = 2 ∧ p = 4) ∨ (k = 3 ∧ p = 5) ∨ (k = 4 ∧ p = 6) ∨ (k = 5 ∧ p = 7) ∨ (k = 6 ∧ p = 8) ∨ (k = 7 ∧ p = 9)) {v : Int32} (e1 : h' = q_up h e (.inl (5, (e_fs t pr E.1).set p (.int v)))) : q_ep h' e t pr pb ra rb (upd E.1 k v, E.2) := by
  obtain ⟨h1, h2, h3, h4, h5⟩ := he
  have hne : ∀ {a : Nat} {x : Nat × List Value}, h a = some (.inl x) → x.1 ≠ 5 → a ≠ e := fun ha hx z => by
    rw [z, h1] at ha
    cases ha
    exact hx rfl
  subst e1
  refine ⟨?_, ⟨?_, h2.2.kept (fun i hi => ⟨?_, ?_⟩)⟩, ?_, ?_, h5⟩
  · rw [q_up_s]
    rcases hk with ⟨rfl, rfl⟩ | ⟨rfl, rfl⟩ | ⟨rfl, rfl⟩ | ⟨rfl, rfl⟩ | ⟨rfl, rfl⟩ | ⟨rfl, rfl⟩ <;> rfl
  · rw [q_up_n (hne h2.1 (show (6 : Nat) ≠ 5 by decide))]
    exact h2.1
  · rw [q_up_n (hne (h2.2.1 i hi).1 (show (2 : Nat) ≠ 5 by decide))]
  · rw [q_up_n (q_oa h1 (h2.2.1 i hi).2).symm]
  · rw [q_up_n (hne h3 (show (2 : Nat) ≠ 5 by decide))]
    exact h3
  · rw [q_up_n (q_oa h1 h4).symm]
    exact h4
def E_bes (E : e_T) (t : Int32) : Int32 := j_node (E.1 1 ^^^ ((1 : Int32) <<< ((t - 1) &&& 31))) (t - 1)
noncomputable def E_rdr (E : e_T) (t : Int32) : Int32 := T_reso E.2.1 (E_bes E t) &&& (j_nl (E.1 6) 16 0 0 ^^^ (-1))
noncomputable def E_lc (E : e_T) (l : Int32) : Nat → Nat → Int32
  | 0, _ => -1
  | m + 1, k => by classical exact if j_in (E.1 3) (j_node l (nI k)) then nI k else E_lc E l m (k + 1)
def E_lets (E : e_T) (l : Int32) : Prop := ¬ l = E.1 1 ∧ ¬ j_in (E.1 4) l
def E_need (E : e_T) (a : Int32) : Prop := ¬ a = 0 ∨ ¬ (E.1 4 ||| E.1 5) = 0 ∨ E.1 6 = 0
set_option maxHeartbeats 1000000 in
theorem c_Ep_lets (g : q_G) {h : q_H} {e t pr pb : Nat} {ra rb : Nat → Nat} {E : e_T} {v : Nat} {l k : Int32} (d : Nat) (hd : 1 ≤ d) (hv : h v = some (.inl (10, [.int l, .int k]))) (he : q_ep h e t pr pb ra rb E) : MG g y_Ep_lets b_Ep_lets 2 (some .boolean) d 0 0 [.ref e, .ref v] h (fun q h' => q = .inl (some (.int (b2i (E_lets E l)))) ∧ h' = h) := by
  refine MG.of (by decide +kernel) (by simp [Value.category]) (Nat.le_of_ble_eq_true rfl) ?_
  intro Z A ok
  refine g_aload_n ok (dk m_Ep_lets 0 rfl) (pc' := 1) rfl (i := 1) rfl rfl ?_
  refine g_getR ok (dk m_Ep_lets 1 rfl) (pc' := 4) rfl f_Ep_52 hv rfl ?_
  refine g_aload_n ok (dk m_Ep_lets 2 rfl) (pc' := 5) rfl (i := 0) rfl rfl ?_
  refine g_get ok (dk m_Ep_lets 3 rfl) (pc' := 8) rfl f_Ep_49 he.1 rfl ?_
  refine g_icmp_eq ok (dk m_Ep_lets 4 rfl) (tgt := 29) (by decide) (pc' := 11) rfl (fun c_8 => ?_) (fun c_8 => ?_)
  · refine g_iconst ok (dk m_Ep_lets 13 rfl) (pc' := 30) rfl (v := 0) (by decide) ?_
    exact g_iret ok (dk m_Ep_lets 14 rfl) rfl rfl ⟨by rw [b2i_f (p := E_lets E l) (fun z => z.1 c_8)], rfl⟩
  · refine g_aload_n ok (dk m_Ep_lets 5 rfl) (pc' := 12) rfl (i := 0) rfl rfl ?_
    refine g_get ok (dk m_Ep_lets 6 rfl) (pc' := 15) rfl f_Ep_34 he.1 rfl ?_
    refine g_aload_n ok (dk m_Ep_lets 7 rfl) (pc' := 16) rfl (i := 1) rfl rfl ?_
    refine g_getR ok (dk m_Ep_lets 8 rfl) (pc' := 19) rfl f_Ep_52 hv rfl ?_
    refine g_callSN ok (dk m_Ep_lets 9 rfl) (pc' := 22) rfl c_Ep_57 (c_RG_isIn g (E.1 4) l 0) rfl rfl (by simp [Value.category]) (by omega) rfl (rc' := 0) (rs' := 0) (by omega) (by omega) (fun rv h' hcc => ?_) (fun i h' hcc => by obtain ⟨e9, -⟩ := hcc; cases e9)
    obtain ⟨e9, e2⟩ := hcc
    have e3 := e2.symm
    subst e3
    cases e9
    refine g_if_ne ok (dk m_Ep_lets 10 rfl) (tgt := 29) (by decide) (pc' := 25) rfl (fun c_22 => ?_) (fun c_22 => ?_)
    · refine g_iconst ok (dk m_Ep_lets 13 rfl) (pc' := 30) rfl (v := 0) (by decide) ?_
      exact g_iret ok (dk m_Ep_lets 14 rfl) rfl rfl ⟨by rw [b2i_f (p := E_lets E l) (fun z => z.2 (b2i_n c_22))], rfl⟩
    · refine g_iconst ok (dk m_Ep_lets 11 rfl) (pc' := 26) rfl (v := 1) (by decide) ?_
      refine g_goto ok (dk m_Ep_lets 12 rfl) (pc' := 30) (by decide) ?_
      exact g_iret ok (dk m_Ep_lets 14 rfl) rfl rfl ⟨by rw [b2i_t (p := E_lets E l) ⟨c_8, b2i_0 c_22⟩], rfl⟩
set_option maxHeartbeats 1000000 in
theorem c_Ep_needsPath (g : q_G) {h : q_H} {e t pr pb : Nat} {ra rb : Nat → Nat} {E : e_T} (a : Int32) (d : Nat) (he : q_ep h e t pr pb ra rb E) : MG g y_Ep_needsPath b_Ep_needsPath 2 (some .boolean) d 0 0 [.ref e, .int a] h (fun q h' => q = .inl (some (.int (b2i (E_need E a)))) ∧ h' = h) := by
  refine MG.of (by decide +kernel) (by simp [Value.category]) (Nat.le_of_ble_eq_true rfl) ?_
  intro Z A ok
  refine g_iload_n ok (dk m_Ep_needsPath 0 rfl) (pc' := 1) rfl (i := 1) rfl rfl ?_
  refine g_if_ne ok (dk m_Ep_needsPath 1 rfl) (tgt := 23) (by decide) (pc' := 4) rfl (fun c_1 => ?_) (fun c_1 => ?_)
  · refine g_iconst ok (dk m_Ep_needsPath 11 rfl) (pc' := 24) rfl (v := 1) (by decide) ?_
    refine g_goto ok (dk m_Ep_needsPath 12 rfl) (pc' := 28) (by decide) ?_
    exact g_iret ok (dk m_Ep_needsPath 14 rfl) rfl rfl ⟨by rw [b2i_t (p := E_need E a) (Or.inl c_1)], rfl⟩
  · refine g_aload_n ok (dk m_Ep_needsPath 2 rfl) (pc' := 5) rfl (i := 0) rfl rfl ?_
    refine g_get ok (dk m_Ep_needsPath 3 rfl) (pc' := 8) rfl f_Ep_34 he.1 rfl ?_
    refine g_aload_n ok (dk m_Ep_needsPath 4 rfl) (pc' := 9) rfl (i := 0) rfl rfl ?_
    refine g_get ok (dk m_Ep_needsPath 5 rfl) (pc' := 12) rfl f_Ep_37 he.1 rfl ?_
    refine g_ior ok (dk m_Ep_needsPath 6 rfl) (pc' := 13) rfl ?_
    refine g_if_ne ok (dk m_Ep_needsPath 7 rfl) (tgt := 23) (by decide) (pc' := 16) rfl (fun c_13 => ?_) (fun c_13 => ?_)
    · refine g_iconst ok (dk m_Ep_needsPath 11 rfl) (pc' := 24) rfl (v := 1) (by decide) ?_
      refine g_goto ok (dk m_Ep_needsPath 12 rfl) (pc' := 28) (by decide) ?_
      exact g_iret ok (dk m_Ep_needsPath 14 rfl) rfl rfl ⟨by rw [b2i_t (p := E_need E a) (Or.inr (Or.inl c_13))], rfl⟩
    · refine g_aload_n ok (dk m_Ep_needsPath 8 rfl) (pc' := 17) rfl (i := 0) rfl rfl ?_
      refine g_get ok (dk m_Ep_needsPath 9 rfl) (pc' := 20) rfl f_Ep_40 he.1 rfl ?_
      refine g_if_ne ok (dk m_Ep_needsPath 10 rfl) (tgt := 27) (by decide) (pc' := 23) rfl (fun c_20 => ?_) (fun c_20 => ?_)
      · refine g_iconst ok (dk m_Ep_needsPath 13 rfl) (pc' := 28) rfl (v := 0) (by decide) ?_
        exact g_iret ok (dk m_Ep_needsPath 14 rfl) rfl rfl ⟨by rw [b2i_f (p := E_need E a) (fun z => by rcases z with z | z | z; exact z c_1; exact z c_13; exact c_20 z)], rfl⟩
      · refine g_iconst ok (dk m_Ep_needsPath 11 rfl) (pc' := 24) rfl (v := 1) (by decide) ?_
        refine g_goto ok (dk m_Ep_needsPath 12 rfl) (pc' := 28) (by decide) ?_
        exact g_iret ok (dk m_Ep_needsPath 14 rfl) rfl rfl ⟨by rw [b2i_t (p := E_need E a) (Or.inr (Or.inr c_20))], rfl⟩
set_option maxHeartbeats 1000000 in
theorem c_Ep_nodeBesidePath (g : q_G) {h : q_H} {e t pr pb : Nat} {ra rb : Nat → Nat} {E : e_T} (x : Int32) (d : Nat) (hd : 1 ≤ d) (he : q_ep h e t pr pb ra rb E) : MG g y_Ep_nodeBesidePath b_Ep_nodeBesidePath 3 (some .int) d 0 0 [.ref e, .int x] h (fun q h' => q = .inl (some (.int (E_bes E x))) ∧ h' = h) := by
  refine MG.of (by decide +kernel) (by simp [Value.category]) (Nat.le_of_ble_eq_true rfl) ?_
  intro Z A ok
  refine g_iload_n ok (dk m_Ep_nodeBesidePath 0 rfl) (pc' := 1) rfl (i := 1) rfl rfl ?_
  refine g_iconst ok (dk m_Ep_nodeBesidePath 1 rfl) (pc' := 2) rfl (v := 1) (by decide) ?_
  refine g_isub ok (dk m_Ep_nodeBesidePath 2 rfl) (pc' := 3) rfl ?_
  refine g_istore_n ok (dk m_Ep_nodeBesidePath 3 rfl) (pc' := 4) rfl (i := 2) rfl (Nat.le_of_ble_eq_true rfl) rfl ?_
  refine g_aload_n ok (dk m_Ep_nodeBesidePath 4 rfl) (pc' := 5) rfl (i := 0) rfl rfl ?_
  refine g_get ok (dk m_Ep_nodeBesidePath 5 rfl) (pc' := 8) rfl f_Ep_49 he.1 rfl ?_
  refine g_iconst ok (dk m_Ep_nodeBesidePath 6 rfl) (pc' := 9) rfl (v := 1) (by decide) ?_
  refine g_iload_n ok (dk m_Ep_nodeBesidePath 7 rfl) (pc' := 10) rfl (i := 2) rfl rfl ?_
  refine g_ishl ok (dk m_Ep_nodeBesidePath 8 rfl) (pc' := 11) rfl ?_
  refine g_ixor ok (dk m_Ep_nodeBesidePath 9 rfl) (pc' := 12) rfl ?_
  refine g_iload_n ok (dk m_Ep_nodeBesidePath 10 rfl) (pc' := 13) rfl (i := 2) rfl rfl ?_
  refine g_callS ok (dk m_Ep_nodeBesidePath 11 rfl) (pc' := 16) rfl c_Ep_61 (c_Tr_nodeOver g (E.1 1 ^^^ ((1 : Int32) <<< ((x - 1) &&& 31))) (x - 1) 0) rfl rfl (by simp [Value.category]) (by omega) rfl (rc' := 0) (rs' := 0) (by omega) (by omega) (fun rv h' hcc => ?_) (fun i h' hcc => by obtain ⟨e9, -⟩ := hcc; cases e9)
  obtain ⟨e9, e2⟩ := hcc
  have e3 := e2.symm
  subst e3
  cases e9
  exact g_iret ok (dk m_Ep_nodeBesidePath 12 rfl) rfl rfl ⟨rfl, rfl⟩
set_option maxHeartbeats 1000000 in
theorem c_Ep_readersOf (g : q_G) {h : q_H} {e t pr pb : Nat} {ra rb : Nat → Nat} {E : e_T} (x : Int32) (d : Nat) (hd : 7 ≤ d) (he : q_ep h e t pr pb ra rb E) : MG g y_Ep_readersOf b_Ep_readersOf 2 (some .int) d 0 0 [.ref e, .int x] h (fun q h' => q = .inl (some (.int (E_rdr E x))) ∧ h' = h) := by
  refine MG.of (by decide +kernel) (by simp [Value.category]) (Nat.le_of_ble_eq_true rfl) ?_
  intro Z A ok
  refine g_aload_n ok (dk m_Ep_readersOf 0 rfl) (pc' := 1) rfl (i := 0) rfl rfl ?_
  refine g_get ok (dk m_Ep_readersOf 1 rfl) (pc' := 4) rfl f_Ep_12 he.1 rfl ?_
  refine g_aload_n ok (dk m_Ep_readersOf 2 rfl) (pc' := 5) rfl (i := 0) rfl rfl ?_
  refine g_iload_n ok (dk m_Ep_readersOf 3 rfl) (pc' := 6) rfl (i := 1) rfl rfl ?_
  refine g_callV ok (dk m_Ep_readersOf 4 rfl) (pc' := 9) rfl c_Ep_78 (c_Ep_nodeBesidePath g x 1 (by omega) he) he.1 rfl rfl (by simp [Value.category]) (by omega) rfl (rc' := 0) (rs' := 0) (by omega) (by omega) (fun rv h' hcc => ?_) (fun i h' hcc => by obtain ⟨e9, -⟩ := hcc; cases e9)
  obtain ⟨e9, e2⟩ := hcc
  have e3 := e2.symm
  subst e3
  cases e9
  refine g_callV ok (dk m_Ep_readersOf 5 rfl) (pc' := 12) rfl c_Ep_82 (c_Tr_resolution g (E_bes E x) 6 (by omega) he.2.1) he.2.1.1 rfl rfl (by simp [Value.category]) (by omega) rfl (rc' := 0) (rs' := 0) (by omega) (by omega) (fun rv h' hcc => ?_) (fun i h' hcc => by obtain ⟨e9, -⟩ := hcc; cases e9)
  obtain ⟨e9, e2⟩ := hcc
  have e3 := e2.symm
  subst e3
  cases e9
  refine g_aload_n ok (dk m_Ep_readersOf 6 rfl) (pc' := 13) rfl (i := 0) rfl rfl ?_
  refine g_get ok (dk m_Ep_readersOf 7 rfl) (pc' := 16) rfl f_Ep_40 he.1 rfl ?_
  refine g_callS ok (dk m_Ep_readersOf 8 rfl) (pc' := 19) rfl c_Ep_115 (c_Tr_nodesOfLeaves g (E.1 6) 0) rfl rfl (by simp [Value.category]) (by omega) rfl (rc' := 0) (rs' := 0) (by omega) (by omega) (fun rv h' hcc => ?_) (fun i h' hcc => by obtain ⟨e9, -⟩ := hcc; cases e9)
  obtain ⟨e9, e2⟩ := hcc
  have e3 := e2.symm
  subst e3
  cases e9
  refine g_iconst ok (dk m_Ep_readersOf 9 rfl) (pc' := 20) rfl (v := (-1)) (by decide) ?_
  refine g_ixor ok (dk m_Ep_readersOf 10 rfl) (pc' := 21) rfl ?_
  refine g_iand ok (dk m_Ep_readersOf 11 rfl) (pc' := 22) rfl ?_
  exact g_iret ok (dk m_Ep_readersOf 12 rfl) rfl rfl ⟨rfl, rfl⟩
set_option maxHeartbeats 1000000 in
theorem c_Ep_lowestCountingOver (g : q_G) {h : q_H} {e t pr pb : Nat} {ra rb : Nat → Nat} {E : e_T} (l : Int32) (d : Nat) (hd : 1 ≤ d) (hT : E.2.1.2 ≤ 4) (he : q_ep h e t pr pb ra rb E) : MG g y_Ep_lowestCountingOver b_Ep_lowestCountingOver 3 (some .int) d 0 0 [.ref e, .int l] h (fun q h' => q = .inl (some (.int (E_lc E l E.2.1.2 1))) ∧ h' = h) := by
  refine MG.of (by decide +kernel) (by simp [Value.category]) (Nat.le_of_ble_eq_true rfl) ?_
  intro Z A ok
  have loop : ∀ (m k : Nat), k + m = E.2.1.2 + 1 → E_lc E l m k = E_lc E l E.2.1.2 1 → GW g Z A (fun q h' => q = .inl (some (.int (E_lc E l E.2.1.2 1))) ∧ h' = h) 0 0 h 2 [some (.ref e), some (.int l), some (.int (nI k))] [] := by
    intro m
    induction m with
    | zero =>
      intro k hk hv
      refine g_iload_n ok (dk m_Ep_lowestCountingOver 2 rfl) (pc' := 3) rfl (i := 2) rfl rfl ?_
      refine g_aload_n ok (dk m_Ep_lowestCountingOver 3 rfl) (pc' := 4) rfl (i := 0) rfl rfl ?_
      refine g_get ok (dk m_Ep_lowestCountingOver 4 rfl) (pc' := 7) rfl f_Ep_12 he.1 rfl ?_
      refine g_get ok (dk m_Ep_lowestCountingOver 5 rfl) (pc' := 10) rfl f_Ep_75 he.2.1.1 rfl ?_
      refine g_icmp_gt ok (dk m_Ep_lowestCountingOver 6 rfl) (tgt := 36) (by decide) (pc' := 13) rfl (fun c_10 => ?_) (fun c_10 => absurd (nI_lt (a := E.2.1.2) (b := k) (by omega) (by omega)) c_10)
      refine g_iconst ok (dk m_Ep_lowestCountingOver 18 rfl) (pc' := 37) rfl (v := (-1)) (by decide) ?_
      exact g_iret ok (dk m_Ep_lowestCountingOver 19 rfl) rfl rfl ⟨by rw [← hv]; rfl, rfl⟩
    | succ m ih =>
      intro k hk hv
      refine g_iload_n ok (dk m_Ep_lowestCountingOver 2 rfl) (pc' := 3) rfl (i := 2) rfl rfl ?_
      refine g_aload_n ok (dk m_Ep_lowestCountingOver 3 rfl) (pc' := 4) rfl (i := 0) rfl rfl ?_
      refine g_get ok (dk m_Ep_lowestCountingOver 4 rfl) (pc' := 7) rfl f_Ep_12 he.1 rfl ?_
      refine g_get ok (dk m_Ep_lowestCountingOver 5 rfl) (pc' := 10) rfl f_Ep_75 he.2.1.1 rfl ?_
      refine g_icmp_gt ok (dk m_Ep_lowestCountingOver 6 rfl) (tgt := 36) (by decide) (pc' := 13) rfl (fun c_10 => absurd c_10 (nI_nlt (a := E.2.1.2) (b := k) (by omega) (by omega))) (fun c_10 => ?_)
      refine g_aload_n ok (dk m_Ep_lowestCountingOver 7 rfl) (pc' := 14) rfl (i := 0) rfl rfl ?_
      refine g_get ok (dk m_Ep_lowestCountingOver 8 rfl) (pc' := 17) rfl f_Ep_31 he.1 rfl ?_
      refine g_iload_n ok (dk m_Ep_lowestCountingOver 9 rfl) (pc' := 18) rfl (i := 1) rfl rfl ?_
      refine g_iload_n ok (dk m_Ep_lowestCountingOver 10 rfl) (pc' := 19) rfl (i := 2) rfl rfl ?_
      refine g_callS ok (dk m_Ep_lowestCountingOver 11 rfl) (pc' := 22) rfl c_Ep_61 (c_Tr_nodeOver g l (nI k) 0) rfl rfl (by simp [Value.category]) (by omega) rfl (rc' := 0) (rs' := 0) (by omega) (by omega) (fun rv h' hcc => ?_) (fun i h' hcc => by obtain ⟨e9, -⟩ := hcc; cases e9)
      obtain ⟨e9, e2⟩ := hcc
      have e3 := e2.symm
      subst e3
      cases e9
      refine g_callSN ok (dk m_Ep_lowestCountingOver 12 rfl) (pc' := 25) rfl c_Ep_57 (c_RG_isIn g (E.1 3) (j_node l (nI k)) 0) rfl rfl (by simp [Value.category]) (by omega) rfl (rc' := 0) (rs' := 0) (by omega) (by omega) (fun rv h' hcc => ?_) (fun i h' hcc => by obtain ⟨e9, -⟩ := hcc; cases e9)
      obtain ⟨e9, e2⟩ := hcc
      have e3 := e2.symm
      subst e3
      cases e9
      refine g_if_eq ok (dk m_Ep_lowestCountingOver 13 rfl) (tgt := 30) (by decide) (pc' := 28) rfl (fun c_25 => ?_) (fun c_25 => ?_)
      · refine g_iinc ok (dk m_Ep_lowestCountingOver 16 rfl) (pc' := 33) rfl rfl (nI_1 k) rfl ?_
        refine g_goto ok (dk m_Ep_lowestCountingOver 17 rfl) (pc' := 2) (by decide) ?_
        exact ih (k + 1) (by omega) (by rw [← hv, E_lc, if_neg (b2i_0 c_25)])
      · refine g_iload_n ok (dk m_Ep_lowestCountingOver 14 rfl) (pc' := 29) rfl (i := 2) rfl rfl ?_
        exact g_iret ok (dk m_Ep_lowestCountingOver 15 rfl) rfl rfl ⟨by rw [← hv, E_lc, if_pos (b2i_n c_25)], rfl⟩
  refine g_iconst ok (dk m_Ep_lowestCountingOver 0 rfl) (pc' := 1) rfl (v := 1) (by decide) ?_
  refine g_istore_n ok (dk m_Ep_lowestCountingOver 1 rfl) (pc' := 2) rfl (i := 2) rfl (Nat.le_of_ble_eq_true rfl) rfl ?_
  exact loop E.2.1.2 1 (by omega) rfl
/-- the epoch and the secrets lie apart -/
def q_es (e t pr pb : Nat) (ra rb : Nat → Nat) (s : Nat) (sa sb : Nat → Nat) : Prop := (∀ y, ep_A e t pr pb ra rb y → ¬ s_P s sb y) ∧ ∀ y, s_A s sa sb y → ¬ ep_P e t pb rb y
def q_EP (e t pb : Nat) (rb : Nat → Nat) (s : Nat) (sb : Nat → Nat) : Nat → Prop := fun y => ep_P e t pb rb y ∨ s_P s sb y
def E_enc (E : e_T) : e_T := (upd E.1 7 (E.1 7 + 1), E.2)
set_option maxHeartbeats 1000000 in
theorem c_Ep_encrypt (g : q_G) {h : q_H} {e t pr pb : Nat} {ra rb : Nat → Nat} {E : e_T} (k w : Int32) (d : Nat) (hd : 3 ≤ d) (he : q_ep h e t pr pb ra rb E) {s : Nat} {sa sb : Nat → Nat} {S : s_T} (hs : q_sec h s sa sb S) (hap : q_es e t pr pb ra rb s sa sb) : MG g y_Ep_encrypt b_Ep_encrypt 4 none d 0 0 [.ref e, .ref s, .int k, .int w] h (fun q h' => q = .inl none ∧ q_ep h' e t pr pb ra rb (E_enc E) ∧ q_sec h' s sa sb (S_open S k 0 w) ∧ q_off h h' (q_EP e t pb rb s sb)) := by
  refine MG.of (by decide +kernel) (by simp [Value.category]) (Nat.le_of_ble_eq_true rfl) ?_
  intro Z A ok
  refine g_aload_n ok (dk m_Ep_encrypt 0 rfl) (pc' := 1) rfl (i := 1) rfl rfl ?_
  refine g_iload_n ok (dk m_Ep_encrypt 1 rfl) (pc' := 2) rfl (i := 2) rfl rfl ?_
  refine g_iconst ok (dk m_Ep_encrypt 2 rfl) (pc' := 3) rfl (v := 0) (by decide) ?_
  refine g_iload_n ok (dk m_Ep_encrypt 3 rfl) (pc' := 4) rfl (i := 3) rfl rfl ?_
  refine g_callV ok (dk m_Ep_encrypt 4 rfl) (pc' := 7) rfl c_Ep_112 (c_Sec_openWay g k 0 w 2 (by omega) hs) hs.1 rfl rfl (by simp [Value.category]) (by omega) rfl (rc' := 0) (rs' := 0) (by omega) (by omega) (fun rv h' hcc => ?_) (fun i h' hcc => by obtain ⟨e9, -⟩ := hcc; cases e9)
  obtain ⟨e9, hs1, ho1⟩ := hcc
  cases e9
  have he1 := he.off ho1 hap.1
  refine g_aload_n ok (dk m_Ep_encrypt 5 rfl) (pc' := 8) rfl (i := 0) rfl rfl ?_
  refine g_dup ok (dk m_Ep_encrypt 6 rfl) (pc' := 9) rfl rfl ?_
  refine g_get ok (dk m_Ep_encrypt 7 rfl) (pc' := 12) rfl f_Ep_43 he1.1 rfl ?_
  refine g_iconst ok (dk m_Ep_encrypt 8 rfl) (pc' := 13) rfl (v := 1) (by decide) ?_
  refine g_iadd ok (dk m_Ep_encrypt 9 rfl) (pc' := 14) rfl ?_
  refine g_put ok (dk m_Ep_encrypt 10 rfl) (pc' := 17) rfl f_Ep_43 (Or.inl rfl) he1.1 (Nat.le_of_ble_eq_true rfl) rfl rfl ?_
  refine g_gen (fun h2 e2 => ?_)
  have he2 := he1.intE 7 9 (by decide) e2
  have ho2 := q_off.upE (q_off.rf (X := ep_P e t pb rb)) (Or.inl rfl) e2
  have hs2 := hs1.off ho2 hap.2
  clear e2
  exact g_vret ok (dk m_Ep_encrypt 11 rfl) rfl ⟨rfl, he2, hs2, (ho1.wk (fun y z => Or.inr z)).tr (ho2.wk (fun y z => Or.inl z))⟩
