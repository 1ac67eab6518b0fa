/-! ===== the reference: isKnown, isOpen, known, node ===== -/
def B_isKnown (X : x_T) (n c ne : Nat) (e : Int32) : Prop := r_in ne e ∧ Kn X n c (ix (X.2 14 (ix e)))
def B_isOpen (X : x_T) (n c ne : Nat) (e v : Int32) : Prop := r_in ne e ∧ r_in (2 ^ (ix (X.2 13 (ix e)) + 1) - 1) v ∧ ¬ X.2 22 (31 * ix e + ix v) = -1 ∧ Kn X n c (ix (X.2 22 (31 * ix e + ix v)))
noncomputable def B_kn (X : x_T) (n c : Nat) : Nat → Nat → Nat → Nat
  | 0, _, a => a
  | m + 1, k, a => by classical exact B_kn X n c m (k + 1) (if Kn X n c (ix (X.2 14 k)) then a + 1 else a)
noncomputable def B_node (X : x_T) (ne : Nat) (e v wh : Int32) : Int32 := by
  classical exact if r_in ne e ∧ r_in (2 ^ (ix (X.2 13 (ix e)) + 1) - 1) v then (if wh = 0 then (if X.2 22 (31 * ix e + ix v) = -1 then 0 else 1) else if wh = 1 then X.2 23 (31 * ix e + ix v) else if wh = 2 then (if X.2 22 (31 * ix e + ix v) = -1 then -1 else X.2 24 (31 * ix e + ix v)) else if wh = 3 then nI (rsl X (ix e) (hgt (ix v)) (ix v)).length else -1) else -1
theorem p2_32 {D : Nat} (h : D ≤ 4) : 2 ^ (D + 1) ≤ 32 := by
  rcases (show D = 0 ∨ D = 1 ∨ D = 2 ∨ D = 3 ∨ D = 4 by omega) with rfl | rfl | rfl | rfl | rfl <;> decide
set_option maxHeartbeats 1000000 in
theorem c_Mo_isKnown (g : q_G) {h : q_H} {o : Nat} {ba : Nat → Nat} {X : x_T} {n c ne : Nat} (e : Int32) (d : Nat) (hd : 2 ≤ d) (hKH : q_KH X n c) (hne : X.1 12 = nI ne) (hne2 : ne ≤ 60) (hS : ∀ e, e < ne → ∃ s, s < n ∧ X.2 14 e = nI s)  (H : q_mo h o ba X) : MG g y_Mo_isKnown b_Mo_isKnown 2 (some .boolean) d 0 0 [.ref o, .int e] h (fun q h' => q = .inl (some (.int (b2i (B_isKnown X n c ne e)))) ∧ ∃ X', q_mo h' o ba X' ∧ xfr [0, 6] X X' ∧ X'.1 0 = 0) := by
  refine MG.of (by decide +kernel) (by simp [Value.category]) (Nat.le_of_ble_eq_true rfl) ?_
  intro Z A ok
  refine g_aload_n ok (dk m_Mo_isKnown 0 rfl) (pc' := 1) rfl (i := 0) rfl rfl ?_
  refine g_iconst ok (dk m_Mo_isKnown 1 rfl) (pc' := 2) rfl (v := 0) (by decide) ?_
  refine g_put ok (dk m_Mo_isKnown 2 rfl) (pc' := 5) rfl f_Mo_155 (Or.inl rfl) H.1 (Nat.le_of_ble_eq_true rfl) rfl rfl ?_
  refine g_gen (fun z1 e1 => ?_)
  have Y1 := H.ipt 0 (by decide) e1
  clear e1
  refine g_iload_n ok (dk m_Mo_isKnown 3 rfl) (pc' := 6) rfl (i := 1) rfl rfl ?_
  refine g_aload_n ok (dk m_Mo_isKnown 4 rfl) (pc' := 7) rfl (i := 0) rfl rfl ?_
  refine g_get ok (dk m_Mo_isKnown 5 rfl) (pc' := 10) rfl f_Mo_151 Y1.1 rfl ?_
  refine g_top (w := .int (nI ne)) (congrArg Value.int hne) ?_
  refine g_callS ok (dk m_Mo_isKnown 6 rfl) (pc' := 13) rfl c_Mo_264 (c_Mo_in g e ne 0) rfl rfl (by simp [Value.category]) (by omega) rfl (rc' := 0) (rs' := 0) (by omega) (by omega) (fun rv h' hcc => ?_) (fun i h' hcc => by obtain ⟨e9, -⟩ := hcc; cases e9)
  obtain ⟨e9, e2⟩ := hcc
  have e3 := e2.symm
  subst e3
  cases e9
  refine g_if_ne ok (dk m_Mo_isKnown 7 rfl) (tgt := 18) (by decide) (pc' := 16) rfl (fun c_13 => ?_) (fun c_13 => ?_)
  · obtain ⟨j, hj, rfl⟩ := r_in_of (by omega) (b2i_n c_13)
    have hx : ix (nI j) = j := ix_nI (by omega)
    obtain ⟨s, hs, hss⟩ := hS j hj
    have hn := hKH.1
    have hxs : ix (nI s) = s := ix_nI (by omega)
    refine g_aload_n ok (dk m_Mo_isKnown 10 rfl) (pc' := 19) rfl (i := 0) rfl rfl ?_
    refine g_callV ok (dk m_Mo_isKnown 11 rfl) (pc' := 22) rfl c_Mo_296 (c_Mo_intrude g (n := n) (c := c) 1 (by omega) (hKH.cg (xfr.rf.xi (K := [0]) 0 0 (by decide)) (by decide)) Y1) Y1.1 rfl rfl (by simp [Value.category]) (by omega) rfl (rc' := 0) (rs' := 0) (by omega) (by omega) (fun rv h' hcc => ?_) (fun i h' hcc => by obtain ⟨e9, -⟩ := hcc; cases e9)
    obtain ⟨e9, X2, H2, f2, hk2⟩ := hcc
    cases e9
    have f1 := (xfr.rf.xi (X := X) 0 0 (show 0 ∈ [0, 6] by decide)).tr (f2.wk (by decide))
    have h0 : X2.1 0 = 0 := (f2 0 (by decide)).1
    have hkk : ∀ k, k < n → X2.2 6 k = b2i (Kn X n c k) := fun k hk => by rw [hk2 k hk, Kn_cg (xfr.rf.xi (K := [0]) 0 0 (by decide)) (by decide)]
    refine g_aload_n ok (dk m_Mo_isKnown 12 rfl) (pc' := 23) rfl (i := 0) rfl rfl ?_
    refine g_get ok (dk m_Mo_isKnown 13 rfl) (pc' := 26) rfl f_Mo_23 H2.1 rfl ?_
    refine g_aload_n ok (dk m_Mo_isKnown 14 rfl) (pc' := 27) rfl (i := 0) rfl rfl ?_
    refine g_get ok (dk m_Mo_isKnown 15 rfl) (pc' := 30) rfl f_Mo_41 H2.1 rfl ?_
    refine g_iload_n ok (dk m_Mo_isKnown 16 rfl) (pc' := 31) rfl (i := 1) rfl rfl ?_
    refine g_ialdI ok (dk m_Mo_isKnown 17 rfl) (pc' := 32) rfl (j := j) (H2.ar 14 rfl) rfl (show j < 60 by omega) (by decide) ?_
    refine g_top (w := .int (nI s)) (congrArg Value.int ((congrFun (f1 14 (by decide)).2 j).trans hss)) ?_
    refine g_zaldI ok (dk m_Mo_isKnown 18 rfl) (pc' := 33) rfl (j := s) (H2.ar 6 rfl) rfl (show s < 2600 by omega) (by decide) ?_
    exact g_iret ok (dk m_Mo_isKnown 19 rfl) rfl (by rw [hkk s hs]; exact b2i_nar _) ⟨by rw [hkk s hs]; congr 4; exact propext ⟨fun z => ⟨b2i_n c_13, by rw [hx, hss, hxs]; exact z⟩, fun z => by have q := z.2; rw [hx, hss, hxs] at q; exact q⟩, X2, H2, f1, h0⟩
  · refine g_iconst ok (dk m_Mo_isKnown 8 rfl) (pc' := 17) rfl (v := 0) (by decide) ?_
    exact g_iret ok (dk m_Mo_isKnown 9 rfl) rfl rfl ⟨by rw [b2i_f (p := B_isKnown X n c ne e) (fun z => b2i_0 c_13 z.1)], _, Y1, (xfr.rf.xi 0 0 (by decide)), rfl⟩
set_option maxHeartbeats 1000000 in
theorem c_Mo_isOpen (g : q_G) {h : q_H} {o : Nat} {ba : Nat → Nat} {X : x_T} {n c ne : Nat} (e v : Int32) (d : Nat) (hd : 2 ≤ d) (hKH : q_KH X n c) (hne : X.1 12 = nI ne) (hne2 : ne ≤ 60) (hDp : ∀ a, a < ne → ∃ D, D ≤ 4 ∧ X.2 13 a = nI D) (hK : ∀ e v, e < ne → v < 31 → ¬ X.2 22 (31 * e + v) = -1 → ∃ s, s < n ∧ X.2 22 (31 * e + v) = nI s)  (H : q_mo h o ba X) : MG g y_Mo_isOpen b_Mo_isOpen 3 (some .boolean) d 0 0 [.ref o, .int e, .int v] h (fun q h' => q = .inl (some (.int (b2i (B_isOpen X n c ne e v)))) ∧ ∃ X', q_mo h' o ba X' ∧ xfr [0, 6] X X' ∧ X'.1 0 = 0) := by
  refine MG.of (by decide +kernel) (by simp [Value.category]) (Nat.le_of_ble_eq_true rfl) ?_
  intro Z A ok
  refine g_aload_n ok (dk m_Mo_isOpen 0 rfl) (pc' := 1) rfl (i := 0) rfl rfl ?_
  refine g_iconst ok (dk m_Mo_isOpen 1 rfl) (pc' := 2) rfl (v := 0) (by decide) ?_
  refine g_put ok (dk m_Mo_isOpen 2 rfl) (pc' := 5) rfl f_Mo_155 (Or.inl rfl) H.1 (Nat.le_of_ble_eq_true rfl) rfl rfl ?_
  refine g_gen (fun z1 e1 => ?_)
  have Y1 := H.ipt 0 (by decide) e1
  clear e1
  refine g_iload_n ok (dk m_Mo_isOpen 3 rfl) (pc' := 6) rfl (i := 1) rfl rfl ?_
  refine g_aload_n ok (dk m_Mo_isOpen 4 rfl) (pc' := 7) rfl (i := 0) rfl rfl ?_
  refine g_get ok (dk m_Mo_isOpen 5 rfl) (pc' := 10) rfl f_Mo_151 Y1.1 rfl ?_
  refine g_top (w := .int (nI ne)) (congrArg Value.int hne) ?_
  refine g_callS ok (dk m_Mo_isOpen 6 rfl) (pc' := 13) rfl c_Mo_264 (c_Mo_in g e ne 0) rfl rfl (by simp [Value.category]) (by omega) rfl (rc' := 0) (rs' := 0) (by omega) (by omega) (fun rv h' hcc => ?_) (fun i h' hcc => by obtain ⟨e9, -⟩ := hcc; cases e9)
  obtain ⟨e9, e2⟩ := hcc
  have e3 := e2.symm
  subst e3
  cases e9
  refine g_if_eq ok (dk m_Mo_isOpen 7 rfl) (tgt := 43) (by decide) (pc' := 16) rfl (fun c_13 => ?_) (fun c_13 => ?_)
  · refine g_iconst ok (dk m_Mo_isOpen 24 rfl) (pc' := 44) rfl (v := 0) (by decide) ?_
    exact g_iret ok (dk m_Mo_isOpen 25 rfl) rfl rfl ⟨by rw [b2i_f (p := B_isOpen X n c ne e v) (fun z => b2i_0 c_13 z.1)], _, Y1, (xfr.rf.xi 0 0 (by decide)), rfl⟩
  · obtain ⟨j, hj, rfl⟩ := r_in_of (by omega) (b2i_n c_13)
    have hx : ix (nI j) = j := ix_nI (by omega)
    obtain ⟨D, hD4, hD⟩ := hDp j hj
    have hxD : ix (nI D) = D := ix_nI (by omega)
    have h32 := p2_32 hD4
    refine g_iload_n ok (dk m_Mo_isOpen 8 rfl) (pc' := 17) rfl (i := 2) rfl rfl ?_
    refine g_aload_n ok (dk m_Mo_isOpen 9 rfl) (pc' := 18) rfl (i := 0) rfl rfl ?_
    refine g_iload_n ok (dk m_Mo_isOpen 10 rfl) (pc' := 19) rfl (i := 1) rfl rfl ?_
    refine g_callV ok (dk m_Mo_isOpen 11 rfl) (pc' := 22) rfl c_Mo_192 (c_Mo_width g (e := j) (D := D) 0 (by omega) (by exact hD) hD4 Y1) Y1.1 rfl rfl (by simp [Value.category]) (by omega) rfl (rc' := 0) (rs' := 0) (by omega) (by omega) (fun rv h' hcc => ?_) (fun i h' hcc => by obtain ⟨e9, -⟩ := hcc; cases e9)
    obtain ⟨e9, e2⟩ := hcc
    have e3 := e2.symm
    subst e3
    cases e9
    refine g_callS ok (dk m_Mo_isOpen 12 rfl) (pc' := 25) rfl c_Mo_264 (c_Mo_in g v (2 ^ (D + 1) - 1) 0) rfl rfl (by simp [Value.category]) (by omega) rfl (rc' := 0) (rs' := 0) (by omega) (by omega) (fun rv h' hcc => ?_) (fun i h' hcc => by obtain ⟨e9, -⟩ := hcc; cases e9)
    obtain ⟨e9, e2⟩ := hcc
    have e3 := e2.symm
    subst e3
    cases e9
    refine g_if_eq ok (dk m_Mo_isOpen 13 rfl) (tgt := 43) (by decide) (pc' := 28) rfl (fun c_25 => ?_) (fun c_25 => ?_)
    · refine g_iconst ok (dk m_Mo_isOpen 24 rfl) (pc' := 44) rfl (v := 0) (by decide) ?_
      exact g_iret ok (dk m_Mo_isOpen 25 rfl) rfl rfl ⟨by rw [b2i_f (p := B_isOpen X n c ne (nI j) v) (fun z => b2i_0 c_25 (by have q := z.2.1; rw [hx, hD, hxD] at q; exact q))], _, Y1, (xfr.rf.xi 0 0 (by decide)), rfl⟩
    · have hrv := b2i_n c_25
      obtain ⟨v, hv, rfl⟩ := r_in_of (by omega) hrv
      have hxv : ix (nI v) = v := ix_nI (by omega)
      refine g_aload_n ok (dk m_Mo_isOpen 14 rfl) (pc' := 29) rfl (i := 0) rfl rfl ?_
      refine g_get ok (dk m_Mo_isOpen 15 rfl) (pc' := 32) rfl f_Mo_65 Y1.1 rfl ?_
      refine g_bipush ok (dk m_Mo_isOpen 16 rfl) (pc' := 34) rfl (v := 31) (by decide) ?_
      refine g_iload_n ok (dk m_Mo_isOpen 17 rfl) (pc' := 35) rfl (i := 1) rfl rfl ?_
      refine g_imul ok (dk m_Mo_isOpen 18 rfl) (pc' := 36) rfl ?_
      refine g_iload_n ok (dk m_Mo_isOpen 19 rfl) (pc' := 37) rfl (i := 2) rfl rfl ?_
      refine g_iadd ok (dk m_Mo_isOpen 20 rfl) (pc' := 38) rfl ?_
      refine g_ialdI ok (dk m_Mo_isOpen 21 rfl) (pc' := 39) rfl (j := 31 * j + v) (Y1.ar 22 rfl) (ix31 j v) (show 31 * j + v < 1860 by omega) (by decide) ?_
      refine g_iconst ok (dk m_Mo_isOpen 22 rfl) (pc' := 40) rfl (v := (-1)) (by decide) ?_
      refine g_icmp_ne ok (dk m_Mo_isOpen 23 rfl) (tgt := 45) (by decide) (pc' := 43) rfl (fun c_40 => ?_) (fun c_40 => ?_)
      · obtain ⟨s, hs, hss⟩ := hK j v hj (by omega) c_40
        have hn := hKH.1
        have hxs : ix (nI s) = s := ix_nI (by omega)
        refine g_aload_n ok (dk m_Mo_isOpen 26 rfl) (pc' := 46) rfl (i := 0) rfl rfl ?_
        refine g_callV ok (dk m_Mo_isOpen 27 rfl) (pc' := 49) rfl c_Mo_296 (c_Mo_intrude g (n := n) (c := c) 1 (by omega) (hKH.cg (xfr.rf.xi (K := [0]) 0 0 (by decide)) (by decide)) Y1) Y1.1 rfl rfl (by simp [Value.category]) (by omega) rfl (rc' := 0) (rs' := 0) (by omega) (by omega) (fun rv h' hcc => ?_) (fun i h' hcc => by obtain ⟨e9, -⟩ := hcc; cases e9)
        obtain ⟨e9, X2, H2, f2, hk2⟩ := hcc
        cases e9
        have f1 := (xfr.rf.xi (X := X) 0 0 (show 0 ∈ [0, 6] by decide)).tr (f2.wk (by decide))
        have h0 : X2.1 0 = 0 := (f2 0 (by decide)).1
        have hkk : ∀ k, k < n → X2.2 6 k = b2i (Kn X n c k) := fun k hk => by rw [hk2 k hk, Kn_cg (xfr.rf.xi (K := [0]) 0 0 (by decide)) (by decide)]
        refine g_aload_n ok (dk m_Mo_isOpen 28 rfl) (pc' := 50) rfl (i := 0) rfl rfl ?_
        refine g_get ok (dk m_Mo_isOpen 29 rfl) (pc' := 53) rfl f_Mo_23 H2.1 rfl ?_
        refine g_aload_n ok (dk m_Mo_isOpen 30 rfl) (pc' := 54) rfl (i := 0) rfl rfl ?_
        refine g_get ok (dk m_Mo_isOpen 31 rfl) (pc' := 57) rfl f_Mo_65 H2.1 rfl ?_
        refine g_bipush ok (dk m_Mo_isOpen 32 rfl) (pc' := 59) rfl (v := 31) (by decide) ?_
        refine g_iload_n ok (dk m_Mo_isOpen 33 rfl) (pc' := 60) rfl (i := 1) rfl rfl ?_
        refine g_imul ok (dk m_Mo_isOpen 34 rfl) (pc' := 61) rfl ?_
        refine g_iload_n ok (dk m_Mo_isOpen 35 rfl) (pc' := 62) rfl (i := 2) rfl rfl ?_
        refine g_iadd ok (dk m_Mo_isOpen 36 rfl) (pc' := 63) rfl ?_
        refine g_ialdI ok (dk m_Mo_isOpen 37 rfl) (pc' := 64) rfl (j := 31 * j + v) (H2.ar 22 rfl) (ix31 j v) (show 31 * j + v < 1860 by omega) (by decide) ?_
        refine g_top (w := .int (nI s)) (congrArg Value.int ((congrFun (f1 22 (by decide)).2 (31 * j + v)).trans hss)) ?_
        refine g_zaldI ok (dk m_Mo_isOpen 38 rfl) (pc' := 65) rfl (j := s) (H2.ar 6 rfl) rfl (show s < 2600 by omega) (by decide) ?_
        exact g_iret ok (dk m_Mo_isOpen 39 rfl) rfl (by rw [hkk s hs]; exact b2i_nar _) ⟨by rw [hkk s hs]; congr 4; exact propext ⟨fun z => ⟨b2i_n c_13, by rw [hx, hD, hxD]; exact hrv, by rw [hx, hxv]; exact c_40, by rw [hx, hxv, hss, hxs]; exact z⟩, fun z => by have q := z.2.2.2; rw [hx, hxv, hss, hxs] at q; exact q⟩, X2, H2, f1, h0⟩
      · refine g_iconst ok (dk m_Mo_isOpen 24 rfl) (pc' := 44) rfl (v := 0) (by decide) ?_
        exact g_iret ok (dk m_Mo_isOpen 25 rfl) rfl rfl ⟨by rw [b2i_f (p := B_isOpen X n c ne (nI j) (nI v)) (fun z => z.2.2.1 (by rw [hx, hxv]; exact c_40))], _, Y1, (xfr.rf.xi 0 0 (by decide)), rfl⟩
set_option maxHeartbeats 1000000 in
theorem c_Mo_known (g : q_G) {h : q_H} {o : Nat} {ba : Nat → Nat} {X : x_T} {n c ne : Nat} (d : Nat) (hd : 2 ≤ d) (hKH : q_KH X n c) (hne : X.1 12 = nI ne) (hne2 : ne ≤ 60) (hS : ∀ e, e < ne → ∃ s, s < n ∧ X.2 14 e = nI s)  (H : q_mo h o ba X) : MG g y_Mo_known b_Mo_known 3 (some .int) d 0 0 [.ref o] h (fun q h' => q = .inl (some (.int (nI (B_kn X n c ne 0 0)))) ∧ ∃ X', q_mo h' o ba X' ∧ xfr [0, 6] X X' ∧ X'.1 0 = 0) := by
  refine MG.of (by decide +kernel) (by simp [Value.category]) (Nat.le_of_ble_eq_true rfl) ?_
  intro Z A ok
  refine g_aload_n ok (dk m_Mo_known 0 rfl) (pc' := 1) rfl (i := 0) rfl rfl ?_
  refine g_iconst ok (dk m_Mo_known 1 rfl) (pc' := 2) rfl (v := 0) (by decide) ?_
  refine g_put ok (dk m_Mo_known 2 rfl) (pc' := 5) rfl f_Mo_155 (Or.inl rfl) H.1 (Nat.le_of_ble_eq_true rfl) rfl rfl ?_
  refine g_gen (fun z1 e1 => ?_)
  have Y1 := H.ipt 0 (by decide) e1
  clear e1
  refine g_aload_n ok (dk m_Mo_known 3 rfl) (pc' := 6) rfl (i := 0) rfl rfl ?_
  refine g_callV ok (dk m_Mo_known 4 rfl) (pc' := 9) rfl c_Mo_296 (c_Mo_intrude g (n := n) (c := c) 1 (by omega) (hKH.cg (xfr.rf.xi (K := [0]) 0 0 (by decide)) (by decide)) Y1) Y1.1 rfl rfl (by simp [Value.category]) (by omega) rfl (rc' := 0) (rs' := 0) (by omega) (by omega) (fun rv h' hcc => ?_) (fun i h' hcc => by obtain ⟨e9, -⟩ := hcc; cases e9)
  obtain ⟨e9, X2, H2, f2, hk2⟩ := hcc
  cases e9
  have f1 := (xfr.rf.xi (X := X) 0 0 (show 0 ∈ [0, 6] by decide)).tr (f2.wk (by decide))
  have h0 : X2.1 0 = 0 := (f2 0 (by decide)).1
  have hkk : ∀ k, k < n → X2.2 6 k = b2i (Kn X n c k) := fun k hk => by rw [hk2 k hk, Kn_cg (xfr.rf.xi (K := [0]) 0 0 (by decide)) (by decide)]
  refine g_iconst ok (dk m_Mo_known 5 rfl) (pc' := 10) rfl (v := 0) (by decide) ?_
  refine g_istore_n ok (dk m_Mo_known 6 rfl) (pc' := 11) rfl (i := 1) rfl (Nat.le_of_ble_eq_true rfl) rfl ?_
  refine g_iconst ok (dk m_Mo_known 7 rfl) (pc' := 12) rfl (v := 0) (by decide) ?_
  refine g_istore_n ok (dk m_Mo_known 8 rfl) (pc' := 13) rfl (i := 2) rfl (Nat.le_of_ble_eq_true rfl) rfl ?_
  have loop : ∀ (m k : Nat), k + m = ne → ∀ (a : Nat), B_kn X n c m k a = B_kn X n c ne 0 0 → GW g Z A (fun q h' => q = .inl (some (.int (nI (B_kn X n c ne 0 0)))) ∧ ∃ X', q_mo h' o ba X' ∧ xfr [0, 6] X X' ∧ X'.1 0 = 0) 0 0 h' 13 [some (.ref o), some (.int (nI a)), some (.int (nI k))] [] := by
    intro m
    induction m with
    | zero =>
      intro k hk a hv
      refine g_iload_n ok (dk m_Mo_known 9 rfl) (pc' := 14) rfl (i := 2) rfl rfl ?_
      refine g_aload_n ok (dk m_Mo_known 10 rfl) (pc' := 15) rfl (i := 0) rfl rfl ?_
      refine g_get ok (dk m_Mo_known 11 rfl) (pc' := 18) rfl f_Mo_151 H2.1 rfl ?_
      refine g_top (w := .int (nI ne)) (congrArg Value.int ((f1 12 (by decide)).1.trans hne)) ?_
      refine g_icmp_ge ok (dk m_Mo_known 12 rfl) (tgt := 49) (by decide) (pc' := 21) rfl (fun c_18 => ?_) (fun c_18 => absurd (nI_le (a := ne) (b := k) (by omega) (by omega)) c_18)
      refine g_iload_n ok (dk m_Mo_known 29 rfl) (pc' := 50) rfl (i := 1) rfl rfl ?_
      exact g_iret ok (dk m_Mo_known 30 rfl) rfl rfl ⟨by rw [← hv]; rfl, X2, H2, f1, h0⟩
    | succ m ih =>
      intro k hk a hv
      refine g_iload_n ok (dk m_Mo_known 9 rfl) (pc' := 14) rfl (i := 2) rfl rfl ?_
      refine g_aload_n ok (dk m_Mo_known 10 rfl) (pc' := 15) rfl (i := 0) rfl rfl ?_
      refine g_get ok (dk m_Mo_known 11 rfl) (pc' := 18) rfl f_Mo_151 H2.1 rfl ?_
      refine g_top (w := .int (nI ne)) (congrArg Value.int ((f1 12 (by decide)).1.trans hne)) ?_
      refine g_icmp_ge ok (dk m_Mo_known 12 rfl) (tgt := 49) (by decide) (pc' := 21) rfl (fun c_18 => absurd c_18 (nI_ge (show k < ne by omega) (by omega))) (fun c_18 => ?_)
      refine g_iload_n ok (dk m_Mo_known 13 rfl) (pc' := 22) rfl (i := 1) rfl rfl ?_
      refine g_aload_n ok (dk m_Mo_known 14 rfl) (pc' := 23) rfl (i := 0) rfl rfl ?_
      refine g_get ok (dk m_Mo_known 15 rfl) (pc' := 26) rfl f_Mo_23 H2.1 rfl ?_
      refine g_aload_n ok (dk m_Mo_known 16 rfl) (pc' := 27) rfl (i := 0) rfl rfl ?_
      refine g_get ok (dk m_Mo_known 17 rfl) (pc' := 30) rfl f_Mo_41 H2.1 rfl ?_
      refine g_iload_n ok (dk m_Mo_known 18 rfl) (pc' := 31) rfl (i := 2) rfl rfl ?_
      refine g_ialdI ok (dk m_Mo_known 19 rfl) (pc' := 32) rfl (j := k) (H2.ar 14 rfl) rfl (show k < 60 by omega) (by decide) ?_
      obtain ⟨s, hs, hss⟩ := hS k (by omega)
      have hn := hKH.1
      have hxs : ix (nI s) = s := ix_nI (by omega)
      refine g_top (w := .int (nI s)) (congrArg Value.int ((congrFun (f1 14 (by decide)).2 k).trans hss)) ?_
      refine g_zaldI ok (dk m_Mo_known 20 rfl) (pc' := 33) rfl (j := s) (H2.ar 6 rfl) rfl (show s < 2600 by omega) (by decide) ?_
      rw [hkk s hs]
      refine g_if_eq ok (dk m_Mo_known 21 rfl) (tgt := 40) (by decide) (pc' := 36) rfl (fun c_33 => ?_) (fun c_33 => ?_)
      · refine g_iconst ok (dk m_Mo_known 24 rfl) (pc' := 41) rfl (v := 0) (by decide) ?_
        refine g_iadd ok (dk m_Mo_known 25 rfl) (pc' := 42) rfl ?_
        rw [show nI a + 0 = nI a from Int32.add_zero _]
        refine g_istore_n ok (dk m_Mo_known 26 rfl) (pc' := 43) rfl (i := 1) rfl (Nat.le_of_ble_eq_true rfl) rfl ?_
        refine g_iinc ok (dk m_Mo_known 27 rfl) (pc' := 46) rfl rfl (nI_1 k) rfl ?_
        refine g_goto ok (dk m_Mo_known 28 rfl) (pc' := 13) (by decide) ?_
        exact ih (k + 1) (by omega) _ (by rw [← hv, B_kn, hss, hxs, if_neg (b2i_0 c_33)])
      · refine g_iconst ok (dk m_Mo_known 22 rfl) (pc' := 37) rfl (v := 1) (by decide) ?_
        refine g_goto ok (dk m_Mo_known 23 rfl) (pc' := 41) (by decide) ?_
        refine g_iadd ok (dk m_Mo_known 25 rfl) (pc' := 42) rfl ?_
        rw [nI_1]
        refine g_istore_n ok (dk m_Mo_known 26 rfl) (pc' := 43) rfl (i := 1) rfl (Nat.le_of_ble_eq_true rfl) rfl ?_
        refine g_iinc ok (dk m_Mo_known 27 rfl) (pc' := 46) rfl rfl (nI_1 k) rfl ?_
        refine g_goto ok (dk m_Mo_known 28 rfl) (pc' := 13) (by decide) ?_
        exact ih (k + 1) (by omega) _ (by rw [← hv, B_kn, hss, hxs, if_pos (b2i_n c_33)])
  exact loop ne 0 (by omega) 0 rfl
set_option maxHeartbeats 1000000 in
theorem c_Mo_node (g : q_G) {h : q_H} {o : Nat} {ba : Nat → Nat} {X : x_T} {ne : Nat} (e v wh : Int32) (d : Nat) (hd : 2 ≤ d) (hne : X.1 12 = nI ne) (hne2 : ne ≤ 60) (hDp : ∀ a, a < ne → ∃ D, D ≤ 4 ∧ X.2 13 a = nI D) (hR : ∀ e v, e < ne → v < 31 → (rsl X e (hgt v) v).length ≤ 32) (H : q_mo h o ba X) : MG g y_Mo_node b_Mo_node 5 (some .int) d 0 0 [.ref o, .int e, .int v, .int wh] h (fun q h' => q = .inl (some (.int (B_node X ne e v wh))) ∧ ∃ X', q_mo h' o ba X' ∧ (∃ K, (∀ k, k ∈ K → k = 0 ∨ 48 ≤ k ∧ k ≤ 50) ∧ xfr K X X') ∧ X'.1 0 = 0) := by
  refine MG.of (by decide +kernel) (by simp [Value.category]) (Nat.le_of_ble_eq_true rfl) ?_
  intro Z A ok
  classical
  refine g_aload_n ok (dk m_Mo_node 0 rfl) (pc' := 1) rfl (i := 0) rfl rfl ?_
  refine g_iconst ok (dk m_Mo_node 1 rfl) (pc' := 2) rfl (v := 0) (by decide) ?_
  refine g_put ok (dk m_Mo_node 2 rfl) (pc' := 5) rfl f_Mo_155 (Or.inl rfl) H.1 (Nat.le_of_ble_eq_true rfl) rfl rfl ?_
  refine g_gen (fun z1 e1 => ?_)
  have Y1 := H.ipt 0 (by decide) e1
  clear e1
  refine g_iload_n ok (dk m_Mo_node 3 rfl) (pc' := 6) rfl (i := 1) rfl rfl ?_
  refine g_aload_n ok (dk m_Mo_node 4 rfl) (pc' := 7) rfl (i := 0) rfl rfl ?_
  refine g_get ok (dk m_Mo_node 5 rfl) (pc' := 10) rfl f_Mo_151 Y1.1 rfl ?_
  refine g_top (w := .int (nI ne)) (congrArg Value.int hne) ?_
  refine g_callS ok (dk m_Mo_node 6 rfl) (pc' := 13) rfl c_Mo_264 (c_Mo_in g e ne 0) rfl rfl (by simp [Value.category]) (by omega) rfl (rc' := 0) (rs' := 0) (by omega) (by omega) (fun rv h' hcc => ?_) (fun i h' hcc => by obtain ⟨e9, -⟩ := hcc; cases e9)
  obtain ⟨e9, e2⟩ := hcc
  have e3 := e2.symm
  subst e3
  cases e9
  refine g_if_eq ok (dk m_Mo_node 7 rfl) (tgt := 28) (by decide) (pc' := 16) rfl (fun c_13 => ?_) (fun c_13 => ?_)
  · refine g_iconst ok (dk m_Mo_node 14 rfl) (pc' := 29) rfl (v := (-1)) (by decide) ?_
    exact g_iret ok (dk m_Mo_node 15 rfl) rfl rfl ⟨by rw [B_node, if_neg (fun z => b2i_0 c_13 z.1)], _, Y1, ⟨[0], by decide, xfr.rf.xi 0 0 (by decide)⟩, rfl⟩
  · obtain ⟨j, hj, rfl⟩ := r_in_of (by omega) (b2i_n c_13)
    have hx : ix (nI j) = j := ix_nI (by omega)
    obtain ⟨D, hD4, hD⟩ := hDp j hj
    have hxD : ix (nI D) = D := ix_nI (by omega)
    have h32 := p2_32 hD4
    refine g_iload_n ok (dk m_Mo_node 8 rfl) (pc' := 17) rfl (i := 2) rfl rfl ?_
    refine g_aload_n ok (dk m_Mo_node 9 rfl) (pc' := 18) rfl (i := 0) rfl rfl ?_
    refine g_iload_n ok (dk m_Mo_node 10 rfl) (pc' := 19) rfl (i := 1) rfl rfl ?_
    refine g_callV ok (dk m_Mo_node 11 rfl) (pc' := 22) rfl c_Mo_192 (c_Mo_width g (e := j) (D := D) 0 (by omega) (by exact hD) hD4 Y1) Y1.1 rfl rfl (by simp [Value.category]) (by omega) rfl (rc' := 0) (rs' := 0) (by omega) (by omega) (fun rv h' hcc => ?_) (fun i h' hcc => by obtain ⟨e9, -⟩ := hcc; cases e9)
    obtain ⟨e9, e2⟩ := hcc
    have e3 := e2.symm
    subst e3
    cases e9
    refine g_callS ok (dk m_Mo_node 12 rfl) (pc' := 25) rfl c_Mo_264 (c_Mo_in g v (2 ^ (D + 1) - 1) 0) rfl rfl (by simp [Value.category]) (by omega) rfl (rc' := 0) (rs' := 0) (by omega) (by omega) (fun rv h' hcc => ?_) (fun i h' hcc => by obtain ⟨e9, -⟩ := hcc; cases e9)
    obtain ⟨e9, e2⟩ := hcc
    have e3 := e2.symm
    subst e3
    cases e9
    refine g_if_ne ok (dk m_Mo_node 13 rfl) (tgt := 30) (by decide) (pc' := 28) rfl (fun c_25 => ?_) (fun c_25 => ?_)
    · have hrv := b2i_n c_25
      obtain ⟨v, hv, rfl⟩ := r_in_of (by omega) hrv
      have hxv : ix (nI v) = v := ix_nI (by omega)
      have hre := b2i_n c_13
      have hB : ∀ x : Int32, (x = if wh = 0 then (if X.2 22 (31 * j + v) = -1 then 0 else 1) else if wh = 1 then X.2 23 (31 * j + v) else if wh = 2 then (if X.2 22 (31 * j + v) = -1 then -1 else X.2 24 (31 * j + v)) else if wh = 3 then nI (rsl X j (hgt v) v).length else -1) → x = B_node X ne (nI j) (nI v) wh := fun x hx0 => by rw [B_node, hx, hxv, hD, hxD, if_pos ⟨hre, hrv⟩]; exact hx0
      refine g_bipush ok (dk m_Mo_node 16 rfl) (pc' := 32) rfl (v := 31) (by decide) ?_
      refine g_iload_n ok (dk m_Mo_node 17 rfl) (pc' := 33) rfl (i := 1) rfl rfl ?_
      refine g_imul ok (dk m_Mo_node 18 rfl) (pc' := 34) rfl ?_
      refine g_iload_n ok (dk m_Mo_node 19 rfl) (pc' := 35) rfl (i := 2) rfl rfl ?_
      refine g_iadd ok (dk m_Mo_node 20 rfl) (pc' := 36) rfl ?_
      refine g_istore ok (dk m_Mo_node 21 rfl) (pc' := 38) rfl (Nat.le_of_ble_eq_true rfl) rfl ?_
      refine g_iload_n ok (dk m_Mo_node 22 rfl) (pc' := 39) rfl (i := 3) rfl rfl ?_
      refine g_iconst ok (dk m_Mo_node 23 rfl) (pc' := 40) rfl (v := 3) (by decide) ?_
      refine g_icmp_ne ok (dk m_Mo_node 24 rfl) (tgt := 49) (by decide) (pc' := 43) rfl (fun c_40 => ?_) (fun c_40 => ?_)
      refine g_iload_n ok (dk m_Mo_node 29 rfl) (pc' := 50) rfl (i := 3) rfl rfl ?_
      refine g_if_ne ok (dk m_Mo_node 30 rfl) (tgt := 72) (by decide) (pc' := 53) rfl (fun c_50 => ?_) (fun c_50 => ?_)
      · refine g_iload_n ok (dk m_Mo_node 41 rfl) (pc' := 73) rfl (i := 3) rfl rfl ?_
        refine g_iconst ok (dk m_Mo_node 42 rfl) (pc' := 74) rfl (v := 1) (by decide) ?_
        refine g_icmp_ne ok (dk m_Mo_node 43 rfl) (tgt := 87) (by decide) (pc' := 77) rfl (fun c_74 => ?_) (fun c_74 => ?_)
        · refine g_iload_n ok (dk m_Mo_node 49 rfl) (pc' := 88) rfl (i := 3) rfl rfl ?_
          refine g_iconst ok (dk m_Mo_node 50 rfl) (pc' := 89) rfl (v := 2) (by decide) ?_
          refine g_icmp_ne ok (dk m_Mo_node 51 rfl) (tgt := 117) (by decide) (pc' := 92) rfl (fun c_89 => ?_) (fun c_89 => ?_)
          · refine g_iload_n ok (dk m_Mo_node 65 rfl) (pc' := 118) rfl (i := 3) rfl rfl ?_
            refine g_iconst ok (dk m_Mo_node 66 rfl) (pc' := 119) rfl (v := 3) (by decide) ?_
            refine g_icmp_ne ok (dk m_Mo_node 67 rfl) (tgt := 129) (by decide) (pc' := 122) rfl (fun c_119 => ?_) (fun c_119 => absurd c_119 c_40)
            refine g_iconst ok (dk m_Mo_node 71 rfl) (pc' := 130) rfl (v := (-1)) (by decide) ?_
            exact g_iret ok (dk m_Mo_node 72 rfl) rfl rfl ⟨congrArg (fun x => Sum.inl (some (Value.int x))) (hB _ (by rw [if_neg c_50, if_neg c_74, if_neg c_89, if_neg c_40])), _, Y1, ⟨[0], by decide, xfr.rf.xi 0 0 (by decide)⟩, rfl⟩
          · refine g_aload_n ok (dk m_Mo_node 52 rfl) (pc' := 93) rfl (i := 0) rfl rfl ?_
            refine g_get ok (dk m_Mo_node 53 rfl) (pc' := 96) rfl f_Mo_65 Y1.1 rfl ?_
            refine g_iload ok (dk m_Mo_node 54 rfl) (pc' := 98) rfl rfl ?_
            refine g_ialdI ok (dk m_Mo_node 55 rfl) (pc' := 99) rfl (j := 31 * j + v) (Y1.ar 22 rfl) (ix31 j v) (show 31 * j + v < 1860 by omega) (by decide) ?_
            refine g_iconst ok (dk m_Mo_node 56 rfl) (pc' := 100) rfl (v := (-1)) (by decide) ?_
            refine g_icmp_ne ok (dk m_Mo_node 57 rfl) (tgt := 107) (by decide) (pc' := 103) rfl (fun c_100 => ?_) (fun c_100 => ?_)
            · refine g_aload_n ok (dk m_Mo_node 60 rfl) (pc' := 108) rfl (i := 0) rfl rfl ?_
              refine g_get ok (dk m_Mo_node 61 rfl) (pc' := 111) rfl f_Mo_71 Y1.1 rfl ?_
              refine g_iload ok (dk m_Mo_node 62 rfl) (pc' := 113) rfl rfl ?_
              refine g_ialdI ok (dk m_Mo_node 63 rfl) (pc' := 114) rfl (j := 31 * j + v) (Y1.ar 24 rfl) (ix31 j v) (show 31 * j + v < 1860 by omega) (by decide) ?_
              refine g_goto ok (dk m_Mo_node 64 rfl) (pc' := 130) (by decide) ?_
              exact g_iret ok (dk m_Mo_node 72 rfl) rfl rfl ⟨congrArg (fun x => Sum.inl (some (Value.int x))) (hB _ (by rw [if_neg c_50, if_neg c_74, if_pos c_89, if_neg c_100])), _, Y1, ⟨[0], by decide, xfr.rf.xi 0 0 (by decide)⟩, rfl⟩
            · refine g_iconst ok (dk m_Mo_node 58 rfl) (pc' := 104) rfl (v := (-1)) (by decide) ?_
              refine g_goto ok (dk m_Mo_node 59 rfl) (pc' := 130) (by decide) ?_
              exact g_iret ok (dk m_Mo_node 72 rfl) rfl rfl ⟨congrArg (fun x => Sum.inl (some (Value.int x))) (hB _ (by rw [if_neg c_50, if_neg c_74, if_pos c_89, if_pos c_100])), _, Y1, ⟨[0], by decide, xfr.rf.xi 0 0 (by decide)⟩, rfl⟩
        · refine g_aload_n ok (dk m_Mo_node 44 rfl) (pc' := 78) rfl (i := 0) rfl rfl ?_
          refine g_get ok (dk m_Mo_node 45 rfl) (pc' := 81) rfl f_Mo_68 Y1.1 rfl ?_
          refine g_iload ok (dk m_Mo_node 46 rfl) (pc' := 83) rfl rfl ?_
          refine g_ialdI ok (dk m_Mo_node 47 rfl) (pc' := 84) rfl (j := 31 * j + v) (Y1.ar 23 rfl) (ix31 j v) (show 31 * j + v < 1860 by omega) (by decide) ?_
          refine g_goto ok (dk m_Mo_node 48 rfl) (pc' := 130) (by decide) ?_
          exact g_iret ok (dk m_Mo_node 72 rfl) rfl rfl ⟨congrArg (fun x => Sum.inl (some (Value.int x))) (hB _ (by rw [if_neg c_50, if_pos c_74])), _, Y1, ⟨[0], by decide, xfr.rf.xi 0 0 (by decide)⟩, rfl⟩
      · refine g_aload_n ok (dk m_Mo_node 31 rfl) (pc' := 54) rfl (i := 0) rfl rfl ?_
        refine g_get ok (dk m_Mo_node 32 rfl) (pc' := 57) rfl f_Mo_65 Y1.1 rfl ?_
        refine g_iload ok (dk m_Mo_node 33 rfl) (pc' := 59) rfl rfl ?_
        refine g_ialdI ok (dk m_Mo_node 34 rfl) (pc' := 60) rfl (j := 31 * j + v) (Y1.ar 22 rfl) (ix31 j v) (show 31 * j + v < 1860 by omega) (by decide) ?_
        refine g_iconst ok (dk m_Mo_node 35 rfl) (pc' := 61) rfl (v := (-1)) (by decide) ?_
        refine g_icmp_ne ok (dk m_Mo_node 36 rfl) (tgt := 68) (by decide) (pc' := 64) rfl (fun c_61 => ?_) (fun c_61 => ?_)
        · refine g_iconst ok (dk m_Mo_node 39 rfl) (pc' := 69) rfl (v := 1) (by decide) ?_
          refine g_goto ok (dk m_Mo_node 40 rfl) (pc' := 130) (by decide) ?_
          exact g_iret ok (dk m_Mo_node 72 rfl) rfl rfl ⟨congrArg (fun x => Sum.inl (some (Value.int x))) (hB _ (by rw [if_pos c_50, if_neg c_61])), _, Y1, ⟨[0], by decide, xfr.rf.xi 0 0 (by decide)⟩, rfl⟩
        · refine g_iconst ok (dk m_Mo_node 37 rfl) (pc' := 65) rfl (v := 0) (by decide) ?_
          refine g_goto ok (dk m_Mo_node 38 rfl) (pc' := 130) (by decide) ?_
          exact g_iret ok (dk m_Mo_node 72 rfl) rfl rfl ⟨congrArg (fun x => Sum.inl (some (Value.int x))) (hB _ (by rw [if_pos c_50, if_pos c_61])), _, Y1, ⟨[0], by decide, xfr.rf.xi 0 0 (by decide)⟩, rfl⟩
      · refine g_aload_n ok (dk m_Mo_node 25 rfl) (pc' := 44) rfl (i := 0) rfl rfl ?_
        refine g_iload_n ok (dk m_Mo_node 26 rfl) (pc' := 45) rfl (i := 1) rfl rfl ?_
        refine g_iload_n ok (dk m_Mo_node 27 rfl) (pc' := 46) rfl (i := 2) rfl rfl ?_
        refine g_callV ok (dk m_Mo_node 28 rfl) (pc' := 49) rfl c_Mo_218 (c_Mo_resolve g (e := j) (v0 := v) 1 (by omega) (by omega) (by omega) (by rw [rsl_cg (Y := xi X 0 0) (X := X) rfl rfl]; exact hR j v hj (by omega)) Y1) Y1.1 rfl rfl (by simp [Value.category]) (by omega) rfl (rc' := 0) (rs' := 0) (by omega) (by omega) (fun rv h' hcc => ?_) (fun i h' hcc => by obtain ⟨e9, -⟩ := hcc; cases e9)
        obtain ⟨e9, X2, H2, f2, hr2⟩ := hcc
        cases e9
        rw [rsl_cg (Y := xi X 0 0) (X := X) rfl rfl] at hr2
        have h0 : X2.1 0 = 0 := (f2 0 (by decide)).1
        subst c_40
        refine g_iload_n ok (dk m_Mo_node 29 rfl) (pc' := 50) rfl (i := 3) rfl rfl ?_
        refine g_if_ne ok (dk m_Mo_node 30 rfl) (tgt := 72) (by decide) (pc' := 53) rfl (fun c_50 => ?_) (fun c_50 => absurd c_50 (show ¬ (3 : Int32) = 0 by decide))
        refine g_iload_n ok (dk m_Mo_node 41 rfl) (pc' := 73) rfl (i := 3) rfl rfl ?_
        refine g_iconst ok (dk m_Mo_node 42 rfl) (pc' := 74) rfl (v := 1) (by decide) ?_
        refine g_icmp_ne ok (dk m_Mo_node 43 rfl) (tgt := 87) (by decide) (pc' := 77) rfl (fun c_74 => ?_) (fun c_74 => absurd c_74 (show ¬ (3 : Int32) = 1 by decide))
        refine g_iload_n ok (dk m_Mo_node 49 rfl) (pc' := 88) rfl (i := 3) rfl rfl ?_
        refine g_iconst ok (dk m_Mo_node 50 rfl) (pc' := 89) rfl (v := 2) (by decide) ?_
        refine g_icmp_ne ok (dk m_Mo_node 51 rfl) (tgt := 117) (by decide) (pc' := 92) rfl (fun c_89 => ?_) (fun c_89 => absurd c_89 (show ¬ (3 : Int32) = 2 by decide))
        refine g_iload_n ok (dk m_Mo_node 65 rfl) (pc' := 118) rfl (i := 3) rfl rfl ?_
        refine g_iconst ok (dk m_Mo_node 66 rfl) (pc' := 119) rfl (v := 3) (by decide) ?_
        refine g_icmp_ne ok (dk m_Mo_node 67 rfl) (tgt := 129) (by decide) (pc' := 122) rfl (fun c_119 => absurd rfl c_119) (fun c_119 => ?_)
        refine g_aload_n ok (dk m_Mo_node 68 rfl) (pc' := 123) rfl (i := 0) rfl rfl ?_
        refine g_get ok (dk m_Mo_node 69 rfl) (pc' := 126) rfl f_Mo_176 H2.1 rfl ?_
        refine g_top (w := .int (nI (rsl X j (hgt v) v).length)) (congrArg Value.int hr2.1) ?_
        refine g_goto ok (dk m_Mo_node 70 rfl) (pc' := 130) (by decide) ?_
        exact g_iret ok (dk m_Mo_node 72 rfl) rfl rfl ⟨congrArg (fun x => Sum.inl (some (Value.int x))) (hB _ (by rw [if_neg (by decide), if_neg (by decide), if_neg (by decide), if_pos rfl])), X2, H2, ⟨[0, 48, 49, 50], by decide, ((xfr.rf.xi 0 0 (by decide)).tr (f2.wk (by decide)))⟩, h0⟩
    · refine g_iconst ok (dk m_Mo_node 14 rfl) (pc' := 29) rfl (v := (-1)) (by decide) ?_
      exact g_iret ok (dk m_Mo_node 15 rfl) rfl rfl ⟨by rw [B_node, if_neg (fun z => b2i_0 c_25 (by have q := z.2; rw [hx, hD, hxD] at q; exact q))], _, Y1, ⟨[0], by decide, xfr.rf.xi 0 0 (by decide)⟩, rfl⟩
