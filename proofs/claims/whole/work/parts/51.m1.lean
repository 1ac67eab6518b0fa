/-! ===== the reference: its small methods ===== -/
abbrev abv (l t : Nat) : Nat := l / 2 ^ t * 2 ^ (t + 1) + 2 ^ t - 1
theorem abv_ok : ∀ l, l < 16 → ∀ t, t < 5 → j_node (nI l) (nI t) = nI (abv l t) ∧ abv l t < 31 := by decide +kernel
def hgt (v : Nat) : Nat := if v % 2 = 0 then 0 else if v % 4 = 1 then 1 else if v % 8 = 3 then 2 else if v % 16 = 7 then 3 else 4
theorem hgt_1 : ∀ v, v < 31 → ∀ t, t < 5 → t < hgt v → (nI v >>> (nI t &&& 31)) &&& 1 = 1 := by decide +kernel
theorem hgt_0 : ∀ v, v < 31 → ¬ (nI v >>> (nI (hgt v) &&& 31)) &&& 1 = 1 := by decide +kernel
theorem hgt_4 : ∀ v, v < 31 → hgt v ≤ 4 := by decide +kernel
theorem j_wid : ∀ D, D ≤ 4 → (2 : Int32) <<< (nI D &&& 31) - 1 = nI (2 ^ (D + 1) - 1) := by decide +kernel
theorem p2_le {D : Nat} (h : D ≤ 4) : 2 ^ D ≤ 16 := by
  rcases (show D = 0 ∨ D = 1 ∨ D = 2 ∨ D = 3 ∨ D = 4 by omega) with rfl | rfl | rfl | rfl | rfl <;> decide
theorem p2_s {D : Nat} (h1 : 1 ≤ D) : 2 * 2 ^ (D - 1) = 2 ^ D := by
  rw [← Nat.pow_succ', show (D - 1).succ = D by omega]
abbrev mk (X : x_T) (n : Nat) (kd a b : Int32) : x_T := xi (xs (xs (xs X 2 n kd) 3 n a) 4 n b) 1 (nI (n + 1))
abbrev mo_enc (X : x_T) (c e : Nat) (key what node : Int32) : x_T := xs (xi (xs (xs (xs (xs X 8 c key) 9 c what) 10 c (nI e)) 11 c node) 7 (nI (c + 1))) 20 e (X.2 20 e + 1)
abbrev mo_bl (X : x_T) (e v : Nat) : x_T := xs (xs X 22 (31 * e + v) (-1)) 23 (31 * e + v) 0
abbrev mo_set (X : x_T) (e v : Nat) (key : Int32) : x_T := xs (xs (xs X 22 (31 * e + v) key) 23 (31 * e + v) 0) 24 (31 * e + v) (nI e)
def mo_bp (e l : Nat) : Nat → Nat → x_T → x_T
  | 0, _, X => X
  | m + 1, k, X => mo_bp e l m (k + 1) (mo_bl X e (abv l k))
noncomputable def mo_lo (f : Nat → Int32) (mm : Int32) : Nat → Nat → Int32
  | 0, _ => -1
  | m + 1, k => if f k = mm then nI k else mo_lo f mm m (k + 1)
def mo_fr (f : Nat → Int32) : Nat → Nat → Nat
  | 0, k => k
  | m + 1, k => if f k = -1 then k else mo_fr f m (k + 1)
def mo_mt (c : Int32) (l : Nat) : Nat → Nat → Int32
  | 0, _ => -1
  | m + 1, k => if (c >>> (nI (abv l k) &&& 31)) &&& 1 = 1 then nI (abv l k) else mo_mt c l m (k + 1)
def mo_nk (mm : Nat) : Nat → Nat → x_T → x_T
  | 0, _, X => X
  | m + 1, k, X => mo_nk mm m (k + 1) (xs X 33 (31 * mm + k) (-1))
abbrev mo_lv (X : x_T) (mm : Nat) : x_T := mo_nk mm 31 0 (xs (xs (xs (xs (xs X 27 mm (-1)) 28 mm (-1)) 29 mm (-1)) 32 mm 0) 31 mm 0)
noncomputable def mo_hd (X : x_T) (n : Nat) (x : Int32) : x_T := by
  classical exact if ∃ k, k < n ∧ X.2 47 k = x then X else xi (xs X 47 n x) 46 (nI (n + 1))
set_option maxHeartbeats 1000000 in
theorem c_Mo_in (g : q_G) {h : q_H} (x : Int32) (N : Nat) (d : Nat) : MG g y_Mo_in b_Mo_in 2 (some .boolean) d 0 0 [.int x, .int (nI N)] h (fun q h' => q = .inl (some (.int (b2i (r_in N x)))) ∧ h' = h) := by
  refine MG.of (by decide +kernel) (by simp [Value.category]) (Nat.le_of_ble_eq_true rfl) ?_
  intro Z A ok
  refine g_iload_n ok (dk m_Mo_in 0 rfl) (pc' := 1) rfl (i := 0) rfl rfl ?_
  refine g_if_lt ok (dk m_Mo_in 1 rfl) (tgt := 13) (by decide) (pc' := 4) rfl (fun c_1 => ?_) (fun c_1 => ?_)
  · refine g_iconst ok (dk m_Mo_in 7 rfl) (pc' := 14) rfl (v := 0) (by decide) ?_
    exact g_iret ok (dk m_Mo_in 8 rfl) rfl rfl ⟨by rw [b2i_f (p := r_in N x) (fun z => z.1 c_1)], rfl⟩
  · refine g_iload_n ok (dk m_Mo_in 2 rfl) (pc' := 5) rfl (i := 0) rfl rfl ?_
    refine g_iload_n ok (dk m_Mo_in 3 rfl) (pc' := 6) rfl (i := 1) rfl rfl ?_
    refine g_icmp_ge ok (dk m_Mo_in 4 rfl) (tgt := 13) (by decide) (pc' := 9) rfl (fun c_6 => ?_) (fun c_6 => ?_)
    · refine g_iconst ok (dk m_Mo_in 7 rfl) (pc' := 14) rfl (v := 0) (by decide) ?_
      exact g_iret ok (dk m_Mo_in 8 rfl) rfl rfl ⟨by rw [b2i_f (p := r_in N x) (fun z => z.2 c_6)], rfl⟩
    · refine g_iconst ok (dk m_Mo_in 5 rfl) (pc' := 10) rfl (v := 1) (by decide) ?_
      refine g_goto ok (dk m_Mo_in 6 rfl) (pc' := 14) (by decide) ?_
      exact g_iret ok (dk m_Mo_in 8 rfl) rfl rfl ⟨by rw [b2i_t (p := r_in N x) ⟨c_1, c_6⟩], rfl⟩
set_option maxHeartbeats 1000000 in
theorem c_Mo_make (g : q_G) {h : q_H} {o : Nat} {ba : Nat → Nat} {X : x_T} {n : Nat} (kd a b : Int32) (d : Nat) (hn : X.1 1 = nI n) (hn2 : n < 2600) (H : q_mo h o ba X) : MG g y_Mo_make b_Mo_make 4 (some .int) d 0 0 [.ref o, .int kd, .int a, .int b] h (fun q h' => q = .inl (some (.int (nI n))) ∧ q_mo h' o ba (mk X n kd a b)) := by
  refine MG.of (by decide +kernel) (by simp [Value.category]) (Nat.le_of_ble_eq_true rfl) ?_
  intro Z A ok
  refine g_aload_n ok (dk m_Mo_make 0 rfl) (pc' := 1) rfl (i := 0) rfl rfl ?_
  refine g_get ok (dk m_Mo_make 1 rfl) (pc' := 4) rfl f_Mo_7 H.1 rfl ?_
  refine g_aload_n ok (dk m_Mo_make 2 rfl) (pc' := 5) rfl (i := 0) rfl rfl ?_
  refine g_get ok (dk m_Mo_make 3 rfl) (pc' := 8) rfl f_Mo_158 H.1 rfl ?_
  refine g_iload_n ok (dk m_Mo_make 4 rfl) (pc' := 9) rfl (i := 1) rfl rfl ?_
  refine g_iastI ok (dk m_Mo_make 5 rfl) (pc' := 10) rfl (j := n) (H.ar 2 rfl) hn (show n < 2600 by omega) (by decide) (fun z1 e1 => ?_)
  have Y1 := H.ast 2 rfl e1
  clear e1
  refine g_aload_n ok (dk m_Mo_make 6 rfl) (pc' := 11) rfl (i := 0) rfl rfl ?_
  refine g_get ok (dk m_Mo_make 7 rfl) (pc' := 14) rfl f_Mo_13 Y1.1 rfl ?_
  refine g_aload_n ok (dk m_Mo_make 8 rfl) (pc' := 15) rfl (i := 0) rfl rfl ?_
  refine g_get ok (dk m_Mo_make 9 rfl) (pc' := 18) rfl f_Mo_158 Y1.1 rfl ?_
  refine g_iload_n ok (dk m_Mo_make 10 rfl) (pc' := 19) rfl (i := 2) rfl rfl ?_
  refine g_iastI ok (dk m_Mo_make 11 rfl) (pc' := 20) rfl (j := n) (Y1.ar 3 rfl) hn (show n < 2600 by omega) (by decide) (fun z2 e2 => ?_)
  have Y2 := Y1.ast 3 rfl e2
  clear e2
  refine g_aload_n ok (dk m_Mo_make 12 rfl) (pc' := 21) rfl (i := 0) rfl rfl ?_
  refine g_get ok (dk m_Mo_make 13 rfl) (pc' := 24) rfl f_Mo_16 Y2.1 rfl ?_
  refine g_aload_n ok (dk m_Mo_make 14 rfl) (pc' := 25) rfl (i := 0) rfl rfl ?_
  refine g_get ok (dk m_Mo_make 15 rfl) (pc' := 28) rfl f_Mo_158 Y2.1 rfl ?_
  refine g_iload_n ok (dk m_Mo_make 16 rfl) (pc' := 29) rfl (i := 3) rfl rfl ?_
  refine g_iastI ok (dk m_Mo_make 17 rfl) (pc' := 30) rfl (j := n) (Y2.ar 4 rfl) hn (show n < 2600 by omega) (by decide) (fun z3 e3 => ?_)
  have Y3 := Y2.ast 4 rfl e3
  clear e3
  refine g_aload_n ok (dk m_Mo_make 18 rfl) (pc' := 31) rfl (i := 0) rfl rfl ?_
  refine g_dup ok (dk m_Mo_make 19 rfl) (pc' := 32) rfl rfl ?_
  refine g_get ok (dk m_Mo_make 20 rfl) (pc' := 35) rfl f_Mo_158 Y3.1 rfl ?_
  refine g_iconst ok (dk m_Mo_make 21 rfl) (pc' := 36) rfl (v := 1) (by decide) ?_
  refine g_iadd ok (dk m_Mo_make 22 rfl) (pc' := 37) rfl ?_
  refine g_top (w := .int (nI (n + 1))) (by show Value.int (X.1 1 + 1) = _; rw [hn, nI_1]) ?_
  refine g_put ok (dk m_Mo_make 23 rfl) (pc' := 40) rfl f_Mo_158 (Or.inl rfl) Y3.1 (Nat.le_of_ble_eq_true rfl) rfl rfl ?_
  refine g_gen (fun z4 e4 => ?_)
  have Y4 := Y3.ipt 1 (by decide) e4
  clear e4
  refine g_aload_n ok (dk m_Mo_make 24 rfl) (pc' := 41) rfl (i := 0) rfl rfl ?_
  refine g_get ok (dk m_Mo_make 25 rfl) (pc' := 44) rfl f_Mo_158 Y4.1 rfl ?_
  refine g_iconst ok (dk m_Mo_make 26 rfl) (pc' := 45) rfl (v := 1) (by decide) ?_
  refine g_isub ok (dk m_Mo_make 27 rfl) (pc' := 46) rfl ?_
  refine g_top (w := .int (nI n)) (by show Value.int (nI (n + 1) - 1) = _; rw [nI_pred]) ?_
  exact g_iret ok (dk m_Mo_make 28 rfl) rfl rfl ⟨rfl, Y4⟩
set_option maxHeartbeats 1000000 in
theorem c_Mo_of (g : q_G) {h : q_H} {o : Nat} {ba : Nat → Nat} {X : x_T} {n : Nat} (kd a b : Int32) (d : Nat) (hd : 1 ≤ d) (hn : X.1 1 = nI n) (hn2 : n < 2600) (hno : ∀ k, k < n → ¬ (X.2 2 k = kd ∧ X.2 3 k = a ∧ X.2 4 k = b)) (H : q_mo h o ba X) : MG g y_Mo_of b_Mo_of 5 (some .int) d 0 0 [.ref o, .int kd, .int a, .int b] h (fun q h' => q = .inl (some (.int (nI n))) ∧ q_mo h' o ba (mk X n kd a b)) := by
  refine MG.of (by decide +kernel) (by simp [Value.category]) (Nat.le_of_ble_eq_true rfl) ?_
  intro Z A ok
  have loop : ∀ (m k : Nat), k + m = n → GW g Z A (fun q h' => q = .inl (some (.int (nI n))) ∧ q_mo h' o ba (mk X n kd a b)) 0 0 h 3 [some (.ref o), some (.int kd), some (.int a), some (.int b), some (.int (nI k))] [] := by
    intro m
    induction m with
    | zero =>
      intro k hk
      refine g_iload ok (dk m_Mo_of 2 rfl) (pc' := 5) rfl rfl ?_
      refine g_aload_n ok (dk m_Mo_of 3 rfl) (pc' := 6) rfl (i := 0) rfl rfl ?_
      refine g_get ok (dk m_Mo_of 4 rfl) (pc' := 9) rfl f_Mo_158 H.1 rfl ?_
      rw [hn]
      refine g_icmp_ge ok (dk m_Mo_of 5 rfl) (tgt := 54) (by decide) (pc' := 12) rfl (fun c_9 => ?_) (fun c_9 => absurd (show nI n ≤ nI k from by rw [show k = n by omega]; exact Int32.le_refl _) c_9)
      refine g_aload_n ok (dk m_Mo_of 28 rfl) (pc' := 55) rfl (i := 0) rfl rfl ?_
      refine g_iload_n ok (dk m_Mo_of 29 rfl) (pc' := 56) rfl (i := 1) rfl rfl ?_
      refine g_iload_n ok (dk m_Mo_of 30 rfl) (pc' := 57) rfl (i := 2) rfl rfl ?_
      refine g_iload_n ok (dk m_Mo_of 31 rfl) (pc' := 58) rfl (i := 3) rfl rfl ?_
      refine g_callV ok (dk m_Mo_of 32 rfl) (pc' := 61) rfl c_Mo_143 (c_Mo_make g kd a b 0 hn hn2 H) H.1 rfl rfl (by simp [Value.category]) (by omega) rfl (rc' := 0) (rs' := 0) (by omega) (by omega) (fun rv h' hcc => ?_) (fun i h' hcc => by obtain ⟨e9, -⟩ := hcc; cases e9)
      obtain ⟨e9, H2⟩ := hcc
      cases e9
      exact g_iret ok (dk m_Mo_of 33 rfl) rfl rfl ⟨rfl, H2⟩
    | succ m ih =>
      intro k hk
      refine g_iload ok (dk m_Mo_of 2 rfl) (pc' := 5) rfl rfl ?_
      refine g_aload_n ok (dk m_Mo_of 3 rfl) (pc' := 6) rfl (i := 0) rfl rfl ?_
      refine g_get ok (dk m_Mo_of 4 rfl) (pc' := 9) rfl f_Mo_158 H.1 rfl ?_
      rw [hn]
      refine g_icmp_ge ok (dk m_Mo_of 5 rfl) (tgt := 54) (by decide) (pc' := 12) rfl (fun c_9 => absurd c_9 (nI_ge (show k < n by omega) (by omega))) (fun c_9 => ?_)
      refine g_aload_n ok (dk m_Mo_of 6 rfl) (pc' := 13) rfl (i := 0) rfl rfl ?_
      refine g_get ok (dk m_Mo_of 7 rfl) (pc' := 16) rfl f_Mo_7 H.1 rfl ?_
      refine g_iload ok (dk m_Mo_of 8 rfl) (pc' := 18) rfl rfl ?_
      refine g_ialdI ok (dk m_Mo_of 9 rfl) (pc' := 19) rfl (j := k) (H.ar 2 rfl) rfl (show k < 2600 by omega) (by decide) ?_
      refine g_iload_n ok (dk m_Mo_of 10 rfl) (pc' := 20) rfl (i := 1) rfl rfl ?_
      refine g_icmp_ne ok (dk m_Mo_of 11 rfl) (tgt := 48) (by decide) (pc' := 23) rfl (fun c_20 => ?_) (fun c_20 => ?_)
      · refine g_iinc ok (dk m_Mo_of 26 rfl) (pc' := 51) rfl rfl (nI_1 k) rfl ?_
        refine g_goto ok (dk m_Mo_of 27 rfl) (pc' := 3) (by decide) ?_
        exact ih (k + 1) (by omega)
      · refine g_aload_n ok (dk m_Mo_of 12 rfl) (pc' := 24) rfl (i := 0) rfl rfl ?_
        refine g_get ok (dk m_Mo_of 13 rfl) (pc' := 27) rfl f_Mo_13 H.1 rfl ?_
        refine g_iload ok (dk m_Mo_of 14 rfl) (pc' := 29) rfl rfl ?_
        refine g_ialdI ok (dk m_Mo_of 15 rfl) (pc' := 30) rfl (j := k) (H.ar 3 rfl) rfl (show k < 2600 by omega) (by decide) ?_
        refine g_iload_n ok (dk m_Mo_of 16 rfl) (pc' := 31) rfl (i := 2) rfl rfl ?_
        refine g_icmp_ne ok (dk m_Mo_of 17 rfl) (tgt := 48) (by decide) (pc' := 34) rfl (fun c_31 => ?_) (fun c_31 => ?_)
        · refine g_iinc ok (dk m_Mo_of 26 rfl) (pc' := 51) rfl rfl (nI_1 k) rfl ?_
          refine g_goto ok (dk m_Mo_of 27 rfl) (pc' := 3) (by decide) ?_
          exact ih (k + 1) (by omega)
        · refine g_aload_n ok (dk m_Mo_of 18 rfl) (pc' := 35) rfl (i := 0) rfl rfl ?_
          refine g_get ok (dk m_Mo_of 19 rfl) (pc' := 38) rfl f_Mo_16 H.1 rfl ?_
          refine g_iload ok (dk m_Mo_of 20 rfl) (pc' := 40) rfl rfl ?_
          refine g_ialdI ok (dk m_Mo_of 21 rfl) (pc' := 41) rfl (j := k) (H.ar 4 rfl) rfl (show k < 2600 by omega) (by decide) ?_
          refine g_iload_n ok (dk m_Mo_of 22 rfl) (pc' := 42) rfl (i := 3) rfl rfl ?_
          refine g_icmp_ne ok (dk m_Mo_of 23 rfl) (tgt := 48) (by decide) (pc' := 45) rfl (fun c_42 => ?_) (fun c_42 => ?_)
          · refine g_iinc ok (dk m_Mo_of 26 rfl) (pc' := 51) rfl rfl (nI_1 k) rfl ?_
            refine g_goto ok (dk m_Mo_of 27 rfl) (pc' := 3) (by decide) ?_
            exact ih (k + 1) (by omega)
          · refine g_iload ok (dk m_Mo_of 24 rfl) (pc' := 47) rfl rfl ?_
            exact absurd ⟨c_20, c_31, c_42⟩ (hno k (by omega))
  refine g_iconst ok (dk m_Mo_of 0 rfl) (pc' := 1) rfl (v := 0) (by decide) ?_
  refine g_istore ok (dk m_Mo_of 1 rfl) (pc' := 3) rfl (Nat.le_of_ble_eq_true rfl) rfl ?_
  exact loop n 0 (by omega)
set_option maxHeartbeats 1000000 in
theorem c_Mo_encrypt (g : q_G) {h : q_H} {o : Nat} {ba : Nat → Nat} {X : x_T} {c e : Nat} (key what node : Int32) (d : Nat) (hc : X.1 7 = nI c) (hc2 : c < 3600) (he : X.1 12 = nI e) (he2 : e < 60) (H : q_mo h o ba X) : MG g y_Mo_encrypt b_Mo_encrypt 4 none d 0 0 [.ref o, .int key, .int what, .int node] h (fun q h' => q = .inl none ∧ q_mo h' o ba (mo_enc X c e key what node)) := by
  refine MG.of (by decide +kernel) (by simp [Value.category]) (Nat.le_of_ble_eq_true rfl) ?_
  intro Z A ok
  refine g_aload_n ok (dk m_Mo_encrypt 0 rfl) (pc' := 1) rfl (i := 0) rfl rfl ?_
  refine g_get ok (dk m_Mo_encrypt 1 rfl) (pc' := 4) rfl f_Mo_26 H.1 rfl ?_
  refine g_aload_n ok (dk m_Mo_encrypt 2 rfl) (pc' := 5) rfl (i := 0) rfl rfl ?_
  refine g_get ok (dk m_Mo_encrypt 3 rfl) (pc' := 8) rfl f_Mo_161 H.1 rfl ?_
  refine g_iload_n ok (dk m_Mo_encrypt 4 rfl) (pc' := 9) rfl (i := 1) rfl rfl ?_
  refine g_iastI ok (dk m_Mo_encrypt 5 rfl) (pc' := 10) rfl (j := c) (H.ar 8 rfl) hc (show c < 3600 by omega) (by decide) (fun z1 e1 => ?_)
  have Y1 := H.ast 8 rfl e1
  clear e1
  refine g_aload_n ok (dk m_Mo_encrypt 6 rfl) (pc' := 11) rfl (i := 0) rfl rfl ?_
  refine g_get ok (dk m_Mo_encrypt 7 rfl) (pc' := 14) rfl f_Mo_29 Y1.1 rfl ?_
  refine g_aload_n ok (dk m_Mo_encrypt 8 rfl) (pc' := 15) rfl (i := 0) rfl rfl ?_
  refine g_get ok (dk m_Mo_encrypt 9 rfl) (pc' := 18) rfl f_Mo_161 Y1.1 rfl ?_
  refine g_iload_n ok (dk m_Mo_encrypt 10 rfl) (pc' := 19) rfl (i := 2) rfl rfl ?_
  refine g_iastI ok (dk m_Mo_encrypt 11 rfl) (pc' := 20) rfl (j := c) (Y1.ar 9 rfl) hc (show c < 3600 by omega) (by decide) (fun z2 e2 => ?_)
  have Y2 := Y1.ast 9 rfl e2
  clear e2
  refine g_aload_n ok (dk m_Mo_encrypt 12 rfl) (pc' := 21) rfl (i := 0) rfl rfl ?_
  refine g_get ok (dk m_Mo_encrypt 13 rfl) (pc' := 24) rfl f_Mo_32 Y2.1 rfl ?_
  refine g_aload_n ok (dk m_Mo_encrypt 14 rfl) (pc' := 25) rfl (i := 0) rfl rfl ?_
  refine g_get ok (dk m_Mo_encrypt 15 rfl) (pc' := 28) rfl f_Mo_161 Y2.1 rfl ?_
  refine g_aload_n ok (dk m_Mo_encrypt 16 rfl) (pc' := 29) rfl (i := 0) rfl rfl ?_
  refine g_get ok (dk m_Mo_encrypt 17 rfl) (pc' := 32) rfl f_Mo_151 Y2.1 rfl ?_
  refine g_top (w := .int (nI e)) (by rw [← he]) ?_
  refine g_iastI ok (dk m_Mo_encrypt 18 rfl) (pc' := 33) rfl (j := c) (Y2.ar 10 rfl) hc (show c < 3600 by omega) (by decide) (fun z3 e3 => ?_)
  have Y3 := Y2.ast 10 rfl e3
  clear e3
  refine g_aload_n ok (dk m_Mo_encrypt 19 rfl) (pc' := 34) rfl (i := 0) rfl rfl ?_
  refine g_get ok (dk m_Mo_encrypt 20 rfl) (pc' := 37) rfl f_Mo_35 Y3.1 rfl ?_
  refine g_aload_n ok (dk m_Mo_encrypt 21 rfl) (pc' := 38) rfl (i := 0) rfl rfl ?_
  refine g_get ok (dk m_Mo_encrypt 22 rfl) (pc' := 41) rfl f_Mo_161 Y3.1 rfl ?_
  refine g_iload_n ok (dk m_Mo_encrypt 23 rfl) (pc' := 42) rfl (i := 3) rfl rfl ?_
  refine g_iastI ok (dk m_Mo_encrypt 24 rfl) (pc' := 43) rfl (j := c) (Y3.ar 11 rfl) hc (show c < 3600 by omega) (by decide) (fun z4 e4 => ?_)
  have Y4 := Y3.ast 11 rfl e4
  clear e4
  refine g_aload_n ok (dk m_Mo_encrypt 25 rfl) (pc' := 44) rfl (i := 0) rfl rfl ?_
  refine g_dup ok (dk m_Mo_encrypt 26 rfl) (pc' := 45) rfl rfl ?_
  refine g_get ok (dk m_Mo_encrypt 27 rfl) (pc' := 48) rfl f_Mo_161 Y4.1 rfl ?_
  refine g_iconst ok (dk m_Mo_encrypt 28 rfl) (pc' := 49) rfl (v := 1) (by decide) ?_
  refine g_iadd ok (dk m_Mo_encrypt 29 rfl) (pc' := 50) rfl ?_
  refine g_top (w := .int (nI (c + 1))) (by show Value.int (X.1 7 + 1) = _; rw [hc, nI_1]) ?_
  refine g_put ok (dk m_Mo_encrypt 30 rfl) (pc' := 53) rfl f_Mo_161 (Or.inl rfl) Y4.1 (Nat.le_of_ble_eq_true rfl) rfl rfl ?_
  refine g_gen (fun z5 e5 => ?_)
  have Y5 := Y4.ipt 7 (by decide) e5
  clear e5
  refine g_aload_n ok (dk m_Mo_encrypt 31 rfl) (pc' := 54) rfl (i := 0) rfl rfl ?_
  refine g_get ok (dk m_Mo_encrypt 32 rfl) (pc' := 57) rfl f_Mo_59 Y5.1 rfl ?_
  refine g_aload_n ok (dk m_Mo_encrypt 33 rfl) (pc' := 58) rfl (i := 0) rfl rfl ?_
  refine g_get ok (dk m_Mo_encrypt 34 rfl) (pc' := 61) rfl f_Mo_151 Y5.1 rfl ?_
  refine g_dup2 ok (dk m_Mo_encrypt 35 rfl) (pc' := 62) rfl rfl rfl ?_
  refine g_ialdI ok (dk m_Mo_encrypt 36 rfl) (pc' := 63) rfl (j := e) (Y5.ar 20 rfl) he (show e < 60 by omega) (by decide) ?_
  refine g_iconst ok (dk m_Mo_encrypt 37 rfl) (pc' := 64) rfl (v := 1) (by decide) ?_
  refine g_iadd ok (dk m_Mo_encrypt 38 rfl) (pc' := 65) rfl ?_
  refine g_iastI ok (dk m_Mo_encrypt 39 rfl) (pc' := 66) rfl (j := e) (Y5.ar 20 rfl) he (show e < 60 by omega) (by decide) (fun z6 e6 => ?_)
  have Y6 := Y5.ast 20 rfl e6
  clear e6
  exact g_vret ok (dk m_Mo_encrypt 40 rfl) rfl ⟨rfl, Y6⟩
set_option maxHeartbeats 1000000 in
theorem c_Mo_above (g : q_G) {h : q_H} (l t : Int32) (d : Nat) : MG g y_Mo_above b_Mo_above 2 (some .int) d 0 0 [.int l, .int t] h (fun q h' => q = .inl (some (.int (j_node l t))) ∧ h' = h) := by
  refine MG.of (by decide +kernel) (by simp [Value.category]) (Nat.le_of_ble_eq_true rfl) ?_
  intro Z A ok
  refine g_iload_n ok (dk m_Mo_above 0 rfl) (pc' := 1) rfl (i := 0) rfl rfl ?_
  refine g_iload_n ok (dk m_Mo_above 1 rfl) (pc' := 2) rfl (i := 1) rfl rfl ?_
  refine g_ishr ok (dk m_Mo_above 2 rfl) (pc' := 3) rfl ?_
  refine g_iload_n ok (dk m_Mo_above 3 rfl) (pc' := 4) rfl (i := 1) rfl rfl ?_
  refine g_iconst ok (dk m_Mo_above 4 rfl) (pc' := 5) rfl (v := 1) (by decide) ?_
  refine g_iadd ok (dk m_Mo_above 5 rfl) (pc' := 6) rfl ?_
  refine g_ishl ok (dk m_Mo_above 6 rfl) (pc' := 7) rfl ?_
  refine g_iconst ok (dk m_Mo_above 7 rfl) (pc' := 8) rfl (v := 1) (by decide) ?_
  refine g_iload_n ok (dk m_Mo_above 8 rfl) (pc' := 9) rfl (i := 1) rfl rfl ?_
  refine g_ishl ok (dk m_Mo_above 9 rfl) (pc' := 10) rfl ?_
  refine g_iadd ok (dk m_Mo_above 10 rfl) (pc' := 11) rfl ?_
  refine g_iconst ok (dk m_Mo_above 11 rfl) (pc' := 12) rfl (v := 1) (by decide) ?_
  refine g_isub ok (dk m_Mo_above 12 rfl) (pc' := 13) rfl ?_
  exact g_iret ok (dk m_Mo_above 13 rfl) rfl rfl ⟨rfl, rfl⟩
set_option maxHeartbeats 1000000 in
theorem c_Mo_height (g : q_G) {h : q_H} {v : Nat} (d : Nat) (hv : v < 31) : MG g y_Mo_height b_Mo_height 2 (some .int) d 0 0 [.int (nI v)] h (fun q h' => q = .inl (some (.int (nI (hgt v)))) ∧ h' = h) := by
  refine MG.of (by decide +kernel) (by simp [Value.category]) (Nat.le_of_ble_eq_true rfl) ?_
  intro Z A ok
  have loop : ∀ (m k : Nat), k + m = hgt v → GW g Z A (fun q h' => q = .inl (some (.int (nI (hgt v)))) ∧ h' = h) 0 0 h 2 [some (.int (nI v)), some (.int (nI k))] [] := by
    intro m
    induction m with
    | zero =>
      intro k hk
      refine g_iload_n ok (dk m_Mo_height 2 rfl) (pc' := 3) rfl (i := 0) rfl rfl ?_
      refine g_iload_n ok (dk m_Mo_height 3 rfl) (pc' := 4) rfl (i := 1) rfl rfl ?_
      refine g_ishr ok (dk m_Mo_height 4 rfl) (pc' := 5) rfl ?_
      refine g_iconst ok (dk m_Mo_height 5 rfl) (pc' := 6) rfl (v := 1) (by decide) ?_
      refine g_iand ok (dk m_Mo_height 6 rfl) (pc' := 7) rfl ?_
      refine g_iconst ok (dk m_Mo_height 7 rfl) (pc' := 8) rfl (v := 1) (by decide) ?_
      refine g_icmp_ne ok (dk m_Mo_height 8 rfl) (tgt := 17) (by decide) (pc' := 11) rfl (fun c_8 => ?_) (fun c_8 => absurd c_8 (by rw [show k = hgt v by omega]; exact hgt_0 v hv))
      refine g_iload_n ok (dk m_Mo_height 11 rfl) (pc' := 18) rfl (i := 1) rfl rfl ?_
      exact g_iret ok (dk m_Mo_height 12 rfl) rfl rfl ⟨by rw [show k = hgt v by omega], rfl⟩
    | succ m ih =>
      intro k hk
      refine g_iload_n ok (dk m_Mo_height 2 rfl) (pc' := 3) rfl (i := 0) rfl rfl ?_
      refine g_iload_n ok (dk m_Mo_height 3 rfl) (pc' := 4) rfl (i := 1) rfl rfl ?_
      refine g_ishr ok (dk m_Mo_height 4 rfl) (pc' := 5) rfl ?_
      refine g_iconst ok (dk m_Mo_height 5 rfl) (pc' := 6) rfl (v := 1) (by decide) ?_
      refine g_iand ok (dk m_Mo_height 6 rfl) (pc' := 7) rfl ?_
      refine g_iconst ok (dk m_Mo_height 7 rfl) (pc' := 8) rfl (v := 1) (by decide) ?_
      refine g_icmp_ne ok (dk m_Mo_height 8 rfl) (tgt := 17) (by decide) (pc' := 11) rfl (fun c_8 => absurd (hgt_1 v hv k (by have := hgt_4 v hv; omega) (by omega)) c_8) (fun c_8 => ?_)
      refine g_iinc ok (dk m_Mo_height 9 rfl) (pc' := 14) rfl rfl (nI_1 k) rfl ?_
      refine g_goto ok (dk m_Mo_height 10 rfl) (pc' := 2) (by decide) ?_
      exact ih (k + 1) (by omega)
  refine g_iconst ok (dk m_Mo_height 0 rfl) (pc' := 1) rfl (v := 0) (by decide) ?_
  refine g_istore_n ok (dk m_Mo_height 1 rfl) (pc' := 2) rfl (i := 1) rfl (Nat.le_of_ble_eq_true rfl) rfl ?_
  exact loop (hgt v) 0 (by omega)
set_option maxHeartbeats 1000000 in
theorem c_Mo_width (g : q_G) {h : q_H} {o : Nat} {ba : Nat → Nat} {X : x_T} {e D : Nat} (d : Nat) (he : e < 60) (hD : X.2 13 e = nI D) (hD4 : D ≤ 4) (H : q_mo h o ba X) : MG g y_Mo_width b_Mo_width 2 (some .int) d 0 0 [.ref o, .int (nI e)] h (fun q h' => q = .inl (some (.int (nI (2 ^ (D + 1) - 1)))) ∧ h' = h) := by
  refine MG.of (by decide +kernel) (by simp [Value.category]) (Nat.le_of_ble_eq_true rfl) ?_
  intro Z A ok
  refine g_iconst ok (dk m_Mo_width 0 rfl) (pc' := 1) rfl (v := 2) (by decide) ?_
  refine g_aload_n ok (dk m_Mo_width 1 rfl) (pc' := 2) rfl (i := 0) rfl rfl ?_
  refine g_get ok (dk m_Mo_width 2 rfl) (pc' := 5) rfl f_Mo_38 H.1 rfl ?_
  refine g_iload_n ok (dk m_Mo_width 3 rfl) (pc' := 6) rfl (i := 1) rfl rfl ?_
  refine g_ialdI ok (dk m_Mo_width 4 rfl) (pc' := 7) rfl (j := e) (H.ar 13 rfl) rfl (show e < 60 by omega) (by decide) ?_
  rw [hD]
  refine g_ishl ok (dk m_Mo_width 5 rfl) (pc' := 8) rfl ?_
  refine g_iconst ok (dk m_Mo_width 6 rfl) (pc' := 9) rfl (v := 1) (by decide) ?_
  refine g_isub ok (dk m_Mo_width 7 rfl) (pc' := 10) rfl ?_
  exact g_iret ok (dk m_Mo_width 8 rfl) rfl rfl ⟨by rw [j_wid D hD4], rfl⟩
set_option maxHeartbeats 1000000 in
theorem c_Mo_blank (g : q_G) {h : q_H} {o : Nat} {ba : Nat → Nat} {X : x_T} {e v : Nat} (d : Nat) (he : e < 60) (hv : v < 31) (H : q_mo h o ba X) : MG g y_Mo_blank b_Mo_blank 3 none d 0 0 [.ref o, .int (nI e), .int (nI v)] h (fun q h' => q = .inl none ∧ q_mo h' o ba (mo_bl X e v)) := by
  refine MG.of (by decide +kernel) (by simp [Value.category]) (Nat.le_of_ble_eq_true rfl) ?_
  intro Z A ok
  refine g_aload_n ok (dk m_Mo_blank 0 rfl) (pc' := 1) rfl (i := 0) rfl rfl ?_
  refine g_get ok (dk m_Mo_blank 1 rfl) (pc' := 4) rfl f_Mo_65 H.1 rfl ?_
  refine g_bipush ok (dk m_Mo_blank 2 rfl) (pc' := 6) rfl (v := 31) (by decide) ?_
  refine g_iload_n ok (dk m_Mo_blank 3 rfl) (pc' := 7) rfl (i := 1) rfl rfl ?_
  refine g_imul ok (dk m_Mo_blank 4 rfl) (pc' := 8) rfl ?_
  refine g_iload_n ok (dk m_Mo_blank 5 rfl) (pc' := 9) rfl (i := 2) rfl rfl ?_
  refine g_iadd ok (dk m_Mo_blank 6 rfl) (pc' := 10) rfl ?_
  refine g_iconst ok (dk m_Mo_blank 7 rfl) (pc' := 11) rfl (v := (-1)) (by decide) ?_
  refine g_iastI ok (dk m_Mo_blank 8 rfl) (pc' := 12) rfl (j := 31 * e + v) (H.ar 22 rfl) (ix31 e v) (show 31 * e + v < 1860 by omega) (by decide) (fun z1 e1 => ?_)
  have Y1 := H.ast 22 rfl e1
  clear e1
  refine g_aload_n ok (dk m_Mo_blank 9 rfl) (pc' := 13) rfl (i := 0) rfl rfl ?_
  refine g_get ok (dk m_Mo_blank 10 rfl) (pc' := 16) rfl f_Mo_68 Y1.1 rfl ?_
  refine g_bipush ok (dk m_Mo_blank 11 rfl) (pc' := 18) rfl (v := 31) (by decide) ?_
  refine g_iload_n ok (dk m_Mo_blank 12 rfl) (pc' := 19) rfl (i := 1) rfl rfl ?_
  refine g_imul ok (dk m_Mo_blank 13 rfl) (pc' := 20) rfl ?_
  refine g_iload_n ok (dk m_Mo_blank 14 rfl) (pc' := 21) rfl (i := 2) rfl rfl ?_
  refine g_iadd ok (dk m_Mo_blank 15 rfl) (pc' := 22) rfl ?_
  refine g_iconst ok (dk m_Mo_blank 16 rfl) (pc' := 23) rfl (v := 0) (by decide) ?_
  refine g_iastI ok (dk m_Mo_blank 17 rfl) (pc' := 24) rfl (j := 31 * e + v) (Y1.ar 23 rfl) (ix31 e v) (show 31 * e + v < 1860 by omega) (by decide) (fun z2 e2 => ?_)
  have Y2 := Y1.ast 23 rfl e2
  clear e2
  exact g_vret ok (dk m_Mo_blank 18 rfl) rfl ⟨rfl, Y2⟩
set_option maxHeartbeats 1000000 in
theorem c_Mo_set (g : q_G) {h : q_H} {o : Nat} {ba : Nat → Nat} {X : x_T} {e v : Nat} (key : Int32) (d : Nat) (he : e < 60) (hv : v < 31) (H : q_mo h o ba X) : MG g y_Mo_set b_Mo_set 4 none d 0 0 [.ref o, .int (nI e), .int (nI v), .int key] h (fun q h' => q = .inl none ∧ q_mo h' o ba (mo_set X e v key)) := by
  refine MG.of (by decide +kernel) (by simp [Value.category]) (Nat.le_of_ble_eq_true rfl) ?_
  intro Z A ok
  refine g_aload_n ok (dk m_Mo_set 0 rfl) (pc' := 1) rfl (i := 0) rfl rfl ?_
  refine g_get ok (dk m_Mo_set 1 rfl) (pc' := 4) rfl f_Mo_65 H.1 rfl ?_
  refine g_bipush ok (dk m_Mo_set 2 rfl) (pc' := 6) rfl (v := 31) (by decide) ?_
  refine g_iload_n ok (dk m_Mo_set 3 rfl) (pc' := 7) rfl (i := 1) rfl rfl ?_
  refine g_imul ok (dk m_Mo_set 4 rfl) (pc' := 8) rfl ?_
  refine g_iload_n ok (dk m_Mo_set 5 rfl) (pc' := 9) rfl (i := 2) rfl rfl ?_
  refine g_iadd ok (dk m_Mo_set 6 rfl) (pc' := 10) rfl ?_
  refine g_iload_n ok (dk m_Mo_set 7 rfl) (pc' := 11) rfl (i := 3) rfl rfl ?_
  refine g_iastI ok (dk m_Mo_set 8 rfl) (pc' := 12) rfl (j := 31 * e + v) (H.ar 22 rfl) (ix31 e v) (show 31 * e + v < 1860 by omega) (by decide) (fun z1 e1 => ?_)
  have Y1 := H.ast 22 rfl e1
  clear e1
  refine g_aload_n ok (dk m_Mo_set 9 rfl) (pc' := 13) rfl (i := 0) rfl rfl ?_
  refine g_get ok (dk m_Mo_set 10 rfl) (pc' := 16) rfl f_Mo_68 Y1.1 rfl ?_
  refine g_bipush ok (dk m_Mo_set 11 rfl) (pc' := 18) rfl (v := 31) (by decide) ?_
  refine g_iload_n ok (dk m_Mo_set 12 rfl) (pc' := 19) rfl (i := 1) rfl rfl ?_
  refine g_imul ok (dk m_Mo_set 13 rfl) (pc' := 20) rfl ?_
  refine g_iload_n ok (dk m_Mo_set 14 rfl) (pc' := 21) rfl (i := 2) rfl rfl ?_
  refine g_iadd ok (dk m_Mo_set 15 rfl) (pc' := 22) rfl ?_
  refine g_iconst ok (dk m_Mo_set 16 rfl) (pc' := 23) rfl (v := 0) (by decide) ?_
  refine g_iastI ok (dk m_Mo_set 17 rfl) (pc' := 24) rfl (j := 31 * e + v) (Y1.ar 23 rfl) (ix31 e v) (show 31 * e + v < 1860 by omega) (by decide) (fun z2 e2 => ?_)
  have Y2 := Y1.ast 23 rfl e2
  clear e2
  refine g_aload_n ok (dk m_Mo_set 18 rfl) (pc' := 25) rfl (i := 0) rfl rfl ?_
  refine g_get ok (dk m_Mo_set 19 rfl) (pc' := 28) rfl f_Mo_71 Y2.1 rfl ?_
  refine g_bipush ok (dk m_Mo_set 20 rfl) (pc' := 30) rfl (v := 31) (by decide) ?_
  refine g_iload_n ok (dk m_Mo_set 21 rfl) (pc' := 31) rfl (i := 1) rfl rfl ?_
  refine g_imul ok (dk m_Mo_set 22 rfl) (pc' := 32) rfl ?_
  refine g_iload_n ok (dk m_Mo_set 23 rfl) (pc' := 33) rfl (i := 2) rfl rfl ?_
  refine g_iadd ok (dk m_Mo_set 24 rfl) (pc' := 34) rfl ?_
  refine g_iload_n ok (dk m_Mo_set 25 rfl) (pc' := 35) rfl (i := 1) rfl rfl ?_
  refine g_iastI ok (dk m_Mo_set 26 rfl) (pc' := 36) rfl (j := 31 * e + v) (Y2.ar 24 rfl) (ix31 e v) (show 31 * e + v < 1860 by omega) (by decide) (fun z3 e3 => ?_)
  have Y3 := Y2.ast 24 rfl e3
  clear e3
  exact g_vret ok (dk m_Mo_set 27 rfl) rfl ⟨rfl, Y3⟩
set_option maxHeartbeats 1000000 in
theorem c_Mo_blankPath (g : q_G) {h : q_H} {o : Nat} {ba : Nat → Nat} {X : x_T} {e l D : Nat} (d : Nat) (hd : 1 ≤ d) (he : e < 60) (hl : l < 16) (hD : X.2 13 e = nI D) (hD4 : D ≤ 4) (H : q_mo h o ba X) : MG g y_Mo_blankPath b_Mo_blankPath 4 none d 0 0 [.ref o, .int (nI e), .int (nI l)] h (fun q h' => q = .inl none ∧ q_mo h' o ba (mo_bp e l D 1 X)) := by
  refine MG.of (by decide +kernel) (by simp [Value.category]) (Nat.le_of_ble_eq_true rfl) ?_
  intro Z A ok
  have loop : ∀ (m k : Nat), k + m = D + 1 → ∀ (h1 : q_H) (X1 : x_T), q_mo h1 o ba X1 → X1.2 13 e = nI D → mo_bp e l m k X1 = mo_bp e l D 1 X → GW g Z A (fun q h' => q = .inl none ∧ q_mo h' o ba (mo_bp e l D 1 X)) 0 0 h1 2 [some (.ref o), some (.int (nI e)), some (.int (nI l)), some (.int (nI k))] [] := by
    intro m
    induction m with
    | zero =>
      intro k hk h1 X1 H1 hD hv
      refine g_iload_n ok (dk m_Mo_blankPath 2 rfl) (pc' := 3) rfl (i := 3) rfl rfl ?_
      refine g_aload_n ok (dk m_Mo_blankPath 3 rfl) (pc' := 4) rfl (i := 0) rfl rfl ?_
      refine g_get ok (dk m_Mo_blankPath 4 rfl) (pc' := 7) rfl f_Mo_38 H1.1 rfl ?_
      refine g_iload_n ok (dk m_Mo_blankPath 5 rfl) (pc' := 8) rfl (i := 1) rfl rfl ?_
      refine g_ialdI ok (dk m_Mo_blankPath 6 rfl) (pc' := 9) rfl (j := e) (H1.ar 13 rfl) rfl (show e < 60 by omega) (by decide) ?_
      rw [hD]
      refine g_icmp_gt ok (dk m_Mo_blankPath 7 rfl) (tgt := 28) (by decide) (pc' := 12) rfl (fun c_9 => ?_) (fun c_9 => absurd (nI_lt (a := D) (b := k) (by omega) (by omega)) c_9)
      exact g_vret ok (dk m_Mo_blankPath 16 rfl) rfl ⟨rfl, by rw [← hv]; exact H1⟩
    | succ m ih =>
      intro k hk h1 X1 H1 hD hv
      refine g_iload_n ok (dk m_Mo_blankPath 2 rfl) (pc' := 3) rfl (i := 3) rfl rfl ?_
      refine g_aload_n ok (dk m_Mo_blankPath 3 rfl) (pc' := 4) rfl (i := 0) rfl rfl ?_
      refine g_get ok (dk m_Mo_blankPath 4 rfl) (pc' := 7) rfl f_Mo_38 H1.1 rfl ?_
      refine g_iload_n ok (dk m_Mo_blankPath 5 rfl) (pc' := 8) rfl (i := 1) rfl rfl ?_
      refine g_ialdI ok (dk m_Mo_blankPath 6 rfl) (pc' := 9) rfl (j := e) (H1.ar 13 rfl) rfl (show e < 60 by omega) (by decide) ?_
      rw [hD]
      refine g_icmp_gt ok (dk m_Mo_blankPath 7 rfl) (tgt := 28) (by decide) (pc' := 12) rfl (fun c_9 => absurd c_9 (nI_nlt (a := D) (b := k) (by omega) (by omega))) (fun c_9 => ?_)
      refine g_aload_n ok (dk m_Mo_blankPath 8 rfl) (pc' := 13) rfl (i := 0) rfl rfl ?_
      refine g_iload_n ok (dk m_Mo_blankPath 9 rfl) (pc' := 14) rfl (i := 1) rfl rfl ?_
      refine g_iload_n ok (dk m_Mo_blankPath 10 rfl) (pc' := 15) rfl (i := 2) rfl rfl ?_
      refine g_iload_n ok (dk m_Mo_blankPath 11 rfl) (pc' := 16) rfl (i := 3) rfl rfl ?_
      refine g_callS ok (dk m_Mo_blankPath 12 rfl) (pc' := 19) rfl c_Mo_168 (c_Mo_above g (nI l) (nI k) 0) rfl rfl (by simp [Value.category]) (by omega) rfl (rc' := 0) (rs' := 0) (by omega) (by omega) (fun rv h' hcc => ?_) (fun i h' hcc => by obtain ⟨e9, -⟩ := hcc; cases e9)
      obtain ⟨e9, e2⟩ := hcc
      have e3 := e2.symm
      subst e3
      cases e9
      rw [(abv_ok l hl k (by omega)).1]
      refine g_callV ok (dk m_Mo_blankPath 13 rfl) (pc' := 22) rfl c_Mo_172 (c_Mo_blank g (v := abv l k) 0 he (abv_ok l hl k (by omega)).2 H1) H1.1 rfl rfl (by simp [Value.category]) (by omega) rfl (rc' := 0) (rs' := 0) (by omega) (by omega) (fun rv h' hcc => ?_) (fun i h' hcc => by obtain ⟨e9, -⟩ := hcc; cases e9)
      obtain ⟨e9, Y1⟩ := hcc
      cases e9
      refine g_iinc ok (dk m_Mo_blankPath 14 rfl) (pc' := 25) rfl rfl (nI_1 k) rfl ?_
      refine g_goto ok (dk m_Mo_blankPath 15 rfl) (pc' := 2) (by decide) ?_
      exact ih (k + 1) (by omega) _ _ Y1 hD hv
  refine g_iconst ok (dk m_Mo_blankPath 0 rfl) (pc' := 1) rfl (v := 1) (by decide) ?_
  refine g_istore_n ok (dk m_Mo_blankPath 1 rfl) (pc' := 2) rfl (i := 3) rfl (Nat.le_of_ble_eq_true rfl) rfl ?_
  exact loop D 1 (by omega) _ _ H hD rfl
set_option maxHeartbeats 1000000 in
theorem c_Mo_isRightBlank (g : q_G) {h : q_H} {o : Nat} {ba : Nat → Nat} {X : x_T} {e D : Nat} (d : Nat) (he : e < 60) (hD : X.2 13 e = nI D) (hD1 : 1 ≤ D) (hD4 : D ≤ 4) (H : q_mo h o ba X) : MG g y_Mo_isRightBlank b_Mo_isRightBlank 4 (some .boolean) d 0 0 [.ref o, .int (nI e)] h (fun q h' => q = .inl (some (.int (b2i (∀ l, 2 ^ (D - 1) ≤ l → l < 2 ^ D → X.2 22 (31 * e + 2 * l) = -1)))) ∧ h' = h) := by
  refine MG.of (by decide +kernel) (by simp [Value.category]) (Nat.le_of_ble_eq_true rfl) ?_
  intro Z A ok
  have hp := p2_le hD4
  have hp2 := p2_s hD1
  have loop : ∀ (m k : Nat), k + m = 2 ^ D → 2 ^ (D - 1) ≤ k → (∀ l, 2 ^ (D - 1) ≤ l → l < k → X.2 22 (31 * e + 2 * l) = -1) → GW g Z A (fun q h' => q = .inl (some (.int (b2i (∀ l, 2 ^ (D - 1) ≤ l → l < 2 ^ D → X.2 22 (31 * e + 2 * l) = -1)))) ∧ h' = h) 0 0 h 13 [some (.ref o), some (.int (nI e)), some (.int (nI (2 ^ (D - 1)))), some (.int (nI k))] [] := by
    intro m
    induction m with
    | zero =>
      intro k hk hk1 hb
      refine g_iload_n ok (dk m_Mo_isRightBlank 11 rfl) (pc' := 14) rfl (i := 3) rfl rfl ?_
      refine g_iconst ok (dk m_Mo_isRightBlank 12 rfl) (pc' := 15) rfl (v := 2) (by decide) ?_
      refine g_iload_n ok (dk m_Mo_isRightBlank 13 rfl) (pc' := 16) rfl (i := 2) rfl rfl ?_
      refine g_imul ok (dk m_Mo_isRightBlank 14 rfl) (pc' := 17) rfl ?_
      refine g_top (w := .int (nI (2 ^ D))) (by rw [ix2, p2_s hD1]) ?_
      refine g_icmp_ge ok (dk m_Mo_isRightBlank 15 rfl) (tgt := 45) (by decide) (pc' := 20) rfl (fun c_17 => ?_) (fun c_17 => absurd (nI_le (a := 2 ^ D) (b := k) (by omega) (by omega)) c_17)
      refine g_iconst ok (dk m_Mo_isRightBlank 32 rfl) (pc' := 46) rfl (v := 1) (by decide) ?_
      exact g_iret ok (dk m_Mo_isRightBlank 33 rfl) rfl rfl ⟨by rw [b2i_t (p := ∀ l, 2 ^ (D - 1) ≤ l → l < 2 ^ D → X.2 22 (31 * e + 2 * l) = -1) (fun l h1 h2 => hb l h1 (by omega))], rfl⟩
    | succ m ih =>
      intro k hk hk1 hb
      refine g_iload_n ok (dk m_Mo_isRightBlank 11 rfl) (pc' := 14) rfl (i := 3) rfl rfl ?_
      refine g_iconst ok (dk m_Mo_isRightBlank 12 rfl) (pc' := 15) rfl (v := 2) (by decide) ?_
      refine g_iload_n ok (dk m_Mo_isRightBlank 13 rfl) (pc' := 16) rfl (i := 2) rfl rfl ?_
      refine g_imul ok (dk m_Mo_isRightBlank 14 rfl) (pc' := 17) rfl ?_
      refine g_top (w := .int (nI (2 ^ D))) (by rw [ix2, p2_s hD1]) ?_
      refine g_icmp_ge ok (dk m_Mo_isRightBlank 15 rfl) (tgt := 45) (by decide) (pc' := 20) rfl (fun c_17 => absurd c_17 (nI_ge (a := k) (b := 2 ^ D) (by omega) (by omega))) (fun c_17 => ?_)
      refine g_aload_n ok (dk m_Mo_isRightBlank 16 rfl) (pc' := 21) rfl (i := 0) rfl rfl ?_
      refine g_get ok (dk m_Mo_isRightBlank 17 rfl) (pc' := 24) rfl f_Mo_65 H.1 rfl ?_
      refine g_bipush ok (dk m_Mo_isRightBlank 18 rfl) (pc' := 26) rfl (v := 31) (by decide) ?_
      refine g_iload_n ok (dk m_Mo_isRightBlank 19 rfl) (pc' := 27) rfl (i := 1) rfl rfl ?_
      refine g_imul ok (dk m_Mo_isRightBlank 20 rfl) (pc' := 28) rfl ?_
      refine g_iconst ok (dk m_Mo_isRightBlank 21 rfl) (pc' := 29) rfl (v := 2) (by decide) ?_
      refine g_iload_n ok (dk m_Mo_isRightBlank 22 rfl) (pc' := 30) rfl (i := 3) rfl rfl ?_
      refine g_imul ok (dk m_Mo_isRightBlank 23 rfl) (pc' := 31) rfl ?_
      refine g_iadd ok (dk m_Mo_isRightBlank 24 rfl) (pc' := 32) rfl ?_
      refine g_ialdI ok (dk m_Mo_isRightBlank 25 rfl) (pc' := 33) rfl (j := 31 * e + 2 * k) (H.ar 22 rfl) (by rw [ix2, ix31]) (show 31 * e + 2 * k < 1860 by omega) (by decide) ?_
      refine g_iconst ok (dk m_Mo_isRightBlank 26 rfl) (pc' := 34) rfl (v := (-1)) (by decide) ?_
      refine g_icmp_eq ok (dk m_Mo_isRightBlank 27 rfl) (tgt := 39) (by decide) (pc' := 37) rfl (fun c_34 => ?_) (fun c_34 => ?_)
      · refine g_iinc ok (dk m_Mo_isRightBlank 30 rfl) (pc' := 42) rfl rfl (nI_1 k) rfl ?_
        refine g_goto ok (dk m_Mo_isRightBlank 31 rfl) (pc' := 13) (by decide) ?_
        exact ih (k + 1) (by omega) (by omega) (fun l h1 h2 => by
          by_cases z : l = k
          · rw [z]
            exact c_34
          · exact hb l h1 (by omega))
      · refine g_iconst ok (dk m_Mo_isRightBlank 28 rfl) (pc' := 38) rfl (v := 0) (by decide) ?_
        exact g_iret ok (dk m_Mo_isRightBlank 29 rfl) rfl rfl ⟨by rw [b2i_f (p := ∀ l, 2 ^ (D - 1) ≤ l → l < 2 ^ D → X.2 22 (31 * e + 2 * l) = -1) (fun z => c_34 (z k hk1 (by omega)))], rfl⟩
  refine g_iconst ok (dk m_Mo_isRightBlank 0 rfl) (pc' := 1) rfl (v := 1) (by decide) ?_
  refine g_aload_n ok (dk m_Mo_isRightBlank 1 rfl) (pc' := 2) rfl (i := 0) rfl rfl ?_
  refine g_get ok (dk m_Mo_isRightBlank 2 rfl) (pc' := 5) rfl f_Mo_38 H.1 rfl ?_
  refine g_iload_n ok (dk m_Mo_isRightBlank 3 rfl) (pc' := 6) rfl (i := 1) rfl rfl ?_
  refine g_ialdI ok (dk m_Mo_isRightBlank 4 rfl) (pc' := 7) rfl (j := e) (H.ar 13 rfl) rfl (show e < 60 by omega) (by decide) ?_
  rw [hD]
  refine g_iconst ok (dk m_Mo_isRightBlank 5 rfl) (pc' := 8) rfl (v := 1) (by decide) ?_
  refine g_isub ok (dk m_Mo_isRightBlank 6 rfl) (pc' := 9) rfl ?_
  refine g_ishl ok (dk m_Mo_isRightBlank 7 rfl) (pc' := 10) rfl ?_
  rw [j_shl1 D hD4 hD1]
  refine g_istore_n ok (dk m_Mo_isRightBlank 8 rfl) (pc' := 11) rfl (i := 2) rfl (Nat.le_of_ble_eq_true rfl) rfl ?_
  refine g_iload_n ok (dk m_Mo_isRightBlank 9 rfl) (pc' := 12) rfl (i := 2) rfl rfl ?_
  refine g_istore_n ok (dk m_Mo_isRightBlank 10 rfl) (pc' := 13) rfl (i := 3) rfl (Nat.le_of_ble_eq_true rfl) rfl ?_
  exact loop (2 ^ D - 2 ^ (D - 1)) (2 ^ (D - 1)) (by omega) (Nat.le_refl _) (fun l h1 h2 => by omega)
set_option maxHeartbeats 1000000 in
theorem c_Mo_leafOf (g : q_G) {h : q_H} {o : Nat} {ba : Nat → Nat} {X : x_T} {e D : Nat} (mm : Int32) (d : Nat) (he : e < 60) (hD : X.2 13 e = nI D) (hD4 : D ≤ 4) (H : q_mo h o ba X) : MG g y_Mo_leafOf b_Mo_leafOf 4 (some .int) d 0 0 [.ref o, .int (nI e), .int mm] h (fun q h' => q = .inl (some (.int (mo_lo (fun l => X.2 26 (16 * e + l)) mm (2 ^ D) 0))) ∧ h' = h) := by
  refine MG.of (by decide +kernel) (by simp [Value.category]) (Nat.le_of_ble_eq_true rfl) ?_
  intro Z A ok
  have hp := p2_le hD4
  have loop : ∀ (m k : Nat), k + m = 2 ^ D → mo_lo (fun l => X.2 26 (16 * e + l)) mm m k = mo_lo (fun l => X.2 26 (16 * e + l)) mm (2 ^ D) 0 → GW g Z A (fun q h' => q = .inl (some (.int (mo_lo (fun l => X.2 26 (16 * e + l)) mm (2 ^ D) 0))) ∧ h' = h) 0 0 h 2 [some (.ref o), some (.int (nI e)), some (.int mm), some (.int (nI k))] [] := by
    intro m
    induction m with
    | zero =>
      intro k hk hv
      refine g_iload_n ok (dk m_Mo_leafOf 2 rfl) (pc' := 3) rfl (i := 3) rfl rfl ?_
      refine g_iconst ok (dk m_Mo_leafOf 3 rfl) (pc' := 4) rfl (v := 1) (by decide) ?_
      refine g_aload_n ok (dk m_Mo_leafOf 4 rfl) (pc' := 5) rfl (i := 0) rfl rfl ?_
      refine g_get ok (dk m_Mo_leafOf 5 rfl) (pc' := 8) rfl f_Mo_38 H.1 rfl ?_
      refine g_iload_n ok (dk m_Mo_leafOf 6 rfl) (pc' := 9) rfl (i := 1) rfl rfl ?_
      refine g_ialdI ok (dk m_Mo_leafOf 7 rfl) (pc' := 10) rfl (j := e) (H.ar 13 rfl) rfl (show e < 60 by omega) (by decide) ?_
      rw [hD]
      refine g_ishl ok (dk m_Mo_leafOf 8 rfl) (pc' := 11) rfl ?_
      rw [j_shl D hD4]
      refine g_icmp_ge ok (dk m_Mo_leafOf 9 rfl) (tgt := 37) (by decide) (pc' := 14) rfl (fun c_11 => ?_) (fun c_11 => absurd (nI_le (a := 2 ^ D) (b := k) (by omega) (by omega)) c_11)
      refine g_iconst ok (dk m_Mo_leafOf 24 rfl) (pc' := 38) rfl (v := (-1)) (by decide) ?_
      exact g_iret ok (dk m_Mo_leafOf 25 rfl) rfl rfl ⟨by rw [← hv]; rfl, rfl⟩
    | succ m ih =>
      intro k hk hv
      refine g_iload_n ok (dk m_Mo_leafOf 2 rfl) (pc' := 3) rfl (i := 3) rfl rfl ?_
      refine g_iconst ok (dk m_Mo_leafOf 3 rfl) (pc' := 4) rfl (v := 1) (by decide) ?_
      refine g_aload_n ok (dk m_Mo_leafOf 4 rfl) (pc' := 5) rfl (i := 0) rfl rfl ?_
      refine g_get ok (dk m_Mo_leafOf 5 rfl) (pc' := 8) rfl f_Mo_38 H.1 rfl ?_
      refine g_iload_n ok (dk m_Mo_leafOf 6 rfl) (pc' := 9) rfl (i := 1) rfl rfl ?_
      refine g_ialdI ok (dk m_Mo_leafOf 7 rfl) (pc' := 10) rfl (j := e) (H.ar 13 rfl) rfl (show e < 60 by omega) (by decide) ?_
      rw [hD]
      refine g_ishl ok (dk m_Mo_leafOf 8 rfl) (pc' := 11) rfl ?_
      rw [j_shl D hD4]
      refine g_icmp_ge ok (dk m_Mo_leafOf 9 rfl) (tgt := 37) (by decide) (pc' := 14) rfl (fun c_11 => absurd c_11 (nI_ge (a := k) (b := 2 ^ D) (by omega) (by omega))) (fun c_11 => ?_)
      refine g_aload_n ok (dk m_Mo_leafOf 10 rfl) (pc' := 15) rfl (i := 0) rfl rfl ?_
      refine g_get ok (dk m_Mo_leafOf 11 rfl) (pc' := 18) rfl f_Mo_77 H.1 rfl ?_
      refine g_bipush ok (dk m_Mo_leafOf 12 rfl) (pc' := 20) rfl (v := 16) (by decide) ?_
      refine g_iload_n ok (dk m_Mo_leafOf 13 rfl) (pc' := 21) rfl (i := 1) rfl rfl ?_
      refine g_imul ok (dk m_Mo_leafOf 14 rfl) (pc' := 22) rfl ?_
      refine g_iload_n ok (dk m_Mo_leafOf 15 rfl) (pc' := 23) rfl (i := 3) rfl rfl ?_
      refine g_iadd ok (dk m_Mo_leafOf 16 rfl) (pc' := 24) rfl ?_
      refine g_ialdI ok (dk m_Mo_leafOf 17 rfl) (pc' := 25) rfl (j := 16 * e + k) (H.ar 26 rfl) (ix16 e k) (show 16 * e + k < 960 by omega) (by decide) ?_
      refine g_iload_n ok (dk m_Mo_leafOf 18 rfl) (pc' := 26) rfl (i := 2) rfl rfl ?_
      refine g_icmp_ne ok (dk m_Mo_leafOf 19 rfl) (tgt := 31) (by decide) (pc' := 29) rfl (fun c_26 => ?_) (fun c_26 => ?_)
      · refine g_iinc ok (dk m_Mo_leafOf 22 rfl) (pc' := 34) rfl rfl (nI_1 k) rfl ?_
        refine g_goto ok (dk m_Mo_leafOf 23 rfl) (pc' := 2) (by decide) ?_
        exact ih (k + 1) (by omega) (by rw [← hv, mo_lo, if_neg c_26])
      · refine g_iload_n ok (dk m_Mo_leafOf 20 rfl) (pc' := 30) rfl (i := 3) rfl rfl ?_
        exact g_iret ok (dk m_Mo_leafOf 21 rfl) rfl rfl ⟨by rw [← hv, mo_lo, if_pos c_26], rfl⟩
  refine g_iconst ok (dk m_Mo_leafOf 0 rfl) (pc' := 1) rfl (v := 0) (by decide) ?_
  refine g_istore_n ok (dk m_Mo_leafOf 1 rfl) (pc' := 2) rfl (i := 3) rfl (Nat.le_of_ble_eq_true rfl) rfl ?_
  exact loop (2 ^ D) 0 (by omega) rfl
set_option maxHeartbeats 1000000 in
theorem c_Mo_freeLeaf (g : q_G) {h : q_H} {o : Nat} {ba : Nat → Nat} {X : x_T} {e D : Nat} (d : Nat) (he : e < 60) (hD : X.2 13 e = nI D) (hD4 : D ≤ 4) (H : q_mo h o ba X) : MG g y_Mo_freeLeaf b_Mo_freeLeaf 3 (some .int) d 0 0 [.ref o, .int (nI e)] h (fun q h' => q = .inl (some (.int (nI (mo_fr (fun l => X.2 22 (31 * e + 2 * l)) (2 ^ D) 0)))) ∧ h' = h) := by
  refine MG.of (by decide +kernel) (by simp [Value.category]) (Nat.le_of_ble_eq_true rfl) ?_
  intro Z A ok
  have hp := p2_le hD4
  have loop : ∀ (m k : Nat), k + m = 2 ^ D → mo_fr (fun l => X.2 22 (31 * e + 2 * l)) m k = mo_fr (fun l => X.2 22 (31 * e + 2 * l)) (2 ^ D) 0 → GW g Z A (fun q h' => q = .inl (some (.int (nI (mo_fr (fun l => X.2 22 (31 * e + 2 * l)) (2 ^ D) 0)))) ∧ h' = h) 0 0 h 2 [some (.ref o), some (.int (nI e)), some (.int (nI k))] [] := by
    intro m
    induction m with
    | zero =>
      intro k hk hv
      refine g_iload_n ok (dk m_Mo_freeLeaf 2 rfl) (pc' := 3) rfl (i := 2) rfl rfl ?_
      refine g_iconst ok (dk m_Mo_freeLeaf 3 rfl) (pc' := 4) rfl (v := 1) (by decide) ?_
      refine g_aload_n ok (dk m_Mo_freeLeaf 4 rfl) (pc' := 5) rfl (i := 0) rfl rfl ?_
      refine g_get ok (dk m_Mo_freeLeaf 5 rfl) (pc' := 8) rfl f_Mo_38 H.1 rfl ?_
      refine g_iload_n ok (dk m_Mo_freeLeaf 6 rfl) (pc' := 9) rfl (i := 1) rfl rfl ?_
      refine g_ialdI ok (dk m_Mo_freeLeaf 7 rfl) (pc' := 10) rfl (j := e) (H.ar 13 rfl) rfl (show e < 60 by omega) (by decide) ?_
      rw [hD]
      refine g_ishl ok (dk m_Mo_freeLeaf 8 rfl) (pc' := 11) rfl ?_
      rw [j_shl D hD4]
      refine g_icmp_ge ok (dk m_Mo_freeLeaf 9 rfl) (tgt := 37) (by decide) (pc' := 14) rfl (fun c_11 => ?_) (fun c_11 => absurd (nI_le (a := 2 ^ D) (b := k) (by omega) (by omega)) c_11)
      refine g_iload_n ok (dk m_Mo_freeLeaf 24 rfl) (pc' := 38) rfl (i := 2) rfl rfl ?_
      exact g_iret ok (dk m_Mo_freeLeaf 25 rfl) rfl rfl ⟨by rw [← hv]; rfl, rfl⟩
    | succ m ih =>
      intro k hk hv
      refine g_iload_n ok (dk m_Mo_freeLeaf 2 rfl) (pc' := 3) rfl (i := 2) rfl rfl ?_
      refine g_iconst ok (dk m_Mo_freeLeaf 3 rfl) (pc' := 4) rfl (v := 1) (by decide) ?_
      refine g_aload_n ok (dk m_Mo_freeLeaf 4 rfl) (pc' := 5) rfl (i := 0) rfl rfl ?_
      refine g_get ok (dk m_Mo_freeLeaf 5 rfl) (pc' := 8) rfl f_Mo_38 H.1 rfl ?_
      refine g_iload_n ok (dk m_Mo_freeLeaf 6 rfl) (pc' := 9) rfl (i := 1) rfl rfl ?_
      refine g_ialdI ok (dk m_Mo_freeLeaf 7 rfl) (pc' := 10) rfl (j := e) (H.ar 13 rfl) rfl (show e < 60 by omega) (by decide) ?_
      rw [hD]
      refine g_ishl ok (dk m_Mo_freeLeaf 8 rfl) (pc' := 11) rfl ?_
      rw [j_shl D hD4]
      refine g_icmp_ge ok (dk m_Mo_freeLeaf 9 rfl) (tgt := 37) (by decide) (pc' := 14) rfl (fun c_11 => absurd c_11 (nI_ge (a := k) (b := 2 ^ D) (by omega) (by omega))) (fun c_11 => ?_)
      refine g_aload_n ok (dk m_Mo_freeLeaf 10 rfl) (pc' := 15) rfl (i := 0) rfl rfl ?_
      refine g_get ok (dk m_Mo_freeLeaf 11 rfl) (pc' := 18) rfl f_Mo_65 H.1 rfl ?_
      refine g_bipush ok (dk m_Mo_freeLeaf 12 rfl) (pc' := 20) rfl (v := 31) (by decide) ?_
      refine g_iload_n ok (dk m_Mo_freeLeaf 13 rfl) (pc' := 21) rfl (i := 1) rfl rfl ?_
      refine g_imul ok (dk m_Mo_freeLeaf 14 rfl) (pc' := 22) rfl ?_
      refine g_iconst ok (dk m_Mo_freeLeaf 15 rfl) (pc' := 23) rfl (v := 2) (by decide) ?_
      refine g_iload_n ok (dk m_Mo_freeLeaf 16 rfl) (pc' := 24) rfl (i := 2) rfl rfl ?_
      refine g_imul ok (dk m_Mo_freeLeaf 17 rfl) (pc' := 25) rfl ?_
      refine g_iadd ok (dk m_Mo_freeLeaf 18 rfl) (pc' := 26) rfl ?_
      refine g_ialdI ok (dk m_Mo_freeLeaf 19 rfl) (pc' := 27) rfl (j := 31 * e + 2 * k) (H.ar 22 rfl) (by rw [ix2, ix31]) (show 31 * e + 2 * k < 1860 by omega) (by decide) ?_
      refine g_iconst ok (dk m_Mo_freeLeaf 20 rfl) (pc' := 28) rfl (v := (-1)) (by decide) ?_
      refine g_icmp_eq ok (dk m_Mo_freeLeaf 21 rfl) (tgt := 37) (by decide) (pc' := 31) rfl (fun c_28 => ?_) (fun c_28 => ?_)
      · refine g_iload_n ok (dk m_Mo_freeLeaf 24 rfl) (pc' := 38) rfl (i := 2) rfl rfl ?_
        exact g_iret ok (dk m_Mo_freeLeaf 25 rfl) rfl rfl ⟨by rw [← hv, mo_fr, if_pos c_28], rfl⟩
      · refine g_iinc ok (dk m_Mo_freeLeaf 22 rfl) (pc' := 34) rfl rfl (nI_1 k) rfl ?_
        refine g_goto ok (dk m_Mo_freeLeaf 23 rfl) (pc' := 2) (by decide) ?_
        exact ih (k + 1) (by omega) (by rw [← hv, mo_fr, if_neg c_28])
  refine g_iconst ok (dk m_Mo_freeLeaf 0 rfl) (pc' := 1) rfl (v := 0) (by decide) ?_
  refine g_istore_n ok (dk m_Mo_freeLeaf 1 rfl) (pc' := 2) rfl (i := 2) rfl (Nat.le_of_ble_eq_true rfl) rfl ?_
  exact loop (2 ^ D) 0 (by omega) rfl
set_option maxHeartbeats 1000000 in
theorem c_Mo_meeting (g : q_G) {h : q_H} {o : Nat} {ba : Nat → Nat} {X : x_T} {e l D : Nat} (d : Nat) (hd : 1 ≤ d) (he : e < 60) (hl : l < 16) (hD : X.2 13 e = nI D) (hD4 : D ≤ 4) (H : q_mo h o ba X) : MG g y_Mo_meeting b_Mo_meeting 4 (some .int) d 0 0 [.ref o, .int (nI e), .int (nI l)] h (fun q h' => q = .inl (some (.int (mo_mt (X.2 16 e) l D 1))) ∧ h' = h) := by
  refine MG.of (by decide +kernel) (by simp [Value.category]) (Nat.le_of_ble_eq_true rfl) ?_
  intro Z A ok
  have loop : ∀ (m k : Nat), k + m = D + 1 → mo_mt (X.2 16 e) l m k = mo_mt (X.2 16 e) l D 1 → GW g Z A (fun q h' => q = .inl (some (.int (mo_mt (X.2 16 e) l D 1))) ∧ h' = h) 0 0 h 2 [some (.ref o), some (.int (nI e)), some (.int (nI l)), some (.int (nI k))] [] := by
    intro m
    induction m with
    | zero =>
      intro k hk hv
      refine g_iload_n ok (dk m_Mo_meeting 2 rfl) (pc' := 3) rfl (i := 3) rfl rfl ?_
      refine g_aload_n ok (dk m_Mo_meeting 3 rfl) (pc' := 4) rfl (i := 0) rfl rfl ?_
      refine g_get ok (dk m_Mo_meeting 4 rfl) (pc' := 7) rfl f_Mo_38 H.1 rfl ?_
      refine g_iload_n ok (dk m_Mo_meeting 5 rfl) (pc' := 8) rfl (i := 1) rfl rfl ?_
      refine g_ialdI ok (dk m_Mo_meeting 6 rfl) (pc' := 9) rfl (j := e) (H.ar 13 rfl) rfl (show e < 60 by omega) (by decide) ?_
      rw [hD]
      refine g_icmp_gt ok (dk m_Mo_meeting 7 rfl) (tgt := 42) (by decide) (pc' := 12) rfl (fun c_9 => ?_) (fun c_9 => absurd (nI_lt (a := D) (b := k) (by omega) (by omega)) c_9)
      refine g_iconst ok (dk m_Mo_meeting 26 rfl) (pc' := 43) rfl (v := (-1)) (by decide) ?_
      exact g_iret ok (dk m_Mo_meeting 27 rfl) rfl rfl ⟨by rw [← hv]; rfl, rfl⟩
    | succ m ih =>
      intro k hk hv
      refine g_iload_n ok (dk m_Mo_meeting 2 rfl) (pc' := 3) rfl (i := 3) rfl rfl ?_
      refine g_aload_n ok (dk m_Mo_meeting 3 rfl) (pc' := 4) rfl (i := 0) rfl rfl ?_
      refine g_get ok (dk m_Mo_meeting 4 rfl) (pc' := 7) rfl f_Mo_38 H.1 rfl ?_
      refine g_iload_n ok (dk m_Mo_meeting 5 rfl) (pc' := 8) rfl (i := 1) rfl rfl ?_
      refine g_ialdI ok (dk m_Mo_meeting 6 rfl) (pc' := 9) rfl (j := e) (H.ar 13 rfl) rfl (show e < 60 by omega) (by decide) ?_
      rw [hD]
      refine g_icmp_gt ok (dk m_Mo_meeting 7 rfl) (tgt := 42) (by decide) (pc' := 12) rfl (fun c_9 => absurd c_9 (nI_nlt (a := D) (b := k) (by omega) (by omega))) (fun c_9 => ?_)
      refine g_aload_n ok (dk m_Mo_meeting 8 rfl) (pc' := 13) rfl (i := 0) rfl rfl ?_
      refine g_get ok (dk m_Mo_meeting 9 rfl) (pc' := 16) rfl f_Mo_47 H.1 rfl ?_
      refine g_iload_n ok (dk m_Mo_meeting 10 rfl) (pc' := 17) rfl (i := 1) rfl rfl ?_
      refine g_ialdI ok (dk m_Mo_meeting 11 rfl) (pc' := 18) rfl (j := e) (H.ar 16 rfl) rfl (show e < 60 by omega) (by decide) ?_
      refine g_iload_n ok (dk m_Mo_meeting 12 rfl) (pc' := 19) rfl (i := 2) rfl rfl ?_
      refine g_iload_n ok (dk m_Mo_meeting 13 rfl) (pc' := 20) rfl (i := 3) rfl rfl ?_
      refine g_callS ok (dk m_Mo_meeting 14 rfl) (pc' := 23) rfl c_Mo_168 (c_Mo_above g (nI l) (nI k) 0) rfl rfl (by simp [Value.category]) (by omega) rfl (rc' := 0) (rs' := 0) (by omega) (by omega) (fun rv h' hcc => ?_) (fun i h' hcc => by obtain ⟨e9, -⟩ := hcc; cases e9)
      obtain ⟨e9, e2⟩ := hcc
      have e3 := e2.symm
      subst e3
      cases e9
      rw [(abv_ok l hl k (by omega)).1]
      refine g_ishr ok (dk m_Mo_meeting 15 rfl) (pc' := 24) rfl ?_
      refine g_iconst ok (dk m_Mo_meeting 16 rfl) (pc' := 25) rfl (v := 1) (by decide) ?_
      refine g_iand ok (dk m_Mo_meeting 17 rfl) (pc' := 26) rfl ?_
      refine g_iconst ok (dk m_Mo_meeting 18 rfl) (pc' := 27) rfl (v := 1) (by decide) ?_
      refine g_icmp_ne ok (dk m_Mo_meeting 19 rfl) (tgt := 36) (by decide) (pc' := 30) rfl (fun c_27 => ?_) (fun c_27 => ?_)
      · refine g_iinc ok (dk m_Mo_meeting 24 rfl) (pc' := 39) rfl rfl (nI_1 k) rfl ?_
        refine g_goto ok (dk m_Mo_meeting 25 rfl) (pc' := 2) (by decide) ?_
        exact ih (k + 1) (by omega) (by rw [← hv, mo_mt, if_neg c_27])
      · refine g_iload_n ok (dk m_Mo_meeting 20 rfl) (pc' := 31) rfl (i := 2) rfl rfl ?_
        refine g_iload_n ok (dk m_Mo_meeting 21 rfl) (pc' := 32) rfl (i := 3) rfl rfl ?_
        refine g_callS ok (dk m_Mo_meeting 22 rfl) (pc' := 35) rfl c_Mo_168 (c_Mo_above g (nI l) (nI k) 0) rfl rfl (by simp [Value.category]) (by omega) rfl (rc' := 0) (rs' := 0) (by omega) (by omega) (fun rv h' hcc => ?_) (fun i h' hcc => by obtain ⟨e9, -⟩ := hcc; cases e9)
        obtain ⟨e9, e2⟩ := hcc
        have e3 := e2.symm
        subst e3
        cases e9
        exact g_iret ok (dk m_Mo_meeting 23 rfl) rfl rfl ⟨by rw [← hv, mo_mt, if_pos c_27, (abv_ok l hl k (by omega)).1], rfl⟩
  refine g_iconst ok (dk m_Mo_meeting 0 rfl) (pc' := 1) rfl (v := 1) (by decide) ?_
  refine g_istore_n ok (dk m_Mo_meeting 1 rfl) (pc' := 2) rfl (i := 3) rfl (Nat.le_of_ble_eq_true rfl) rfl ?_
  exact loop D 1 (by omega) rfl
set_option maxHeartbeats 1000000 in
theorem c_Mo_leave (g : q_G) {h : q_H} {o : Nat} {ba : Nat → Nat} {X : x_T} {mm : Nat} (d : Nat) (hm : mm < 16) (H : q_mo h o ba X) : MG g y_Mo_leave b_Mo_leave 3 none d 0 0 [.ref o, .int (nI mm)] h (fun q h' => q = .inl none ∧ q_mo h' o ba (mo_lv X mm)) := by
  refine MG.of (by decide +kernel) (by simp [Value.category]) (Nat.le_of_ble_eq_true rfl) ?_
  intro Z A ok
  have loop : ∀ (m k : Nat), k + m = 31 → ∀ (h1 : q_H) (X1 : x_T), q_mo h1 o ba X1 → mo_nk mm m k X1 = mo_lv X mm → GW g Z A (fun q h' => q = .inl none ∧ q_mo h' o ba (mo_lv X mm)) 0 0 h1 37 [some (.ref o), some (.int (nI mm)), some (.int (nI k))] [] := by
    intro m
    induction m with
    | zero =>
      intro k hk h1 X1 H1 hv
      refine g_iload_n ok (dk m_Mo_leave 27 rfl) (pc' := 38) rfl (i := 2) rfl rfl ?_
      refine g_bipush ok (dk m_Mo_leave 28 rfl) (pc' := 40) rfl (v := 31) (by decide) ?_
      refine g_icmp_ge ok (dk m_Mo_leave 29 rfl) (tgt := 61) (by decide) (pc' := 43) rfl (fun c_40 => ?_) (fun c_40 => absurd (show nI 31 ≤ nI k from by rw [show k = 31 by omega]; exact Int32.le_refl _) c_40)
      exact g_vret ok (dk m_Mo_leave 41 rfl) rfl ⟨rfl, by rw [← hv]; exact H1⟩
    | succ m ih =>
      intro k hk h1 X1 H1 hv
      refine g_iload_n ok (dk m_Mo_leave 27 rfl) (pc' := 38) rfl (i := 2) rfl rfl ?_
      refine g_bipush ok (dk m_Mo_leave 28 rfl) (pc' := 40) rfl (v := 31) (by decide) ?_
      refine g_icmp_ge ok (dk m_Mo_leave 29 rfl) (tgt := 61) (by decide) (pc' := 43) rfl (fun c_40 => absurd c_40 (show ¬ nI 31 ≤ nI k from nI_ge (by omega) (by decide))) (fun c_40 => ?_)
      refine g_aload_n ok (dk m_Mo_leave 30 rfl) (pc' := 44) rfl (i := 0) rfl rfl ?_
      refine g_get ok (dk m_Mo_leave 31 rfl) (pc' := 47) rfl f_Mo_98 H1.1 rfl ?_
      refine g_bipush ok (dk m_Mo_leave 32 rfl) (pc' := 49) rfl (v := 31) (by decide) ?_
      refine g_iload_n ok (dk m_Mo_leave 33 rfl) (pc' := 50) rfl (i := 1) rfl rfl ?_
      refine g_imul ok (dk m_Mo_leave 34 rfl) (pc' := 51) rfl ?_
      refine g_iload_n ok (dk m_Mo_leave 35 rfl) (pc' := 52) rfl (i := 2) rfl rfl ?_
      refine g_iadd ok (dk m_Mo_leave 36 rfl) (pc' := 53) rfl ?_
      refine g_iconst ok (dk m_Mo_leave 37 rfl) (pc' := 54) rfl (v := (-1)) (by decide) ?_
      refine g_iastI ok (dk m_Mo_leave 38 rfl) (pc' := 55) rfl (j := 31 * mm + k) (H1.ar 33 rfl) (ix31 mm k) (show 31 * mm + k < 496 by omega) (by decide) (fun z1 e1 => ?_)
      have Y1 := H1.ast 33 rfl e1
      clear e1
      refine g_iinc ok (dk m_Mo_leave 39 rfl) (pc' := 58) rfl rfl (nI_1 k) rfl ?_
      refine g_goto ok (dk m_Mo_leave 40 rfl) (pc' := 37) (by decide) ?_
      exact ih (k + 1) (by omega) _ _ Y1 hv
  refine g_aload_n ok (dk m_Mo_leave 0 rfl) (pc' := 1) rfl (i := 0) rfl rfl ?_
  refine g_get ok (dk m_Mo_leave 1 rfl) (pc' := 4) rfl f_Mo_80 H.1 rfl ?_
  refine g_iload_n ok (dk m_Mo_leave 2 rfl) (pc' := 5) rfl (i := 1) rfl rfl ?_
  refine g_iconst ok (dk m_Mo_leave 3 rfl) (pc' := 6) rfl (v := (-1)) (by decide) ?_
  refine g_iastI ok (dk m_Mo_leave 4 rfl) (pc' := 7) rfl (j := mm) (H.ar 27 rfl) rfl (show mm < 16 by omega) (by decide) (fun z1 e1 => ?_)
  have Y1 := H.ast 27 rfl e1
  clear e1
  refine g_aload_n ok (dk m_Mo_leave 5 rfl) (pc' := 8) rfl (i := 0) rfl rfl ?_
  refine g_get ok (dk m_Mo_leave 6 rfl) (pc' := 11) rfl f_Mo_83 Y1.1 rfl ?_
  refine g_iload_n ok (dk m_Mo_leave 7 rfl) (pc' := 12) rfl (i := 1) rfl rfl ?_
  refine g_iconst ok (dk m_Mo_leave 8 rfl) (pc' := 13) rfl (v := (-1)) (by decide) ?_
  refine g_iastI ok (dk m_Mo_leave 9 rfl) (pc' := 14) rfl (j := mm) (Y1.ar 28 rfl) rfl (show mm < 16 by omega) (by decide) (fun z2 e2 => ?_)
  have Y2 := Y1.ast 28 rfl e2
  clear e2
  refine g_aload_n ok (dk m_Mo_leave 10 rfl) (pc' := 15) rfl (i := 0) rfl rfl ?_
  refine g_get ok (dk m_Mo_leave 11 rfl) (pc' := 18) rfl f_Mo_86 Y2.1 rfl ?_
  refine g_iload_n ok (dk m_Mo_leave 12 rfl) (pc' := 19) rfl (i := 1) rfl rfl ?_
  refine g_iconst ok (dk m_Mo_leave 13 rfl) (pc' := 20) rfl (v := (-1)) (by decide) ?_
  refine g_iastI ok (dk m_Mo_leave 14 rfl) (pc' := 21) rfl (j := mm) (Y2.ar 29 rfl) rfl (show mm < 16 by omega) (by decide) (fun z3 e3 => ?_)
  have Y3 := Y2.ast 29 rfl e3
  clear e3
  refine g_aload_n ok (dk m_Mo_leave 15 rfl) (pc' := 22) rfl (i := 0) rfl rfl ?_
  refine g_get ok (dk m_Mo_leave 16 rfl) (pc' := 25) rfl f_Mo_95 Y3.1 rfl ?_
  refine g_iload_n ok (dk m_Mo_leave 17 rfl) (pc' := 26) rfl (i := 1) rfl rfl ?_
  refine g_iconst ok (dk m_Mo_leave 18 rfl) (pc' := 27) rfl (v := 0) (by decide) ?_
  refine g_zastI ok (dk m_Mo_leave 19 rfl) (pc' := 28) rfl (j := mm) (Y3.ar 32 rfl) rfl (show mm < 16 by omega) (by decide) rfl (fun z4 e4 => ?_)
  have Y4 := Y3.ast 32 rfl e4
  clear e4
  refine g_aload_n ok (dk m_Mo_leave 20 rfl) (pc' := 29) rfl (i := 0) rfl rfl ?_
  refine g_get ok (dk m_Mo_leave 21 rfl) (pc' := 32) rfl f_Mo_92 Y4.1 rfl ?_
  refine g_iload_n ok (dk m_Mo_leave 22 rfl) (pc' := 33) rfl (i := 1) rfl rfl ?_
  refine g_iconst ok (dk m_Mo_leave 23 rfl) (pc' := 34) rfl (v := 0) (by decide) ?_
  refine g_iastI ok (dk m_Mo_leave 24 rfl) (pc' := 35) rfl (j := mm) (Y4.ar 31 rfl) rfl (show mm < 16 by omega) (by decide) (fun z5 e5 => ?_)
  have Y5 := Y4.ast 31 rfl e5
  clear e5
  refine g_iconst ok (dk m_Mo_leave 25 rfl) (pc' := 36) rfl (v := 0) (by decide) ?_
  refine g_istore_n ok (dk m_Mo_leave 26 rfl) (pc' := 37) rfl (i := 2) rfl (Nat.le_of_ble_eq_true rfl) rfl ?_
  exact loop 31 0 (by omega) _ _ Y5 rfl
set_option maxHeartbeats 1000000 in
theorem c_Mo_hold (g : q_G) {h : q_H} {o : Nat} {ba : Nat → Nat} {X : x_T} {n : Nat} (x : Int32) (d : Nat) (hn : X.1 46 = nI n) (hn2 : n < 256) (H : q_mo h o ba X) : MG g y_Mo_hold b_Mo_hold 3 none d 0 0 [.ref o, .int x] h (fun q h' => q = .inl none ∧ q_mo h' o ba (mo_hd X n x)) := by
  refine MG.of (by decide +kernel) (by simp [Value.category]) (Nat.le_of_ble_eq_true rfl) ?_
  intro Z A ok
  have loop : ∀ (m k : Nat), k + m = n → (∀ q, q < k → ¬ X.2 47 q = x) → GW g Z A (fun q h' => q = .inl none ∧ q_mo h' o ba (mo_hd X n x)) 0 0 h 2 [some (.ref o), some (.int x), some (.int (nI k))] [] := by
    intro m
    induction m with
    | zero =>
      intro k hk hb
      refine g_iload_n ok (dk m_Mo_hold 2 rfl) (pc' := 3) rfl (i := 2) rfl rfl ?_
      refine g_aload_n ok (dk m_Mo_hold 3 rfl) (pc' := 4) rfl (i := 0) rfl rfl ?_
      refine g_get ok (dk m_Mo_hold 4 rfl) (pc' := 7) rfl f_Mo_183 H.1 rfl ?_
      rw [hn]
      refine g_icmp_ge ok (dk m_Mo_hold 5 rfl) (tgt := 27) (by decide) (pc' := 10) rfl (fun c_7 => ?_) (fun c_7 => absurd (show nI n ≤ nI k from by rw [show k = n by omega]; exact Int32.le_refl _) c_7)
      refine g_aload_n ok (dk m_Mo_hold 15 rfl) (pc' := 28) rfl (i := 0) rfl rfl ?_
      refine g_get ok (dk m_Mo_hold 16 rfl) (pc' := 31) rfl f_Mo_131 H.1 rfl ?_
      refine g_aload_n ok (dk m_Mo_hold 17 rfl) (pc' := 32) rfl (i := 0) rfl rfl ?_
      refine g_get ok (dk m_Mo_hold 18 rfl) (pc' := 35) rfl f_Mo_183 H.1 rfl ?_
      refine g_iload_n ok (dk m_Mo_hold 19 rfl) (pc' := 36) rfl (i := 1) rfl rfl ?_
      refine g_iastI ok (dk m_Mo_hold 20 rfl) (pc' := 37) rfl (j := n) (H.ar 47 rfl) hn (show n < 256 by omega) (by decide) (fun z1 e1 => ?_)
      have Y1 := H.ast 47 rfl e1
      clear e1
      refine g_aload_n ok (dk m_Mo_hold 21 rfl) (pc' := 38) rfl (i := 0) rfl rfl ?_
      refine g_dup ok (dk m_Mo_hold 22 rfl) (pc' := 39) rfl rfl ?_
      refine g_get ok (dk m_Mo_hold 23 rfl) (pc' := 42) rfl f_Mo_183 Y1.1 rfl ?_
      refine g_iconst ok (dk m_Mo_hold 24 rfl) (pc' := 43) rfl (v := 1) (by decide) ?_
      refine g_iadd ok (dk m_Mo_hold 25 rfl) (pc' := 44) rfl ?_
      refine g_top (w := .int (nI (n + 1))) (by show Value.int (X.1 46 + 1) = _; rw [hn, nI_1]) ?_
      refine g_put ok (dk m_Mo_hold 26 rfl) (pc' := 47) rfl f_Mo_183 (Or.inl rfl) Y1.1 (Nat.le_of_ble_eq_true rfl) rfl rfl ?_
      refine g_gen (fun z2 e2 => ?_)
      have Y2 := Y1.ipt 46 (by decide) e2
      clear e2
      exact g_vret ok (dk m_Mo_hold 27 rfl) rfl ⟨rfl, by rw [mo_hd, if_neg (fun ⟨q, h1, h2⟩ => hb q (by omega) h2)]; exact Y2⟩
    | succ m ih =>
      intro k hk hb
      refine g_iload_n ok (dk m_Mo_hold 2 rfl) (pc' := 3) rfl (i := 2) rfl rfl ?_
      refine g_aload_n ok (dk m_Mo_hold 3 rfl) (pc' := 4) rfl (i := 0) rfl rfl ?_
      refine g_get ok (dk m_Mo_hold 4 rfl) (pc' := 7) rfl f_Mo_183 H.1 rfl ?_
      rw [hn]
      refine g_icmp_ge ok (dk m_Mo_hold 5 rfl) (tgt := 27) (by decide) (pc' := 10) rfl (fun c_7 => absurd c_7 (nI_ge (show k < n by omega) (by omega))) (fun c_7 => ?_)
      refine g_aload_n ok (dk m_Mo_hold 6 rfl) (pc' := 11) rfl (i := 0) rfl rfl ?_
      refine g_get ok (dk m_Mo_hold 7 rfl) (pc' := 14) rfl f_Mo_131 H.1 rfl ?_
      refine g_iload_n ok (dk m_Mo_hold 8 rfl) (pc' := 15) rfl (i := 2) rfl rfl ?_
      refine g_ialdI ok (dk m_Mo_hold 9 rfl) (pc' := 16) rfl (j := k) (H.ar 47 rfl) rfl (show k < 256 by omega) (by decide) ?_
      refine g_iload_n ok (dk m_Mo_hold 10 rfl) (pc' := 17) rfl (i := 1) rfl rfl ?_
      refine g_icmp_ne ok (dk m_Mo_hold 11 rfl) (tgt := 21) (by decide) (pc' := 20) rfl (fun c_17 => ?_) (fun c_17 => ?_)
      · refine g_iinc ok (dk m_Mo_hold 13 rfl) (pc' := 24) rfl rfl (nI_1 k) rfl ?_
        refine g_goto ok (dk m_Mo_hold 14 rfl) (pc' := 2) (by decide) ?_
        exact ih (k + 1) (by omega) (fun q h1 h2 => by
          by_cases z : q = k
          · rw [z] at h2
            exact c_17 h2
          · exact hb q (by omega) h2)
      · exact g_vret ok (dk m_Mo_hold 12 rfl) rfl ⟨rfl, by rw [mo_hd, if_pos ⟨k, by omega, c_17⟩]; exact H⟩
  refine g_iconst ok (dk m_Mo_hold 0 rfl) (pc' := 1) rfl (v := 0) (by decide) ?_
  refine g_istore_n ok (dk m_Mo_hold 1 rfl) (pc' := 2) rfl (i := 2) rfl (Nat.le_of_ble_eq_true rfl) rfl ?_
  exact loop n 0 (by omega) (fun q hq => absurd hq (Nat.not_lt_zero _))
set_option maxHeartbeats 1000000 in
theorem c_Mo_isHeld (g : q_G) {h : q_H} {o : Nat} {ba : Nat → Nat} {X : x_T} {n : Nat} (x : Int32) (d : Nat) (hn : X.1 46 = nI n) (hn2 : n ≤ 256) (H : q_mo h o ba X) : MG g y_Mo_isHeld b_Mo_isHeld 3 (some .boolean) d 0 0 [.ref o, .int x] h (fun q h' => q = .inl (some (.int (b2i (∃ k, k < n ∧ X.2 47 k = x)))) ∧ h' = h) := by
  refine MG.of (by decide +kernel) (by simp [Value.category]) (Nat.le_of_ble_eq_true rfl) ?_
  intro Z A ok
  have loop : ∀ (m k : Nat), k + m = n → (∀ q, q < k → ¬ X.2 47 q = x) → GW g Z A (fun q h' => q = .inl (some (.int (b2i (∃ k, k < n ∧ X.2 47 k = x)))) ∧ h' = h) 0 0 h 2 [some (.ref o), some (.int x), some (.int (nI k))] [] := by
    intro m
    induction m with
    | zero =>
      intro k hk hb
      refine g_iload_n ok (dk m_Mo_isHeld 2 rfl) (pc' := 3) rfl (i := 2) rfl rfl ?_
      refine g_aload_n ok (dk m_Mo_isHeld 3 rfl) (pc' := 4) rfl (i := 0) rfl rfl ?_
      refine g_get ok (dk m_Mo_isHeld 4 rfl) (pc' := 7) rfl f_Mo_183 H.1 rfl ?_
      rw [hn]
      refine g_icmp_ge ok (dk m_Mo_isHeld 5 rfl) (tgt := 28) (by decide) (pc' := 10) rfl (fun c_7 => ?_) (fun c_7 => absurd (show nI n ≤ nI k from by rw [show k = n by omega]; exact Int32.le_refl _) c_7)
      refine g_iconst ok (dk m_Mo_isHeld 16 rfl) (pc' := 29) rfl (v := 0) (by decide) ?_
      exact g_iret ok (dk m_Mo_isHeld 17 rfl) rfl rfl ⟨by rw [b2i_f (p := ∃ k, k < n ∧ X.2 47 k = x) (fun ⟨q, h1, h2⟩ => hb q (by omega) h2)], rfl⟩
    | succ m ih =>
      intro k hk hb
      refine g_iload_n ok (dk m_Mo_isHeld 2 rfl) (pc' := 3) rfl (i := 2) rfl rfl ?_
      refine g_aload_n ok (dk m_Mo_isHeld 3 rfl) (pc' := 4) rfl (i := 0) rfl rfl ?_
      refine g_get ok (dk m_Mo_isHeld 4 rfl) (pc' := 7) rfl f_Mo_183 H.1 rfl ?_
      rw [hn]
      refine g_icmp_ge ok (dk m_Mo_isHeld 5 rfl) (tgt := 28) (by decide) (pc' := 10) rfl (fun c_7 => absurd c_7 (nI_ge (show k < n by omega) (by omega))) (fun c_7 => ?_)
      refine g_aload_n ok (dk m_Mo_isHeld 6 rfl) (pc' := 11) rfl (i := 0) rfl rfl ?_
      refine g_get ok (dk m_Mo_isHeld 7 rfl) (pc' := 14) rfl f_Mo_131 H.1 rfl ?_
      refine g_iload_n ok (dk m_Mo_isHeld 8 rfl) (pc' := 15) rfl (i := 2) rfl rfl ?_
      refine g_ialdI ok (dk m_Mo_isHeld 9 rfl) (pc' := 16) rfl (j := k) (H.ar 47 rfl) rfl (show k < 256 by omega) (by decide) ?_
      refine g_iload_n ok (dk m_Mo_isHeld 10 rfl) (pc' := 17) rfl (i := 1) rfl rfl ?_
      refine g_icmp_ne ok (dk m_Mo_isHeld 11 rfl) (tgt := 22) (by decide) (pc' := 20) rfl (fun c_17 => ?_) (fun c_17 => ?_)
      · refine g_iinc ok (dk m_Mo_isHeld 14 rfl) (pc' := 25) rfl rfl (nI_1 k) rfl ?_
        refine g_goto ok (dk m_Mo_isHeld 15 rfl) (pc' := 2) (by decide) ?_
        exact ih (k + 1) (by omega) (fun q h1 h2 => by
          by_cases z : q = k
          · rw [z] at h2
            exact c_17 h2
          · exact hb q (by omega) h2)
      · refine g_iconst ok (dk m_Mo_isHeld 12 rfl) (pc' := 21) rfl (v := 1) (by decide) ?_
        exact g_iret ok (dk m_Mo_isHeld 13 rfl) rfl rfl ⟨by rw [b2i_t (p := ∃ k, k < n ∧ X.2 47 k = x) ⟨k, by omega, c_17⟩], rfl⟩
  refine g_iconst ok (dk m_Mo_isHeld 0 rfl) (pc' := 1) rfl (v := 0) (by decide) ?_
  refine g_istore_n ok (dk m_Mo_isHeld 1 rfl) (pc' := 2) rfl (i := 2) rfl (Nat.le_of_ble_eq_true rfl) rfl ?_
  exact loop n 0 (by omega) (fun q hq => absurd hq (Nat.not_lt_zero _))
set_option maxHeartbeats 1000000 in
theorem c_Mo_isLatest (g : q_G) {h : q_H} {o : Nat} {ba : Nat → Nat} {X : x_T} {mm : Nat} (d : Nat) (hm : mm < 16) (H : q_mo h o ba X) : MG g y_Mo_isLatest b_Mo_isLatest 2 (some .boolean) d 0 0 [.ref o, .int (nI mm)] h (fun q h' => q = .inl (some (.int (b2i (X.2 27 mm = X.1 12 - 1)))) ∧ h' = h) := by
  refine MG.of (by decide +kernel) (by simp [Value.category]) (Nat.le_of_ble_eq_true rfl) ?_
  intro Z A ok
  refine g_aload_n ok (dk m_Mo_isLatest 0 rfl) (pc' := 1) rfl (i := 0) rfl rfl ?_
  refine g_get ok (dk m_Mo_isLatest 1 rfl) (pc' := 4) rfl f_Mo_80 H.1 rfl ?_
  refine g_iload_n ok (dk m_Mo_isLatest 2 rfl) (pc' := 5) rfl (i := 1) rfl rfl ?_
  refine g_ialdI ok (dk m_Mo_isLatest 3 rfl) (pc' := 6) rfl (j := mm) (H.ar 27 rfl) rfl (show mm < 16 by omega) (by decide) ?_
  refine g_aload_n ok (dk m_Mo_isLatest 4 rfl) (pc' := 7) rfl (i := 0) rfl rfl ?_
  refine g_get ok (dk m_Mo_isLatest 5 rfl) (pc' := 10) rfl f_Mo_151 H.1 rfl ?_
  refine g_iconst ok (dk m_Mo_isLatest 6 rfl) (pc' := 11) rfl (v := 1) (by decide) ?_
  refine g_isub ok (dk m_Mo_isLatest 7 rfl) (pc' := 12) rfl ?_
  refine g_icmp_ne ok (dk m_Mo_isLatest 8 rfl) (tgt := 19) (by decide) (pc' := 15) rfl (fun c_12 => ?_) (fun c_12 => ?_)
  · refine g_iconst ok (dk m_Mo_isLatest 11 rfl) (pc' := 20) rfl (v := 0) (by decide) ?_
    exact g_iret ok (dk m_Mo_isLatest 12 rfl) rfl rfl ⟨by rw [b2i_f (p := X.2 27 mm = X.1 12 - 1) c_12], rfl⟩
  · refine g_iconst ok (dk m_Mo_isLatest 9 rfl) (pc' := 16) rfl (v := 1) (by decide) ?_
    refine g_goto ok (dk m_Mo_isLatest 10 rfl) (pc' := 20) (by decide) ?_
    exact g_iret ok (dk m_Mo_isLatest 12 rfl) rfl rfl ⟨by rw [b2i_t (p := X.2 27 mm = X.1 12 - 1) c_12], rfl⟩
