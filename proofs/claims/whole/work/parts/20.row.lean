/-! ===== Row: numbers behind tested indices; Arrays.fill ===== -/
def r_in (n : Nat) (i : Int32) : Prop := ¬ i < 0 ∧ ¬ nI n ≤ i
theorem r_in_of {n : Nat} {i : Int32} (hn : n < 2 ^ 31) (h : r_in n i) : ∃ j : Nat, j < n ∧ i = nI j := by
  obtain ⟨j, hj, e⟩ := nI_of h.1
  refine ⟨j, ?_, e⟩
  rcases Nat.lt_or_ge j n with q | q
  · exact q
  · exact absurd (by rw [e]; exact nI_le q hj) h.2
theorem r_in_nI {n j : Nat} (hj : j < n) (hn : n < 2 ^ 31) : r_in n (nI j) := ⟨nI_pos (by omega), nI_ge hj hn⟩
noncomputable def r_get (n : Nat) (f : Nat → Int32) (i : Int32) : Int32 := by
  classical exact if r_in n i then f i.toNatClampNeg else -1
noncomputable def r_put (n : Nat) (f : Nat → Int32) (i v : Int32) : Nat → Int32 := by
  classical exact if r_in n i then upd f i.toNatClampNeg v else f
theorem r_get_in {n j : Nat} {f : Nat → Int32} (hj : j < n) (hn : n < 2 ^ 31) : r_get n f (nI j) = f j := by
  unfold r_get
  rw [if_pos (r_in_nI hj hn), nI_clamp (by omega)]
theorem r_get_out {n : Nat} {f : Nat → Int32} {i : Int32} (h : ¬ r_in n i) : r_get n f i = -1 := by
  unfold r_get
  rw [if_neg h]
theorem r_put_in {n j : Nat} {f : Nat → Int32} {v : Int32} (hj : j < n) (hn : n < 2 ^ 31) : r_put n f (nI j) v = upd f j v := by
  unfold r_put
  rw [if_pos (r_in_nI hj hn), nI_clamp (by omega)]
theorem r_put_out {n : Nat} {f : Nat → Int32} {i v : Int32} (h : ¬ r_in n i) : r_put n f i v = f := by
  unfold r_put
  rw [if_neg h]
abbrev q_row (h : q_H) (r c n : Nat) (f : Nat → Int32) : Prop := h r = some (.inl (2, [.ref c])) ∧ h c = some (.inr (0, n, .inl f))
theorem q_up_id {h : q_H} {a : Nat} {o : q_O} (e : h a = some o) : q_up h a o = h := by
  funext b
  unfold q_up
  by_cases hb : b = a
  · rw [if_pos hb, hb, e]
  · rw [if_neg hb]
set_option maxHeartbeats 1000000 in
theorem c_Row_get (g : q_G) {h : q_H} {r c n : Nat} {f : Nat → Int32} (i : Int32) (d : Nat) (hr : h r = some (.inl (2, [.ref c]))) (hc : h c = some (.inr (0, n, .inl f))) (hn : n < 2 ^ 31) : MG g y_Row_get b_Row_get 2 (some .int) d 0 0 [.ref r, .int i] h (fun q h' => q = .inl (some (.int (r_get n f i))) ∧ h' = h) := by
  refine MG.of (by decide +kernel) (by simp [Value.category]) (Nat.le_of_ble_eq_true rfl) ?_
  intro Z A ok
  refine g_iload_n ok (dk m_Row_get 0 rfl) (pc' := 1) rfl (i := 1) rfl rfl ?_
  refine g_if_lt ok (dk m_Row_get 1 rfl) (tgt := 22) (by decide) (pc' := 4) rfl (fun c_1 => ?_) (fun c_1 => ?_)
  · refine g_iconst ok (dk m_Row_get 12 rfl) (pc' := 23) rfl (v := (-1)) (by decide) ?_
    exact g_iret ok (dk m_Row_get 13 rfl) rfl rfl ⟨by rw [r_get_out (fun z => z.1 c_1)], rfl⟩
  · refine g_iload_n ok (dk m_Row_get 2 rfl) (pc' := 5) rfl (i := 1) rfl rfl ?_
    refine g_aload_n ok (dk m_Row_get 3 rfl) (pc' := 6) rfl (i := 0) rfl rfl ?_
    refine g_get ok (dk m_Row_get 4 rfl) (pc' := 9) rfl f_Row_9 (by assumption) rfl ?_
    refine g_alen ok (dk m_Row_get 5 rfl) (pc' := 10) rfl (by assumption) rfl ?_
    refine g_icmp_ge ok (dk m_Row_get 6 rfl) (tgt := 22) (by decide) (pc' := 13) rfl (fun c_10 => ?_) (fun c_10 => ?_)
    · refine g_iconst ok (dk m_Row_get 12 rfl) (pc' := 23) rfl (v := (-1)) (by decide) ?_
      exact g_iret ok (dk m_Row_get 13 rfl) rfl rfl ⟨by rw [r_get_out (fun z => z.2 c_10)], rfl⟩
    · refine g_aload_n ok (dk m_Row_get 7 rfl) (pc' := 14) rfl (i := 0) rfl rfl ?_
      refine g_get ok (dk m_Row_get 8 rfl) (pc' := 17) rfl f_Row_9 (by assumption) rfl ?_
      refine g_iload_n ok (dk m_Row_get 9 rfl) (pc' := 18) rfl (i := 1) rfl rfl ?_
      obtain ⟨j, hj, rfl⟩ := r_in_of hn ⟨c_1, c_10⟩
      refine g_iald ok (dk m_Row_get 10 rfl) (pc' := 19) rfl hc hj hn ?_
      refine g_goto ok (dk m_Row_get 11 rfl) (pc' := 23) (by decide) ?_
      exact g_iret ok (dk m_Row_get 13 rfl) rfl rfl ⟨by rw [r_get_in hj hn], rfl⟩
set_option maxHeartbeats 1000000 in
theorem c_Row_put (g : q_G) {h : q_H} {r c n : Nat} {f : Nat → Int32} (i v : Int32) (d : Nat) (hr : h r = some (.inl (2, [.ref c]))) (hc : h c = some (.inr (0, n, .inl f))) (hn : n < 2 ^ 31) : MG g y_Row_put b_Row_put 3 none d 0 0 [.ref r, .int i, .int v] h (fun q h' => q = .inl none ∧ h' = q_up h c (.inr (0, n, .inl (r_put n f i v)))) := by
  refine MG.of (by decide +kernel) (by simp [Value.category]) (Nat.le_of_ble_eq_true rfl) ?_
  intro Z A ok
  refine g_iload_n ok (dk m_Row_put 0 rfl) (pc' := 1) rfl (i := 1) rfl rfl ?_
  refine g_if_lt ok (dk m_Row_put 1 rfl) (tgt := 20) (by decide) (pc' := 4) rfl (fun c_1 => ?_) (fun c_1 => ?_)
  · exact g_vret ok (dk m_Row_put 12 rfl) rfl ⟨rfl, by rw [r_put_out (fun z => z.1 c_1), q_up_id hc]⟩
  · refine g_iload_n ok (dk m_Row_put 2 rfl) (pc' := 5) rfl (i := 1) rfl rfl ?_
    refine g_aload_n ok (dk m_Row_put 3 rfl) (pc' := 6) rfl (i := 0) rfl rfl ?_
    refine g_get ok (dk m_Row_put 4 rfl) (pc' := 9) rfl f_Row_9 (by assumption) rfl ?_
    refine g_alen ok (dk m_Row_put 5 rfl) (pc' := 10) rfl (by assumption) rfl ?_
    refine g_icmp_ge ok (dk m_Row_put 6 rfl) (tgt := 20) (by decide) (pc' := 13) rfl (fun c_10 => ?_) (fun c_10 => ?_)
    · exact g_vret ok (dk m_Row_put 12 rfl) rfl ⟨rfl, by rw [r_put_out (fun z => z.2 c_10), q_up_id hc]⟩
    · refine g_aload_n ok (dk m_Row_put 7 rfl) (pc' := 14) rfl (i := 0) rfl rfl ?_
      refine g_get ok (dk m_Row_put 8 rfl) (pc' := 17) rfl f_Row_9 (by assumption) rfl ?_
      refine g_iload_n ok (dk m_Row_put 9 rfl) (pc' := 18) rfl (i := 1) rfl rfl ?_
      refine g_iload_n ok (dk m_Row_put 10 rfl) (pc' := 19) rfl (i := 2) rfl rfl ?_
      obtain ⟨j, hj, rfl⟩ := r_in_of hn ⟨c_1, c_10⟩
      refine g_iast ok (dk m_Row_put 11 rfl) (pc' := 20) rfl hc hj hn ?_
      exact g_vret ok (dk m_Row_put 12 rfl) rfl ⟨rfl, by rw [r_put_in hj hn]⟩
def r_fill (k : Nat) (f : Nat → Int32) (v : Int32) : Nat → Int32 := fun j => if j < k then v else f j
theorem r_fill_0 (f : Nat → Int32) (v : Int32) : r_fill 0 f v = f := by
  funext j
  simp [r_fill]
theorem r_fill_s (k : Nat) (f : Nat → Int32) (v : Int32) : upd (r_fill k f v) k v = r_fill (k + 1) f v := by
  funext j
  unfold upd r_fill
  by_cases e : j = k
  · rw [if_pos e, if_pos (by omega)]
  · rw [if_neg e]
    by_cases e2 : j < k
    · rw [if_pos e2, if_pos (by omega)]
    · rw [if_neg e2, if_neg (by omega)]
set_option maxHeartbeats 1000000 in
theorem c_Arr_fill (g : q_G) {h : q_H} {a N : Nat} {f : Nat → Int32} (v : Int32) (d : Nat) (ha : h a = some (.inr (0, N, .inl f))) (hN : N < 2 ^ 31) : MG g y_Arr_fill b_Arr_fill 4 none d 0 0 [.ref a, .int v] h (fun q h' => q = .inl none ∧ h' = q_up h a (.inr (0, N, .inl (r_fill N f v)))) := by
  refine MG.of (by decide +kernel) (by simp [Value.category]) (Nat.le_of_ble_eq_true rfl) ?_
  intro Z A ok
  have loop : ∀ (m k : Nat), k + m = N → GW g Z A (fun q h' => q = .inl none ∧ h' = q_up h a (.inr (0, N, .inl (r_fill N f v)))) 0 0 (q_up h a (.inr (0, N, .inl (r_fill k f v)))) 5 [some (.ref a), some (.int v), some (.int (nI k)), some (.int (nI N))] [] := by
    intro m
    induction m with
    | zero =>
      intro k hk
      refine g_iload_n ok (dk m_Arr_fill 5 rfl) (pc' := 6) rfl (i := 2) rfl rfl ?_
      refine g_iload_n ok (dk m_Arr_fill 6 rfl) (pc' := 7) rfl (i := 3) rfl rfl ?_
      refine g_icmp_ge ok (dk m_Arr_fill 7 rfl) (tgt := 20) (by decide) (pc' := 10) rfl (fun c_7 => ?_) (fun c_7 => absurd (nI_le (a := N) (b := k) (by omega) (by omega)) c_7)
      exact g_vret ok (dk m_Arr_fill 14 rfl) rfl ⟨rfl, by rw [show k = N by omega]⟩
    | succ m ih =>
      intro k hk
      refine g_iload_n ok (dk m_Arr_fill 5 rfl) (pc' := 6) rfl (i := 2) rfl rfl ?_
      refine g_iload_n ok (dk m_Arr_fill 6 rfl) (pc' := 7) rfl (i := 3) rfl rfl ?_
      refine g_icmp_ge ok (dk m_Arr_fill 7 rfl) (tgt := 20) (by decide) (pc' := 10) rfl (fun c_7 => absurd c_7 (nI_ge (by omega) hN)) (fun c_7 => ?_)
      refine g_aload_n ok (dk m_Arr_fill 8 rfl) (pc' := 11) rfl (i := 0) rfl rfl ?_
      refine g_iload_n ok (dk m_Arr_fill 9 rfl) (pc' := 12) rfl (i := 2) rfl rfl ?_
      refine g_iload_n ok (dk m_Arr_fill 10 rfl) (pc' := 13) rfl (i := 1) rfl rfl ?_
      refine g_iast ok (dk m_Arr_fill 11 rfl) (pc' := 14) rfl (q_up_s _ _ _) (by omega) hN ?_
      refine g_heap (by rw [q_up_u, r_fill_s]) ?_
      refine g_iinc ok (dk m_Arr_fill 12 rfl) (pc' := 17) rfl rfl (nI_1 k) rfl ?_
      refine g_goto ok (dk m_Arr_fill 13 rfl) (pc' := 5) (by decide) ?_
      exact ih (k + 1) (by omega)
  refine g_iconst ok (dk m_Arr_fill 0 rfl) (pc' := 1) rfl (v := 0) (by decide) ?_
  refine g_istore_n ok (dk m_Arr_fill 1 rfl) (pc' := 2) rfl (i := 2) rfl (Nat.le_of_ble_eq_true rfl) rfl ?_
  refine g_aload_n ok (dk m_Arr_fill 2 rfl) (pc' := 3) rfl (i := 0) rfl rfl ?_
  refine g_alen ok (dk m_Arr_fill 3 rfl) (pc' := 4) rfl ha rfl ?_
  refine g_istore_n ok (dk m_Arr_fill 4 rfl) (pc' := 5) rfl (i := 3) rfl (Nat.le_of_ble_eq_true rfl) rfl ?_
  exact g_heap (by rw [r_fill_0, q_up_id ha]) (loop N 0 (by omega))
set_option maxHeartbeats 1000000 in
theorem c_Row_fill (g : q_G) {h : q_H} {r c n : Nat} {f : Nat → Int32} (v : Int32) (d : Nat) (hd : 1 ≤ d) (hr : h r = some (.inl (2, [.ref c]))) (hc : h c = some (.inr (0, n, .inl f))) (hn : n < 2 ^ 31) : MG g y_Row_fill b_Row_fill 2 none d 0 0 [.ref r, .int v] h (fun q h' => q = .inl none ∧ h' = q_up h c (.inr (0, n, .inl (r_fill n f v)))) := by
  refine MG.of (by decide +kernel) (by simp [Value.category]) (Nat.le_of_ble_eq_true rfl) ?_
  intro Z A ok
  refine g_aload_n ok (dk m_Row_fill 0 rfl) (pc' := 1) rfl (i := 0) rfl rfl ?_
  refine g_get ok (dk m_Row_fill 1 rfl) (pc' := 4) rfl f_Row_9 hr rfl ?_
  refine g_iload_n ok (dk m_Row_fill 2 rfl) (pc' := 5) rfl (i := 1) rfl rfl ?_
  refine g_callS ok (dk m_Row_fill 3 rfl) (pc' := 8) rfl c_Row_15 (c_Arr_fill g v 0 hc hn) rfl rfl (by simp [Value.category]) (by omega) rfl (rc' := 0) (rs' := 0) (by omega) (by omega) (fun rv h' hcc => ?_) (fun i h' hcc => by obtain ⟨e, -⟩ := hcc; cases e)
  obtain ⟨e, e2⟩ := hcc
  have e3 := e2.symm
  subst e3
  cases e
  exact g_vret ok (dk m_Row_fill 4 rfl) rfl ⟨rfl, rfl⟩
theorem q_oa {h : q_H} {a b : Nat} {x : Nat × List Value} {y : Nat × vp_A} (ha : h a = some (.inl x)) (hb : h b = some (.inr y)) : a ≠ b := fun e => by
  rw [e, hb] at ha
  cases ha
theorem q_on {h : q_H} {a b : Nat} {o : q_O} (ha : h a = some o) (hb : h b = none) : a ≠ b := fun e => by
  rw [e, hb] at ha
  cases ha
def r_copy (k : Nat) (v f : Nat → Int32) : Nat → Int32 := fun j => if j < k then v j else f j
theorem r_copy_0 (v f : Nat → Int32) : r_copy 0 v f = f := by
  funext j
  simp [r_copy]
theorem r_copy_s (k : Nat) (v f : Nat → Int32) : upd (r_copy k v f) k (v k) = r_copy (k + 1) v f := by
  funext j
  unfold upd r_copy
  by_cases e : j = k
  · rw [if_pos e, if_pos (by omega), e]
  · rw [if_neg e]
    by_cases e2 : j < k
    · rw [if_pos e2, if_pos (by omega)]
    · rw [if_neg e2, if_neg (by omega)]
set_option maxHeartbeats 1000000 in
theorem c_Row_init (g : q_G) {h : q_H} {r N : Nat} (v : Int32) (d : Nat) (hd : 1 ≤ d) (hr : h r = some (.inl (2, [.null]))) (hN0 : 0 < N) (hN : N * 4 ≤ 536870912) : MG g y_Row_init b_Row_init 3 none d 1 N [.ref r, .int (nI N), .int v] h (fun q h' => q = .inl none ∧ ∃ c, h c = none ∧ q_bs g ≤ c ∧ h' = q_up (q_up h r (.inl (2, [.ref c]))) c (.inr (0, N, .inl (r_fill N (fun _ => 0) v)))) := by
  refine MG.of (by decide +kernel) (by simp [Value.category]) (Nat.le_of_ble_eq_true rfl) ?_
  intro Z A ok
  refine g_aload_n ok (dk m_Row_init 0 rfl) (pc' := 1) rfl (i := 0) rfl rfl ?_
  refine g_objInit ok (dk m_Row_init 1 rfl) (pc' := 4) rfl c_Row_3 (by simp [Value.category]) (by omega) rfl ?_
  refine g_aload_n ok (dk m_Row_init 2 rfl) (pc' := 5) rfl (i := 0) rfl rfl ?_
  refine g_iload_n ok (dk m_Row_init 3 rfl) (pc' := 6) rfl (i := 1) rfl rfl ?_
  refine g_if_le ok (dk m_Row_init 4 rfl) (tgt := 13) (by decide) (pc' := 9) rfl (fun c_6 => absurd c_6 (nI_nle hN0 (by omega))) (fun c_6 => ?_)
  refine g_iload_n ok (dk m_Row_init 5 rfl) (pc' := 10) rfl (i := 1) rfl rfl ?_
  refine g_goto ok (dk m_Row_init 6 rfl) (pc' := 14) (by decide) ?_
  refine g_newa ok (dk m_Row_init 8 rfl) (pc' := 16) rfl rfl (Or.inl ⟨rfl, rfl⟩) hN (rc' := 0) (rs' := 0) (by omega) (by omega) (fun c hc hcb => ?_)
  refine g_put ok (dk m_Row_init 9 rfl) (pc' := 19) rfl f_Row_9 (Or.inr rfl) (show q_up h c _ r = some (.inl (2, [.null])) by rw [q_up_n (q_on hr hc)]; exact hr) (Nat.le_of_ble_eq_true rfl) rfl rfl ?_
  refine g_aload_n ok (dk m_Row_init 10 rfl) (pc' := 20) rfl (i := 0) rfl rfl ?_
  refine g_get ok (dk m_Row_init 11 rfl) (pc' := 23) rfl f_Row_9 (q_up_s _ _ _) rfl ?_
  refine g_iload_n ok (dk m_Row_init 12 rfl) (pc' := 24) rfl (i := 2) rfl rfl ?_
  refine g_callS ok (dk m_Row_init 13 rfl) (pc' := 27) rfl c_Row_15 (c_Arr_fill g v 0 (show q_up (q_up h c _) r _ c = _ by rw [q_up_n (q_on hr hc).symm, q_up_s]) (by omega)) rfl rfl (by simp [Value.category]) (by omega) rfl (rc' := 0) (rs' := 0) (by omega) (by omega) (fun rv h' hcc => ?_) (fun i h' hcc => by obtain ⟨e, -⟩ := hcc; cases e)
  obtain ⟨e, e2⟩ := hcc
  have e3 := e2.symm
  subst e3
  cases e
  exact g_vret ok (dk m_Row_init 14 rfl) rfl ⟨rfl, c, hc, hcb, by rw [q_up_c (q_on hr hc), q_up_u, q_up_c (q_on hr hc).symm]; rfl⟩
set_option maxHeartbeats 1000000 in
theorem c_Row_copy (g : q_G) {h : q_H} {r c n s c2 n2 : Nat} {f f2 : Nat → Int32} (d : Nat) (hd : 1 ≤ d) (hr : h r = some (.inl (2, [.ref c]))) (hc : h c = some (.inr (0, n, .inl f))) (hn : n < 2 ^ 31) (hs : h s = some (.inl (2, [.ref c2]))) (hc2 : h c2 = some (.inr (0, n2, .inl f2))) (hn2 : n2 < 2 ^ 31) (hne : c2 ≠ c) : MG g y_Row_copy b_Row_copy 3 none d 0 0 [.ref r, .ref s] h (fun q h' => q = .inl none ∧ h' = q_up h c (.inr (0, n, .inl (r_copy n (fun j => r_get n2 f2 (nI j)) f)))) := by
  refine MG.of (by decide +kernel) (by simp [Value.category]) (Nat.le_of_ble_eq_true rfl) ?_
  intro Z A ok
  have loop : ∀ (m k : Nat), k + m = n → GW g Z A (fun q h' => q = .inl none ∧ h' = q_up h c (.inr (0, n, .inl (r_copy n (fun j => r_get n2 f2 (nI j)) f)))) 0 0 (q_up h c (.inr (0, n, .inl (r_copy k (fun j => r_get n2 f2 (nI j)) f)))) 2 [some (.ref r), some (.ref s), some (.int (nI k))] [] := by
    intro m
    induction m with
    | zero =>
      intro k hk
      have hr1 : q_up h c (.inr (0, n, .inl (r_copy k (fun j => r_get n2 f2 (nI j)) f))) r = some (.inl (2, [.ref c])) := by rw [q_up_n (q_oa hr hc)]; exact hr
      refine g_iload_n ok (dk m_Row_copy 2 rfl) (pc' := 3) rfl (i := 2) rfl rfl ?_
      refine g_aload_n ok (dk m_Row_copy 3 rfl) (pc' := 4) rfl (i := 0) rfl rfl ?_
      refine g_get ok (dk m_Row_copy 4 rfl) (pc' := 7) rfl f_Row_9 hr1 rfl ?_
      refine g_alen ok (dk m_Row_copy 5 rfl) (pc' := 8) rfl (q_up_s _ _ _) rfl ?_
      refine g_icmp_ge ok (dk m_Row_copy 6 rfl) (tgt := 28) (by decide) (pc' := 11) rfl (fun c_8 => ?_) (fun c_8 => absurd (nI_le (a := n) (b := k) (by omega) (by omega)) c_8)
      exact g_vret ok (dk m_Row_copy 16 rfl) rfl ⟨rfl, by rw [show k = n by omega]⟩
    | succ m ih =>
      intro k hk
      have hr1 : q_up h c (.inr (0, n, .inl (r_copy k (fun j => r_get n2 f2 (nI j)) f))) r = some (.inl (2, [.ref c])) := by rw [q_up_n (q_oa hr hc)]; exact hr
      have hs1 : q_up h c (.inr (0, n, .inl (r_copy k (fun j => r_get n2 f2 (nI j)) f))) s = some (.inl (2, [.ref c2])) := by rw [q_up_n (q_oa hs hc)]; exact hs
      have hs2 : q_up h c (.inr (0, n, .inl (r_copy k (fun j => r_get n2 f2 (nI j)) f))) c2 = some (.inr (0, n2, .inl f2)) := by rw [q_up_n hne]; exact hc2
      refine g_iload_n ok (dk m_Row_copy 2 rfl) (pc' := 3) rfl (i := 2) rfl rfl ?_
      refine g_aload_n ok (dk m_Row_copy 3 rfl) (pc' := 4) rfl (i := 0) rfl rfl ?_
      refine g_get ok (dk m_Row_copy 4 rfl) (pc' := 7) rfl f_Row_9 hr1 rfl ?_
      refine g_alen ok (dk m_Row_copy 5 rfl) (pc' := 8) rfl (q_up_s _ _ _) rfl ?_
      refine g_icmp_ge ok (dk m_Row_copy 6 rfl) (tgt := 28) (by decide) (pc' := 11) rfl (fun c_8 => absurd c_8 (nI_ge (a := k) (b := n) (by omega) hn)) (fun c_8 => ?_)
      refine g_aload_n ok (dk m_Row_copy 7 rfl) (pc' := 12) rfl (i := 0) rfl rfl ?_
      refine g_get ok (dk m_Row_copy 8 rfl) (pc' := 15) rfl f_Row_9 hr1 rfl ?_
      refine g_iload_n ok (dk m_Row_copy 9 rfl) (pc' := 16) rfl (i := 2) rfl rfl ?_
      refine g_aload_n ok (dk m_Row_copy 10 rfl) (pc' := 17) rfl (i := 1) rfl rfl ?_
      refine g_iload_n ok (dk m_Row_copy 11 rfl) (pc' := 18) rfl (i := 2) rfl rfl ?_
      refine g_callV ok (dk m_Row_copy 12 rfl) (pc' := 21) rfl c_Row_21 (c_Row_get g (nI k) 0 hs1 hs2 hn2) hs1 rfl rfl (by simp [Value.category]) (by omega) rfl (rc' := 0) (rs' := 0) (by omega) (by omega) (fun rv h' hcc => ?_) (fun i h' hcc => by obtain ⟨e, -⟩ := hcc; cases e)
      obtain ⟨e, e2⟩ := hcc
      have e3 := e2.symm
      subst e3
      cases e
      refine g_iast ok (dk m_Row_copy 13 rfl) (pc' := 22) rfl (q_up_s _ _ _) (by omega) hn ?_
      refine g_heap (h' := q_up h c (.inr (0, n, .inl (r_copy (k + 1) (fun j => r_get n2 f2 (nI j)) f)))) (by rw [q_up_u]; exact congrArg (fun z => q_up h c (.inr (0, n, .inl z))) (r_copy_s k (fun j => r_get n2 f2 (nI j)) f)) ?_
      refine g_iinc ok (dk m_Row_copy 14 rfl) (pc' := 25) rfl rfl (nI_1 k) rfl ?_
      refine g_goto ok (dk m_Row_copy 15 rfl) (pc' := 2) (by decide) ?_
      exact ih (k + 1) (by omega)
  refine g_iconst ok (dk m_Row_copy 0 rfl) (pc' := 1) rfl (v := 0) (by decide) ?_
  refine g_istore_n ok (dk m_Row_copy 1 rfl) (pc' := 2) rfl (i := 2) rfl (Nat.le_of_ble_eq_true rfl) rfl ?_
  exact g_heap (by rw [r_copy_0, q_up_id hc]) (loop n 0 (by omega))
