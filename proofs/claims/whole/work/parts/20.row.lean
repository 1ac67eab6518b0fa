/-! ===== Row: numbers behind tested indices; Arrays.fill ===== -/
def r_in (n : Nat) (i : Int32) : Prop := ¬ i < 0 ∧ ¬ nI n ≤ i
theorem r_in_of {n : Nat} {i : Int32} (hn : n < 2 ^ 31) (h : r_in n i) : ∃ j : Nat, j < n ∧ i = nI j := by
  obtain ⟨j, hj, e⟩ := nI_of h.1
  refine ⟨j, ?_, e⟩
  rcases Nat.lt_or_ge j n with q | q
  · exact q
  · exact absurd (by rw [e]; exact nI_le q hj) h.2
theorem r_in_nI {n j : Nat} (hj : j < n) (hn : n < 2 ^ 31) : r_in n (nI j) := ⟨nI_pos (by omega), nI_ge hj hn⟩
noncomputable def r_get (n : Nat) (f : Nat → Int32) (i : Int32) : Int32 := by
  classical exact if r_in n i then f i.toNatClampNeg else -1
noncomputable def r_put (n : Nat) (f : Nat → Int32) (i v : Int32) : Nat → Int32 := by
  classical exact if r_in n i then upd f i.toNatClampNeg v else f
theorem r_get_in {n j : Nat} {f : Nat → Int32} (hj : j < n) (hn : n < 2 ^ 31) : r_get n f (nI j) = f j := by
  unfold r_get
  rw [if_pos (r_in_nI hj hn), nI_clamp (by omega)]
theorem r_get_out {n : Nat} {f : Nat → Int32} {i : Int32} (h : ¬ r_in n i) : r_get n f i = -1 := by
  unfold r_get
  rw [if_neg h]
theorem r_put_in {n j : Nat} {f : Nat → Int32} {v : Int32} (hj : j < n) (hn : n < 2 ^ 31) : r_put n f (nI j) v = upd f j v := by
  unfold r_put
  rw [if_pos (r_in_nI hj hn), nI_clamp (by omega)]
theorem r_put_out {n : Nat} {f : Nat → Int32} {i v : Int32} (h : ¬ r_in n i) : r_put n f i v = f := by
  unfold r_put
  rw [if_neg h]
abbrev q_row (h : q_H) (r c n : Nat) (f : Nat → Int32) : Prop := h r = some (.inl (2, [.ref c])) ∧ h c = some (.inr (0, n, .inl f))
theorem q_up_id {h : q_H} {a : Nat} {o : q_O} (e : h a = some o) : q_up h a o = h := by
  funext b
  unfold q_up
  by_cases hb : b = a
  · rw [if_pos hb, hb, e]
  · rw [if_neg hb]
set_option maxHeartbeats 1000000 in
theorem c_Row_get (g : q_G) {h : q_H} {r c n : Nat} {f : Nat → Int32} (i : Int32) (d : Nat) (hr : h r = some (.inl (2, [.ref c]))) (hc : h c = some (.inr (0, n, .inl f))) (hn : n < 2 ^ 31) : MG g y_Row_get b_Row_get 2 (some .int) d 0 0 [.ref r, .int i] h (fun q h' => q = .inl (some (.int (r_get n f i))) ∧ h' = h) := by
  refine MG.of (by decide) (by simp [Value.category]) (Nat.le_of_ble_eq_true rfl) ?_
  intro Z A ok
  refine g_iload_n ok (dk m_Row_get 0 rfl) (pc' := 1) rfl (i := 1) rfl rfl ?_
  refine g_if_lt ok (dk m_Row_get 1 rfl) (tgt := 22) (by decide) (pc' := 4) rfl (fun c_1 => ?_) (fun c_1 => ?_)
  · refine g_iconst ok (dk m_Row_get 12 rfl) (pc' := 23) rfl (v := (-1)) (by decide) ?_
    exact g_iret ok (dk m_Row_get 13 rfl) rfl rfl ⟨by rw [r_get_out (fun z => z.1 c_1)], rfl⟩
  · refine g_iload_n ok (dk m_Row_get 2 rfl) (pc' := 5) rfl (i := 1) rfl rfl ?_
    refine g_aload_n ok (dk m_Row_get 3 rfl) (pc' := 6) rfl (i := 0) rfl rfl ?_
    refine g_get ok (dk m_Row_get 4 rfl) (pc' := 9) rfl f_Row_9 (by assumption) rfl ?_
    refine g_alen ok (dk m_Row_get 5 rfl) (pc' := 10) rfl (by assumption) rfl ?_
    refine g_icmp_ge ok (dk m_Row_get 6 rfl) (tgt := 22) (by decide) (pc' := 13) rfl (fun c_10 => ?_) (fun c_10 => ?_)
    · refine g_iconst ok (dk m_Row_get 12 rfl) (pc' := 23) rfl (v := (-1)) (by decide) ?_
      exact g_iret ok (dk m_Row_get 13 rfl) rfl rfl ⟨by rw [r_get_out (fun z => z.2 c_10)], rfl⟩
    · refine g_aload_n ok (dk m_Row_get 7 rfl) (pc' := 14) rfl (i := 0) rfl rfl ?_
      refine g_get ok (dk m_Row_get 8 rfl) (pc' := 17) rfl f_Row_9 (by assumption) rfl ?_
      refine g_iload_n ok (dk m_Row_get 9 rfl) (pc' := 18) rfl (i := 1) rfl rfl ?_
      obtain ⟨j, hj, rfl⟩ := r_in_of hn ⟨c_1, c_10⟩
      refine g_iald ok (dk m_Row_get 10 rfl) (pc' := 19) rfl hc hj hn ?_
      refine g_goto ok (dk m_Row_get 11 rfl) (pc' := 23) (by decide) ?_
      exact g_iret ok (dk m_Row_get 13 rfl) rfl rfl ⟨by rw [r_get_in hj hn], rfl⟩
set_option maxHeartbeats 1000000 in
theorem c_Row_put (g : q_G) {h : q_H} {r c n : Nat} {f : Nat → Int32} (i v : Int32) (d : Nat) (hr : h r = some (.inl (2, [.ref c]))) (hc : h c = some (.inr (0, n, .inl f))) (hn : n < 2 ^ 31) : MG g y_Row_put b_Row_put 3 none d 0 0 [.ref r, .int i, .int v] h (fun q h' => q = .inl none ∧ h' = q_up h c (.inr (0, n, .inl (r_put n f i v)))) := by
  refine MG.of (by decide) (by simp [Value.category]) (Nat.le_of_ble_eq_true rfl) ?_
  intro Z A ok
  refine g_iload_n ok (dk m_Row_put 0 rfl) (pc' := 1) rfl (i := 1) rfl rfl ?_
  refine g_if_lt ok (dk m_Row_put 1 rfl) (tgt := 20) (by decide) (pc' := 4) rfl (fun c_1 => ?_) (fun c_1 => ?_)
  · exact g_vret ok (dk m_Row_put 12 rfl) rfl ⟨rfl, by rw [r_put_out (fun z => z.1 c_1), q_up_id hc]⟩
  · refine g_iload_n ok (dk m_Row_put 2 rfl) (pc' := 5) rfl (i := 1) rfl rfl ?_
    refine g_aload_n ok (dk m_Row_put 3 rfl) (pc' := 6) rfl (i := 0) rfl rfl ?_
    refine g_get ok (dk m_Row_put 4 rfl) (pc' := 9) rfl f_Row_9 (by assumption) rfl ?_
    refine g_alen ok (dk m_Row_put 5 rfl) (pc' := 10) rfl (by assumption) rfl ?_
    refine g_icmp_ge ok (dk m_Row_put 6 rfl) (tgt := 20) (by decide) (pc' := 13) rfl (fun c_10 => ?_) (fun c_10 => ?_)
    · exact g_vret ok (dk m_Row_put 12 rfl) rfl ⟨rfl, by rw [r_put_out (fun z => z.2 c_10), q_up_id hc]⟩
    · refine g_aload_n ok (dk m_Row_put 7 rfl) (pc' := 14) rfl (i := 0) rfl rfl ?_
      refine g_get ok (dk m_Row_put 8 rfl) (pc' := 17) rfl f_Row_9 (by assumption) rfl ?_
      refine g_iload_n ok (dk m_Row_put 9 rfl) (pc' := 18) rfl (i := 1) rfl rfl ?_
      refine g_iload_n ok (dk m_Row_put 10 rfl) (pc' := 19) rfl (i := 2) rfl rfl ?_
      obtain ⟨j, hj, rfl⟩ := r_in_of hn ⟨c_1, c_10⟩
      refine g_iast ok (dk m_Row_put 11 rfl) (pc' := 20) rfl hc hj hn ?_
      exact g_vret ok (dk m_Row_put 12 rfl) rfl ⟨rfl, by rw [r_put_in hj hn]⟩
