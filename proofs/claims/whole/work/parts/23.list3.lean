/-- more room does no harm -/
theorem MG.more {g : q_G} {y : MethodName} {cc : ByteArray} {nL : Nat} {ret : Option FieldType} {d mc ms mc' ms' : Nat} {av : List Value} {h : q_H} {post : q_R → q_H → Prop} (hM : MG g y cc nL ret d mc ms av h post) (h1 : mc ≤ mc') (h2 : ms ≤ ms') : MG g y cc nL ret d mc' ms' av h post := by
  intro l hl sz p e ha hc hk s m args below hf happ hP hK
  have happ' : (headSpec (Cond.code y cc nL ret :: q_T) (q_rm d mc ms)).appliesLoose y e.platform s = true := by
    obtain ⟨a1, a2, a3, a4, a5, a6, a7, a8⟩ := (Spec.appliesLoose_iff hf).mp happ
    refine (Spec.appliesLoose_iff hf).mpr ⟨a1, a2, a3, a4, a5, a6, ?_, a8⟩
    simp only [State.hasRoom, Bool.and_eq_true, decide_eq_true_eq] at a7 ⊢
    refine ⟨⟨⟨a7.1.1.1, ?_⟩, ?_⟩, a7.2⟩
    · have := a7.1.1.2
      show s.heap.size + mc ≤ _
      exact Nat.le_trans (Nat.add_le_add_left h1 _) this
    · have := a7.1.2
      show s.slotsUsed + ms ≤ _
      exact Nat.le_trans (Nat.add_le_add_left h2 _) this
  obtain ⟨n, o, b1, b2, b3, b4, b5, b6, L, b7, b8⟩ := hM l hl sz p e ha hc hk s m args below hf happ' hP hK
  exact ⟨n, o, b1, b2, b3, b4, b5, b6, L, b7.mono h1 h2, b8⟩
/-! ===== ArrayList.add, size, get, clear ===== -/
set_option maxHeartbeats 1000000 in
theorem c_AL_add1R (g : q_G) {h : q_H} {a b n cnt : Nat} {f : Nat → Option Nat} {mv : Int32} {x ci : Nat} {C : String} {fs : List Value} (hx : h x = some (.inl (ci, fs))) (hax : a ≠ x) (hci : q_Ty ci C) (hcx : Cond.castable C "java/lang/Object" ∈ q_X) (d : Nat) (hd : 1 ≤ d) (hlt : cnt < n) (hn : n ≤ 100000) (ha : h a = some (.inl (3, [.ref b, .int (nI cnt), .int mv]))) (hb : h b = some (q_ra n f)) : MG g y_AL_add1 b_AL_add1 2 (some .boolean) d 0 0 [.ref a, .ref x] h (fun q h' => q = .inl (some (.int 1)) ∧ h' = q_up (q_up h b (q_ra n (va_up f cnt (some x)))) a (.inl (3, [.ref b, .int (nI (cnt + 1)), .int (mv + 1)]))) := by
  refine MG.of (by decide +kernel) (by simp [Value.category]) (Nat.le_of_ble_eq_true rfl) ?_
  intro Z A ok
  refine g_aload_n ok (dk m_AL_add1 0 rfl) (pc' := 1) rfl (i := 0) rfl rfl ?_
  refine g_dup ok (dk m_AL_add1 1 rfl) (pc' := 2) rfl rfl ?_
  refine g_get ok (dk m_AL_add1 2 rfl) (pc' := 5) rfl f_AL_63 ha rfl ?_
  refine g_iconst ok (dk m_AL_add1 3 rfl) (pc' := 6) rfl (v := 1) (by decide) ?_
  refine g_iadd ok (dk m_AL_add1 4 rfl) (pc' := 7) rfl ?_
  refine g_put ok (dk m_AL_add1 5 rfl) (pc' := 10) rfl f_AL_63 (Or.inl rfl) ha (Nat.le_of_ble_eq_true rfl) rfl rfl ?_
  refine g_aload_n ok (dk m_AL_add1 6 rfl) (pc' := 11) rfl (i := 0) rfl rfl ?_
  refine g_aload_n ok (dk m_AL_add1 7 rfl) (pc' := 12) rfl (i := 1) rfl rfl ?_
  refine g_aload_n ok (dk m_AL_add1 8 rfl) (pc' := 13) rfl (i := 0) rfl rfl ?_
  refine g_get ok (dk m_AL_add1 9 rfl) (pc' := 16) rfl f_AL_9 (q_up_s _ _ _) rfl ?_
  refine g_aload_n ok (dk m_AL_add1 10 rfl) (pc' := 17) rfl (i := 0) rfl rfl ?_
  refine g_get ok (dk m_AL_add1 11 rfl) (pc' := 20) rfl f_AL_48 (q_up_s _ _ _) rfl ?_
  refine g_callV ok (dk m_AL_add1 12 rfl) (pc' := 23) rfl c_AL_131 (c_AL_add2R g 0 hlt hn (q_up_s _ _ _) (show q_up h a (.inl (3, [.ref b, .int (nI cnt), .int (mv + 1)])) b = _ by rw [q_up_n (q_oa ha hb).symm]; exact hb) (show q_up h a (.inl (3, [.ref b, .int (nI cnt), .int (mv + 1)])) x = _ by rw [q_up_n hax.symm]; exact hx) hci hcx) (q_up_s _ _ _) rfl rfl (by simp [Value.category]) (by omega) rfl (rc' := 0) (rs' := 0) (by omega) (by omega) (fun rv h' hcc => ?_) (fun i h' hcc => by obtain ⟨e, -⟩ := hcc; cases e)
  obtain ⟨e, e2⟩ := hcc
  have e3 := e2.symm
  subst e3
  cases e
  refine g_iconst ok (dk m_AL_add1 13 rfl) (pc' := 24) rfl (v := 1) (by decide) ?_
  exact g_iret ok (dk m_AL_add1 14 rfl) rfl rfl ⟨rfl, by rw [q_up_c (q_oa ha hb), q_up_u]⟩
theorem q_none {h : q_H} {a c : Nat} {o : q_O} (hc : q_up h a o c = none) : h c = none := by
  by_cases e : c = a
  · rw [e, q_up_s] at hc
    cases hc
  · rw [q_up_n e] at hc
    exact hc
set_option maxHeartbeats 1000000 in
theorem c_AL_add1E (g : q_G) {h : q_H} {a : Nat} {mv : Int32} {x ci : Nat} {C : String} {fs : List Value} (hx : h x = some (.inl (ci, fs))) (hax : a ≠ x) (hci : q_Ty ci C) (hcx : Cond.castable C "java/lang/Object" ∈ q_X) (d mc ms : Nat) (hd : 4 ≤ d) (hm : 1 ≤ mc) (hs : 10 ≤ ms) (ha : h a = some (.inl (3, [.ref (q_ad g 0), .int (nI 0), .int mv]))) : MG g y_AL_add1 b_AL_add1 2 (some .boolean) d mc ms [.ref a, .ref x] h (fun q h' => ∃ c, q = .inl (some (.int 1)) ∧ h c = none ∧ q_bs g ≤ c ∧ h' = q_up (q_up h c (q_ra 10 (va_up (fun _ => none) 0 (some x)))) a (.inl (3, [.ref c, .int (nI (0 + 1)), .int (mv + 1)]))) := by
  refine MG.of (by decide +kernel) (by simp [Value.category]) (Nat.le_of_ble_eq_true rfl) ?_
  intro Z A ok
  refine g_aload_n ok (dk m_AL_add1 0 rfl) (pc' := 1) rfl (i := 0) rfl rfl ?_
  refine g_dup ok (dk m_AL_add1 1 rfl) (pc' := 2) rfl rfl ?_
  refine g_get ok (dk m_AL_add1 2 rfl) (pc' := 5) rfl f_AL_63 ha rfl ?_
  refine g_iconst ok (dk m_AL_add1 3 rfl) (pc' := 6) rfl (v := 1) (by decide) ?_
  refine g_iadd ok (dk m_AL_add1 4 rfl) (pc' := 7) rfl ?_
  refine g_put ok (dk m_AL_add1 5 rfl) (pc' := 10) rfl f_AL_63 (Or.inl rfl) ha (Nat.le_of_ble_eq_true rfl) rfl rfl ?_
  refine g_aload_n ok (dk m_AL_add1 6 rfl) (pc' := 11) rfl (i := 0) rfl rfl ?_
  refine g_aload_n ok (dk m_AL_add1 7 rfl) (pc' := 12) rfl (i := 1) rfl rfl ?_
  refine g_aload_n ok (dk m_AL_add1 8 rfl) (pc' := 13) rfl (i := 0) rfl rfl ?_
  refine g_get ok (dk m_AL_add1 9 rfl) (pc' := 16) rfl f_AL_9 (q_up_s _ _ _) rfl ?_
  refine g_aload_n ok (dk m_AL_add1 10 rfl) (pc' := 17) rfl (i := 0) rfl rfl ?_
  refine g_get ok (dk m_AL_add1 11 rfl) (pc' := 20) rfl f_AL_48 (q_up_s _ _ _) rfl ?_
  refine g_callV ok (dk m_AL_add1 12 rfl) (pc' := 23) rfl c_AL_131 (c_AL_add2E g 3 mc ms (by omega) hm hs (q_up_s _ _ _) (show q_up h a (.inl (3, [.ref (q_ad g 0), .int (nI 0), .int (mv + 1)])) x = _ by rw [q_up_n hax.symm]; exact hx) hax hci hcx) (q_up_s _ _ _) rfl rfl (by simp [Value.category]) (by omega) rfl (rc' := 0) (rs' := 0) (by omega) (by omega) (fun rv h' hcc => ?_) (fun i h' hcc => by obtain ⟨c, e, -⟩ := hcc; cases e)
  obtain ⟨c, e, hc, hcb, e2⟩ := hcc
  have e3 := e2.symm
  subst e3
  cases e
  refine g_iconst ok (dk m_AL_add1 13 rfl) (pc' := 24) rfl (v := 1) (by decide) ?_
  exact g_iret ok (dk m_AL_add1 14 rfl) rfl rfl ⟨c, rfl, q_none hc, hcb, by rw [q_up_c (q_on ha (q_none hc)), q_up_u]⟩
set_option maxHeartbeats 1000000 in
theorem c_AL_add1F (g : q_G) {h : q_H} {a b n : Nat} {f : Nat → Option Nat} {mv : Int32} {x ci : Nat} {C : String} {fs : List Value} (hx : h x = some (.inl (ci, fs))) (hax : a ≠ x) (hci : q_Ty ci C) (hcx : Cond.castable C "java/lang/Object" ∈ q_X) (d mc ms : Nat) (hd : 6 ≤ d) (hm : 1 ≤ mc) (hs : n + n / 2 ≤ ms) (h2 : 2 ≤ n) (hn : n ≤ 100000) (ha : h a = some (.inl (3, [.ref b, .int (nI n), .int mv]))) (hb : h b = some (q_ra n f)) (hel : ∀ i y : Nat, i < n → f i = some y → q_obj h y ∧ y ≠ a) : MG g y_AL_add1 b_AL_add1 2 (some .boolean) d mc ms [.ref a, .ref x] h (fun q h' => ∃ c, q = .inl (some (.int 1)) ∧ h c = none ∧ q_bs g ≤ c ∧ h' = q_up (q_up h c (q_ra (n + n / 2) (va_up (va_cpy f (fun _ => none) 0 0 n) n (some x)))) a (.inl (3, [.ref c, .int (nI (n + 1)), .int (mv + 1)]))) := by
  refine MG.of (by decide +kernel) (by simp [Value.category]) (Nat.le_of_ble_eq_true rfl) ?_
  intro Z A ok
  refine g_aload_n ok (dk m_AL_add1 0 rfl) (pc' := 1) rfl (i := 0) rfl rfl ?_
  refine g_dup ok (dk m_AL_add1 1 rfl) (pc' := 2) rfl rfl ?_
  refine g_get ok (dk m_AL_add1 2 rfl) (pc' := 5) rfl f_AL_63 ha rfl ?_
  refine g_iconst ok (dk m_AL_add1 3 rfl) (pc' := 6) rfl (v := 1) (by decide) ?_
  refine g_iadd ok (dk m_AL_add1 4 rfl) (pc' := 7) rfl ?_
  refine g_put ok (dk m_AL_add1 5 rfl) (pc' := 10) rfl f_AL_63 (Or.inl rfl) ha (Nat.le_of_ble_eq_true rfl) rfl rfl ?_
  refine g_aload_n ok (dk m_AL_add1 6 rfl) (pc' := 11) rfl (i := 0) rfl rfl ?_
  refine g_aload_n ok (dk m_AL_add1 7 rfl) (pc' := 12) rfl (i := 1) rfl rfl ?_
  refine g_aload_n ok (dk m_AL_add1 8 rfl) (pc' := 13) rfl (i := 0) rfl rfl ?_
  refine g_get ok (dk m_AL_add1 9 rfl) (pc' := 16) rfl f_AL_9 (q_up_s _ _ _) rfl ?_
  refine g_aload_n ok (dk m_AL_add1 10 rfl) (pc' := 17) rfl (i := 0) rfl rfl ?_
  refine g_get ok (dk m_AL_add1 11 rfl) (pc' := 20) rfl f_AL_48 (q_up_s _ _ _) rfl ?_
  refine g_callV ok (dk m_AL_add1 12 rfl) (pc' := 23) rfl c_AL_131 (c_AL_add2F g 5 mc ms (by omega) hm hs h2 hn (q_up_s _ _ _) (show q_up h a (.inl (3, [.ref b, .int (nI n), .int (mv + 1)])) b = _ by rw [q_up_n (q_oa ha hb).symm]; exact hb) (fun i y hi hy => by obtain ⟨⟨cj, D, gs, e1, e2, e3⟩, e4⟩ := hel i y hi hy; exact ⟨cj, D, gs, by rw [q_up_n e4]; exact e1, e2, e3⟩) (show q_up h a (.inl (3, [.ref b, .int (nI n), .int (mv + 1)])) x = _ by rw [q_up_n hax.symm]; exact hx) hax hci hcx) (q_up_s _ _ _) rfl rfl (by simp [Value.category]) (by omega) rfl (rc' := 0) (rs' := 0) (by omega) (by omega) (fun rv h' hcc => ?_) (fun i h' hcc => by obtain ⟨c, e, -⟩ := hcc; cases e)
  obtain ⟨c, e, hc, hcb, e2⟩ := hcc
  have e3 := e2.symm
  subst e3
  cases e
  refine g_iconst ok (dk m_AL_add1 13 rfl) (pc' := 24) rfl (v := 1) (by decide) ?_
  exact g_iret ok (dk m_AL_add1 14 rfl) rfl rfl ⟨c, rfl, q_none hc, hcb, by rw [q_up_c (q_on ha (q_none hc)), q_up_u]⟩
set_option maxHeartbeats 1000000 in
theorem c_AL_size (g : q_G) {h : q_H} {a : Nat} {e : Value} {cnt : Nat} {mv : Value} (d : Nat) (ha : h a = some (.inl (3, [e, .int (nI cnt), mv]))) : MG g y_AL_size b_AL_size 1 (some .int) d 0 0 [.ref a] h (fun q h' => q = .inl (some (.int (nI cnt))) ∧ h' = h) := by
  refine MG.of (by decide +kernel) (by simp [Value.category]) (Nat.le_of_ble_eq_true rfl) ?_
  intro Z A ok
  refine g_aload_n ok (dk m_AL_size 0 rfl) (pc' := 1) rfl (i := 0) rfl rfl ?_
  refine g_get ok (dk m_AL_size 1 rfl) (pc' := 4) rfl f_AL_48 ha rfl ?_
  exact g_iret ok (dk m_AL_size 2 rfl) rfl rfl ⟨rfl, rfl⟩
set_option maxHeartbeats 1000000 in
theorem c_Prec_checkIndex (g : q_G) {h : q_H} {i n : Nat} (d : Nat) (hi : i < n) (hn : n < 2 ^ 31) : MG g y_Prec_checkIndex b_Prec_checkIndex 3 (some .int) d 0 0 [.int (nI i), .int (nI n), .null] h (fun q h' => q = .inl (some (.int (nI i))) ∧ h' = h) := by
  refine MG.of (by decide +kernel) (by simp [Value.category]) (Nat.le_of_ble_eq_true rfl) ?_
  intro Z A ok
  refine g_iload_n ok (dk m_Prec_checkIndex 0 rfl) (pc' := 1) rfl (i := 0) rfl rfl ?_
  refine g_if_lt ok (dk m_Prec_checkIndex 1 rfl) (tgt := 9) (by decide) (pc' := 4) rfl (fun c_1 => absurd c_1 (nI_pos (by omega))) (fun c_1 => ?_)
  refine g_iload_n ok (dk m_Prec_checkIndex 2 rfl) (pc' := 5) rfl (i := 0) rfl rfl ?_
  refine g_iload_n ok (dk m_Prec_checkIndex 3 rfl) (pc' := 6) rfl (i := 1) rfl rfl ?_
  refine g_icmp_lt ok (dk m_Prec_checkIndex 4 rfl) (tgt := 16) (by decide) (pc' := 9) rfl (fun c_6 => ?_) (fun c_6 => absurd (nI_lt hi hn) c_6)
  refine g_iload_n ok (dk m_Prec_checkIndex 10 rfl) (pc' := 17) rfl (i := 0) rfl rfl ?_
  exact g_iret ok (dk m_Prec_checkIndex 11 rfl) rfl rfl ⟨rfl, rfl⟩
set_option maxHeartbeats 1000000 in
theorem c_Objs_checkIndex (g : q_G) {h : q_H} {i n : Nat} (d : Nat) (hd : 1 ≤ d) (hi : i < n) (hn : n < 2 ^ 31) : MG g y_Objs_checkIndex b_Objs_checkIndex 2 (some .int) d 0 0 [.int (nI i), .int (nI n)] h (fun q h' => q = .inl (some (.int (nI i))) ∧ h' = h) := by
  refine MG.of (by decide +kernel) (by simp [Value.category]) (Nat.le_of_ble_eq_true rfl) ?_
  intro Z A ok
  refine g_iload_n ok (dk m_Objs_checkIndex 0 rfl) (pc' := 1) rfl (i := 0) rfl rfl ?_
  refine g_iload_n ok (dk m_Objs_checkIndex 1 rfl) (pc' := 2) rfl (i := 1) rfl rfl ?_
  refine g_null ok (dk m_Objs_checkIndex 2 rfl) (pc' := 3) rfl ?_
  refine g_callS ok (dk m_Objs_checkIndex 3 rfl) (pc' := 6) rfl c_Objs_105 (c_Prec_checkIndex g 0 hi hn) rfl rfl (by simp [Value.category]) (by omega) rfl (rc' := 0) (rs' := 0) (by omega) (by omega) (fun rv h' hcc => ?_) (fun i h' hcc => by obtain ⟨e, -⟩ := hcc; cases e)
  obtain ⟨e, e2⟩ := hcc
  have e3 := e2.symm
  subst e3
  cases e
  exact g_iret ok (dk m_Objs_checkIndex 4 rfl) rfl rfl ⟨rfl, rfl⟩
set_option maxHeartbeats 1000000 in
theorem c_AL_elementData (g : q_G) {h : q_H} {a b n i x : Nat} {f : Nat → Option Nat} {s mv : Value} (d : Nat) (ha : h a = some (.inl (3, [.ref b, s, mv]))) (hb : h b = some (q_ra n f)) (hi : i < n) (hn : n < 2 ^ 31) (hf : f i = some x) : MG g y_AL_elementData b_AL_elementData 2 (some (.object "java/lang/Object")) d 0 0 [.ref a, .int (nI i)] h (fun q h' => q = .inl (some (.ref x)) ∧ h' = h) := by
  refine MG.of (by decide +kernel) (by simp [Value.category]) (Nat.le_of_ble_eq_true rfl) ?_
  intro Z A ok
  refine g_aload_n ok (dk m_AL_elementData 0 rfl) (pc' := 1) rfl (i := 0) rfl rfl ?_
  refine g_get ok (dk m_AL_elementData 1 rfl) (pc' := 4) rfl f_AL_9 ha rfl ?_
  refine g_iload_n ok (dk m_AL_elementData 2 rfl) (pc' := 5) rfl (i := 1) rfl rfl ?_
  refine g_aald ok (dk m_AL_elementData 3 rfl) (pc' := 6) rfl hb hi hn ?_
  refine g_top (w := .ref x) (by rw [hf]; rfl) ?_
  exact g_aret ok (dk m_AL_elementData 4 rfl) rfl (Or.inl ⟨_, rfl⟩) (Or.inr ⟨_, rfl⟩) ⟨rfl, rfl⟩
set_option maxHeartbeats 1000000 in
theorem c_AL_get (g : q_G) {h : q_H} {a : Nat} {ob : Option Nat} {cnt i : Nat} {el : Nat → Nat} (d : Nat) (hd : 2 ≤ d) (hl : q_lst g h a ob cnt el) (hi : i < cnt) : MG g y_AL_get b_AL_get 2 (some (.object "java/lang/Object")) d 0 0 [.ref a, .int (nI i)] h (fun q h' => q = .inl (some (.ref (el i))) ∧ h' = h) := by
  refine MG.of (by decide +kernel) (by simp [Value.category]) (Nat.le_of_ble_eq_true rfl) ?_
  intro Z A ok
  obtain ⟨b, n, f, mv, ha, hb, h3, h4, h5, hf⟩ : ∃ b n f mv, h a = some (.inl (3, [.ref b, .int (nI cnt), .int mv])) ∧ h b = some (q_ra n f) ∧ cnt ≤ n ∧ 10 ≤ n ∧ n ≤ 150 ∧ ∀ i, i < cnt → f i = some (el i) := by
    cases ob with
    | none =>
      obtain ⟨e, -⟩ := hl
      omega
    | some b =>
      obtain ⟨n, f, mv, hl⟩ := hl
      exact ⟨b, n, f, mv, hl⟩
  refine g_iload_n ok (dk m_AL_get 0 rfl) (pc' := 1) rfl (i := 1) rfl rfl ?_
  refine g_aload_n ok (dk m_AL_get 1 rfl) (pc' := 2) rfl (i := 0) rfl rfl ?_
  refine g_get ok (dk m_AL_get 2 rfl) (pc' := 5) rfl f_AL_48 ha rfl ?_
  refine g_callS ok (dk m_AL_get 3 rfl) (pc' := 8) rfl c_AL_118 (c_Objs_checkIndex g 1 (by omega) hi (by omega)) rfl rfl (by simp [Value.category]) (by omega) rfl (rc' := 0) (rs' := 0) (by omega) (by omega) (fun rv h' hcc => ?_) (fun i h' hcc => by obtain ⟨e, -⟩ := hcc; cases e)
  obtain ⟨e, e2⟩ := hcc
  have e3 := e2.symm
  subst e3
  cases e
  refine g_pop ok (dk m_AL_get 4 rfl) (pc' := 9) rfl rfl ?_
  refine g_aload_n ok (dk m_AL_get 5 rfl) (pc' := 10) rfl (i := 0) rfl rfl ?_
  refine g_iload_n ok (dk m_AL_get 6 rfl) (pc' := 11) rfl (i := 1) rfl rfl ?_
  refine g_callV ok (dk m_AL_get 7 rfl) (pc' := 14) rfl c_AL_123 (c_AL_elementData g 0 ha hb (by omega) (by omega) (hf i hi)) ha rfl rfl (by simp [Value.category]) (by omega) rfl (rc' := 0) (rs' := 0) (by omega) (by omega) (fun rv h' hcc => ?_) (fun i h' hcc => by obtain ⟨e, -⟩ := hcc; cases e)
  obtain ⟨e, e2⟩ := hcc
  have e3 := e2.symm
  subst e3
  cases e
  exact g_aret ok (dk m_AL_get 8 rfl) rfl (Or.inl ⟨_, rfl⟩) (Or.inr ⟨_, rfl⟩) ⟨rfl, rfl⟩
set_option maxHeartbeats 1000000 in
theorem c_AL_add (g : q_G) {h : q_H} {a : Nat} {ob : Option Nat} {cnt : Nat} {el : Nat → Nat} {x ci : Nat} {C : String} {fs : List Value} (d mc ms : Nat) (hd : 6 ≤ d) (hm : 1 ≤ mc) (hs : 110 ≤ ms) (hl : q_lst g h a ob cnt el) (hcnt : cnt ≤ 72) (hel : ∀ i, i < cnt → q_obj h (el i) ∧ el i ≠ a) (hx : h x = some (.inl (ci, fs))) (hax : a ≠ x) (hci : q_Ty ci C) (hcx : Cond.castable C "java/lang/Object" ∈ q_X) :
    MG g y_AL_add1 b_AL_add1 2 (some .boolean) d mc ms [.ref a, .ref x] h (fun q h' => q = .inl (some (.int 1)) ∧ ∃ ob', q_lst g h' a ob' (cnt + 1) (va_up el cnt x) ∧ (∀ y o, h y = some o → y ≠ a → (∀ b, ob = some b → y ≠ b) → h' y = some o) ∧ (ob' = ob ∨ ∃ c, ob' = some c ∧ h c = none ∧ q_bs g ≤ c) ∧ ∀ y, h y = none → ob' ≠ some y → h' y = none) := by
  have hup : ∀ i, i < cnt + 1 → ∀ f : Nat → Option Nat, (∀ i, i < cnt → f i = some (el i)) → va_up f cnt (some x) i = some (va_up el cnt x i) := by
    intro i hi f hf
    unfold va_up
    by_cases e : i = cnt
    · rw [if_pos e, if_pos e]
    · rw [if_neg e, if_neg e]
      exact hf i (by omega)
  cases ob with
  | none =>
    obtain ⟨rfl, mv, ha⟩ := hl
    refine MG.mono (c_AL_add1E g hx hax hci hcx d mc ms (by omega) hm (by omega) ha) ?_
    rintro q h' ⟨c, rfl, hc, hcb, rfl⟩
    have hca : c ≠ a := (q_on ha hc).symm
    refine ⟨rfl, some c, ⟨10, _, mv + 1, q_up_s _ _ _, by rw [q_up_n hca, q_up_s], by omega, by omega, by omega, fun i hi => hup i hi _ (fun i hi => by omega)⟩, fun y o hy h1 _ => by rw [q_up_n h1, q_up_n (q_on hy hc)]; exact hy, Or.inr ⟨c, rfl, hc, hcb⟩, fun y hy h1 => by rw [q_up_n (fun e => by rw [e, ha] at hy; cases hy), q_up_n (fun e => h1 (by rw [e]))]; exact hy⟩
  | some b =>
    obtain ⟨n, f, mv, ha, hb, h3, h4, h5, hf⟩ := hl
    rcases Nat.lt_or_ge cnt n with hlt | hge
    · have hM := c_AL_add1R g hx hax hci hcx d (by omega) hlt (by omega) ha hb
      refine MG.mono (MG.more hM (Nat.zero_le _) (Nat.zero_le _)) ?_
      rintro q h' ⟨rfl, rfl⟩
      have hba : b ≠ a := (q_oa ha hb).symm
      refine ⟨rfl, some b, ⟨n, _, mv + 1, q_up_s _ _ _, by rw [q_up_n hba, q_up_s], by omega, h4, h5, fun i hi => hup i hi f hf⟩, fun y o hy h1 h2 => by rw [q_up_n h1, q_up_n (h2 b rfl)]; exact hy, Or.inl rfl, fun y hy h1 => by rw [q_up_n (fun e => by rw [e, ha] at hy; cases hy), q_up_n (fun e => h1 (by rw [e]))]; exact hy⟩
    · have hn : n = cnt := by omega
      subst hn
      refine MG.mono (c_AL_add1F g hx hax hci hcx d mc ms hd hm (by omega) (by omega) (by omega) ha hb (fun i y hi hy => by rw [hf i hi] at hy; cases hy; exact hel i hi)) ?_
      rintro q h' ⟨c, rfl, hc, hcb, rfl⟩
      have hca : c ≠ a := (q_on ha hc).symm
      refine ⟨rfl, some c, ⟨n + n / 2, _, mv + 1, q_up_s _ _ _, by rw [q_up_n hca, q_up_s], by omega, by omega, by omega, fun i hi => hup i hi _ (fun i hi => by unfold va_cpy; rw [if_pos ⟨Nat.zero_le _, by omega⟩]; rw [show 0 + (i - 0) = i by omega]; exact hf i hi)⟩, fun y o hy h1 _ => by rw [q_up_n h1, q_up_n (q_on hy hc)]; exact hy, Or.inr ⟨c, rfl, hc, hcb⟩, fun y hy h1 => by rw [q_up_n (fun e => by rw [e, ha] at hy; cases hy), q_up_n (fun e => h1 (by rw [e]))]; exact hy⟩
