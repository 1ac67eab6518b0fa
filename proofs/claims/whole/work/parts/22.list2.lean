/-! ===== a list: its object a, its array (none: the shared empty one), how many, which ===== -/
def q_lst (g : q_G) (h : q_H) (a : Nat) (ob : Option Nat) (cnt : Nat) (el : Nat → Nat) : Prop := match ob with
  | none => cnt = 0 ∧ ∃ mv : Int32, h a = some (.inl (3, [.ref (q_ad g 0), .int (nI 0), .int mv]))
  | some b => ∃ (n : Nat) (f : Nat → Option Nat) (mv : Int32), h a = some (.inl (3, [.ref b, .int (nI cnt), .int mv])) ∧ h b = some (q_ra n f) ∧ cnt ≤ n ∧ 10 ≤ n ∧ n ≤ 150 ∧ ∀ i, i < cnt → f i = some (el i)
theorem q_lst.size {g : q_G} {h : q_H} {a : Nat} {ob : Option Nat} {cnt : Nat} {el : Nat → Nat} (hl : q_lst g h a ob cnt el) : ∃ e mv, h a = some (.inl (3, [e, .int (nI cnt), .int mv])) := by
  cases ob with
  | none =>
    obtain ⟨rfl, mv, h1⟩ := hl
    exact ⟨_, mv, h1⟩
  | some b =>
    obtain ⟨n, f, mv, h1, -⟩ := hl
    exact ⟨_, mv, h1⟩
theorem q_lst.le {g : q_G} {h : q_H} {a : Nat} {ob : Option Nat} {cnt : Nat} {el : Nat → Nat} (hl : q_lst g h a ob cnt el) : cnt ≤ 150 := by
  cases ob with
  | none =>
    obtain ⟨rfl, mv, h1⟩ := hl
    omega
  | some b =>
    obtain ⟨n, f, mv, h1, h2, h3, h4, h5, -⟩ := hl
    omega
set_option maxHeartbeats 1000000 in
theorem c_AL_grow1E (g : q_G) {h : q_H} {a : Nat} {mv : Value} (d mc ms : Nat) (hd : 2 ≤ d) (hm : 1 ≤ mc) (hs : 10 ≤ ms) (ha : h a = some (.inl (3, [.ref (q_ad g 0), .int (nI 0), mv]))) : MG g y_AL_grow1 b_AL_grow1 1 (some (.array (.object "java/lang/Object"))) d mc ms [.ref a] h (fun q h' => ∃ c, q = .inl (some (.ref c)) ∧ h c = none ∧ q_bs g ≤ c ∧ h' = q_up (q_up h a (.inl (3, [.ref c, .int (nI 0), mv]))) c (q_ra 10 (fun _ => none))) := by
  refine MG.of (by decide +kernel) (by simp [Value.category]) (Nat.le_of_ble_eq_true rfl) ?_
  intro Z A ok
  refine g_aload_n ok (dk m_AL_grow1 0 rfl) (pc' := 1) rfl (i := 0) rfl rfl ?_
  refine g_aload_n ok (dk m_AL_grow1 1 rfl) (pc' := 2) rfl (i := 0) rfl rfl ?_
  refine g_get ok (dk m_AL_grow1 2 rfl) (pc' := 5) rfl f_AL_48 ha rfl ?_
  refine g_iconst ok (dk m_AL_grow1 3 rfl) (pc' := 6) rfl (v := 1) (by decide) ?_
  refine g_iadd ok (dk m_AL_grow1 4 rfl) (pc' := 7) rfl ?_
  refine g_top (w := .int (nI 1)) rfl ?_
  refine g_callV ok (dk m_AL_grow1 5 rfl) (pc' := 10) rfl c_AL_69 (c_AL_grow2E g 1 mc ms (by omega) hm hs ha) ha rfl rfl (by simp [Value.category]) (by omega) rfl (rc' := 0) (rs' := 0) (by omega) (by omega) (fun rv h' hcc => ?_) (fun i h' hcc => by obtain ⟨c, e, -⟩ := hcc; cases e)
  obtain ⟨c, e, hc, hcb, e2⟩ := hcc
  have e3 := e2.symm
  subst e3
  cases e
  exact g_aret ok (dk m_AL_grow1 6 rfl) rfl (Or.inr ⟨_, rfl⟩) (Or.inr ⟨_, rfl⟩) ⟨c, rfl, hc, hcb, rfl⟩
set_option maxHeartbeats 1000000 in
theorem c_AL_grow1F (g : q_G) {h : q_H} {a b n : Nat} {f : Nat → Option Nat} {mv : Value} (d mc ms : Nat) (hd : 4 ≤ d) (hm : 1 ≤ mc) (hs : n + n / 2 ≤ ms) (h2 : 2 ≤ n) (hn : n ≤ 100000) (ha : h a = some (.inl (3, [.ref b, .int (nI n), mv]))) (hb : h b = some (q_ra n f)) (hel : ∀ i y : Nat, i < n → f i = some y → q_obj h y) : MG g y_AL_grow1 b_AL_grow1 1 (some (.array (.object "java/lang/Object"))) d mc ms [.ref a] h (fun q h' => ∃ c, q = .inl (some (.ref c)) ∧ h c = none ∧ q_bs g ≤ c ∧ h' = q_up (q_up h a (.inl (3, [.ref c, .int (nI n), mv]))) c (q_ra (n + n / 2) (va_cpy f (fun _ => none) 0 0 n))) := by
  refine MG.of (by decide +kernel) (by simp [Value.category]) (Nat.le_of_ble_eq_true rfl) ?_
  intro Z A ok
  refine g_aload_n ok (dk m_AL_grow1 0 rfl) (pc' := 1) rfl (i := 0) rfl rfl ?_
  refine g_aload_n ok (dk m_AL_grow1 1 rfl) (pc' := 2) rfl (i := 0) rfl rfl ?_
  refine g_get ok (dk m_AL_grow1 2 rfl) (pc' := 5) rfl f_AL_48 ha rfl ?_
  refine g_iconst ok (dk m_AL_grow1 3 rfl) (pc' := 6) rfl (v := 1) (by decide) ?_
  refine g_iadd ok (dk m_AL_grow1 4 rfl) (pc' := 7) rfl ?_
  refine g_top (w := .int (nI (n + 1))) (by rw [nI_1]) ?_
  refine g_callV ok (dk m_AL_grow1 5 rfl) (pc' := 10) rfl c_AL_69 (c_AL_grow2F g 3 mc ms (by omega) hm hs h2 hn ha hb hel) ha rfl rfl (by simp [Value.category]) (by omega) rfl (rc' := 0) (rs' := 0) (by omega) (by omega) (fun rv h' hcc => ?_) (fun i h' hcc => by obtain ⟨c, e, -⟩ := hcc; cases e)
  obtain ⟨c, e, hc, hcb, e2⟩ := hcc
  have e3 := e2.symm
  subst e3
  cases e
  exact g_aret ok (dk m_AL_grow1 6 rfl) rfl (Or.inr ⟨_, rfl⟩) (Or.inr ⟨_, rfl⟩) ⟨c, rfl, hc, hcb, rfl⟩
set_option maxHeartbeats 1000000 in
theorem c_AL_add2R (g : q_G) {h : q_H} {a b n cnt x ci : Nat} {C : String} {fs : List Value} {f : Nat → Option Nat} {mv : Value} (d : Nat) (hlt : cnt < n) (hn : n ≤ 100000) (ha : h a = some (.inl (3, [.ref b, .int (nI cnt), mv]))) (hb : h b = some (q_ra n f)) (hx : h x = some (.inl (ci, fs))) (hci : q_Ty ci C) (hcx : Cond.castable C "java/lang/Object" ∈ q_X) : MG g y_AL_add2 b_AL_add2 4 none d 0 0 [.ref a, .ref x, .ref b, .int (nI cnt)] h (fun q h' => q = .inl none ∧ h' = q_up (q_up h b (q_ra n (va_up f cnt (some x)))) a (.inl (3, [.ref b, .int (nI (cnt + 1)), mv]))) := by
  refine MG.of (by decide +kernel) (by simp [Value.category]) (Nat.le_of_ble_eq_true rfl) ?_
  intro Z A ok
  refine g_iload_n ok (dk m_AL_add2 0 rfl) (pc' := 1) rfl (i := 3) rfl rfl ?_
  refine g_aload_n ok (dk m_AL_add2 1 rfl) (pc' := 2) rfl (i := 2) rfl rfl ?_
  refine g_alen ok (dk m_AL_add2 2 rfl) (pc' := 3) rfl hb rfl ?_
  refine g_icmp_ne ok (dk m_AL_add2 3 rfl) (tgt := 11) (by decide) (pc' := 6) rfl (fun c_3 => ?_) (fun c_3 => absurd c_3 (fun e => by have := (nI_eq (a := cnt) (b := n) (by omega) (by omega)).mp e; omega))
  refine g_aload_n ok (dk m_AL_add2 7 rfl) (pc' := 12) rfl (i := 2) rfl rfl ?_
  refine g_iload_n ok (dk m_AL_add2 8 rfl) (pc' := 13) rfl (i := 3) rfl rfl ?_
  refine g_aload_n ok (dk m_AL_add2 9 rfl) (pc' := 14) rfl (i := 1) rfl rfl ?_
  refine g_aast ok (dk m_AL_add2 10 rfl) (pc' := 15) rfl hb hlt (by omega) hci hcx hx ?_
  refine g_aload_n ok (dk m_AL_add2 11 rfl) (pc' := 16) rfl (i := 0) rfl rfl ?_
  refine g_iload_n ok (dk m_AL_add2 12 rfl) (pc' := 17) rfl (i := 3) rfl rfl ?_
  refine g_iconst ok (dk m_AL_add2 13 rfl) (pc' := 18) rfl (v := 1) (by decide) ?_
  refine g_iadd ok (dk m_AL_add2 14 rfl) (pc' := 19) rfl ?_
  refine g_top (w := .int (nI (cnt + 1))) (by rw [nI_1]) ?_
  refine g_put ok (dk m_AL_add2 15 rfl) (pc' := 22) rfl f_AL_48 (Or.inl rfl) (show q_up h b _ a = _ by rw [q_up_n (q_oa ha hb)]; exact ha) (Nat.le_of_ble_eq_true rfl) rfl rfl ?_
  exact g_vret ok (dk m_AL_add2 16 rfl) rfl ⟨rfl, rfl⟩
set_option maxHeartbeats 1000000 in
theorem c_AL_add2E (g : q_G) {h : q_H} {a x ci : Nat} {C : String} {fs : List Value} {mv : Value} (d mc ms : Nat) (hd : 3 ≤ d) (hm : 1 ≤ mc) (hs : 10 ≤ ms) (ha : h a = some (.inl (3, [.ref (q_ad g 0), .int (nI 0), mv]))) (hx : h x = some (.inl (ci, fs))) (hax : a ≠ x) (hci : q_Ty ci C) (hcx : Cond.castable C "java/lang/Object" ∈ q_X) : MG g y_AL_add2 b_AL_add2 4 none d mc ms [.ref a, .ref x, .ref (q_ad g 0), .int (nI 0)] h (fun q h' => ∃ c, q = .inl none ∧ h c = none ∧ q_bs g ≤ c ∧ h' = q_up (q_up h c (q_ra (10) (va_up (fun _ => none) 0 (some x)))) a (.inl (3, [.ref c, .int (nI (0 + 1)), mv]))) := by
  refine MG.of (by decide +kernel) (by simp [Value.category]) (Nat.le_of_ble_eq_true rfl) ?_
  intro Z A ok
  refine g_iload_n ok (dk m_AL_add2 0 rfl) (pc' := 1) rfl (i := 3) rfl rfl ?_
  refine g_aload_n ok (dk m_AL_add2 1 rfl) (pc' := 2) rfl (i := 2) rfl rfl ?_
  refine g_alenE ok (dk m_AL_add2 2 rfl) (pc' := 3) rfl ?_
  refine g_icmp_ne ok (dk m_AL_add2 3 rfl) (tgt := 11) (by decide) (pc' := 6) rfl (fun c_3 => absurd rfl c_3) (fun c_3 => ?_)
  refine g_aload_n ok (dk m_AL_add2 4 rfl) (pc' := 7) rfl (i := 0) rfl rfl ?_
  refine g_callV ok (dk m_AL_add2 5 rfl) (pc' := 10) rfl c_AL_129 (c_AL_grow1E g 2 mc ms (by omega) hm hs ha) ha rfl rfl (by simp [Value.category]) (by omega) rfl (rc' := 0) (rs' := 0) (by omega) (by omega) (fun rv h' hcc => ?_) (fun i h' hcc => by obtain ⟨c, e, -⟩ := hcc; cases e)
  obtain ⟨c, e, hc, hcb, e2⟩ := hcc
  have e3 := e2.symm
  subst e3
  cases e
  refine g_astore_n ok (dk m_AL_add2 6 rfl) (pc' := 11) rfl (i := 2) rfl (Nat.le_of_ble_eq_true rfl) rfl ?_
  refine g_aload_n ok (dk m_AL_add2 7 rfl) (pc' := 12) rfl (i := 2) rfl rfl ?_
  refine g_iload_n ok (dk m_AL_add2 8 rfl) (pc' := 13) rfl (i := 3) rfl rfl ?_
  refine g_aload_n ok (dk m_AL_add2 9 rfl) (pc' := 14) rfl (i := 1) rfl rfl ?_
  refine g_aast ok (dk m_AL_add2 10 rfl) (pc' := 15) rfl (q_up_s _ _ _) (by omega) (by omega) hci hcx (show q_up (q_up h a _) c _ x = _ by rw [q_up_n (q_on hx hc), q_up_n hax.symm]; exact hx) ?_
  refine g_aload_n ok (dk m_AL_add2 11 rfl) (pc' := 16) rfl (i := 0) rfl rfl ?_
  refine g_iload_n ok (dk m_AL_add2 12 rfl) (pc' := 17) rfl (i := 3) rfl rfl ?_
  refine g_iconst ok (dk m_AL_add2 13 rfl) (pc' := 18) rfl (v := 1) (by decide) ?_
  refine g_iadd ok (dk m_AL_add2 14 rfl) (pc' := 19) rfl ?_
  refine g_top (w := .int (nI (0 + 1))) (by rw [nI_1]) ?_
  refine g_put ok (dk m_AL_add2 15 rfl) (pc' := 22) rfl f_AL_48 (Or.inl rfl) (show q_up (q_up (q_up h a _) c _) c _ a = _ by rw [q_up_u, q_up_n (q_on ha hc), q_up_s]) (Nat.le_of_ble_eq_true rfl) rfl rfl ?_
  exact g_vret ok (dk m_AL_add2 16 rfl) rfl ⟨c, rfl, hc, hcb, by rw [q_up_u, q_up_c (q_on ha hc), q_up_u]; rfl⟩
set_option maxHeartbeats 1000000 in
theorem c_AL_add2F (g : q_G) {h : q_H} {a b n x ci : Nat} {C : String} {fs : List Value} {f : Nat → Option Nat} {mv : Value} (d mc ms : Nat) (hd : 5 ≤ d) (hm : 1 ≤ mc) (hs : n + n / 2 ≤ ms) (h2 : 2 ≤ n) (hn : n ≤ 100000) (ha : h a = some (.inl (3, [.ref b, .int (nI n), mv]))) (hb : h b = some (q_ra n f)) (hel : ∀ i y : Nat, i < n → f i = some y → q_obj h y) (hx : h x = some (.inl (ci, fs))) (hax : a ≠ x) (hci : q_Ty ci C) (hcx : Cond.castable C "java/lang/Object" ∈ q_X) : MG g y_AL_add2 b_AL_add2 4 none d mc ms [.ref a, .ref x, .ref b, .int (nI n)] h (fun q h' => ∃ c, q = .inl none ∧ h c = none ∧ q_bs g ≤ c ∧ h' = q_up (q_up h c (q_ra (n + n / 2) (va_up (va_cpy f (fun _ => none) 0 0 n) n (some x)))) a (.inl (3, [.ref c, .int (nI (n + 1)), mv]))) := by
  refine MG.of (by decide +kernel) (by simp [Value.category]) (Nat.le_of_ble_eq_true rfl) ?_
  intro Z A ok
  refine g_iload_n ok (dk m_AL_add2 0 rfl) (pc' := 1) rfl (i := 3) rfl rfl ?_
  refine g_aload_n ok (dk m_AL_add2 1 rfl) (pc' := 2) rfl (i := 2) rfl rfl ?_
  refine g_alen ok (dk m_AL_add2 2 rfl) (pc' := 3) rfl hb rfl ?_
  refine g_icmp_ne ok (dk m_AL_add2 3 rfl) (tgt := 11) (by decide) (pc' := 6) rfl (fun c_3 => absurd rfl c_3) (fun c_3 => ?_)
  refine g_aload_n ok (dk m_AL_add2 4 rfl) (pc' := 7) rfl (i := 0) rfl rfl ?_
  refine g_callV ok (dk m_AL_add2 5 rfl) (pc' := 10) rfl c_AL_129 (c_AL_grow1F g 4 mc ms (by omega) hm hs h2 hn ha hb hel) ha rfl rfl (by simp [Value.category]) (by omega) rfl (rc' := 0) (rs' := 0) (by omega) (by omega) (fun rv h' hcc => ?_) (fun i h' hcc => by obtain ⟨c, e, -⟩ := hcc; cases e)
  obtain ⟨c, e, hc, hcb, e2⟩ := hcc
  have e3 := e2.symm
  subst e3
  cases e
  refine g_astore_n ok (dk m_AL_add2 6 rfl) (pc' := 11) rfl (i := 2) rfl (Nat.le_of_ble_eq_true rfl) rfl ?_
  refine g_aload_n ok (dk m_AL_add2 7 rfl) (pc' := 12) rfl (i := 2) rfl rfl ?_
  refine g_iload_n ok (dk m_AL_add2 8 rfl) (pc' := 13) rfl (i := 3) rfl rfl ?_
  refine g_aload_n ok (dk m_AL_add2 9 rfl) (pc' := 14) rfl (i := 1) rfl rfl ?_
  refine g_aast ok (dk m_AL_add2 10 rfl) (pc' := 15) rfl (q_up_s _ _ _) (by omega) (by omega) hci hcx (show q_up (q_up h a _) c _ x = _ by rw [q_up_n (q_on hx hc), q_up_n hax.symm]; exact hx) ?_
  refine g_aload_n ok (dk m_AL_add2 11 rfl) (pc' := 16) rfl (i := 0) rfl rfl ?_
  refine g_iload_n ok (dk m_AL_add2 12 rfl) (pc' := 17) rfl (i := 3) rfl rfl ?_
  refine g_iconst ok (dk m_AL_add2 13 rfl) (pc' := 18) rfl (v := 1) (by decide) ?_
  refine g_iadd ok (dk m_AL_add2 14 rfl) (pc' := 19) rfl ?_
  refine g_top (w := .int (nI (n + 1))) (by rw [nI_1]) ?_
  refine g_put ok (dk m_AL_add2 15 rfl) (pc' := 22) rfl f_AL_48 (Or.inl rfl) (show q_up (q_up (q_up h a _) c _) c _ a = _ by rw [q_up_u, q_up_n (q_on ha hc), q_up_s]) (Nat.le_of_ble_eq_true rfl) rfl rfl ?_
  exact g_vret ok (dk m_AL_add2 16 rfl) rfl ⟨c, rfl, hc, hcb, by rw [q_up_u, q_up_c (q_on ha hc), q_up_u]; rfl⟩
