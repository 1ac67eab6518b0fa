/-! ===== java.util.ArrayList, and what it stands on ===== -/
theorem g_acmpR_eq {g : q_G} {Z : q_Z} {A : Nat → Prop} {post : q_R → q_H → Prop} {rc rs : Nat} {h : q_H} {pc pc' : Nat} {ls : List (Option Value)} {st : List Value} {own name : String} {cc : ByteArray} {nL d : Nat} {ret : Option FieldType} (ok : q_ok g Z A own name cc nL ret d) {x y : Nat} {off : Int} {tgt : Nat} (hd : decode cc pc = .ok (.if_acmp .eq off, 3)) (ht : (pc : Int) + off = (tgt : Int)) (hp : pc + 3 = pc') (kt : x = y → GW g Z A post rc rs h tgt ls st) (kf : ¬ x = y → GW g Z A post rc rs h pc' ls st) : GW g Z A post rc rs h pc ls (.ref y :: .ref x :: st) :=
  g_acmp_eq (rx := some x) (ry := some y) ok hd ht hp (fun z => kt (Option.some.inj z)) (fun z => kf (fun e => z (by rw [e])))
theorem g_acmpR_ne {g : q_G} {Z : q_Z} {A : Nat → Prop} {post : q_R → q_H → Prop} {rc rs : Nat} {h : q_H} {pc pc' : Nat} {ls : List (Option Value)} {st : List Value} {own name : String} {cc : ByteArray} {nL d : Nat} {ret : Option FieldType} (ok : q_ok g Z A own name cc nL ret d) {x y : Nat} {off : Int} {tgt : Nat} (hd : decode cc pc = .ok (.if_acmp .ne off, 3)) (ht : (pc : Int) + off = (tgt : Int)) (hp : pc + 3 = pc') (kt : ¬ x = y → GW g Z A post rc rs h tgt ls st) (kf : x = y → GW g Z A post rc rs h pc' ls st) : GW g Z A post rc rs h pc ls (.ref y :: .ref x :: st) :=
  g_acmp_ne (rx := some x) (ry := some y) ok hd ht hp (fun z => kt (fun e => z (by rw [e]))) (fun z => kf (Option.some.inj z))
abbrev q_ra (N : Nat) (f : Nat → Option Nat) : q_O := .inr (2, N, .inr (.inr (.inr (.inr f))))
set_option maxHeartbeats 1000000 in
theorem c_AC_init (g : q_G) {h : q_H} (a : Nat) (d : Nat) (hd : 1 ≤ d) : MG g y_AC_init b_AC_init 1 none d 0 0 [.ref a] h (fun q h' => q = .inl none ∧ h' = h) := by
  refine MG.of (by decide +kernel) (by simp [Value.category]) (Nat.le_of_ble_eq_true rfl) ?_
  intro Z A ok
  refine g_aload_n ok (dk m_AC_init 0 rfl) (pc' := 1) rfl (i := 0) rfl rfl ?_
  refine g_objInit ok (dk m_AC_init 1 rfl) (pc' := 4) rfl c_AC_1 (by simp [Value.category]) (by omega) rfl ?_
  exact g_vret ok (dk m_AC_init 2 rfl) rfl ⟨rfl, rfl⟩
set_option maxHeartbeats 1000000 in
theorem c_ALs_init (g : q_G) {h : q_H} {a : Nat} {e s m : Value} (d : Nat) (hd : 2 ≤ d) (ha : h a = some (.inl (3, [e, s, m]))) : MG g y_ALs_init b_ALs_init 1 none d 0 0 [.ref a] h (fun q h' => q = .inl none ∧ h' = q_up h a (.inl (3, [e, s, .int 0]))) := by
  refine MG.of (by decide +kernel) (by simp [Value.category]) (Nat.le_of_ble_eq_true rfl) ?_
  intro Z A ok
  refine g_aload_n ok (dk m_ALs_init 0 rfl) (pc' := 1) rfl (i := 0) rfl rfl ?_
  refine g_callI ok (dk m_ALs_init 1 rfl) (pc' := 4) rfl c_ALs_1 (c_AC_init g a 1 (by omega)) rfl rfl (by simp [Value.category]) (by omega) rfl (rc' := 0) (rs' := 0) (by omega) (by omega) (fun rv h' hcc => ?_) (fun i h' hcc => by obtain ⟨e, -⟩ := hcc; cases e)
  obtain ⟨e, e2⟩ := hcc
  have e3 := e2.symm
  subst e3
  cases e
  refine g_aload_n ok (dk m_ALs_init 2 rfl) (pc' := 5) rfl (i := 0) rfl rfl ?_
  refine g_iconst ok (dk m_ALs_init 3 rfl) (pc' := 6) rfl (v := 0) (by decide) ?_
  refine g_put ok (dk m_ALs_init 4 rfl) (pc' := 9) rfl f_ALs_7 (Or.inl rfl) ha (Nat.le_of_ble_eq_true rfl) rfl rfl ?_
  exact g_vret ok (dk m_ALs_init 5 rfl) rfl ⟨rfl, rfl⟩
set_option maxHeartbeats 1000000 in
theorem c_AL_init (g : q_G) {h : q_H} {a : Nat} (d : Nat) (hd : 3 ≤ d) (ha : h a = some (.inl (3, [.null, .int 0, .int 0]))) : MG g y_AL_init b_AL_init 1 none d 0 0 [.ref a] h (fun q h' => q = .inl none ∧ h' = q_up h a (.inl (3, [.ref (q_ad g 0), .int 0, .int 0]))) := by
  refine MG.of (by decide +kernel) (by simp [Value.category]) (Nat.le_of_ble_eq_true rfl) ?_
  intro Z A ok
  refine g_aload_n ok (dk m_AL_init 0 rfl) (pc' := 1) rfl (i := 0) rfl rfl ?_
  refine g_callI ok (dk m_AL_init 1 rfl) (pc' := 4) rfl c_AL_1 (c_ALs_init g 2 (by omega) ha) rfl rfl (by simp [Value.category]) (by omega) rfl (rc' := 0) (rs' := 0) (by omega) (by omega) (fun rv h' hcc => ?_) (fun i h' hcc => by obtain ⟨e, -⟩ := hcc; cases e)
  obtain ⟨e, e2⟩ := hcc
  have e3 := e2.symm
  subst e3
  cases e
  refine g_aload_n ok (dk m_AL_init 2 rfl) (pc' := 5) rfl (i := 0) rfl rfl ?_
  refine g_getE ok (dk m_AL_init 3 rfl) (pc' := 8) rfl (q_T_in 102 (by decide +kernel) rfl) ?_
  refine g_put ok (dk m_AL_init 4 rfl) (pc' := 11) rfl f_AL_9 (Or.inl rfl) (q_up_s _ _ _) (Nat.le_of_ble_eq_true rfl) rfl rfl ?_
  exact g_vret ok (dk m_AL_init 5 rfl) rfl ⟨rfl, by rw [q_up_u]; rfl⟩
set_option maxHeartbeats 1000000 in
theorem c_Math_max (g : q_G) {h : q_H} (x y : Int32) (d : Nat) : MG g y_Math_max b_Math_max 2 (some .int) d 0 0 [.int x, .int y] h (fun q h' => q = .inl (some (.int (if x < y then y else x))) ∧ h' = h) := by
  refine MG.of (by decide +kernel) (by simp [Value.category]) (Nat.le_of_ble_eq_true rfl) ?_
  intro Z A ok
  refine g_iload_n ok (dk m_Math_max 0 rfl) (pc' := 1) rfl (i := 0) rfl rfl ?_
  refine g_iload_n ok (dk m_Math_max 1 rfl) (pc' := 2) rfl (i := 1) rfl rfl ?_
  refine g_icmp_lt ok (dk m_Math_max 2 rfl) (tgt := 9) (by decide) (pc' := 5) rfl (fun c_2 => ?_) (fun c_2 => ?_)
  · refine g_iload_n ok (dk m_Math_max 5 rfl) (pc' := 10) rfl (i := 1) rfl rfl ?_
    exact g_iret ok (dk m_Math_max 6 rfl) rfl rfl ⟨by rw [if_pos c_2], rfl⟩
  · refine g_iload_n ok (dk m_Math_max 3 rfl) (pc' := 6) rfl (i := 0) rfl rfl ?_
    refine g_goto ok (dk m_Math_max 4 rfl) (pc' := 10) (by decide) ?_
    exact g_iret ok (dk m_Math_max 6 rfl) rfl rfl ⟨by rw [if_neg c_2], rfl⟩
set_option maxHeartbeats 1000000 in
theorem c_Math_min (g : q_G) {h : q_H} (x y : Int32) (d : Nat) : MG g y_Math_min b_Math_min 2 (some .int) d 0 0 [.int x, .int y] h (fun q h' => q = .inl (some (.int (if y < x then y else x))) ∧ h' = h) := by
  refine MG.of (by decide +kernel) (by simp [Value.category]) (Nat.le_of_ble_eq_true rfl) ?_
  intro Z A ok
  refine g_iload_n ok (dk m_Math_min 0 rfl) (pc' := 1) rfl (i := 0) rfl rfl ?_
  refine g_iload_n ok (dk m_Math_min 1 rfl) (pc' := 2) rfl (i := 1) rfl rfl ?_
  refine g_icmp_gt ok (dk m_Math_min 2 rfl) (tgt := 9) (by decide) (pc' := 5) rfl (fun c_2 => ?_) (fun c_2 => ?_)
  · refine g_iload_n ok (dk m_Math_min 5 rfl) (pc' := 10) rfl (i := 1) rfl rfl ?_
    exact g_iret ok (dk m_Math_min 6 rfl) rfl rfl ⟨by rw [if_pos c_2], rfl⟩
  · refine g_iload_n ok (dk m_Math_min 3 rfl) (pc' := 6) rfl (i := 0) rfl rfl ?_
    refine g_goto ok (dk m_Math_min 4 rfl) (pc' := 10) (by decide) ?_
    exact g_iret ok (dk m_Math_min 6 rfl) rfl rfl ⟨by rw [if_neg c_2], rfl⟩
set_option maxHeartbeats 1000000 in
theorem c_ASup_newLength (g : q_G) {h : q_H} {n : Nat} (d : Nat) (hd : 1 ≤ d) (h2 : 2 ≤ n) (hn : n ≤ 100000) : MG g y_ASup_newLength b_ASup_newLength 4 (some .int) d 0 0 [.int (nI n), .int (nI 1), .int (nI (n / 2))] h (fun q h' => q = .inl (some (.int (nI (n + n / 2)))) ∧ h' = h) := by
  refine MG.of (by decide +kernel) (by simp [Value.category]) (Nat.le_of_ble_eq_true rfl) ?_
  intro Z A ok
  have hmx : (if nI 1 < nI (n / 2) then nI (n / 2) else nI 1) = nI (n / 2) := by
    by_cases e : 1 < n / 2
    · rw [if_pos (nI_lt e (by omega))]
    · rw [show n / 2 = 1 by omega, if_neg (nI_nlt (Nat.le_refl 1) (by decide))]
  refine g_iload_n ok (dk m_ASup_newLength 0 rfl) (pc' := 1) rfl (i := 0) rfl rfl ?_
  refine g_iload_n ok (dk m_ASup_newLength 1 rfl) (pc' := 2) rfl (i := 1) rfl rfl ?_
  refine g_iload_n ok (dk m_ASup_newLength 2 rfl) (pc' := 3) rfl (i := 2) rfl rfl ?_
  refine g_callS ok (dk m_ASup_newLength 3 rfl) (pc' := 6) rfl c_ASup_194 (c_Math_max g (nI 1) (nI (n / 2)) 0) rfl rfl (by simp [Value.category]) (by omega) rfl (rc' := 0) (rs' := 0) (by omega) (by omega) (fun rv h' hcc => ?_) (fun i h' hcc => by obtain ⟨e, -⟩ := hcc; cases e)
  obtain ⟨e, e2⟩ := hcc
  have e3 := e2.symm
  subst e3
  cases e
  refine g_iadd ok (dk m_ASup_newLength 4 rfl) (pc' := 7) rfl ?_
  refine g_top (w := .int (nI (n + n / 2))) (by rw [hmx, nI_add]) ?_
  refine g_istore_n ok (dk m_ASup_newLength 5 rfl) (pc' := 8) rfl (i := 3) rfl (Nat.le_of_ble_eq_true rfl) rfl ?_
  refine g_iconst ok (dk m_ASup_newLength 6 rfl) (pc' := 9) rfl (v := 0) (by decide) ?_
  refine g_iload_n ok (dk m_ASup_newLength 7 rfl) (pc' := 10) rfl (i := 3) rfl rfl ?_
  refine g_icmp_ge ok (dk m_ASup_newLength 8 rfl) (tgt := 21) (by decide) (pc' := 13) rfl (fun c_10 => absurd c_10 (show ¬ nI (n + n / 2) ≤ nI 0 from nI_ge (by omega) (by omega))) (fun c_10 => ?_)
  refine g_iload_n ok (dk m_ASup_newLength 9 rfl) (pc' := 14) rfl (i := 3) rfl rfl ?_
  refine g_ldc ok (dk m_ASup_newLength 10 rfl) (pc' := 16) rfl (v := 2147483639) (q_T_in 181 (by decide +kernel) rfl) ?_
  refine g_icmp_gt ok (dk m_ASup_newLength 11 rfl) (tgt := 21) (by decide) (pc' := 19) rfl (fun c_16 => absurd c_16 (show ¬ nI 2147483639 < nI (n + n / 2) from nI_nlt (by omega) (by decide))) (fun c_16 => ?_)
  refine g_iload_n ok (dk m_ASup_newLength 12 rfl) (pc' := 20) rfl (i := 3) rfl rfl ?_
  exact g_iret ok (dk m_ASup_newLength 13 rfl) rfl rfl ⟨rfl, rfl⟩
set_option maxHeartbeats 1000000 in
theorem c_Arr_copyOf2 (g : q_G) {h : q_H} {b n m : Nat} {f : Nat → Option Nat} (d mc ms : Nat) (hd : 1 ≤ d) (hm : 1 ≤ mc) (hs : m ≤ ms) (hb : h b = some (q_ra n f)) (hnm : n ≤ m) (hm4 : m * 4 ≤ 536870912) (hel : ∀ i y : Nat, i < n → f i = some y → q_obj h y) : MG g y_Arr_copyOf2 b_Arr_copyOf2 4 (some (.array (.object "java/lang/Object"))) d mc ms [.ref b, .int (nI m), .ref (q_ad g 1)] h (fun q h' => ∃ c, q = .inl (some (.ref c)) ∧ h c = none ∧ q_bs g ≤ c ∧ h' = q_up h c (q_ra m (va_cpy f (fun _ => none) 0 0 n))) := by
  refine MG.of (by decide +kernel) (by simp [Value.category]) (Nat.le_of_ble_eq_true rfl) ?_
  intro Z A ok
  refine g_aload_n ok (dk m_Arr_copyOf2 0 rfl) (pc' := 1) rfl (i := 2) rfl rfl ?_
  refine g_ldcM ok (dk m_Arr_copyOf2 1 rfl) (pc' := 3) rfl k_Arr_110 ?_
  refine g_acmpR_ne ok (dk m_Arr_copyOf2 2 rfl) (tgt := 13) (by decide) (pc' := 6) rfl (fun c_3 => absurd rfl c_3) (fun c_3 => ?_)
  refine g_iload_n ok (dk m_Arr_copyOf2 3 rfl) (pc' := 7) rfl (i := 1) rfl rfl ?_
  refine g_anew ok (dk m_Arr_copyOf2 4 rfl) (pc' := 10) rfl k_Arr_2 hm4 (rc' := (mc - 1)) (rs' := (ms - m)) (by omega) (by omega) (fun c hc hcb => ?_)
  have hb1 : q_up h c (q_ra m (fun _ => none)) b = some (q_ra n f) := by rw [q_up_n (q_on hb hc)]; exact hb
  refine g_goto ok (dk m_Arr_copyOf2 5 rfl) (pc' := 24) (by decide) ?_
  refine g_astore_n ok (dk m_Arr_copyOf2 11 rfl) (pc' := 25) rfl (i := 3) rfl (Nat.le_of_ble_eq_true rfl) rfl ?_
  refine g_aload_n ok (dk m_Arr_copyOf2 12 rfl) (pc' := 26) rfl (i := 0) rfl rfl ?_
  refine g_iconst ok (dk m_Arr_copyOf2 13 rfl) (pc' := 27) rfl (v := 0) (by decide) ?_
  refine g_aload_n ok (dk m_Arr_copyOf2 14 rfl) (pc' := 28) rfl (i := 3) rfl rfl ?_
  refine g_iconst ok (dk m_Arr_copyOf2 15 rfl) (pc' := 29) rfl (v := 0) (by decide) ?_
  refine g_aload_n ok (dk m_Arr_copyOf2 16 rfl) (pc' := 30) rfl (i := 0) rfl rfl ?_
  refine g_alen ok (dk m_Arr_copyOf2 17 rfl) (pc' := 31) rfl hb1 rfl ?_
  refine g_iload_n ok (dk m_Arr_copyOf2 18 rfl) (pc' := 32) rfl (i := 1) rfl rfl ?_
  refine g_callS ok (dk m_Arr_copyOf2 19 rfl) (pc' := 35) rfl c_Arr_304 (c_Math_min g (nI n) (nI m) 0) rfl rfl (by simp [Value.category]) (by omega) rfl (rc' := (mc - 1)) (rs' := (ms - m)) (by omega) (by omega) (fun rv h' hcc => ?_) (fun i h' hcc => by obtain ⟨e, -⟩ := hcc; cases e)
  obtain ⟨e, e2⟩ := hcc
  have e3 := e2.symm
  subst e3
  cases e
  refine g_top (w := .int (nI n)) (by rw [if_neg (nI_nlt hnm (by omega))]) ?_
  refine g_copyq ok (dk m_Arr_copyOf2 20 rfl) (pc' := 38) rfl (q_T_in 215 (by decide +kernel) rfl) hb1 (q_up_s _ _ _) (Nat.le_refl n) hnm (by omega) (fun i y hi hy => by obtain ⟨ci, C, fs, e1, e2, e3⟩ := hel i y hi hy; exact ⟨ci, C, fs, by rw [q_up_n (q_on e1 hc)]; exact e1, e2, e3⟩) (by simp [Value.category]) hd rfl ?_
  refine g_aload_n ok (dk m_Arr_copyOf2 21 rfl) (pc' := 39) rfl (i := 3) rfl rfl ?_
  exact g_aret ok (dk m_Arr_copyOf2 22 rfl) rfl (Or.inr ⟨_, rfl⟩) (Or.inr ⟨_, rfl⟩) ⟨c, rfl, hc, hcb, by rw [q_up_u]⟩
set_option maxHeartbeats 1000000 in
theorem c_Arr_copyOf1 (g : q_G) {h : q_H} {b n m : Nat} {f : Nat → Option Nat} (d mc ms : Nat) (hd : 2 ≤ d) (hm : 1 ≤ mc) (hs : m ≤ ms) (hb : h b = some (q_ra n f)) (hnm : n ≤ m) (hm4 : m * 4 ≤ 536870912) (hel : ∀ i y : Nat, i < n → f i = some y → q_obj h y) : MG g y_Arr_copyOf1 b_Arr_copyOf1 2 (some (.array (.object "java/lang/Object"))) d mc ms [.ref b, .int (nI m)] h (fun q h' => ∃ c, q = .inl (some (.ref c)) ∧ h c = none ∧ q_bs g ≤ c ∧ h' = q_up h c (q_ra m (va_cpy f (fun _ => none) 0 0 n))) := by
  refine MG.of (by decide +kernel) (by simp [Value.category]) (Nat.le_of_ble_eq_true rfl) ?_
  intro Z A ok
  refine g_aload_n ok (dk m_Arr_copyOf1 0 rfl) (pc' := 1) rfl (i := 0) rfl rfl ?_
  refine g_iload_n ok (dk m_Arr_copyOf1 1 rfl) (pc' := 2) rfl (i := 1) rfl rfl ?_
  refine g_aload_n ok (dk m_Arr_copyOf1 2 rfl) (pc' := 3) rfl (i := 0) rfl rfl ?_
  refine g_getC ok (dk m_Arr_copyOf1 3 rfl) (pc' := 6) rfl (q_T_in 188 (by decide +kernel) rfl) hb (by simp [Value.category]) (by omega) rfl ?_
  refine g_callS ok (dk m_Arr_copyOf1 4 rfl) (pc' := 9) rfl c_Arr_300 (c_Arr_copyOf2 g 1 mc ms (by omega) hm hs hb hnm hm4 hel) rfl rfl (by simp [Value.category]) (by omega) rfl (rc' := 0) (rs' := 0) (by omega) (by omega) (fun rv h' hcc => ?_) (fun i h' hcc => by obtain ⟨c, e, -⟩ := hcc; cases e)
  obtain ⟨c, e, hc, hcb, rfl⟩ := hcc
  cases e
  exact g_aret ok (dk m_Arr_copyOf1 5 rfl) rfl (Or.inr ⟨_, rfl⟩) (Or.inr ⟨_, rfl⟩) ⟨c, rfl, hc, hcb, rfl⟩
set_option maxHeartbeats 1000000 in
theorem c_AL_grow2E (g : q_G) {h : q_H} {a : Nat} {mv : Value} (d mc ms : Nat) (hd : 1 ≤ d) (hm : 1 ≤ mc) (hs : 10 ≤ ms) (ha : h a = some (.inl (3, [.ref (q_ad g 0), .int (nI 0), mv]))) : MG g y_AL_grow2 b_AL_grow2 4 (some (.array (.object "java/lang/Object"))) d mc ms [.ref a, .int (nI 1)] h (fun q h' => ∃ c, q = .inl (some (.ref c)) ∧ h c = none ∧ q_bs g ≤ c ∧ h' = q_up (q_up h a (.inl (3, [.ref c, .int (nI 0), mv]))) c (q_ra 10 (fun _ => none))) := by
  refine MG.of (by decide +kernel) (by simp [Value.category]) (Nat.le_of_ble_eq_true rfl) ?_
  intro Z A ok
  refine g_aload_n ok (dk m_AL_grow2 0 rfl) (pc' := 1) rfl (i := 0) rfl rfl ?_
  refine g_get ok (dk m_AL_grow2 1 rfl) (pc' := 4) rfl f_AL_9 ha rfl ?_
  refine g_alenE ok (dk m_AL_grow2 2 rfl) (pc' := 5) rfl ?_
  refine g_istore_n ok (dk m_AL_grow2 3 rfl) (pc' := 6) rfl (i := 2) rfl (Nat.le_of_ble_eq_true rfl) rfl ?_
  refine g_iload_n ok (dk m_AL_grow2 4 rfl) (pc' := 7) rfl (i := 2) rfl rfl ?_
  refine g_if_gt ok (dk m_AL_grow2 5 rfl) (tgt := 20) (by decide) (pc' := 10) rfl (fun c_7 => absurd c_7 (show ¬ (0 : Int32) < nI 0 by decide)) (fun c_7 => ?_)
  refine g_aload_n ok (dk m_AL_grow2 6 rfl) (pc' := 11) rfl (i := 0) rfl rfl ?_
  refine g_get ok (dk m_AL_grow2 7 rfl) (pc' := 14) rfl f_AL_9 ha rfl ?_
  refine g_getE ok (dk m_AL_grow2 8 rfl) (pc' := 17) rfl (q_T_in 102 (by decide +kernel) rfl) ?_
  refine g_acmpR_eq ok (dk m_AL_grow2 9 rfl) (tgt := 45) (by decide) (pc' := 20) rfl (fun c_17 => ?_) (fun c_17 => absurd rfl c_17)
  refine g_aload_n ok (dk m_AL_grow2 27 rfl) (pc' := 46) rfl (i := 0) rfl rfl ?_
  refine g_bipush ok (dk m_AL_grow2 28 rfl) (pc' := 48) rfl (v := 10) (by decide) ?_
  refine g_iload_n ok (dk m_AL_grow2 29 rfl) (pc' := 49) rfl (i := 1) rfl rfl ?_
  refine g_callS ok (dk m_AL_grow2 30 rfl) (pc' := 52) rfl c_AL_79 (c_Math_max g 10 (nI 1) 0) rfl rfl (by simp [Value.category]) (by omega) rfl (rc' := mc) (rs' := ms) (by omega) (by omega) (fun rv h' hcc => ?_) (fun i h' hcc => by obtain ⟨e, -⟩ := hcc; cases e)
  obtain ⟨e, e2⟩ := hcc
  have e3 := e2.symm
  subst e3
  cases e
  refine g_top (w := .int (nI 10)) (by decide) ?_
  refine g_anew ok (dk m_AL_grow2 31 rfl) (pc' := 55) rfl k_AL_7 (by decide) (rc' := (mc - 1)) (rs' := (ms - 10)) (by omega) (by omega) (fun c hc hcb => ?_)
  refine g_dup_x1 ok (dk m_AL_grow2 32 rfl) (pc' := 56) rfl rfl rfl ?_
  refine g_put ok (dk m_AL_grow2 33 rfl) (pc' := 59) rfl f_AL_9 (Or.inl rfl) (show q_up h c _ a = _ by rw [q_up_n (q_on ha hc)]; exact ha) (Nat.le_of_ble_eq_true rfl) rfl rfl ?_
  exact g_aret ok (dk m_AL_grow2 34 rfl) rfl (Or.inr ⟨_, rfl⟩) (Or.inr ⟨_, rfl⟩) ⟨c, rfl, hc, hcb, by rw [q_up_c (q_on ha hc).symm]; rfl⟩
set_option maxHeartbeats 1000000 in
theorem c_AL_grow2F (g : q_G) {h : q_H} {a b n : Nat} {f : Nat → Option Nat} {mv : Value} (d mc ms : Nat) (hd : 3 ≤ d) (hm : 1 ≤ mc) (hs : n + n / 2 ≤ ms) (h2 : 2 ≤ n) (hn : n ≤ 100000) (ha : h a = some (.inl (3, [.ref b, .int (nI n), mv]))) (hb : h b = some (q_ra n f)) (hel : ∀ i y : Nat, i < n → f i = some y → q_obj h y) : MG g y_AL_grow2 b_AL_grow2 4 (some (.array (.object "java/lang/Object"))) d mc ms [.ref a, .int (nI (n + 1))] h (fun q h' => ∃ c, q = .inl (some (.ref c)) ∧ h c = none ∧ q_bs g ≤ c ∧ h' = q_up (q_up h a (.inl (3, [.ref c, .int (nI n), mv]))) c (q_ra (n + n / 2) (va_cpy f (fun _ => none) 0 0 n))) := by
  refine MG.of (by decide +kernel) (by simp [Value.category]) (Nat.le_of_ble_eq_true rfl) ?_
  intro Z A ok
  refine g_aload_n ok (dk m_AL_grow2 0 rfl) (pc' := 1) rfl (i := 0) rfl rfl ?_
  refine g_get ok (dk m_AL_grow2 1 rfl) (pc' := 4) rfl f_AL_9 ha rfl ?_
  refine g_alen ok (dk m_AL_grow2 2 rfl) (pc' := 5) rfl hb rfl ?_
  refine g_istore_n ok (dk m_AL_grow2 3 rfl) (pc' := 6) rfl (i := 2) rfl (Nat.le_of_ble_eq_true rfl) rfl ?_
  refine g_iload_n ok (dk m_AL_grow2 4 rfl) (pc' := 7) rfl (i := 2) rfl rfl ?_
  refine g_if_gt ok (dk m_AL_grow2 5 rfl) (tgt := 20) (by decide) (pc' := 10) rfl (fun c_7 => ?_) (fun c_7 => absurd (show (0 : Int32) < nI n from by have := nI_lt (a := 0) (b := n) (by omega) (by omega); exact this) c_7)
  refine g_iload_n ok (dk m_AL_grow2 10 rfl) (pc' := 21) rfl (i := 2) rfl rfl ?_
  refine g_iload_n ok (dk m_AL_grow2 11 rfl) (pc' := 22) rfl (i := 1) rfl rfl ?_
  refine g_iload_n ok (dk m_AL_grow2 12 rfl) (pc' := 23) rfl (i := 2) rfl rfl ?_
  refine g_isub ok (dk m_AL_grow2 13 rfl) (pc' := 24) rfl ?_
  refine g_top (w := .int (nI 1)) (by rw [pk_sub (by omega)]; congr 2; omega) ?_
  refine g_iload_n ok (dk m_AL_grow2 14 rfl) (pc' := 25) rfl (i := 2) rfl rfl ?_
  refine g_iconst ok (dk m_AL_grow2 15 rfl) (pc' := 26) rfl (v := 1) (by decide) ?_
  refine g_ishr ok (dk m_AL_grow2 16 rfl) (pc' := 27) rfl ?_
  refine g_top (w := .int (nI (n / 2))) (by have k := pk_shrN (n := n) (by omega) ((1 : Int32) &&& 31) 1 (by decide); rw [Nat.pow_one] at k; exact congrArg Value.int k) ?_
  refine g_callS ok (dk m_AL_grow2 17 rfl) (pc' := 30) rfl c_AL_73 (c_ASup_newLength g 1 (by omega) h2 hn) rfl rfl (by simp [Value.category]) (by omega) rfl (rc' := mc) (rs' := ms) (by omega) (by omega) (fun rv h' hcc => ?_) (fun i h' hcc => by obtain ⟨e, -⟩ := hcc; cases e)
  obtain ⟨e, e2⟩ := hcc
  have e3 := e2.symm
  subst e3
  cases e
  refine g_istore_n ok (dk m_AL_grow2 18 rfl) (pc' := 31) rfl (i := 3) rfl (Nat.le_of_ble_eq_true rfl) rfl ?_
  refine g_aload_n ok (dk m_AL_grow2 19 rfl) (pc' := 32) rfl (i := 0) rfl rfl ?_
  refine g_aload_n ok (dk m_AL_grow2 20 rfl) (pc' := 33) rfl (i := 0) rfl rfl ?_
  refine g_get ok (dk m_AL_grow2 21 rfl) (pc' := 36) rfl f_AL_9 ha rfl ?_
  refine g_iload_n ok (dk m_AL_grow2 22 rfl) (pc' := 37) rfl (i := 3) rfl rfl ?_
  refine g_callS ok (dk m_AL_grow2 23 rfl) (pc' := 40) rfl c_AL_66 (c_Arr_copyOf1 g 2 mc ms (by omega) hm hs hb (by omega) (by omega) hel) rfl rfl (by simp [Value.category]) (by omega) rfl (rc' := 0) (rs' := 0) (by omega) (by omega) (fun rv h' hcc => ?_) (fun i h' hcc => by obtain ⟨c, e, -⟩ := hcc; cases e)
  obtain ⟨c, e, hc, hcb, rfl⟩ := hcc
  cases e
  refine g_dup_x1 ok (dk m_AL_grow2 24 rfl) (pc' := 41) rfl rfl rfl ?_
  refine g_put ok (dk m_AL_grow2 25 rfl) (pc' := 44) rfl f_AL_9 (Or.inl rfl) (show q_up h c _ a = _ by rw [q_up_n (q_on ha hc)]; exact ha) (Nat.le_of_ble_eq_true rfl) rfl rfl ?_
  exact g_aret ok (dk m_AL_grow2 26 rfl) rfl (Or.inr ⟨_, rfl⟩) (Or.inr ⟨_, rfl⟩) ⟨c, rfl, hc, hcb, by rw [q_up_c (q_on ha hc).symm]; rfl⟩
