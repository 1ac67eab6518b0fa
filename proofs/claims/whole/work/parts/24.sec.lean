/-! ===== Secrets ===== -/
abbrev s_T : Type := (Nat → Nat → Int32) × (Nat → Int32)
def s_len (i : Nat) : Nat := if 2 ≤ i ∧ i ≤ 4 then 2600 else 2200
theorem s_len_lt (i : Nat) : s_len i < 2 ^ 31 := by
  unfold s_len
  split <;> decide
abbrev s_fs (ra : Nat → Nat) (S : s_T) : List Value := [.ref (ra 0), .ref (ra 1), .ref (ra 2), .ref (ra 3), .ref (ra 4), .ref (ra 5), .int (S.2 0), .int (S.2 1), .int (S.2 2), .int (S.2 3)]
def q_sec (h : q_H) (s : Nat) (ra rb : Nat → Nat) (S : s_T) : Prop := h s = some (.inl (1, s_fs ra S)) ∧ (∀ i, i < 6 → h (ra i) = some (.inl (2, [.ref (rb i)])) ∧ h (rb i) = some (.inr (0, s_len i, .inl (S.1 i)))) ∧ ∀ i j, i < 6 → j < 6 → rb i = rb j → i = j
def q_off (h h' : q_H) (X : Nat → Prop) : Prop := ∀ y, ¬ X y → h' y = h y
theorem q_off.rf {h : q_H} {X : Nat → Prop} : q_off h h X := fun _ _ => rfl
theorem q_off.up {h h1 : q_H} {X : Nat → Prop} {a : Nat} {o : q_O} (ho : q_off h h1 X) (ha : X a) : q_off h (q_up h1 a o) X := fun y hy => by
  rw [q_up_n (fun e => hy (by rw [e]; exact ha))]
  exact ho y hy
theorem q_off.tr {h h1 h2 : q_H} {X : Nat → Prop} (a : q_off h h1 X) (b : q_off h1 h2 X) : q_off h h2 X := fun y hy => (b y hy).trans (a y hy)
abbrev s_P (s : Nat) (rb : Nat → Nat) : Nat → Prop := fun y => y = s ∨ ∃ i, i < 6 ∧ y = rb i
theorem q_sec.put {h : q_H} {s : Nat} {ra rb : Nat → Nat} {S : s_T} (hs : q_sec h s ra rb S) (i : Nat) (hi : i < 6) (f : Nat → Int32) : q_sec (q_up h (rb i) (.inr (0, s_len i, .inl f))) s ra rb (va_up S.1 i f, S.2) := by
  obtain ⟨h1, h2, h3⟩ := hs
  refine ⟨?_, fun j hj => ⟨?_, ?_⟩, h3⟩
  · rw [q_up_n (q_oa h1 (h2 i hi).2)]
    exact h1
  · rw [q_up_n (q_oa (h2 j hj).1 (h2 i hi).2)]
    exact (h2 j hj).1
  · by_cases e : j = i
    · subst e
      rw [q_up_s]
      show _ = some (Sum.inr (0, s_len j, Sum.inl (va_up S.1 j f j)))
      rw [show va_up S.1 j f j = f from if_pos rfl]
    · rw [q_up_n (fun z => e (h3 j i hj hi z))]
      show _ = some (Sum.inr (0, s_len j, Sum.inl (va_up S.1 i f j)))
      rw [show va_up S.1 i f j = S.1 j from if_neg e]
      exact (h2 j hj).2
theorem q_sec.putE {h h' : q_H} {s : Nat} {ra rb : Nat → Nat} {S : s_T} (hs : q_sec h s ra rb S) (i : Nat) (hi : i < 6) {f : Nat → Int32} (e : h' = q_up h (rb i) (.inr (0, s_len i, .inl f))) : q_sec h' s ra rb (va_up S.1 i f, S.2) := by
  rw [e]
  exact hs.put i hi f
theorem q_off.upE {h h1 h2 : q_H} {X : Nat → Prop} {a : Nat} {o : q_O} (ho : q_off h h1 X) (ha : X a) (e : h2 = q_up h1 a o) : q_off h h2 X := by
  rw [e]
  exact ho.up ha
theorem q_sec.cnt {h : q_H} {s : Nat} {ra rb : Nat → Nat} {S : s_T} (hs : q_sec h s ra rb S) (k : Nat) (hk : k < 4) (v : Int32) : q_sec (q_up h s (.inl (1, (s_fs ra S).set (6 + k) (.int v)))) s ra rb (S.1, upd S.2 k v) := by
  obtain ⟨h1, h2, h3⟩ := hs
  refine ⟨?_, fun j hj => ⟨?_, ?_⟩, h3⟩
  · rw [q_up_s]
    rcases (show k = 0 ∨ k = 1 ∨ k = 2 ∨ k = 3 by omega) with rfl | rfl | rfl | rfl <;> rfl
  · have hne : ra j ≠ s := fun e => by
      have := (h2 j hj).1
      rw [e, h1] at this
      cases this
    rw [q_up_n hne]
    exact (h2 j hj).1
  · rw [q_up_n (q_oa h1 (h2 j hj).2).symm]
    exact (h2 j hj).2
def S_fresh (S : s_T) : Int32 × s_T := if S.2 0 < 2200 then (S.2 0, (S.1, upd S.2 0 (S.2 0 + 1))) else (-1, S)
noncomputable def S_told (S : s_T) (x : Int32) : Prop := r_get (s_len 0) (S.1 0) x = 1
noncomputable def S_tell (S : s_T) (x : Int32) : s_T := by
  classical exact if ¬ x < 0 ∧ ¬ S.2 0 ≤ x ∧ r_get (s_len 0) (S.1 0) x = 0 then (va_up (va_up S.1 0 (r_put (s_len 0) (S.1 0) x 1)) 5 (r_put (s_len 5) (S.1 5) (S.2 2) x), upd S.2 2 (S.2 2 + 1)) else S
set_option maxHeartbeats 1000000 in
theorem c_Sec_fresh (g : q_G) {h : q_H} {s : Nat} {ra rb : Nat → Nat} {S : s_T} (d : Nat) (hs : q_sec h s ra rb S) : MG g y_Sec_fresh b_Sec_fresh 1 (some .int) d 0 0 [.ref s] h (fun q h' => q = .inl (some (.int (S_fresh S).1)) ∧ q_sec h' s ra rb (S_fresh S).2 ∧ q_off h h' (s_P s rb)) := by
  refine MG.of (by decide +kernel) (by simp [Value.category]) (Nat.le_of_ble_eq_true rfl) ?_
  intro Z A ok
  refine g_aload_n ok (dk m_Sec_fresh 0 rfl) (pc' := 1) rfl (i := 0) rfl rfl ?_
  refine g_get ok (dk m_Sec_fresh 1 rfl) (pc' := 4) rfl f_Sec_35 hs.1 rfl ?_
  refine g_sipush ok (dk m_Sec_fresh 2 rfl) (pc' := 7) rfl (v := 2200) (by decide) ?_
  refine g_icmp_lt ok (dk m_Sec_fresh 3 rfl) (tgt := 12) (by decide) (pc' := 10) rfl (fun c_7 => ?_) (fun c_7 => ?_)
  · refine g_aload_n ok (dk m_Sec_fresh 6 rfl) (pc' := 13) rfl (i := 0) rfl rfl ?_
    refine g_dup ok (dk m_Sec_fresh 7 rfl) (pc' := 14) rfl rfl ?_
    refine g_get ok (dk m_Sec_fresh 8 rfl) (pc' := 17) rfl f_Sec_35 hs.1 rfl ?_
    refine g_dup_x1 ok (dk m_Sec_fresh 9 rfl) (pc' := 18) rfl rfl rfl ?_
    refine g_iconst ok (dk m_Sec_fresh 10 rfl) (pc' := 19) rfl (v := 1) (by decide) ?_
    refine g_iadd ok (dk m_Sec_fresh 11 rfl) (pc' := 20) rfl ?_
    refine g_put ok (dk m_Sec_fresh 12 rfl) (pc' := 23) rfl f_Sec_35 (Or.inl rfl) hs.1 (Nat.le_of_ble_eq_true rfl) rfl rfl ?_
    exact g_iret ok (dk m_Sec_fresh 13 rfl) rfl rfl ⟨by rw [S_fresh, if_pos c_7], by rw [S_fresh, if_pos c_7]; exact hs.cnt 0 (by decide) _, q_off.rf.up (Or.inl rfl)⟩
  · refine g_iconst ok (dk m_Sec_fresh 4 rfl) (pc' := 11) rfl (v := (-1)) (by decide) ?_
    exact g_iret ok (dk m_Sec_fresh 5 rfl) rfl rfl ⟨by rw [S_fresh, if_neg c_7], by rw [S_fresh, if_neg c_7]; exact hs, q_off.rf⟩
set_option maxHeartbeats 1000000 in
theorem c_Sec_isTold (g : q_G) {h : q_H} {s : Nat} {ra rb : Nat → Nat} {S : s_T} (x : Int32) (d : Nat) (hd : 1 ≤ d) (hs : q_sec h s ra rb S) : MG g y_Sec_isTold b_Sec_isTold 2 (some .boolean) d 0 0 [.ref s, .int x] h (fun q h' => (∃ z : Int32, q = .inl (some (.int z)) ∧ (z = 1 ∧ S_told S x ∨ z = 0 ∧ ¬ S_told S x)) ∧ h' = h) := by
  refine MG.of (by decide +kernel) (by simp [Value.category]) (Nat.le_of_ble_eq_true rfl) ?_
  intro Z A ok
  refine g_aload_n ok (dk m_Sec_isTold 0 rfl) (pc' := 1) rfl (i := 0) rfl rfl ?_
  refine g_get ok (dk m_Sec_isTold 1 rfl) (pc' := 4) rfl f_Sec_14 hs.1 rfl ?_
  refine g_iload_n ok (dk m_Sec_isTold 2 rfl) (pc' := 5) rfl (i := 1) rfl rfl ?_
  refine g_callV ok (dk m_Sec_isTold 3 rfl) (pc' := 8) rfl c_Sec_59 (c_Row_get g x 0 (hs.2.1 0 (by decide)).1 (hs.2.1 0 (by decide)).2 (s_len_lt _)) (hs.2.1 0 (by decide)).1 rfl rfl (by simp [Value.category]) (by omega) rfl (rc' := 0) (rs' := 0) (by omega) (by omega) (fun rv h' hcc => ?_) (fun i h' hcc => by obtain ⟨e, -⟩ := hcc; cases e)
  obtain ⟨e, e2⟩ := hcc
  have e3 := e2.symm
  subst e3
  cases e
  refine g_iconst ok (dk m_Sec_isTold 4 rfl) (pc' := 9) rfl (v := 1) (by decide) ?_
  refine g_icmp_ne ok (dk m_Sec_isTold 5 rfl) (tgt := 16) (by decide) (pc' := 12) rfl (fun c_9 => ?_) (fun c_9 => ?_)
  · refine g_iconst ok (dk m_Sec_isTold 8 rfl) (pc' := 17) rfl (v := 0) (by decide) ?_
    exact g_iret ok (dk m_Sec_isTold 9 rfl) rfl rfl ⟨⟨0, rfl, Or.inr ⟨rfl, c_9⟩⟩, rfl⟩
  · refine g_iconst ok (dk m_Sec_isTold 6 rfl) (pc' := 13) rfl (v := 1) (by decide) ?_
    refine g_goto ok (dk m_Sec_isTold 7 rfl) (pc' := 17) (by decide) ?_
    exact g_iret ok (dk m_Sec_isTold 9 rfl) rfl rfl ⟨⟨1, rfl, Or.inl ⟨rfl, c_9⟩⟩, rfl⟩
set_option maxHeartbeats 1000000 in
theorem c_Sec_tell (g : q_G) {h : q_H} {s : Nat} {ra rb : Nat → Nat} {S : s_T} (x : Int32) (d : Nat) (hd : 1 ≤ d) (hs : q_sec h s ra rb S) : MG g y_Sec_tell b_Sec_tell 2 none d 0 0 [.ref s, .int x] h (fun q h' => q = .inl none ∧ q_sec h' s ra rb (S_tell S x) ∧ q_off h h' (s_P s rb)) := by
  refine MG.of (by decide +kernel) (by simp [Value.category]) (Nat.le_of_ble_eq_true rfl) ?_
  intro Z A ok
  refine g_iload_n ok (dk m_Sec_tell 0 rfl) (pc' := 1) rfl (i := 1) rfl rfl ?_
  refine g_if_lt ok (dk m_Sec_tell 1 rfl) (tgt := 54) (by decide) (pc' := 4) rfl (fun c_1 => ?_) (fun c_1 => ?_)
  · exact g_vret ok (dk m_Sec_tell 28 rfl) rfl ⟨rfl, by rw [S_tell, if_neg (fun z => z.1 c_1)]; exact hs, q_off.rf⟩
  · refine g_iload_n ok (dk m_Sec_tell 2 rfl) (pc' := 5) rfl (i := 1) rfl rfl ?_
    refine g_aload_n ok (dk m_Sec_tell 3 rfl) (pc' := 6) rfl (i := 0) rfl rfl ?_
    refine g_get ok (dk m_Sec_tell 4 rfl) (pc' := 9) rfl f_Sec_35 hs.1 rfl ?_
    refine g_icmp_ge ok (dk m_Sec_tell 5 rfl) (tgt := 54) (by decide) (pc' := 12) rfl (fun c_9 => ?_) (fun c_9 => ?_)
    · exact g_vret ok (dk m_Sec_tell 28 rfl) rfl ⟨rfl, by rw [S_tell, if_neg (fun z => z.2.1 c_9)]; exact hs, q_off.rf⟩
    · refine g_aload_n ok (dk m_Sec_tell 6 rfl) (pc' := 13) rfl (i := 0) rfl rfl ?_
      refine g_get ok (dk m_Sec_tell 7 rfl) (pc' := 16) rfl f_Sec_14 hs.1 rfl ?_
      refine g_iload_n ok (dk m_Sec_tell 8 rfl) (pc' := 17) rfl (i := 1) rfl rfl ?_
      refine g_callV ok (dk m_Sec_tell 9 rfl) (pc' := 20) rfl c_Sec_59 (c_Row_get g x 0 (hs.2.1 0 (by decide)).1 (hs.2.1 0 (by decide)).2 (s_len_lt _)) (hs.2.1 0 (by decide)).1 rfl rfl (by simp [Value.category]) (by omega) rfl (rc' := 0) (rs' := 0) (by omega) (by omega) (fun rv h' hcc => ?_) (fun i h' hcc => by obtain ⟨e, -⟩ := hcc; cases e)
      obtain ⟨e, e2⟩ := hcc
      have e3 := e2.symm
      subst e3
      cases e
      refine g_if_ne ok (dk m_Sec_tell 10 rfl) (tgt := 54) (by decide) (pc' := 23) rfl (fun c_20 => ?_) (fun c_20 => ?_)
      · exact g_vret ok (dk m_Sec_tell 28 rfl) rfl ⟨rfl, by rw [S_tell, if_neg (fun z => c_20 z.2.2)]; exact hs, q_off.rf⟩
      · refine g_aload_n ok (dk m_Sec_tell 11 rfl) (pc' := 24) rfl (i := 0) rfl rfl ?_
        refine g_get ok (dk m_Sec_tell 12 rfl) (pc' := 27) rfl f_Sec_14 hs.1 rfl ?_
        refine g_iload_n ok (dk m_Sec_tell 13 rfl) (pc' := 28) rfl (i := 1) rfl rfl ?_
        refine g_iconst ok (dk m_Sec_tell 14 rfl) (pc' := 29) rfl (v := 1) (by decide) ?_
        refine g_callV ok (dk m_Sec_tell 15 rfl) (pc' := 32) rfl c_Sec_48 (c_Row_put g x 1 0 (hs.2.1 0 (by decide)).1 (hs.2.1 0 (by decide)).2 (s_len_lt _)) (hs.2.1 0 (by decide)).1 rfl rfl (by simp [Value.category]) (by omega) rfl (rc' := 0) (rs' := 0) (by omega) (by omega) (fun rv h' hcc => ?_) (fun i h' hcc => by obtain ⟨e, -⟩ := hcc; cases e)
        obtain ⟨e, e2⟩ := hcc
        cases e
        have hs1 := hs.putE 0 (by decide) e2
        have ho1 := q_off.upE (q_off.rf (X := s_P s rb)) (Or.inr ⟨0, by decide, rfl⟩) e2
        clear e2
        refine g_aload_n ok (dk m_Sec_tell 16 rfl) (pc' := 33) rfl (i := 0) rfl rfl ?_
        refine g_get ok (dk m_Sec_tell 17 rfl) (pc' := 36) rfl f_Sec_32 hs1.1 rfl ?_
        refine g_aload_n ok (dk m_Sec_tell 18 rfl) (pc' := 37) rfl (i := 0) rfl rfl ?_
        refine g_get ok (dk m_Sec_tell 19 rfl) (pc' := 40) rfl f_Sec_42 hs1.1 rfl ?_
        refine g_iload_n ok (dk m_Sec_tell 20 rfl) (pc' := 41) rfl (i := 1) rfl rfl ?_
        refine g_callV ok (dk m_Sec_tell 21 rfl) (pc' := 44) rfl c_Sec_48 (c_Row_put g (S.2 2) x 0 (hs1.2.1 5 (by decide)).1 (hs1.2.1 5 (by decide)).2 (s_len_lt _)) (hs1.2.1 5 (by decide)).1 rfl rfl (by simp [Value.category]) (by omega) rfl (rc' := 0) (rs' := 0) (by omega) (by omega) (fun rv h2 hcc => ?_) (fun i h' hcc => by obtain ⟨e, -⟩ := hcc; cases e)
        obtain ⟨e, e2⟩ := hcc
        cases e
        have hs2 := hs1.putE 5 (by decide) e2
        have ho2 := q_off.upE ho1 (Or.inr ⟨5, by decide, rfl⟩) e2
        clear e2
        refine g_aload_n ok (dk m_Sec_tell 22 rfl) (pc' := 45) rfl (i := 0) rfl rfl ?_
        refine g_dup ok (dk m_Sec_tell 23 rfl) (pc' := 46) rfl rfl ?_
        refine g_get ok (dk m_Sec_tell 24 rfl) (pc' := 49) rfl f_Sec_42 hs2.1 rfl ?_
        refine g_iconst ok (dk m_Sec_tell 25 rfl) (pc' := 50) rfl (v := 1) (by decide) ?_
        refine g_iadd ok (dk m_Sec_tell 26 rfl) (pc' := 51) rfl ?_
        refine g_put ok (dk m_Sec_tell 27 rfl) (pc' := 54) rfl f_Sec_42 (Or.inl rfl) hs2.1 (Nat.le_of_ble_eq_true rfl) rfl rfl ?_
        exact g_vret ok (dk m_Sec_tell 28 rfl) rfl ⟨rfl, by rw [S_tell, if_pos ⟨c_1, c_9, c_20⟩]; exact hs2.cnt 2 (by decide) _, ho2.up (Or.inl rfl)⟩
