/-! ===== Secrets: ways ===== -/
theorem g_gen {g : q_G} {Z : q_Z} {A : Nat → Prop} {post : q_R → q_H → Prop} {rc rs : Nat} {h : q_H} {pc : Nat} {ls : List (Option Value)} {st : List Value} (kk : ∀ h', h' = h → GW g Z A post rc rs h' pc ls st) : GW g Z A post rc rs h pc ls st := kk h rfl
theorem q_sec.cntE {h h' : q_H} {s : Nat} {ra rb : Nat → Nat} {S : s_T} (hs : q_sec h s ra rb S) (k : Nat) (hk : k < 4) {v : Int32} (e : h' = q_up h s (.inl (1, (s_fs ra S).set (6 + k) (.int v)))) : q_sec h' s ra rb (S.1, upd S.2 k v) := by
  rw [e]
  exact hs.cnt k hk v
noncomputable def S_way (S : s_T) (f w t : Int32) : s_T := (va_up (va_up (va_up (va_up S.1 3 (r_put (s_len 3) (S.1 3) (S.2 1) t)) 4 (r_put (s_len 4) (S.1 4) (S.2 1) w)) 2 (r_put (s_len 2) (S.1 2) (S.2 1) (r_get (s_len 1) (S.1 1) f))) 1 (r_put (s_len 1) (S.1 1) f (S.2 1)), upd S.2 1 (S.2 1 + 1))
noncomputable def S_open (S : s_T) (f w t : Int32) : s_T := by
  classical exact if S.2 1 < 2600 then (if S_told (S_way S f w t) f ∧ S_told (S_way S f w t) w then S_tell (S_way S f w t) t else S_way S f w t) else S
theorem z_told {S : s_T} {x z : Int32} (hz : z = 1 ∧ S_told S x ∨ z = 0 ∧ ¬ S_told S x) : (z = 0 → ¬ S_told S x) ∧ (¬ z = 0 → S_told S x) := by
  rcases hz with ⟨rfl, h⟩ | ⟨rfl, h⟩
  · exact ⟨fun e => absurd e (by decide), fun _ => h⟩
  · exact ⟨fun _ => h, fun e => absurd rfl e⟩
set_option maxHeartbeats 1000000 in
theorem c_Sec_openWay (g : q_G) {h : q_H} {s : Nat} {ra rb : Nat → Nat} {S : s_T} (f w t : Int32) (d : Nat) (hd : 2 ≤ d) (hs : q_sec h s ra rb S) : MG g y_Sec_openWay b_Sec_openWay 4 none d 0 0 [.ref s, .int f, .int w, .int t] h (fun q h' => q = .inl none ∧ q_sec h' s ra rb (S_open S f w t) ∧ q_off h h' (s_P s rb)) := by
  refine MG.of (by decide +kernel) (by simp [Value.category]) (Nat.le_of_ble_eq_true rfl) ?_
  intro Z A ok
  refine g_aload_n ok (dk m_Sec_openWay 0 rfl) (pc' := 1) rfl (i := 0) rfl rfl ?_
  refine g_get ok (dk m_Sec_openWay 1 rfl) (pc' := 4) rfl f_Sec_39 hs.1 rfl ?_
  refine g_sipush ok (dk m_Sec_openWay 2 rfl) (pc' := 7) rfl (v := 2600) (by decide) ?_
  refine g_icmp_lt ok (dk m_Sec_openWay 3 rfl) (tgt := 11) (by decide) (pc' := 10) rfl (fun c_7 => ?_) (fun c_7 => ?_)
  · refine g_aload_n ok (dk m_Sec_openWay 5 rfl) (pc' := 12) rfl (i := 0) rfl rfl ?_
    refine g_get ok (dk m_Sec_openWay 6 rfl) (pc' := 15) rfl f_Sec_26 hs.1 rfl ?_
    refine g_aload_n ok (dk m_Sec_openWay 7 rfl) (pc' := 16) rfl (i := 0) rfl rfl ?_
    refine g_get ok (dk m_Sec_openWay 8 rfl) (pc' := 19) rfl f_Sec_39 hs.1 rfl ?_
    refine g_iload_n ok (dk m_Sec_openWay 9 rfl) (pc' := 20) rfl (i := 3) rfl rfl ?_
    refine g_callV ok (dk m_Sec_openWay 10 rfl) (pc' := 23) rfl c_Sec_48 (c_Row_put g (S.2 1) t 0 (hs.2.1 3 (by decide)).1 (hs.2.1 3 (by decide)).2 (s_len_lt _)) (hs.2.1 3 (by decide)).1 rfl rfl (by simp [Value.category]) (by omega) rfl (rc' := 0) (rs' := 0) (by omega) (by omega) (fun rv h' hcc => ?_) (fun i h' hcc => by obtain ⟨e, -⟩ := hcc; cases e)
    obtain ⟨e, e2⟩ := hcc
    cases e
    have hs1 := hs.putE 3 (by decide) e2
    have ho1 := q_off.upE (q_off.rf (X := s_P s rb)) (Or.inr ⟨3, by decide, rfl⟩) e2
    clear e2
    refine g_aload_n ok (dk m_Sec_openWay 11 rfl) (pc' := 24) rfl (i := 0) rfl rfl ?_
    refine g_get ok (dk m_Sec_openWay 12 rfl) (pc' := 27) rfl f_Sec_29 hs1.1 rfl ?_
    refine g_aload_n ok (dk m_Sec_openWay 13 rfl) (pc' := 28) rfl (i := 0) rfl rfl ?_
    refine g_get ok (dk m_Sec_openWay 14 rfl) (pc' := 31) rfl f_Sec_39 hs1.1 rfl ?_
    refine g_iload_n ok (dk m_Sec_openWay 15 rfl) (pc' := 32) rfl (i := 2) rfl rfl ?_
    refine g_callV ok (dk m_Sec_openWay 16 rfl) (pc' := 35) rfl c_Sec_48 (c_Row_put g (S.2 1) w 0 (hs1.2.1 4 (by decide)).1 (hs1.2.1 4 (by decide)).2 (s_len_lt _)) (hs1.2.1 4 (by decide)).1 rfl rfl (by simp [Value.category]) (by omega) rfl (rc' := 0) (rs' := 0) (by omega) (by omega) (fun rv h' hcc => ?_) (fun i h' hcc => by obtain ⟨e, -⟩ := hcc; cases e)
    obtain ⟨e, e2⟩ := hcc
    cases e
    have hs2 := hs1.putE 4 (by decide) e2
    have ho2 := q_off.upE ho1 (Or.inr ⟨4, by decide, rfl⟩) e2
    clear e2
    refine g_aload_n ok (dk m_Sec_openWay 17 rfl) (pc' := 36) rfl (i := 0) rfl rfl ?_
    refine g_get ok (dk m_Sec_openWay 18 rfl) (pc' := 39) rfl f_Sec_23 hs2.1 rfl ?_
    refine g_aload_n ok (dk m_Sec_openWay 19 rfl) (pc' := 40) rfl (i := 0) rfl rfl ?_
    refine g_get ok (dk m_Sec_openWay 20 rfl) (pc' := 43) rfl f_Sec_39 hs2.1 rfl ?_
    refine g_aload_n ok (dk m_Sec_openWay 21 rfl) (pc' := 44) rfl (i := 0) rfl rfl ?_
    refine g_get ok (dk m_Sec_openWay 22 rfl) (pc' := 47) rfl f_Sec_20 hs2.1 rfl ?_
    refine g_iload_n ok (dk m_Sec_openWay 23 rfl) (pc' := 48) rfl (i := 1) rfl rfl ?_
    refine g_callV ok (dk m_Sec_openWay 24 rfl) (pc' := 51) rfl c_Sec_59 (c_Row_get g f 0 (hs2.2.1 1 (by decide)).1 (hs2.2.1 1 (by decide)).2 (s_len_lt _)) (hs2.2.1 1 (by decide)).1 rfl rfl (by simp [Value.category]) (by omega) rfl (rc' := 0) (rs' := 0) (by omega) (by omega) (fun rv h' hcc => ?_) (fun i h' hcc => by obtain ⟨e, -⟩ := hcc; cases e)
    obtain ⟨e, e2⟩ := hcc
    have e3 := e2.symm
    subst e3
    cases e
    refine g_callV ok (dk m_Sec_openWay 25 rfl) (pc' := 54) rfl c_Sec_48 (c_Row_put g (S.2 1) _ 0 (hs2.2.1 2 (by decide)).1 (hs2.2.1 2 (by decide)).2 (s_len_lt _)) (hs2.2.1 2 (by decide)).1 rfl rfl (by simp [Value.category]) (by omega) rfl (rc' := 0) (rs' := 0) (by omega) (by omega) (fun rv h' hcc => ?_) (fun i h' hcc => by obtain ⟨e, -⟩ := hcc; cases e)
    obtain ⟨e, e2⟩ := hcc
    cases e
    have hs3 := hs2.putE 2 (by decide) e2
    have ho3 := q_off.upE ho2 (Or.inr ⟨2, by decide, rfl⟩) e2
    clear e2
    refine g_aload_n ok (dk m_Sec_openWay 26 rfl) (pc' := 55) rfl (i := 0) rfl rfl ?_
    refine g_get ok (dk m_Sec_openWay 27 rfl) (pc' := 58) rfl f_Sec_20 hs3.1 rfl ?_
    refine g_iload_n ok (dk m_Sec_openWay 28 rfl) (pc' := 59) rfl (i := 1) rfl rfl ?_
    refine g_aload_n ok (dk m_Sec_openWay 29 rfl) (pc' := 60) rfl (i := 0) rfl rfl ?_
    refine g_get ok (dk m_Sec_openWay 30 rfl) (pc' := 63) rfl f_Sec_39 hs3.1 rfl ?_
    refine g_callV ok (dk m_Sec_openWay 31 rfl) (pc' := 66) rfl c_Sec_48 (c_Row_put g f (S.2 1) 0 (hs3.2.1 1 (by decide)).1 (hs3.2.1 1 (by decide)).2 (s_len_lt _)) (hs3.2.1 1 (by decide)).1 rfl rfl (by simp [Value.category]) (by omega) rfl (rc' := 0) (rs' := 0) (by omega) (by omega) (fun rv h' hcc => ?_) (fun i h' hcc => by obtain ⟨e, -⟩ := hcc; cases e)
    obtain ⟨e, e2⟩ := hcc
    cases e
    have hs4 := hs3.putE 1 (by decide) e2
    have ho4 := q_off.upE ho3 (Or.inr ⟨1, by decide, rfl⟩) e2
    clear e2
    refine g_aload_n ok (dk m_Sec_openWay 32 rfl) (pc' := 67) rfl (i := 0) rfl rfl ?_
    refine g_dup ok (dk m_Sec_openWay 33 rfl) (pc' := 68) rfl rfl ?_
    refine g_get ok (dk m_Sec_openWay 34 rfl) (pc' := 71) rfl f_Sec_39 hs4.1 rfl ?_
    refine g_iconst ok (dk m_Sec_openWay 35 rfl) (pc' := 72) rfl (v := 1) (by decide) ?_
    refine g_iadd ok (dk m_Sec_openWay 36 rfl) (pc' := 73) rfl ?_
    refine g_put ok (dk m_Sec_openWay 37 rfl) (pc' := 76) rfl f_Sec_39 (Or.inl rfl) hs4.1 (Nat.le_of_ble_eq_true rfl) rfl rfl ?_
    refine g_gen (fun h5 e5 => ?_)
    have hs5 : q_sec h5 s ra rb (S_way S f w t) := hs4.cntE 1 (by decide) e5
    have ho5 := q_off.upE ho4 (show s_P s rb s from Or.inl rfl) e5
    clear e5
    refine g_aload_n ok (dk m_Sec_openWay 38 rfl) (pc' := 77) rfl (i := 0) rfl rfl ?_
    refine g_iload_n ok (dk m_Sec_openWay 39 rfl) (pc' := 78) rfl (i := 1) rfl rfl ?_
    refine g_callV ok (dk m_Sec_openWay 40 rfl) (pc' := 81) rfl c_Sec_67 (c_Sec_isTold g f 1 (by omega) hs5) hs5.1 rfl rfl (by simp [Value.category]) (by omega) rfl (rc' := 0) (rs' := 0) (by omega) (by omega) (fun rv h' hcc => ?_) (fun i h' hcc => by obtain ⟨⟨z, e, -⟩, -⟩ := hcc; cases e)
    obtain ⟨⟨z1, e, hz1⟩, e2⟩ := hcc
    have e3 := e2.symm
    subst e3
    cases e
    refine g_if_eq ok (dk m_Sec_openWay 41 rfl) (tgt := 97) (by decide) (pc' := 84) rfl (fun c_81 => ?_) (fun c_81 => ?_)
    · exact g_vret ok (dk m_Sec_openWay 49 rfl) rfl ⟨rfl, by rw [S_open, if_pos c_7, if_neg (fun y => (z_told hz1).1 c_81 y.1)]; exact hs5, ho5⟩
    · refine g_aload_n ok (dk m_Sec_openWay 42 rfl) (pc' := 85) rfl (i := 0) rfl rfl ?_
      refine g_iload_n ok (dk m_Sec_openWay 43 rfl) (pc' := 86) rfl (i := 2) rfl rfl ?_
      refine g_callV ok (dk m_Sec_openWay 44 rfl) (pc' := 89) rfl c_Sec_67 (c_Sec_isTold g w 1 (by omega) hs5) hs5.1 rfl rfl (by simp [Value.category]) (by omega) rfl (rc' := 0) (rs' := 0) (by omega) (by omega) (fun rv h' hcc => ?_) (fun i h' hcc => by obtain ⟨⟨z, e, -⟩, -⟩ := hcc; cases e)
      obtain ⟨⟨z2, e, hz2⟩, e2⟩ := hcc
      have e3 := e2.symm
      subst e3
      cases e
      refine g_if_eq ok (dk m_Sec_openWay 45 rfl) (tgt := 97) (by decide) (pc' := 92) rfl (fun c_89 => ?_) (fun c_89 => ?_)
      · exact g_vret ok (dk m_Sec_openWay 49 rfl) rfl ⟨rfl, by rw [S_open, if_pos c_7, if_neg (fun y => (z_told hz2).1 c_89 y.2)]; exact hs5, ho5⟩
      · refine g_aload_n ok (dk m_Sec_openWay 46 rfl) (pc' := 93) rfl (i := 0) rfl rfl ?_
        refine g_iload_n ok (dk m_Sec_openWay 47 rfl) (pc' := 94) rfl (i := 3) rfl rfl ?_
        refine g_callV ok (dk m_Sec_openWay 48 rfl) (pc' := 97) rfl c_Sec_71 (c_Sec_tell g t 1 (by omega) hs5) hs5.1 rfl rfl (by simp [Value.category]) (by omega) rfl (rc' := 0) (rs' := 0) (by omega) (by omega) (fun rv h' hcc => ?_) (fun i h' hcc => by obtain ⟨e, -⟩ := hcc; cases e)
        obtain ⟨e, hsT, hoT⟩ := hcc
        cases e
        exact g_vret ok (dk m_Sec_openWay 49 rfl) rfl ⟨rfl, by rw [S_open, if_pos c_7, if_pos ⟨(z_told hz1).2 c_81, (z_told hz2).2 c_89⟩]; exact hsT, ho5.tr hoT⟩
  · exact g_vret ok (dk m_Sec_openWay 4 rfl) rfl ⟨rfl, by rw [S_open, if_neg c_7]; exact hs, q_off.rf⟩
noncomputable def S_der (S : s_T) (x : Int32) : Int32 × s_T := ((S_fresh S).1, S_open (S_fresh S).2 x 0 (S_fresh S).1)
noncomputable def S_joi (S : s_T) (i l : Int32) : Int32 × s_T := ((S_fresh S).1, S_open (S_open (S_fresh S).2 i l (S_fresh S).1) l i (S_fresh S).1)
set_option maxHeartbeats 1000000 in
theorem c_Sec_derivedFrom (g : q_G) {h : q_H} {s : Nat} {ra rb : Nat → Nat} {S : s_T} (x : Int32) (d : Nat) (hd : 3 ≤ d) (hs : q_sec h s ra rb S) : MG g y_Sec_derivedFrom b_Sec_derivedFrom 3 (some .int) d 0 0 [.ref s, .int x] h (fun q h' => q = .inl (some (.int (S_der S x).1)) ∧ q_sec h' s ra rb (S_der S x).2 ∧ q_off h h' (s_P s rb)) := by
  refine MG.of (by decide +kernel) (by simp [Value.category]) (Nat.le_of_ble_eq_true rfl) ?_
  intro Z A ok
  refine g_aload_n ok (dk m_Sec_derivedFrom 0 rfl) (pc' := 1) rfl (i := 0) rfl rfl ?_
  refine g_callV ok (dk m_Sec_derivedFrom 1 rfl) (pc' := 4) rfl c_Sec_51 (c_Sec_fresh g 0 hs) hs.1 rfl rfl (by simp [Value.category]) (by omega) rfl (rc' := 0) (rs' := 0) (by omega) (by omega) (fun rv h' hcc => ?_) (fun i h' hcc => by obtain ⟨e, -⟩ := hcc; cases e)
  obtain ⟨e, hs1, ho1⟩ := hcc
  cases e
  refine g_istore_n ok (dk m_Sec_derivedFrom 2 rfl) (pc' := 5) rfl (i := 2) rfl (Nat.le_of_ble_eq_true rfl) rfl ?_
  refine g_aload_n ok (dk m_Sec_derivedFrom 3 rfl) (pc' := 6) rfl (i := 0) rfl rfl ?_
  refine g_iload_n ok (dk m_Sec_derivedFrom 4 rfl) (pc' := 7) rfl (i := 1) rfl rfl ?_
  refine g_iconst ok (dk m_Sec_derivedFrom 5 rfl) (pc' := 8) rfl (v := 0) (by decide) ?_
  refine g_iload_n ok (dk m_Sec_derivedFrom 6 rfl) (pc' := 9) rfl (i := 2) rfl rfl ?_
  refine g_callV ok (dk m_Sec_derivedFrom 7 rfl) (pc' := 12) rfl c_Sec_55 (c_Sec_openWay g x 0 (S_fresh S).1 2 (by omega) hs1) hs1.1 rfl rfl (by simp [Value.category]) (by omega) rfl (rc' := 0) (rs' := 0) (by omega) (by omega) (fun rv h' hcc => ?_) (fun i h' hcc => by obtain ⟨e, -⟩ := hcc; cases e)
  obtain ⟨e, hs2, ho2⟩ := hcc
  cases e
  refine g_iload_n ok (dk m_Sec_derivedFrom 8 rfl) (pc' := 13) rfl (i := 2) rfl rfl ?_
  exact g_iret ok (dk m_Sec_derivedFrom 9 rfl) rfl rfl ⟨rfl, hs2, ho1.tr ho2⟩
set_option maxHeartbeats 1000000 in
theorem c_Sec_joinerOf (g : q_G) {h : q_H} {s : Nat} {ra rb : Nat → Nat} {S : s_T} (x y : Int32) (d : Nat) (hd : 3 ≤ d) (hs : q_sec h s ra rb S) : MG g y_Sec_joinerOf b_Sec_joinerOf 4 (some .int) d 0 0 [.ref s, .int x, .int y] h (fun q h' => q = .inl (some (.int (S_joi S x y).1)) ∧ q_sec h' s ra rb (S_joi S x y).2 ∧ q_off h h' (s_P s rb)) := by
  refine MG.of (by decide +kernel) (by simp [Value.category]) (Nat.le_of_ble_eq_true rfl) ?_
  intro Z A ok
  refine g_aload_n ok (dk m_Sec_joinerOf 0 rfl) (pc' := 1) rfl (i := 0) rfl rfl ?_
  refine g_callV ok (dk m_Sec_joinerOf 1 rfl) (pc' := 4) rfl c_Sec_51 (c_Sec_fresh g 0 hs) hs.1 rfl rfl (by simp [Value.category]) (by omega) rfl (rc' := 0) (rs' := 0) (by omega) (by omega) (fun rv h' hcc => ?_) (fun i h' hcc => by obtain ⟨e, -⟩ := hcc; cases e)
  obtain ⟨e, hs1, ho1⟩ := hcc
  cases e
  refine g_istore_n ok (dk m_Sec_joinerOf 2 rfl) (pc' := 5) rfl (i := 3) rfl (Nat.le_of_ble_eq_true rfl) rfl ?_
  refine g_aload_n ok (dk m_Sec_joinerOf 3 rfl) (pc' := 6) rfl (i := 0) rfl rfl ?_
  refine g_iload_n ok (dk m_Sec_joinerOf 4 rfl) (pc' := 7) rfl (i := 1) rfl rfl ?_
  refine g_iload_n ok (dk m_Sec_joinerOf 5 rfl) (pc' := 8) rfl (i := 2) rfl rfl ?_
  refine g_iload_n ok (dk m_Sec_joinerOf 6 rfl) (pc' := 9) rfl (i := 3) rfl rfl ?_
  refine g_callV ok (dk m_Sec_joinerOf 7 rfl) (pc' := 12) rfl c_Sec_55 (c_Sec_openWay g x y (S_fresh S).1 2 (by omega) hs1) hs1.1 rfl rfl (by simp [Value.category]) (by omega) rfl (rc' := 0) (rs' := 0) (by omega) (by omega) (fun rv h' hcc => ?_) (fun i h' hcc => by obtain ⟨e, -⟩ := hcc; cases e)
  obtain ⟨e, hs2, ho2⟩ := hcc
  cases e
  refine g_aload_n ok (dk m_Sec_joinerOf 8 rfl) (pc' := 13) rfl (i := 0) rfl rfl ?_
  refine g_iload_n ok (dk m_Sec_joinerOf 9 rfl) (pc' := 14) rfl (i := 2) rfl rfl ?_
  refine g_iload_n ok (dk m_Sec_joinerOf 10 rfl) (pc' := 15) rfl (i := 1) rfl rfl ?_
  refine g_iload_n ok (dk m_Sec_joinerOf 11 rfl) (pc' := 16) rfl (i := 3) rfl rfl ?_
  refine g_callV ok (dk m_Sec_joinerOf 12 rfl) (pc' := 19) rfl c_Sec_55 (c_Sec_openWay g y x (S_fresh S).1 2 (by omega) hs2) hs2.1 rfl rfl (by simp [Value.category]) (by omega) rfl (rc' := 0) (rs' := 0) (by omega) (by omega) (fun rv h' hcc => ?_) (fun i h' hcc => by obtain ⟨e, -⟩ := hcc; cases e)
  obtain ⟨e, hs3, ho3⟩ := hcc
  cases e
  refine g_iload_n ok (dk m_Sec_joinerOf 13 rfl) (pc' := 20) rfl (i := 3) rfl rfl ?_
  exact g_iret ok (dk m_Sec_joinerOf 14 rfl) rfl rfl ⟨rfl, hs3, (ho1.tr ho2).tr ho3⟩
noncomputable def S_one (S : s_T) (w : Int32) : s_T := by
  classical exact if S_told S (r_get (s_len 4) (S.1 4) w) then S_tell S (r_get (s_len 3) (S.1 3) w) else S
noncomputable def S_fol : Nat → s_T → Int32 → s_T
  | 0, S, _ => S
  | n + 1, S, w => if w = -1 then S else S_fol n (S_one S w) (r_get (s_len 2) (S.1 2) w)
theorem S_tell_k (S : s_T) (x : Int32) : (S_tell S x).2 1 = S.2 1 ∧ (S_tell S x).2 0 = S.2 0 ∧ (S_tell S x).2 3 = S.2 3 ∧ (S_tell S x).1 1 = S.1 1 ∧ (S_tell S x).1 2 = S.1 2 ∧ (S_tell S x).1 3 = S.1 3 ∧ (S_tell S x).1 4 = S.1 4 := by
  unfold S_tell
  split
  · exact ⟨rfl, rfl, rfl, rfl, rfl, rfl, rfl⟩
  · exact ⟨rfl, rfl, rfl, rfl, rfl, rfl, rfl⟩
theorem S_one_k (S : s_T) (x : Int32) : (S_one S x).2 1 = S.2 1 ∧ (S_one S x).2 0 = S.2 0 ∧ (S_one S x).2 3 = S.2 3 ∧ (S_one S x).1 1 = S.1 1 ∧ (S_one S x).1 2 = S.1 2 ∧ (S_one S x).1 3 = S.1 3 ∧ (S_one S x).1 4 = S.1 4 := by
  unfold S_one
  split
  · exact S_tell_k S _
  · exact ⟨rfl, rfl, rfl, rfl, rfl, rfl, rfl⟩
set_option maxHeartbeats 1000000 in
theorem c_Sec_followWays (g : q_G) {h : q_H} {s : Nat} {ra rb : Nat → Nat} {S : s_T} {n : Nat} (x : Int32) (d : Nat) (hd : 2 ≤ d) (hw : S.2 1 = nI n) (hn : n ≤ 2600) (hs : q_sec h s ra rb S) : MG g y_Sec_followWays b_Sec_followWays 4 none d 0 0 [.ref s, .int x] h (fun q h' => q = .inl none ∧ q_sec h' s ra rb (S_fol n S (r_get (s_len 1) (S.1 1) x)) ∧ q_off h h' (s_P s rb)) := by
  refine MG.of (by decide +kernel) (by simp [Value.category]) (Nat.le_of_ble_eq_true rfl) ?_
  intro Z A ok
  have loop : ∀ (m k : Nat), k + m = n → ∀ (h1 : q_H) (S1 : s_T) (w : Int32), q_sec h1 s ra rb S1 → q_off h h1 (s_P s rb) → S1.2 1 = nI n → S_fol m S1 w = S_fol n S (r_get (s_len 1) (S.1 1) x) → GW g Z A (fun q h' => q = .inl none ∧ q_sec h' s ra rb (S_fol n S (r_get (s_len 1) (S.1 1) x)) ∧ q_off h h' (s_P s rb)) 0 0 h1 11 [some (.ref s), some (.int x), some (.int w), some (.int (nI k))] [] := by
    intro m
    induction m with
    | zero =>
      intro k hk h1 S1 w hs1 ho1 hC hv
      refine g_iload_n ok (dk m_Sec_followWays 7 rfl) (pc' := 12) rfl (i := 3) rfl rfl ?_
      refine g_aload_n ok (dk m_Sec_followWays 8 rfl) (pc' := 13) rfl (i := 0) rfl rfl ?_
      refine g_get ok (dk m_Sec_followWays 9 rfl) (pc' := 16) rfl f_Sec_39 hs1.1 rfl ?_
      refine g_icmp_ge ok (dk m_Sec_followWays 10 rfl) (tgt := 66) (by decide) (pc' := 19) rfl (fun c_16 => ?_) (fun c_16 => absurd (by rw [hC]; exact nI_le (a := n) (b := k) (by omega) (by omega)) c_16)
      exact g_vret ok (dk m_Sec_followWays 34 rfl) rfl ⟨rfl, by rw [← hv]; exact hs1, ho1⟩
    | succ m ih =>
      intro k hk h1 S1 w hs1 ho1 hC hv
      refine g_iload_n ok (dk m_Sec_followWays 7 rfl) (pc' := 12) rfl (i := 3) rfl rfl ?_
      refine g_aload_n ok (dk m_Sec_followWays 8 rfl) (pc' := 13) rfl (i := 0) rfl rfl ?_
      refine g_get ok (dk m_Sec_followWays 9 rfl) (pc' := 16) rfl f_Sec_39 hs1.1 rfl ?_
      refine g_icmp_ge ok (dk m_Sec_followWays 10 rfl) (tgt := 66) (by decide) (pc' := 19) rfl (fun c_16 => absurd c_16 (by rw [hC]; exact nI_ge (a := k) (b := n) (by omega) (by omega))) (fun c_16 => ?_)
      refine g_iload_n ok (dk m_Sec_followWays 11 rfl) (pc' := 20) rfl (i := 2) rfl rfl ?_
      refine g_iconst ok (dk m_Sec_followWays 12 rfl) (pc' := 21) rfl (v := (-1)) (by decide) ?_
      refine g_icmp_eq ok (dk m_Sec_followWays 13 rfl) (tgt := 66) (by decide) (pc' := 24) rfl (fun c_21 => ?_) (fun c_21 => ?_)
      · exact g_vret ok (dk m_Sec_followWays 34 rfl) rfl ⟨rfl, by rw [← hv, S_fol, if_pos c_21]; exact hs1, ho1⟩
      · refine g_aload_n ok (dk m_Sec_followWays 14 rfl) (pc' := 25) rfl (i := 0) rfl rfl ?_
        refine g_aload_n ok (dk m_Sec_followWays 15 rfl) (pc' := 26) rfl (i := 0) rfl rfl ?_
        refine g_get ok (dk m_Sec_followWays 16 rfl) (pc' := 29) rfl f_Sec_29 hs1.1 rfl ?_
        refine g_iload_n ok (dk m_Sec_followWays 17 rfl) (pc' := 30) rfl (i := 2) rfl rfl ?_
        refine g_callV ok (dk m_Sec_followWays 18 rfl) (pc' := 33) rfl c_Sec_59 (c_Row_get g w 0 (hs1.2.1 4 (by decide)).1 (hs1.2.1 4 (by decide)).2 (s_len_lt _)) (hs1.2.1 4 (by decide)).1 rfl rfl (by simp [Value.category]) (by omega) rfl (rc' := 0) (rs' := 0) (by omega) (by omega) (fun rv h' hcc => ?_) (fun i h' hcc => by obtain ⟨e, -⟩ := hcc; cases e)
        obtain ⟨e, e2⟩ := hcc
        have e3 := e2.symm
        subst e3
        cases e
        refine g_callV ok (dk m_Sec_followWays 19 rfl) (pc' := 36) rfl c_Sec_67 (c_Sec_isTold g (r_get (s_len 4) (S1.1 4) w) 1 (by omega) hs1) hs1.1 rfl rfl (by simp [Value.category]) (by omega) rfl (rc' := 0) (rs' := 0) (by omega) (by omega) (fun rv h' hcc => ?_) (fun i h' hcc => by obtain ⟨⟨z, e, -⟩, -⟩ := hcc; cases e)
        obtain ⟨⟨z1, e, hz1⟩, e2⟩ := hcc
        have e3 := e2.symm
        subst e3
        cases e
        refine g_if_eq ok (dk m_Sec_followWays 20 rfl) (tgt := 51) (by decide) (pc' := 39) rfl (fun c_36 => ?_) (fun c_36 => ?_)
        · have hs2 : q_sec h1 s ra rb (S_one S1 w) := by rw [S_one, if_neg ((z_told hz1).1 c_36)]; exact hs1
          have ho2 := ho1
          refine g_aload_n ok (dk m_Sec_followWays 27 rfl) (pc' := 52) rfl (i := 0) rfl rfl ?_
          refine g_get ok (dk m_Sec_followWays 28 rfl) (pc' := 55) rfl f_Sec_23 hs2.1 rfl ?_
          refine g_iload_n ok (dk m_Sec_followWays 29 rfl) (pc' := 56) rfl (i := 2) rfl rfl ?_
          refine g_callV ok (dk m_Sec_followWays 30 rfl) (pc' := 59) rfl c_Sec_59 (c_Row_get g w 0 (hs2.2.1 2 (by decide)).1 (hs2.2.1 2 (by decide)).2 (s_len_lt _)) (hs2.2.1 2 (by decide)).1 rfl rfl (by simp [Value.category]) (by omega) rfl (rc' := 0) (rs' := 0) (by omega) (by omega) (fun rv h' hcc => ?_) (fun i h' hcc => by obtain ⟨e, -⟩ := hcc; cases e)
          obtain ⟨e, e2⟩ := hcc
          have e3 := e2.symm
          subst e3
          cases e
          refine g_istore_n ok (dk m_Sec_followWays 31 rfl) (pc' := 60) rfl (i := 2) rfl (Nat.le_of_ble_eq_true rfl) rfl ?_
          refine g_iinc ok (dk m_Sec_followWays 32 rfl) (pc' := 63) rfl rfl (nI_1 k) rfl ?_
          refine g_goto ok (dk m_Sec_followWays 33 rfl) (pc' := 11) (by decide) ?_
          rw [(S_one_k S1 w).2.2.2.2.1]
          exact ih (k + 1) (by omega) _ _ _ hs2 ho2 ((S_one_k S1 w).1.trans hC) (by rw [← hv]; show _ = S_fol (m + 1) S1 w; rw [S_fol, if_neg c_21])
        · refine g_aload_n ok (dk m_Sec_followWays 21 rfl) (pc' := 40) rfl (i := 0) rfl rfl ?_
          refine g_aload_n ok (dk m_Sec_followWays 22 rfl) (pc' := 41) rfl (i := 0) rfl rfl ?_
          refine g_get ok (dk m_Sec_followWays 23 rfl) (pc' := 44) rfl f_Sec_26 hs1.1 rfl ?_
          refine g_iload_n ok (dk m_Sec_followWays 24 rfl) (pc' := 45) rfl (i := 2) rfl rfl ?_
          refine g_callV ok (dk m_Sec_followWays 25 rfl) (pc' := 48) rfl c_Sec_59 (c_Row_get g w 0 (hs1.2.1 3 (by decide)).1 (hs1.2.1 3 (by decide)).2 (s_len_lt _)) (hs1.2.1 3 (by decide)).1 rfl rfl (by simp [Value.category]) (by omega) rfl (rc' := 0) (rs' := 0) (by omega) (by omega) (fun rv h' hcc => ?_) (fun i h' hcc => by obtain ⟨e, -⟩ := hcc; cases e)
          obtain ⟨e, e2⟩ := hcc
          have e3 := e2.symm
          subst e3
          cases e
          refine g_callV ok (dk m_Sec_followWays 26 rfl) (pc' := 51) rfl c_Sec_71 (c_Sec_tell g (r_get (s_len 3) (S1.1 3) w) 1 (by omega) hs1) hs1.1 rfl rfl (by simp [Value.category]) (by omega) rfl (rc' := 0) (rs' := 0) (by omega) (by omega) (fun rv h' hcc => ?_) (fun i h' hcc => by obtain ⟨e, -⟩ := hcc; cases e)
          obtain ⟨e, hsT, hoT⟩ := hcc
          cases e
          have hs2 : q_sec h' s ra rb (S_one S1 w) := by rw [S_one, if_pos ((z_told hz1).2 c_36)]; exact hsT
          have ho2 := ho1.tr hoT
          refine g_aload_n ok (dk m_Sec_followWays 27 rfl) (pc' := 52) rfl (i := 0) rfl rfl ?_
          refine g_get ok (dk m_Sec_followWays 28 rfl) (pc' := 55) rfl f_Sec_23 hs2.1 rfl ?_
          refine g_iload_n ok (dk m_Sec_followWays 29 rfl) (pc' := 56) rfl (i := 2) rfl rfl ?_
          refine g_callV ok (dk m_Sec_followWays 30 rfl) (pc' := 59) rfl c_Sec_59 (c_Row_get g w 0 (hs2.2.1 2 (by decide)).1 (hs2.2.1 2 (by decide)).2 (s_len_lt _)) (hs2.2.1 2 (by decide)).1 rfl rfl (by simp [Value.category]) (by omega) rfl (rc' := 0) (rs' := 0) (by omega) (by omega) (fun rv h' hcc => ?_) (fun i h' hcc => by obtain ⟨e, -⟩ := hcc; cases e)
          obtain ⟨e, e2⟩ := hcc
          have e3 := e2.symm
          subst e3
          cases e
          refine g_istore_n ok (dk m_Sec_followWays 31 rfl) (pc' := 60) rfl (i := 2) rfl (Nat.le_of_ble_eq_true rfl) rfl ?_
          refine g_iinc ok (dk m_Sec_followWays 32 rfl) (pc' := 63) rfl rfl (nI_1 k) rfl ?_
          refine g_goto ok (dk m_Sec_followWays 33 rfl) (pc' := 11) (by decide) ?_
          rw [(S_one_k S1 w).2.2.2.2.1]
          exact ih (k + 1) (by omega) _ _ _ hs2 ho2 ((S_one_k S1 w).1.trans hC) (by rw [← hv]; show _ = S_fol (m + 1) S1 w; rw [S_fol, if_neg c_21])
  refine g_aload_n ok (dk m_Sec_followWays 0 rfl) (pc' := 1) rfl (i := 0) rfl rfl ?_
  refine g_get ok (dk m_Sec_followWays 1 rfl) (pc' := 4) rfl f_Sec_20 hs.1 rfl ?_
  refine g_iload_n ok (dk m_Sec_followWays 2 rfl) (pc' := 5) rfl (i := 1) rfl rfl ?_
  refine g_callV ok (dk m_Sec_followWays 3 rfl) (pc' := 8) rfl c_Sec_59 (c_Row_get g x 0 (hs.2.1 1 (by decide)).1 (hs.2.1 1 (by decide)).2 (s_len_lt _)) (hs.2.1 1 (by decide)).1 rfl rfl (by simp [Value.category]) (by omega) rfl (rc' := 0) (rs' := 0) (by omega) (by omega) (fun rv h' hcc => ?_) (fun i h' hcc => by obtain ⟨e, -⟩ := hcc; cases e)
  obtain ⟨e, e2⟩ := hcc
  have e3 := e2.symm
  subst e3
  cases e
  refine g_istore_n ok (dk m_Sec_followWays 4 rfl) (pc' := 9) rfl (i := 2) rfl (Nat.le_of_ble_eq_true rfl) rfl ?_
  refine g_iconst ok (dk m_Sec_followWays 5 rfl) (pc' := 10) rfl (v := 0) (by decide) ?_
  refine g_istore_n ok (dk m_Sec_followWays 6 rfl) (pc' := 11) rfl (i := 3) rfl (Nat.le_of_ble_eq_true rfl) rfl ?_
  exact loop n 0 (by omega) _ _ _ hs q_off.rf hw rfl
