/-! ===== the reference: the intruder ===== -/
theorem sw_out5 {x : Int32} (h0 : ¬ x = 0) (h1 : ¬ x = 1) (h2 : ¬ x = 2) (h3 : ¬ x = 3) (h4 : ¬ x = 4) : x.toInt < 0 ∨ 4 < x.toInt := by
  rcases Int.lt_or_le x.toInt 0 with q | q
  · exact Or.inl q
  · rcases Int.lt_or_le 4 x.toInt with q2 | q2
    · exact Or.inr q2
    · exfalso
      rcases (show x.toInt = 0 ∨ x.toInt = 1 ∨ x.toInt = 2 ∨ x.toInt = 3 ∨ x.toInt = 4 by omega) with e | e | e | e | e
      · exact h0 (Int32.toInt_inj.mp e)
      · exact h1 (Int32.toInt_inj.mp e)
      · exact h2 (Int32.toInt_inj.mp e)
      · exact h3 (Int32.toInt_inj.mp e)
      · exact h4 (Int32.toInt_inj.mp e)
def fl_P (X : x_T) (k : Nat) : Prop := X.2 2 k = 0 ∨ (¬ X.2 2 k = 1 ∧ ¬ X.2 6 (ix (X.2 3 k)) = 0 ∧ (X.2 2 k = 4 → ¬ X.2 6 (ix (X.2 4 k)) = 0))
/-- closed under what the intruder can do -/
def KC (X : x_T) (n c : Nat) (Q : Nat → Prop) : Prop := (∀ k, k < n → ¬ X.2 5 k = 0 → Q k) ∧ (∀ k, k < n → (X.2 2 k = 0 ∨ (¬ X.2 2 k = 1 ∧ Q (ix (X.2 3 k)) ∧ (X.2 2 k = 4 → Q (ix (X.2 4 k))))) → Q k) ∧ ∀ j, j < c → Q (ix (X.2 8 j)) → Q (ix (X.2 9 j))
def Kn (X : x_T) (n c k : Nat) : Prop := ∀ Q, KC X n c Q → Q k
theorem Kn.cl (X : x_T) (n c : Nat) : KC X n c (Kn X n c) := ⟨fun k hk h Q hQ => hQ.1 k hk h, fun k hk h Q hQ => hQ.2.1 k hk (by
  rcases h with h | ⟨h1, h2, h3⟩
  · exact Or.inl h
  · exact Or.inr ⟨h1, h2 Q hQ, fun z => h3 z Q hQ⟩), fun j hj h Q hQ => hQ.2.2 j hj (h Q hQ)⟩
def cz (f : Nat → Int32) : Nat → Nat
  | 0 => 0
  | n + 1 => cz f n + (if f n = 0 then 1 else 0)
theorem cz_o {f : Nat → Int32} {k : Nat} {x : Int32} : ∀ n, n ≤ k → cz (upd f k x) n = cz f n := by
  intro n
  induction n with
  | zero => intro _; rfl
  | succ n ih =>
    intro h
    rw [cz, cz, ih (by omega), upd_n (by omega)]
theorem cz_s {f : Nat → Int32} {k : Nat} (h0 : f k = 0) : ∀ n, k < n → cz (upd f k 1) n + 1 = cz f n := by
  intro n
  induction n with
  | zero => intro h; omega
  | succ n ih =>
    intro h
    rw [cz, cz]
    by_cases z : k = n
    · subst z
      rw [cz_o k (Nat.le_refl _), upd_s, h0, if_neg (by decide), if_pos rfl]
    · rw [upd_n (fun q => z q.symm), ← ih (by omega)]
      omega
def q_KH (X : x_T) (n c : Nat) : Prop := n ≤ 2600 ∧ c ≤ 3600 ∧ X.1 1 = nI n ∧ X.1 7 = nI c ∧ (∀ k, k < n → ∃ f s, f < n ∧ s < n ∧ X.2 3 k = nI f ∧ X.2 4 k = nI s) ∧ (∀ j, j < c → ∃ a b, a < n ∧ b < n ∧ X.2 8 j = nI a ∧ X.2 9 j = nI b) ∧ ∀ k, k < n → X.2 5 k = 0 ∨ X.2 5 k = 1
theorem q_KH.cg {X Y : x_T} {n c : Nat} {K : List Nat} (h : q_KH X n c) (f : xfr K X Y) (hK : ∀ k, k ∈ K → k = 6 ∨ k = 0 ∨ 12 ≤ k) : q_KH Y n c := by
  have e : ∀ k, k ≠ 6 → k ≠ 0 → k < 12 → Y.1 k = X.1 k ∧ Y.2 k = X.2 k := fun k h1 h2 h3 => f k (fun z => by have := hK k z; omega)
  obtain ⟨h1, h2, h3, h4, h5, h6, h7⟩ := h
  refine ⟨h1, h2, (e 1 (by decide) (by decide) (by decide)).1.trans h3, (e 7 (by decide) (by decide) (by decide)).1.trans h4, ?_, ?_, ?_⟩
  · rw [(e 3 (by decide) (by decide) (by decide)).2, (e 4 (by decide) (by decide) (by decide)).2]
    exact h5
  · rw [(e 8 (by decide) (by decide) (by decide)).2, (e 9 (by decide) (by decide) (by decide)).2]
    exact h6
  · rw [(e 5 (by decide) (by decide) (by decide)).2]
    exact h7
theorem Kn_cg {X Y : x_T} {n c : Nat} {K : List Nat} (f : xfr K X Y) (hK : ∀ k, k ∈ K → k = 6 ∨ k = 0 ∨ 12 ≤ k) (k : Nat) : Kn Y n c k = Kn X n c k := by
  have e : ∀ k, k ≠ 6 → k ≠ 0 → k < 12 → Y.2 k = X.2 k := fun k h1 h2 h3 => (f k (fun z => by have := hK k z; omega)).2
  unfold Kn KC
  rw [e 5 (by decide) (by decide) (by decide), e 2 (by decide) (by decide) (by decide), e 3 (by decide) (by decide) (by decide), e 4 (by decide) (by decide) (by decide), e 8 (by decide) (by decide) (by decide), e 9 (by decide) (by decide) (by decide)]
set_option maxHeartbeats 1000000 in
theorem c_Mo_follows (g : q_G) {h : q_H} {o : Nat} {ba : Nat → Nat} {X : x_T} {k n c : Nat} (d : Nat) (hKH : q_KH X n c) (hk : k < n) (hB : ∀ j, j < n → X.2 6 j = 0 ∨ X.2 6 j = 1) (H : q_mo h o ba X) : MG g y_Mo_follows b_Mo_follows 2 (some .boolean) d 0 0 [.ref o, .int (nI k)] h (fun q h' => (∃ z, q = .inl (some (.int z)) ∧ ((z = 0 ∧ ¬ fl_P X k) ∨ (¬ z = 0 ∧ fl_P X k))) ∧ h' = h) := by
  refine MG.of (by decide +kernel) (by simp [Value.category]) (Nat.le_of_ble_eq_true rfl) ?_
  intro Z A ok
  obtain ⟨f, s, hf, hs, hff, hss⟩ := hKH.2.2.2.2.1 k hk
  have hn := hKH.1
  have hxf : ix (nI f) = f := ix_nI (by omega)
  have hxs : ix (nI s) = s := ix_nI (by omega)
  refine g_aload_n ok (dk m_Mo_follows 0 rfl) (pc' := 1) rfl (i := 0) rfl rfl ?_
  refine g_get ok (dk m_Mo_follows 1 rfl) (pc' := 4) rfl f_Mo_7 H.1 rfl ?_
  refine g_iload_n ok (dk m_Mo_follows 2 rfl) (pc' := 5) rfl (i := 1) rfl rfl ?_
  refine g_ialdI ok (dk m_Mo_follows 3 rfl) (pc' := 6) rfl (j := k) (H.ar 2 rfl) rfl (show k < 2600 by omega) (by decide) ?_
  by_cases s_0 : X.2 2 k = 0
  · rw [s_0]
    refine g_tableIn ok (dk m_Mo_follows 4 rfl) (by decide) (by decide) (off := 34) rfl (tgt := 40) (by decide) ?_
    refine g_iconst ok (dk m_Mo_follows 5 rfl) (pc' := 41) rfl (v := 1) (by decide) ?_
    exact g_iret ok (dk m_Mo_follows 6 rfl) rfl rfl ⟨⟨1, rfl, Or.inr ⟨by decide, Or.inl s_0⟩⟩, rfl⟩
  by_cases s_1 : X.2 2 k = 1
  · rw [s_1]
    refine g_tableIn ok (dk m_Mo_follows 4 rfl) (by decide) (by decide) (off := 36) rfl (tgt := 42) (by decide) ?_
    refine g_iconst ok (dk m_Mo_follows 7 rfl) (pc' := 43) rfl (v := 0) (by decide) ?_
    exact g_iret ok (dk m_Mo_follows 8 rfl) rfl rfl ⟨⟨0, rfl, Or.inl ⟨rfl, fun z => by rcases z with z | z; exact s_0 z; exact z.1 s_1⟩⟩, rfl⟩
  by_cases s_2 : X.2 2 k = 2
  · rw [s_2]
    refine g_tableIn ok (dk m_Mo_follows 4 rfl) (by decide) (by decide) (off := 72) rfl (tgt := 78) (by decide) ?_
    refine g_aload_n ok (dk m_Mo_follows 29 rfl) (pc' := 79) rfl (i := 0) rfl rfl ?_
    refine g_get ok (dk m_Mo_follows 30 rfl) (pc' := 82) rfl f_Mo_23 H.1 rfl ?_
    refine g_aload_n ok (dk m_Mo_follows 31 rfl) (pc' := 83) rfl (i := 0) rfl rfl ?_
    refine g_get ok (dk m_Mo_follows 32 rfl) (pc' := 86) rfl f_Mo_13 H.1 rfl ?_
    refine g_iload_n ok (dk m_Mo_follows 33 rfl) (pc' := 87) rfl (i := 1) rfl rfl ?_
    refine g_ialdI ok (dk m_Mo_follows 34 rfl) (pc' := 88) rfl (j := k) (H.ar 3 rfl) rfl (show k < 2600 by omega) (by decide) ?_
    rw [hff]
    refine g_zaldI ok (dk m_Mo_follows 35 rfl) (pc' := 89) rfl (j := f) (H.ar 6 rfl) rfl (show f < 2600 by omega) (by decide) ?_
    exact g_iret ok (dk m_Mo_follows 36 rfl) rfl (by rcases hB f hf with q | q <;> rw [q] <;> rfl) ⟨⟨X.2 6 f, rfl, by
    by_cases z : X.2 6 f = 0
    · exact Or.inl ⟨z, fun y => by rcases y with y | y; exact s_0 y; exact y.2.1 (by rw [hff, hxf]; exact z)⟩
    · exact Or.inr ⟨z, Or.inr ⟨s_1, by rw [hff, hxf]; exact z, fun y => absurd y (by rw [s_2]; decide)⟩⟩⟩, rfl⟩
  by_cases s_3 : X.2 2 k = 3
  · rw [s_3]
    refine g_tableIn ok (dk m_Mo_follows 4 rfl) (by decide) (by decide) (off := 72) rfl (tgt := 78) (by decide) ?_
    refine g_aload_n ok (dk m_Mo_follows 29 rfl) (pc' := 79) rfl (i := 0) rfl rfl ?_
    refine g_get ok (dk m_Mo_follows 30 rfl) (pc' := 82) rfl f_Mo_23 H.1 rfl ?_
    refine g_aload_n ok (dk m_Mo_follows 31 rfl) (pc' := 83) rfl (i := 0) rfl rfl ?_
    refine g_get ok (dk m_Mo_follows 32 rfl) (pc' := 86) rfl f_Mo_13 H.1 rfl ?_
    refine g_iload_n ok (dk m_Mo_follows 33 rfl) (pc' := 87) rfl (i := 1) rfl rfl ?_
    refine g_ialdI ok (dk m_Mo_follows 34 rfl) (pc' := 88) rfl (j := k) (H.ar 3 rfl) rfl (show k < 2600 by omega) (by decide) ?_
    rw [hff]
    refine g_zaldI ok (dk m_Mo_follows 35 rfl) (pc' := 89) rfl (j := f) (H.ar 6 rfl) rfl (show f < 2600 by omega) (by decide) ?_
    exact g_iret ok (dk m_Mo_follows 36 rfl) rfl (by rcases hB f hf with q | q <;> rw [q] <;> rfl) ⟨⟨X.2 6 f, rfl, by
    by_cases z : X.2 6 f = 0
    · exact Or.inl ⟨z, fun y => by rcases y with y | y; exact s_0 y; exact y.2.1 (by rw [hff, hxf]; exact z)⟩
    · exact Or.inr ⟨z, Or.inr ⟨s_1, by rw [hff, hxf]; exact z, fun y => absurd y (by rw [s_3]; decide)⟩⟩⟩, rfl⟩
  by_cases s_4 : X.2 2 k = 4
  · rw [s_4]
    refine g_tableIn ok (dk m_Mo_follows 4 rfl) (by decide) (by decide) (off := 38) rfl (tgt := 44) (by decide) ?_
    refine g_aload_n ok (dk m_Mo_follows 9 rfl) (pc' := 45) rfl (i := 0) rfl rfl ?_
    refine g_get ok (dk m_Mo_follows 10 rfl) (pc' := 48) rfl f_Mo_23 H.1 rfl ?_
    refine g_aload_n ok (dk m_Mo_follows 11 rfl) (pc' := 49) rfl (i := 0) rfl rfl ?_
    refine g_get ok (dk m_Mo_follows 12 rfl) (pc' := 52) rfl f_Mo_13 H.1 rfl ?_
    refine g_iload_n ok (dk m_Mo_follows 13 rfl) (pc' := 53) rfl (i := 1) rfl rfl ?_
    refine g_ialdI ok (dk m_Mo_follows 14 rfl) (pc' := 54) rfl (j := k) (H.ar 3 rfl) rfl (show k < 2600 by omega) (by decide) ?_
    rw [hff]
    refine g_zaldI ok (dk m_Mo_follows 15 rfl) (pc' := 55) rfl (j := f) (H.ar 6 rfl) rfl (show f < 2600 by omega) (by decide) ?_
    refine g_if_eq ok (dk m_Mo_follows 16 rfl) (tgt := 76) (by decide) (pc' := 58) rfl (fun c_55 => ?_) (fun c_55 => ?_)
    · refine g_iconst ok (dk m_Mo_follows 27 rfl) (pc' := 77) rfl (v := 0) (by decide) ?_
      exact g_iret ok (dk m_Mo_follows 28 rfl) rfl rfl ⟨⟨0, rfl, Or.inl ⟨rfl, fun z => by rcases z with z | z; exact s_0 z; exact z.2.1 (by rw [hff, hxf]; exact c_55)⟩⟩, rfl⟩
    · refine g_aload_n ok (dk m_Mo_follows 17 rfl) (pc' := 59) rfl (i := 0) rfl rfl ?_
      refine g_get ok (dk m_Mo_follows 18 rfl) (pc' := 62) rfl f_Mo_23 H.1 rfl ?_
      refine g_aload_n ok (dk m_Mo_follows 19 rfl) (pc' := 63) rfl (i := 0) rfl rfl ?_
      refine g_get ok (dk m_Mo_follows 20 rfl) (pc' := 66) rfl f_Mo_16 H.1 rfl ?_
      refine g_iload_n ok (dk m_Mo_follows 21 rfl) (pc' := 67) rfl (i := 1) rfl rfl ?_
      refine g_ialdI ok (dk m_Mo_follows 22 rfl) (pc' := 68) rfl (j := k) (H.ar 4 rfl) rfl (show k < 2600 by omega) (by decide) ?_
      rw [hss]
      refine g_zaldI ok (dk m_Mo_follows 23 rfl) (pc' := 69) rfl (j := s) (H.ar 6 rfl) rfl (show s < 2600 by omega) (by decide) ?_
      refine g_if_eq ok (dk m_Mo_follows 24 rfl) (tgt := 76) (by decide) (pc' := 72) rfl (fun c_69 => ?_) (fun c_69 => ?_)
      · refine g_iconst ok (dk m_Mo_follows 27 rfl) (pc' := 77) rfl (v := 0) (by decide) ?_
        exact g_iret ok (dk m_Mo_follows 28 rfl) rfl rfl ⟨⟨0, rfl, Or.inl ⟨rfl, fun z => by rcases z with z | z; exact s_0 z; exact z.2.2 s_4 (by rw [hss, hxs]; exact c_69)⟩⟩, rfl⟩
      · refine g_iconst ok (dk m_Mo_follows 25 rfl) (pc' := 73) rfl (v := 1) (by decide) ?_
        refine g_goto ok (dk m_Mo_follows 26 rfl) (pc' := 77) (by decide) ?_
        exact g_iret ok (dk m_Mo_follows 28 rfl) rfl rfl ⟨⟨1, rfl, Or.inr ⟨by decide, Or.inr ⟨s_1, by rw [hff, hxf]; exact c_55, fun _ => by rw [hss, hxs]; exact c_69⟩⟩⟩, rfl⟩
  refine g_tableOut ok (dk m_Mo_follows 4 rfl) (sw_out5 s_0 s_1 s_2 s_3 s_4) (tgt := 78) (by decide) ?_
  refine g_aload_n ok (dk m_Mo_follows 29 rfl) (pc' := 79) rfl (i := 0) rfl rfl ?_
  refine g_get ok (dk m_Mo_follows 30 rfl) (pc' := 82) rfl f_Mo_23 H.1 rfl ?_
  refine g_aload_n ok (dk m_Mo_follows 31 rfl) (pc' := 83) rfl (i := 0) rfl rfl ?_
  refine g_get ok (dk m_Mo_follows 32 rfl) (pc' := 86) rfl f_Mo_13 H.1 rfl ?_
  refine g_iload_n ok (dk m_Mo_follows 33 rfl) (pc' := 87) rfl (i := 1) rfl rfl ?_
  refine g_ialdI ok (dk m_Mo_follows 34 rfl) (pc' := 88) rfl (j := k) (H.ar 3 rfl) rfl (show k < 2600 by omega) (by decide) ?_
  rw [hff]
  refine g_zaldI ok (dk m_Mo_follows 35 rfl) (pc' := 89) rfl (j := f) (H.ar 6 rfl) rfl (show f < 2600 by omega) (by decide) ?_
  exact g_iret ok (dk m_Mo_follows 36 rfl) rfl (by rcases hB f hf with q | q <;> rw [q] <;> rfl) ⟨⟨X.2 6 f, rfl, by
    by_cases z : X.2 6 f = 0
    · exact Or.inl ⟨z, fun y => by rcases y with y | y; exact s_0 y; exact y.2.1 (by rw [hff, hxf]; exact z)⟩
    · exact Or.inr ⟨z, Or.inr ⟨s_1, by rw [hff, hxf]; exact z, fun y => absurd y s_4⟩⟩⟩, rfl⟩
set_option maxHeartbeats 1000000 in
theorem c_Mo_intrude (g : q_G) {h : q_H} {o : Nat} {ba : Nat → Nat} {X : x_T} {n c : Nat} (d : Nat) (hd : 1 ≤ d) (hKH : q_KH X n c) (H : q_mo h o ba X) : MG g y_Mo_intrude b_Mo_intrude 3 none d 0 0 [.ref o] h (fun q h' => q = .inl none ∧ ∃ X', q_mo h' o ba X' ∧ xfr [6] X X' ∧ ∀ k, k < n → X'.2 6 k = b2i (Kn X n c k)) := by
  refine MG.of (by decide +kernel) (by simp [Value.category]) (Nat.le_of_ble_eq_true rfl) ?_
  intro Z A ok
  have hn26 := hKH.1
  have hc36 := hKH.2.1
  have outer : ∀ (M : Nat) (h1 : q_H) (Xs : x_T) (x2 : Option Value), q_mo h1 o ba Xs → xfr [6] X Xs → ((∀ j, j < n → ¬ Xs.2 6 j = 0 → Kn X n c j) ∧ (∀ j, j < n → Xs.2 6 j = 0 ∨ Xs.2 6 j = 1)) → (∀ i, i < n → ¬ X.2 5 i = 0 → ¬ Xs.2 6 i = 0) → cz (Xs.2 6) n = M → GW g Z A (fun q h' => q = .inl none ∧ ∃ X', q_mo h' o ba X' ∧ xfr [6] X X' ∧ ∀ k, k < n → X'.2 6 k = b2i (Kn X n c k)) 0 0 h1 30 [some (.ref o), some (.int 1), x2] [] := by
    intro M
    induction M using Nat.strongRecOn with
    | ind M ihM =>
      intro h1 Xs x2 Hs fs hs hTs hM
      have loop3 : ∀ (m k : Nat), k + m = c → ∀ (h2 : q_H) (X1 : x_T) (t : Int32), q_mo h2 o ba X1 → xfr [6] X X1 → ((∀ j, j < n → ¬ X1.2 6 j = 0 → Kn X n c j) ∧ (∀ j, j < n → X1.2 6 j = 0 ∨ X1.2 6 j = 1)) → (∀ i, i < n → ¬ X.2 5 i = 0 → ¬ X1.2 6 i = 0) → (t = 0 ∨ t = 1) → (cz (X1.2 6) n ≤ cz (Xs.2 6) n ∧ (¬ t = 0 → cz (X1.2 6) n < cz (Xs.2 6) n)) → (t = 0 → X1.2 6 = Xs.2 6 ∧ (∀ j, j < n → ¬ Xs.2 6 j = 0 ∨ ¬ fl_P Xs j) ∧ ∀ j, j < k → Xs.2 6 (ix (X.2 8 j)) = 0 ∨ ¬ Xs.2 6 (ix (X.2 9 j)) = 0) → GW g Z A (fun q h' => q = .inl none ∧ ∃ X', q_mo h' o ba X' ∧ xfr [6] X X' ∧ ∀ k, k < n → X'.2 6 k = b2i (Kn X n c k)) 0 0 h2 83 [some (.ref o), some (.int t), some (.int (nI k))] [] := by
        intro m
        induction m with
        | zero =>
          intro k hk h2 X1 t H1 f1 h1 hT ht01 hz h3
          refine g_iload_n ok (dk m_Mo_intrude 49 rfl) (pc' := 84) rfl (i := 2) rfl rfl ?_
          refine g_aload_n ok (dk m_Mo_intrude 50 rfl) (pc' := 85) rfl (i := 0) rfl rfl ?_
          refine g_get ok (dk m_Mo_intrude 51 rfl) (pc' := 88) rfl f_Mo_161 H1.1 rfl ?_
          refine g_top (w := .int (nI c)) (congrArg Value.int ((f1 7 (by decide)).1.trans hKH.2.2.2.1)) ?_
          refine g_icmp_ge ok (dk m_Mo_intrude 52 rfl) (tgt := 142) (by decide) (pc' := 91) rfl (fun c_88 => ?_) (fun c_88 => absurd (nI_le (a := c) (b := k) (by omega) (by omega)) c_88)
          refine g_goto ok (dk m_Mo_intrude 82 rfl) (pc' := 30) (by decide) ?_
          by_cases ht : t = 0
          · subst ht
            refine g_iload_n ok (dk m_Mo_intrude 18 rfl) (pc' := 31) rfl (i := 1) rfl rfl ?_
            refine g_if_eq ok (dk m_Mo_intrude 19 rfl) (tgt := 145) (by decide) (pc' := 34) rfl (fun c_31 => ?_) (fun c_31 => absurd rfl c_31)
            exact g_vret ok (dk m_Mo_intrude 83 rfl) rfl ⟨rfl, X1, H1, f1, fun j hj => by
              have hq := h3 rfl
              by_cases z : Kn X n c j
              · rw [b2i_t z]
                have q := z (fun i => i < n → ¬ X1.2 6 i = 0) ⟨fun i hi h5 _ => hT i hi h5, fun i hi hr _ => by
                  rw [hq.1]
                  rcases hq.2.1 i hi with y | y
                  · exact y
                  · refine absurd ?_ y
                    obtain ⟨a, b, ha, hb, ea, eb⟩ := hKH.2.2.2.2.1 i hi
                    have x2 : Xs.2 2 = X.2 2 := (fs 2 (by decide)).2
                    have x3 : Xs.2 3 = X.2 3 := (fs 3 (by decide)).2
                    have x4 : Xs.2 4 = X.2 4 := (fs 4 (by decide)).2
                    unfold fl_P
                    rw [x2, x3, x4, ← hq.1]
                    rcases hr with hr | ⟨r1, r2, r3⟩
                    · exact Or.inl hr
                    · exact Or.inr ⟨r1, r2 (by rw [ea, ix_nI (by omega)]; exact ha), fun y4 => r3 y4 (by rw [eb, ix_nI (by omega)]; exact hb)⟩, fun i hi hr hb9 => by
                  obtain ⟨a, b, ha, hb, ea, eb⟩ := hKH.2.2.2.2.2.1 i hi
                  rw [hq.1]
                  rcases hq.2.2 i (by omega) with y | y
                  · exact absurd (by rw [← hq.1] at y; exact y) (hr (by rw [ea, ix_nI (by omega)]; exact ha))
                  · exact y⟩ hj
                rcases h1.2 j hj with y | y
                · exact absurd y q
                · exact y
              · rw [b2i_f z]
                rcases h1.2 j hj with y | y
                · exact y
                · exact absurd (h1.1 j hj (by rw [y]; decide)) z⟩
          · have ht1 : t = 1 := ht01.resolve_left ht
            subst ht1
            exact ihM (cz (X1.2 6) n) (by have := hz.2 (by decide); omega) _ X1 _ H1 f1 h1 hT rfl
        | succ m ih =>
          intro k hk h2 X1 t H1 f1 h1 hT ht01 hz h3
          obtain ⟨a, b, ha, hb, hea, heb⟩ := hKH.2.2.2.2.2.1 k (by omega)
          refine g_iload_n ok (dk m_Mo_intrude 49 rfl) (pc' := 84) rfl (i := 2) rfl rfl ?_
          refine g_aload_n ok (dk m_Mo_intrude 50 rfl) (pc' := 85) rfl (i := 0) rfl rfl ?_
          refine g_get ok (dk m_Mo_intrude 51 rfl) (pc' := 88) rfl f_Mo_161 H1.1 rfl ?_
          refine g_top (w := .int (nI c)) (congrArg Value.int ((f1 7 (by decide)).1.trans hKH.2.2.2.1)) ?_
          refine g_icmp_ge ok (dk m_Mo_intrude 52 rfl) (tgt := 142) (by decide) (pc' := 91) rfl (fun c_88 => absurd c_88 (nI_ge (show k < c by omega) (by omega))) (fun c_88 => ?_)
          refine g_aload_n ok (dk m_Mo_intrude 53 rfl) (pc' := 92) rfl (i := 0) rfl rfl ?_
          refine g_get ok (dk m_Mo_intrude 54 rfl) (pc' := 95) rfl f_Mo_23 H1.1 rfl ?_
          refine g_aload_n ok (dk m_Mo_intrude 55 rfl) (pc' := 96) rfl (i := 0) rfl rfl ?_
          refine g_get ok (dk m_Mo_intrude 56 rfl) (pc' := 99) rfl f_Mo_26 H1.1 rfl ?_
          refine g_iload_n ok (dk m_Mo_intrude 57 rfl) (pc' := 100) rfl (i := 2) rfl rfl ?_
          refine g_ialdI ok (dk m_Mo_intrude 58 rfl) (pc' := 101) rfl (j := k) (H1.ar 8 rfl) rfl (show k < 3600 by omega) (by decide) ?_
          refine g_top (w := .int (nI a)) (congrArg Value.int ((congrFun (f1 8 (by decide)).2 k).trans hea)) ?_
          refine g_zaldI ok (dk m_Mo_intrude 59 rfl) (pc' := 102) rfl (j := a) (H1.ar 6 rfl) rfl (show a < 2600 by omega) (by decide) ?_
          refine g_if_eq ok (dk m_Mo_intrude 60 rfl) (tgt := 136) (by decide) (pc' := 105) rfl (fun c_102 => ?_) (fun c_102 => ?_)
          · refine g_iinc ok (dk m_Mo_intrude 80 rfl) (pc' := 139) rfl rfl (nI_1 k) rfl ?_
            refine g_goto ok (dk m_Mo_intrude 81 rfl) (pc' := 83) (by decide) ?_
            exact ih (k + 1) (by omega) _ X1 t H1 f1 h1 hT ht01 hz (fun z => ⟨(h3 z).1, (h3 z).2.1, fun j hj => by
              by_cases q : j = k
              · subst q
                rw [hea, heb, ix_nI (by omega), ix_nI (by omega), ← (h3 z).1]
                exact Or.inl c_102
              · exact (h3 z).2.2 j (by omega)⟩)
          · refine g_aload_n ok (dk m_Mo_intrude 61 rfl) (pc' := 106) rfl (i := 0) rfl rfl ?_
            refine g_get ok (dk m_Mo_intrude 62 rfl) (pc' := 109) rfl f_Mo_23 H1.1 rfl ?_
            refine g_aload_n ok (dk m_Mo_intrude 63 rfl) (pc' := 110) rfl (i := 0) rfl rfl ?_
            refine g_get ok (dk m_Mo_intrude 64 rfl) (pc' := 113) rfl f_Mo_29 H1.1 rfl ?_
            refine g_iload_n ok (dk m_Mo_intrude 65 rfl) (pc' := 114) rfl (i := 2) rfl rfl ?_
            refine g_ialdI ok (dk m_Mo_intrude 66 rfl) (pc' := 115) rfl (j := k) (H1.ar 9 rfl) rfl (show k < 3600 by omega) (by decide) ?_
            refine g_top (w := .int (nI b)) (congrArg Value.int ((congrFun (f1 9 (by decide)).2 k).trans heb)) ?_
            refine g_zaldI ok (dk m_Mo_intrude 67 rfl) (pc' := 116) rfl (j := b) (H1.ar 6 rfl) rfl (show b < 2600 by omega) (by decide) ?_
            refine g_if_eq ok (dk m_Mo_intrude 68 rfl) (tgt := 122) (by decide) (pc' := 119) rfl (fun c_116 => ?_) (fun c_116 => ?_)
            · refine g_aload_n ok (dk m_Mo_intrude 70 rfl) (pc' := 123) rfl (i := 0) rfl rfl ?_
              refine g_get ok (dk m_Mo_intrude 71 rfl) (pc' := 126) rfl f_Mo_23 H1.1 rfl ?_
              refine g_aload_n ok (dk m_Mo_intrude 72 rfl) (pc' := 127) rfl (i := 0) rfl rfl ?_
              refine g_get ok (dk m_Mo_intrude 73 rfl) (pc' := 130) rfl f_Mo_29 H1.1 rfl ?_
              refine g_iload_n ok (dk m_Mo_intrude 74 rfl) (pc' := 131) rfl (i := 2) rfl rfl ?_
              refine g_ialdI ok (dk m_Mo_intrude 75 rfl) (pc' := 132) rfl (j := k) (H1.ar 9 rfl) rfl (show k < 3600 by omega) (by decide) ?_
              refine g_top (w := .int (nI b)) (congrArg Value.int ((congrFun (f1 9 (by decide)).2 k).trans heb)) ?_
              refine g_iconst ok (dk m_Mo_intrude 76 rfl) (pc' := 133) rfl (v := 1) (by decide) ?_
              refine g_zastI ok (dk m_Mo_intrude 77 rfl) (pc' := 134) rfl (j := b) (H1.ar 6 rfl) rfl (show b < 2600 by omega) (by decide) rfl (fun z1 e1 => ?_)
              have Y1 := H1.ast 6 rfl e1
              clear e1
              refine g_iconst ok (dk m_Mo_intrude 78 rfl) (pc' := 135) rfl (v := 1) (by decide) ?_
              refine g_istore_n ok (dk m_Mo_intrude 79 rfl) (pc' := 136) rfl (i := 1) rfl (Nat.le_of_ble_eq_true rfl) rfl ?_
              refine g_iinc ok (dk m_Mo_intrude 80 rfl) (pc' := 139) rfl rfl (nI_1 k) rfl ?_
              refine g_goto ok (dk m_Mo_intrude 81 rfl) (pc' := 83) (by decide) ?_
              exact ih (k + 1) (by omega) _ _ 1 Y1 (f1.xs 6 _ _ (by decide)) ⟨fun j hj hne => by
                by_cases q : j = b
                · rw [q]
                  exact (Kn.cl X n c).2.2 k (by omega) (by rw [hea, ix_nI (by omega)]; exact h1.1 a ha c_102) |> fun w => by rw [heb, ix_nI (by omega)] at w; exact w
                · rw [xs_j q] at hne
                  exact h1.1 j hj hne, fun j hj => by
                by_cases q : j = b
                · rw [q]
                  exact Or.inr (xs_s _ _ _ _)
                · rw [xs_j q]
                  exact h1.2 j hj⟩ (fun j hj h5 => by
                by_cases q : j = b
                · rw [q, xs_s]
                  decide
                · rw [xs_j q]
                  exact hT j hj h5) (Or.inr rfl) (by
                have q := cz_s (f := X1.2 6) c_116 n hb
                have e : (xs X1 6 b 1).2 6 = upd (X1.2 6) b 1 := show va_up X1.2 6 (upd (X1.2 6) b 1) 6 = _ from if_pos rfl
                rw [e]
                exact ⟨by have := hz.1; omega, fun _ => by have := hz.1; omega⟩) (fun z => absurd z (by decide))
            · refine g_goto ok (dk m_Mo_intrude 69 rfl) (pc' := 136) (by decide) ?_
              refine g_iinc ok (dk m_Mo_intrude 80 rfl) (pc' := 139) rfl rfl (nI_1 k) rfl ?_
              refine g_goto ok (dk m_Mo_intrude 81 rfl) (pc' := 83) (by decide) ?_
              exact ih (k + 1) (by omega) _ X1 t H1 f1 h1 hT ht01 hz (fun z => ⟨(h3 z).1, (h3 z).2.1, fun j hj => by
                by_cases q : j = k
                · subst q
                  rw [hea, heb, ix_nI (by omega), ix_nI (by omega), ← (h3 z).1]
                  exact Or.inr c_116
                · exact (h3 z).2.2 j (by omega)⟩)
      have loop2 : ∀ (m k : Nat), k + m = n → ∀ (h2 : q_H) (X1 : x_T) (t : Int32), q_mo h2 o ba X1 → xfr [6] X X1 → ((∀ j, j < n → ¬ X1.2 6 j = 0 → Kn X n c j) ∧ (∀ j, j < n → X1.2 6 j = 0 ∨ X1.2 6 j = 1)) → (∀ i, i < n → ¬ X.2 5 i = 0 → ¬ X1.2 6 i = 0) → (t = 0 ∨ t = 1) → (cz (X1.2 6) n ≤ cz (Xs.2 6) n ∧ (¬ t = 0 → cz (X1.2 6) n < cz (Xs.2 6) n)) → (t = 0 → X1.2 6 = Xs.2 6 ∧ ∀ j, j < k → ¬ Xs.2 6 j = 0 ∨ ¬ fl_P Xs j) → GW g Z A (fun q h' => q = .inl none ∧ ∃ X', q_mo h' o ba X' ∧ xfr [6] X X' ∧ ∀ k, k < n → X'.2 6 k = b2i (Kn X n c k)) 0 0 h2 38 [some (.ref o), some (.int t), some (.int (nI k))] [] := by
        intro m
        induction m with
        | zero =>
          intro k hk h2 X1 t H1 f1 h1 hT ht01 hz h3
          refine g_iload_n ok (dk m_Mo_intrude 24 rfl) (pc' := 39) rfl (i := 2) rfl rfl ?_
          refine g_aload_n ok (dk m_Mo_intrude 25 rfl) (pc' := 40) rfl (i := 0) rfl rfl ?_
          refine g_get ok (dk m_Mo_intrude 26 rfl) (pc' := 43) rfl f_Mo_158 H1.1 rfl ?_
          refine g_top (w := .int (nI n)) (congrArg Value.int ((f1 1 (by decide)).1.trans hKH.2.2.1)) ?_
          refine g_icmp_ge ok (dk m_Mo_intrude 27 rfl) (tgt := 81) (by decide) (pc' := 46) rfl (fun c_43 => ?_) (fun c_43 => absurd (nI_le (a := n) (b := k) (by omega) (by omega)) c_43)
          refine g_iconst ok (dk m_Mo_intrude 47 rfl) (pc' := 82) rfl (v := 0) (by decide) ?_
          refine g_istore_n ok (dk m_Mo_intrude 48 rfl) (pc' := 83) rfl (i := 2) rfl (Nat.le_of_ble_eq_true rfl) rfl ?_
          exact loop3 c 0 (by omega) _ X1 t H1 f1 h1 hT ht01 hz (fun z => ⟨(h3 z).1, fun j hj => (h3 z).2 j (by omega), fun j hj => absurd hj (Nat.not_lt_zero _)⟩)
        | succ m ih =>
          intro k hk h2 X1 t H1 f1 h1 hT ht01 hz h3
          refine g_iload_n ok (dk m_Mo_intrude 24 rfl) (pc' := 39) rfl (i := 2) rfl rfl ?_
          refine g_aload_n ok (dk m_Mo_intrude 25 rfl) (pc' := 40) rfl (i := 0) rfl rfl ?_
          refine g_get ok (dk m_Mo_intrude 26 rfl) (pc' := 43) rfl f_Mo_158 H1.1 rfl ?_
          refine g_top (w := .int (nI n)) (congrArg Value.int ((f1 1 (by decide)).1.trans hKH.2.2.1)) ?_
          refine g_icmp_ge ok (dk m_Mo_intrude 27 rfl) (tgt := 81) (by decide) (pc' := 46) rfl (fun c_43 => absurd c_43 (nI_ge (show k < n by omega) (by omega))) (fun c_43 => ?_)
          refine g_aload_n ok (dk m_Mo_intrude 28 rfl) (pc' := 47) rfl (i := 0) rfl rfl ?_
          refine g_get ok (dk m_Mo_intrude 29 rfl) (pc' := 50) rfl f_Mo_23 H1.1 rfl ?_
          refine g_iload_n ok (dk m_Mo_intrude 30 rfl) (pc' := 51) rfl (i := 2) rfl rfl ?_
          refine g_zaldI ok (dk m_Mo_intrude 31 rfl) (pc' := 52) rfl (j := k) (H1.ar 6 rfl) rfl (show k < 2600 by omega) (by decide) ?_
          refine g_if_ne ok (dk m_Mo_intrude 32 rfl) (tgt := 75) (by decide) (pc' := 55) rfl (fun c_52 => ?_) (fun c_52 => ?_)
          · refine g_iinc ok (dk m_Mo_intrude 45 rfl) (pc' := 78) rfl rfl (nI_1 k) rfl ?_
            refine g_goto ok (dk m_Mo_intrude 46 rfl) (pc' := 38) (by decide) ?_
            exact ih (k + 1) (by omega) _ X1 t H1 f1 h1 hT ht01 hz (fun z => ⟨(h3 z).1, fun j hj => by
              by_cases q : j = k
              · subst q
                exact Or.inl (by rw [← (h3 z).1]; exact c_52)
              · exact (h3 z).2 j (by omega)⟩)
          · refine g_aload_n ok (dk m_Mo_intrude 33 rfl) (pc' := 56) rfl (i := 0) rfl rfl ?_
            refine g_iload_n ok (dk m_Mo_intrude 34 rfl) (pc' := 57) rfl (i := 2) rfl rfl ?_
            refine g_callV ok (dk m_Mo_intrude 35 rfl) (pc' := 60) rfl c_Mo_164 (c_Mo_follows g (k := k) (n := n) (c := c) 0 (hKH.cg f1 (by decide)) (by omega) h1.2 H1) H1.1 rfl rfl (by simp [Value.category]) (by omega) rfl (rc' := 0) (rs' := 0) (by omega) (by omega) (fun rv h' hcc => ?_) (fun i h' hcc => by obtain ⟨⟨z, e9, -⟩, -⟩ := hcc; cases e9)
            obtain ⟨⟨z, e9, hzz⟩, e2⟩ := hcc
            have e3 := e2.symm
            subst e3
            cases e9
            refine g_if_ne ok (dk m_Mo_intrude 36 rfl) (tgt := 66) (by decide) (pc' := 63) rfl (fun c_60 => ?_) (fun c_60 => ?_)
            · refine g_aload_n ok (dk m_Mo_intrude 38 rfl) (pc' := 67) rfl (i := 0) rfl rfl ?_
              refine g_get ok (dk m_Mo_intrude 39 rfl) (pc' := 70) rfl f_Mo_23 H1.1 rfl ?_
              refine g_iload_n ok (dk m_Mo_intrude 40 rfl) (pc' := 71) rfl (i := 2) rfl rfl ?_
              refine g_iconst ok (dk m_Mo_intrude 41 rfl) (pc' := 72) rfl (v := 1) (by decide) ?_
              refine g_zastI ok (dk m_Mo_intrude 42 rfl) (pc' := 73) rfl (j := k) (H1.ar 6 rfl) rfl (show k < 2600 by omega) (by decide) rfl (fun z1 e1 => ?_)
              have Y1 := H1.ast 6 rfl e1
              clear e1
              refine g_iconst ok (dk m_Mo_intrude 43 rfl) (pc' := 74) rfl (v := 1) (by decide) ?_
              refine g_istore_n ok (dk m_Mo_intrude 44 rfl) (pc' := 75) rfl (i := 1) rfl (Nat.le_of_ble_eq_true rfl) rfl ?_
              refine g_iinc ok (dk m_Mo_intrude 45 rfl) (pc' := 78) rfl rfl (nI_1 k) rfl ?_
              refine g_goto ok (dk m_Mo_intrude 46 rfl) (pc' := 38) (by decide) ?_
              exact ih (k + 1) (by omega) _ _ 1 Y1 (f1.xs 6 _ _ (by decide)) ⟨fun j hj hne => by
                by_cases q : j = k
                · rw [q]
                  exact (Kn.cl X n c).2.1 k (by omega) (by
                    obtain ⟨a, b, ha, hb, ea, eb⟩ := hKH.2.2.2.2.1 k (by omega)
                    have x2 : X1.2 2 = X.2 2 := (f1 2 (by decide)).2
                    have x3 : X1.2 3 = X.2 3 := (f1 3 (by decide)).2
                    have x4 : X1.2 4 = X.2 4 := (f1 4 (by decide)).2
                    have w := (hzz.resolve_left (fun y => c_60 y.1)).2
                    unfold fl_P at w
                    rw [x2, x3, x4] at w
                    rcases w with w | ⟨r1, r2, r3⟩
                    · exact Or.inl w
                    · refine Or.inr ⟨r1, ?_, fun y4 => ?_⟩
                      · rw [ea, ix_nI (by omega)] at r2 ⊢
                        exact h1.1 a ha r2
                      · have r4 := r3 y4
                        rw [eb, ix_nI (by omega)] at r4 ⊢
                        exact h1.1 b hb r4)
                · rw [xs_j q] at hne
                  exact h1.1 j hj hne, fun j hj => by
                by_cases q : j = k
                · rw [q]
                  exact Or.inr (xs_s _ _ _ _)
                · rw [xs_j q]
                  exact h1.2 j hj⟩ (fun j hj h5 => by
                by_cases q : j = k
                · rw [q, xs_s]
                  decide
                · rw [xs_j q]
                  exact hT j hj h5) (Or.inr rfl) (by
                have q := cz_s (f := X1.2 6) c_52 n (by omega)
                have e : (xs X1 6 k 1).2 6 = upd (X1.2 6) k 1 := show va_up X1.2 6 (upd (X1.2 6) k 1) 6 = _ from if_pos rfl
                rw [e]
                exact ⟨by have := hz.1; omega, fun _ => by have := hz.1; omega⟩) (fun z => absurd z (by decide))
            · refine g_goto ok (dk m_Mo_intrude 37 rfl) (pc' := 75) (by decide) ?_
              refine g_iinc ok (dk m_Mo_intrude 45 rfl) (pc' := 78) rfl rfl (nI_1 k) rfl ?_
              refine g_goto ok (dk m_Mo_intrude 46 rfl) (pc' := 38) (by decide) ?_
              exact ih (k + 1) (by omega) _ X1 t H1 f1 h1 hT ht01 hz (fun z => ⟨(h3 z).1, fun j hj => by
                by_cases q : j = k
                · subst q
                  exact Or.inr (fun w => by
                    have w2 := (hzz.resolve_right (fun y => y.1 c_60)).2
                    refine w2 ?_
                    unfold fl_P at w ⊢
                    rw [(h3 z).1, (f1 2 (by decide)).2, (f1 3 (by decide)).2, (f1 4 (by decide)).2]
                    rw [(fs 2 (by decide)).2, (fs 3 (by decide)).2, (fs 4 (by decide)).2] at w
                    exact w)
                · exact (h3 z).2 j (by omega)⟩)
      refine g_iload_n ok (dk m_Mo_intrude 18 rfl) (pc' := 31) rfl (i := 1) rfl rfl ?_
      refine g_if_eq ok (dk m_Mo_intrude 19 rfl) (tgt := 145) (by decide) (pc' := 34) rfl (fun c_31 => absurd c_31 (by decide)) (fun c_31 => ?_)
      refine g_iconst ok (dk m_Mo_intrude 20 rfl) (pc' := 35) rfl (v := 0) (by decide) ?_
      refine g_istore_n ok (dk m_Mo_intrude 21 rfl) (pc' := 36) rfl (i := 1) rfl (Nat.le_of_ble_eq_true rfl) rfl ?_
      refine g_iconst ok (dk m_Mo_intrude 22 rfl) (pc' := 37) rfl (v := 0) (by decide) ?_
      refine g_istore_n ok (dk m_Mo_intrude 23 rfl) (pc' := 38) rfl (i := 2) rfl (Nat.le_of_ble_eq_true rfl) rfl ?_
      exact loop2 n 0 (by omega) _ Xs 0 Hs fs hs hTs (Or.inl rfl) ⟨Nat.le_refl _, fun z => absurd rfl z⟩ (fun _ => ⟨rfl, fun j hj => absurd hj (Nat.not_lt_zero _)⟩)
  have loop1 : ∀ (m k : Nat), k + m = n → ∀ (h1 : q_H) (X1 : x_T), q_mo h1 o ba X1 → xfr [6] X X1 → (∀ j, j < k → X1.2 6 j = X.2 5 j) → GW g Z A (fun q h' => q = .inl none ∧ ∃ X', q_mo h' o ba X' ∧ xfr [6] X X' ∧ ∀ k, k < n → X'.2 6 k = b2i (Kn X n c k)) 0 0 h1 2 [some (.ref o), some (.int (nI k)), none] [] := by
    intro m
    induction m with
    | zero =>
      intro k hk h1 X1 H1 f1 hp
      refine g_iload_n ok (dk m_Mo_intrude 2 rfl) (pc' := 3) rfl (i := 1) rfl rfl ?_
      refine g_aload_n ok (dk m_Mo_intrude 3 rfl) (pc' := 4) rfl (i := 0) rfl rfl ?_
      refine g_get ok (dk m_Mo_intrude 4 rfl) (pc' := 7) rfl f_Mo_158 H1.1 rfl ?_
      refine g_top (w := .int (nI n)) (congrArg Value.int ((f1 1 (by decide)).1.trans hKH.2.2.1)) ?_
      refine g_icmp_ge ok (dk m_Mo_intrude 5 rfl) (tgt := 28) (by decide) (pc' := 10) rfl (fun c_7 => ?_) (fun c_7 => absurd (nI_le (a := n) (b := k) (by omega) (by omega)) c_7)
      refine g_iconst ok (dk m_Mo_intrude 16 rfl) (pc' := 29) rfl (v := 1) (by decide) ?_
      refine g_istore_n ok (dk m_Mo_intrude 17 rfl) (pc' := 30) rfl (i := 1) rfl (Nat.le_of_ble_eq_true rfl) rfl ?_
      exact outer _ _ X1 _ H1 f1 ⟨fun j hj hne => (Kn.cl X n c).1 j hj (by rw [← hp j (by omega)]; exact hne), fun j hj => by rw [hp j (by omega)]; exact hKH.2.2.2.2.2.2 j hj⟩ (fun i hi h5 => by rw [hp i (by omega)]; exact h5) rfl
    | succ m ih =>
      intro k hk h1 X1 H1 f1 hp
      refine g_iload_n ok (dk m_Mo_intrude 2 rfl) (pc' := 3) rfl (i := 1) rfl rfl ?_
      refine g_aload_n ok (dk m_Mo_intrude 3 rfl) (pc' := 4) rfl (i := 0) rfl rfl ?_
      refine g_get ok (dk m_Mo_intrude 4 rfl) (pc' := 7) rfl f_Mo_158 H1.1 rfl ?_
      refine g_top (w := .int (nI n)) (congrArg Value.int ((f1 1 (by decide)).1.trans hKH.2.2.1)) ?_
      refine g_icmp_ge ok (dk m_Mo_intrude 5 rfl) (tgt := 28) (by decide) (pc' := 10) rfl (fun c_7 => absurd c_7 (nI_ge (show k < n by omega) (by omega))) (fun c_7 => ?_)
      refine g_aload_n ok (dk m_Mo_intrude 6 rfl) (pc' := 11) rfl (i := 0) rfl rfl ?_
      refine g_get ok (dk m_Mo_intrude 7 rfl) (pc' := 14) rfl f_Mo_23 H1.1 rfl ?_
      refine g_iload_n ok (dk m_Mo_intrude 8 rfl) (pc' := 15) rfl (i := 1) rfl rfl ?_
      refine g_aload_n ok (dk m_Mo_intrude 9 rfl) (pc' := 16) rfl (i := 0) rfl rfl ?_
      refine g_get ok (dk m_Mo_intrude 10 rfl) (pc' := 19) rfl f_Mo_19 H1.1 rfl ?_
      refine g_iload_n ok (dk m_Mo_intrude 11 rfl) (pc' := 20) rfl (i := 1) rfl rfl ?_
      refine g_zaldI ok (dk m_Mo_intrude 12 rfl) (pc' := 21) rfl (j := k) (H1.ar 5 rfl) rfl (show k < 2600 by omega) (by decide) ?_
      refine g_top (w := .int (X.2 5 k)) (congrArg Value.int (congrFun (f1 5 (by decide)).2 k)) ?_
      refine g_zastI ok (dk m_Mo_intrude 13 rfl) (pc' := 22) rfl (j := k) (H1.ar 6 rfl) rfl (show k < 2600 by omega) (by decide) (by rcases hKH.2.2.2.2.2.2 k (by omega) with q | q <;> rw [q] <;> rfl) (fun z1 e1 => ?_)
      have Y1 := H1.ast 6 rfl e1
      clear e1
      refine g_iinc ok (dk m_Mo_intrude 14 rfl) (pc' := 25) rfl rfl (nI_1 k) rfl ?_
      refine g_goto ok (dk m_Mo_intrude 15 rfl) (pc' := 2) (by decide) ?_
      exact ih (k + 1) (by omega) _ _ Y1 (f1.xs 6 _ _ (by decide)) (fun j hj => by
        by_cases q : j = k
        · subst q
          exact xs_s _ _ _ _
        · rw [xs_j q]
          exact hp j (by omega))
  refine g_iconst ok (dk m_Mo_intrude 0 rfl) (pc' := 1) rfl (v := 0) (by decide) ?_
  refine g_istore_n ok (dk m_Mo_intrude 1 rfl) (pc' := 2) rfl (i := 1) rfl (Nat.le_of_ble_eq_true rfl) rfl ?_
  exact loop1 n 0 (by omega) _ _ H xfr.rf (fun j hj => absurd hj (Nat.not_lt_zero _))
