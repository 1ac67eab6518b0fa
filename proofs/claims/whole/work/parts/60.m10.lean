/-! ===== the reference: renew ===== -/
theorem rem2 : ∀ r, r < 31 → nI r - nI r / 2 * 2 = nI (r % 2) ∧ nI r / 2 = nI (r / 2) := by decide +kernel
def en_K : List Nat := [7, 8, 9, 10, 11, 20]
theorem mo_enc_f (Y : x_T) (c e : Nat) (x y z : Int32) : xfr en_K Y (mo_enc Y c e x y z) := (((((xfr.rf.xs 8 _ _ (by decide)).xs 9 _ _ (by decide)).xs 10 _ _ (by decide)).xs 11 _ _ (by decide)).xi 7 _ (by decide)).xs 20 _ _ (by decide)
theorem rn_e_f (e v : Nat) (la : Int32) : ∀ (L : List Nat) (Y : x_T), xfr en_K Y (rn_e e v la L Y) := by
  intro L
  induction L with
  | nil => intro Y; exact xfr.rf
  | cons r L ih =>
    intro Y
    rw [rn_e]
    refine xfr.tr ?_ (ih _)
    split
    · exact xfr.rf
    · exact mo_enc_f _ _ _ _ _ _
theorem rn_e_c (e v : Nat) (la : Int32) : ∀ (L : List Nat) (Y : x_T) (c : Nat), Y.1 7 = nI c → c + L.length < 2 ^ 31 → ∃ c2, (rn_e e v la L Y).1 7 = nI c2 ∧ c2 ≤ c + L.length := by
  intro L
  induction L with
  | nil => intro Y c hc hb; exact ⟨c, hc, Nat.le_refl _⟩
  | cons r L ih =>
    intro Y c hc hb
    rw [List.length_cons] at hb ⊢
    rw [rn_e]
    split
    · obtain ⟨c2, h1, h2⟩ := ih Y c hc (by omega)
      exact ⟨c2, h1, by omega⟩
    · obtain ⟨c2, h1, h2⟩ := ih (mo_enc Y (ix (Y.1 7)) e (Y.2 22 (31 * e + r)) la (nI v)) (c + 1) (by
        show upd Y.1 7 (nI (ix (Y.1 7) + 1)) 7 = _
        rw [upd_s, hc, ix_nI (by omega)]) (by omega)
      exact ⟨c2, h1, by omega⟩
def q_RI (e D : Nat) (Y : x_T) (t n c : Nat) (la : Int32) : Prop := Y.2 13 e = nI D ∧ Y.1 1 = nI n ∧ n + 2 * (D + 1 - t) + 1 ≤ 2600 ∧ 1 ≤ n ∧ Y.1 7 = nI c ∧ c + 12 * (D + 1 - t) ≤ 3600 ∧ Y.1 12 = nI e ∧ uk (Y.2 23) e ∧ WF Y n ∧ (la = -1 ∨ ∃ a, la = nI a ∧ n = a + 2 ∧ 1 ≤ a ∧ Y.2 2 (a + 1) = 3)
theorem q_RI.no {e D : Nat} {Y X : x_T} {t n c a : Nat} {la : Int32} (h : q_RI e D Y t n c la) (f : xfr rs_K Y X) (hn : n < 2600) (ha : n = a + 2) (ha1 : 1 ≤ a) (h3 : Y.2 2 (a + 1) = 3) : ∀ k, k < n → ¬ (X.2 2 k = 2 ∧ X.2 3 k = nI a ∧ X.2 4 k = 0) := fun k hk z => by
  rw [(f 2 (by decide)).2, (f 3 (by decide)).2] at z
  by_cases q : k = a + 1
  · rw [q, h3] at z
    exact absurd z.1 (by decide)
  · obtain ⟨b, hb, hlt⟩ := h.2.2.2.2.2.2.2.2.1 k hk
    rw [hb] at z
    have q2 := (nI_eq (by omega) (by omega)).mp z.2.1
    omega
theorem mkl_of {Y : x_T} {n : Nat} (hn : Y.1 1 = nI n) (h : n < 2600) (la : Int32) : mkl Y la = if la = -1 then mk Y n 1 0 0 else mk Y n 2 la 0 := by rw [mkl, hn, ix_nI (by omega)]
theorem nI_nm {a : Nat} (h : a < 2 ^ 31) : ¬ nI a = -1 := fun z => by
  have q := nI_pos h
  rw [z] at q
  exact q (by decide)
set_option maxHeartbeats 1000000 in
theorem c_Mo_renew (g : q_G) {h : q_H} {o : Nat} {ba : Nat → Nat} {X : x_T} {e l D n c : Nat} (d : Nat) (hd : 2 ≤ d) (he : e < 60) (hl : l < 16) (hD : X.2 13 e = nI D) (hD4 : D ≤ 4) (hn : X.1 1 = nI n) (hn2 : n + 10 ≤ 2600) (hc : X.1 7 = nI c) (hc2 : c + 48 ≤ 3600) (he12 : X.1 12 = nI e) (hu : uk (X.2 23) e) (hw : WF X n) (H : q_mo h o ba X) : MG g y_Mo_renew b_Mo_renew 8 (some .int) d 0 0 [.ref o, .int (nI e), .int (nI l)] h (fun q h' => ∃ X', q_mo h' o ba X' ∧ xfr rs_K (rn X e l D).1 X' ∧ q = .inl (some (.int (rn X e l D).2))) := by
  refine MG.of (by decide +kernel) (by simp [Value.category]) (Nat.le_of_ble_eq_true rfl) ?_
  intro Z A ok
  have loop : ∀ (m t : Nat), t + m = D + 1 → 1 ≤ t → ∀ (h1 : q_H) (X1 Y : x_T) (n1 c1 : Nat) (la : Int32) (x5 x6 x7 : Option Value), q_mo h1 o ba X1 → xfr rs_K Y X1 → q_RI e D Y t n1 c1 la → rn_m e l m t (Y, la) = rn_m e l D 1 (rn_0 X e l, -1) → GW g Z A (fun q h' => ∃ X', q_mo h' o ba X' ∧ xfr rs_K (rn X e l D).1 X' ∧ q = .inl (some (.int (rn X e l D).2))) 0 0 h1 20 [some (.ref o), some (.int (nI e)), some (.int (nI l)), some (.int la), some (.int (nI t)), x5, x6, x7] [] := by
    intro m
    induction m with
    | zero =>
      intro t ht ht1 h1 X1 Y n1 c1 la x5 x6 x7 H1 f1 hI hv
      have hn1 : X1.1 1 = nI n1 := (f1 1 (by decide)).1.trans hI.2.1
      have hn13 := hI.2.2.1
      refine g_iload ok (dk m_Mo_renew 15 rfl) (pc' := 22) rfl rfl ?_
      refine g_aload_n ok (dk m_Mo_renew 16 rfl) (pc' := 23) rfl (i := 0) rfl rfl ?_
      refine g_get ok (dk m_Mo_renew 17 rfl) (pc' := 26) rfl f_Mo_38 H1.1 rfl ?_
      refine g_iload_n ok (dk m_Mo_renew 18 rfl) (pc' := 27) rfl (i := 1) rfl rfl ?_
      refine g_ialdI ok (dk m_Mo_renew 19 rfl) (pc' := 28) rfl (j := e) (H1.ar 13 rfl) rfl (show e < 60 by omega) (by decide) ?_
      refine g_top (w := .int (nI D)) (congrArg Value.int ((congrFun (f1 13 (by decide)).2 e).trans hI.1)) ?_
      refine g_icmp_gt ok (dk m_Mo_renew 20 rfl) (tgt := 218) (by decide) (pc' := 31) rfl (fun c_28 => ?_) (fun c_28 => absurd (nI_lt (a := D) (b := t) (by omega) (by omega)) c_28)
      refine g_iload_n ok (dk m_Mo_renew 134 rfl) (pc' := 219) rfl (i := 3) rfl rfl ?_
      refine g_iconst ok (dk m_Mo_renew 135 rfl) (pc' := 220) rfl (v := (-1)) (by decide) ?_
      refine g_icmp_ne ok (dk m_Mo_renew 136 rfl) (tgt := 233) (by decide) (pc' := 223) rfl (fun c_220 => ?_) (fun c_220 => ?_)
      · obtain ⟨a, rfl, ha, ha1, ha3⟩ := hI.2.2.2.2.2.2.2.2.2.resolve_left c_220
        have hno := hI.no f1 (by omega) ha ha1 ha3
        refine g_aload_n ok (dk m_Mo_renew 143 rfl) (pc' := 234) rfl (i := 0) rfl rfl ?_
        refine g_iconst ok (dk m_Mo_renew 144 rfl) (pc' := 235) rfl (v := 2) (by decide) ?_
        refine g_iload_n ok (dk m_Mo_renew 145 rfl) (pc' := 236) rfl (i := 3) rfl rfl ?_
        refine g_iconst ok (dk m_Mo_renew 146 rfl) (pc' := 237) rfl (v := 0) (by decide) ?_
        refine g_callV ok (dk m_Mo_renew 147 rfl) (pc' := 240) rfl c_Mo_221 (c_Mo_of g 2 (nI a) 0 1 (by omega) (n := n1) (by exact hn1) (by omega) (by exact hno) H1) H1.1 rfl rfl (by simp [Value.category]) (by omega) rfl (rc' := 0) (rs' := 0) (by omega) (by omega) (fun rv h' hcc => ?_) (fun i h' hcc => by obtain ⟨e9, -⟩ := hcc; cases e9)
        obtain ⟨e9, Y1⟩ := hcc
        cases e9
        exact g_iret ok (dk m_Mo_renew 148 rfl) rfl rfl ⟨_, Y1, by rw [rn, ← hv]; show xfr rs_K (mkl Y (nI a)) _; rw [mkl_of hI.2.1 (by omega), if_neg c_220]; exact xcmk f1 _ _ _ _, by rw [rn, ← hv]; show _ = Sum.inl (some (Value.int (Y.1 1))); rw [hI.2.1]⟩
      · refine g_aload_n ok (dk m_Mo_renew 137 rfl) (pc' := 224) rfl (i := 0) rfl rfl ?_
        refine g_iconst ok (dk m_Mo_renew 138 rfl) (pc' := 225) rfl (v := 1) (by decide) ?_
        refine g_iconst ok (dk m_Mo_renew 139 rfl) (pc' := 226) rfl (v := 0) (by decide) ?_
        refine g_iconst ok (dk m_Mo_renew 140 rfl) (pc' := 227) rfl (v := 0) (by decide) ?_
        refine g_callV ok (dk m_Mo_renew 141 rfl) (pc' := 230) rfl c_Mo_143 (c_Mo_make g 1 0 0 0 (n := n1) (by exact hn1) (by omega) H1) H1.1 rfl rfl (by simp [Value.category]) (by omega) rfl (rc' := 0) (rs' := 0) (by omega) (by omega) (fun rv h' hcc => ?_) (fun i h' hcc => by obtain ⟨e9, -⟩ := hcc; cases e9)
        obtain ⟨e9, Y2⟩ := hcc
        cases e9
        refine g_goto ok (dk m_Mo_renew 142 rfl) (pc' := 240) (by decide) ?_
        exact g_iret ok (dk m_Mo_renew 148 rfl) rfl rfl ⟨_, Y2, by rw [rn, ← hv]; show xfr rs_K (mkl Y la) _; rw [mkl_of hI.2.1 (by omega), if_pos c_220]; exact xcmk f1 _ _ _ _, by rw [rn, ← hv]; show _ = Sum.inl (some (Value.int (Y.1 1))); rw [hI.2.1]⟩
    | succ m ih =>
      intro t ht ht1 h1 X1 Y n1 c1 la x5 x6 x7 H1 f1 hI hv
      have ht1' := ht1
      obtain ⟨hs1, hs2, hs3, hs4⟩ := sib_ok l hl t (by omega) ht1
      obtain ⟨L, hLd⟩ : ∃ L, rsl Y e (t - 1) (sib l t) = L := ⟨_, rfl⟩
      have hLe : rsl X1 e (t - 1) (sib l t) = L := (rsl_cg (f1 22 (by decide)).2 (f1 23 (by decide)).2 _ _).trans hLd
      have hL12 : L.length ≤ 12 := by
        rw [← hLd]
        refine Nat.le_trans (rsl_len hI.2.2.2.2.2.2.2.1 (t - 1) (sib l t) (by omega) hs4 hs3) ?_
        rcases (show t = 1 ∨ t = 2 ∨ t = 3 ∨ t = 4 by omega) with rfl | rfl | rfl | rfl <;> decide
      have hLx : (rsl X1 e (hgt (sib l t)) (sib l t)).length ≤ 32 := by
        rw [hs3, hLe]
        omega
      have hn13 := hI.2.2.1
      have hc13 := hI.2.2.2.2.2.1
      have mid : ∀ (h3 : q_H) (X3 : x_T), q_mo h3 o ba X3 → xfr rs_K (mkl Y la) X3 → q_RS X3 L → ¬ L = [] → GW g Z A (fun q h' => ∃ X', q_mo h' o ba X' ∧ xfr rs_K (rn X e l D).1 X' ∧ q = .inl (some (.int (rn X e l D).2))) 0 0 h3 98 [some (.ref o), some (.int (nI e)), some (.int (nI l)), some (.int la), some (.int (nI t)), some (.int (nI (abv l t))), x6, x7] [.int (nI n1)] := by
        intro h3 X3 H3 f3 hr3 hL0
        have inner : ∀ (mm k : Nat), k + mm = L.length → ∀ (h4 : q_H) (X4 Y4 : x_T) (c4 : Nat) (y7 : Option Value), q_mo h4 o ba X4 → xfr rs_K Y4 X4 → q_RS X4 L → Y4.1 7 = nI c4 → c4 + mm ≤ c1 + 12 → Y4.1 12 = nI e → rn_e e (abv l t) (nI n1) (L.drop k) Y4 = rn_y3 e (abv l t) Y la L → GW g Z A (fun q h' => ∃ X', q_mo h' o ba X' ∧ xfr rs_K (rn X e l D).1 X' ∧ q = .inl (some (.int (rn X e l D).2))) 0 0 h4 128 [some (.ref o), some (.int (nI e)), some (.int (nI l)), some (.int (nI n1)), some (.int (nI t)), some (.int (nI (abv l t))), some (.int (nI k)), y7] [] := by
          intro mm
          induction mm with
          | zero =>
            intro k hk h4 X4 Y4 c4 y7 H4 f4 hr4 hc4 hcb he4 hv4
            have hk0 : L.drop k = [] := List.drop_eq_nil_of_le (by omega)
            have f5 : xfr rs_K (rn_y3 e (abv l t) Y la L) X4 := by
              rw [← hv4, hk0]
              exact f4
            obtain ⟨c3, hc3, hc3b⟩ := rn_e_c e (abv l t) (nI n1) L (rn_y2 e (abv l t) Y la) c1 (by rw [rn_y2, mkl_of hI.2.1 (by omega)]; split <;> exact hI.2.2.2.2.1) (by omega)
            have hy : rn_e e (abv l t) (nI n1) L (rn_y2 e (abv l t) Y la) = rn_y3 e (abv l t) Y la L := by rw [rn_y3, hI.2.1]
            rw [hy] at hc3
            have hf := rn_e_f e (abv l t) (nI n1) L (rn_y2 e (abv l t) Y la)
            rw [hy] at hf
            have hy1 : (rn_y3 e (abv l t) Y la L).1 1 = nI (n1 + 1) := by
              rw [(hf 1 (by decide)).1, rn_y2, mkl_of hI.2.1 (by omega)]
              split <;> rfl
            have hy13 : (rn_y3 e (abv l t) Y la L).2 13 e = nI D := by
              rw [(hf 13 (by decide)).2, rn_y2, mkl_of hI.2.1 (by omega)]
              split <;> exact hI.1
            have hy12 : (rn_y3 e (abv l t) Y la L).1 12 = nI e := by
              rw [(hf 12 (by decide)).1, rn_y2, mkl_of hI.2.1 (by omega)]
              split <;> exact hI.2.2.2.2.2.2.1
            have hyu : uk ((rn_y3 e (abv l t) Y la L).2 23) e := by
              rw [(hf 23 (by decide)).2, rn_y2, mkl_of hI.2.1 (by omega)]
              split <;> exact hI.2.2.2.2.2.2.2.1
            have hyw : WF (rn_y3 e (abv l t) Y la L) (n1 + 1) := by
              have q : (rn_y3 e (abv l t) Y la L).2 3 = (mkl Y la).2 3 := by
                rw [(hf 3 (by decide)).2, rn_y2]
                rfl
              have q2 : WF (mkl Y la) (n1 + 1) := by
                rw [mkl_of hI.2.1 (by omega)]
                rcases hI.2.2.2.2.2.2.2.2.2 with z | ⟨a, z, ha, ha1, -⟩
                · rw [if_pos z]
                  exact WF_mk (f := 0) hI.2.2.2.2.2.2.2.2.1 1 0 (Or.inr rfl)
                · rw [if_neg (by rw [z]; exact fun y => absurd y (nI_nm (by omega))), z]
                  exact WF_mk (f := a) hI.2.2.2.2.2.2.2.2.1 2 0 (Or.inl (by omega))
              intro i hi
              rw [q]
              exact q2 i hi
            have hno3 : ∀ i, i < n1 + 1 → ¬ (X4.2 2 i = 3 ∧ X4.2 3 i = nI n1 ∧ X4.2 4 i = 0) := fun i hi z => by
              rw [(f5 3 (by decide)).2] at z
              obtain ⟨b, hb, hlt⟩ := hyw i hi
              rw [hb] at z
              have q2 := (nI_eq (by omega) (by omega)).mp z.2.1
              have := hI.2.2.2.1
              omega
            refine g_iload ok (dk m_Mo_renew 83 rfl) (pc' := 130) rfl rfl ?_
            refine g_aload_n ok (dk m_Mo_renew 84 rfl) (pc' := 131) rfl (i := 0) rfl rfl ?_
            refine g_get ok (dk m_Mo_renew 85 rfl) (pc' := 134) rfl f_Mo_176 H4.1 rfl ?_
            refine g_top (w := .int (nI L.length)) (congrArg Value.int hr4.1) ?_
            refine g_icmp_ge ok (dk m_Mo_renew 86 rfl) (tgt := 198) (by decide) (pc' := 137) rfl (fun c_134 => ?_) (fun c_134 => absurd (nI_le (a := L.length) (b := k) (by omega) (by omega)) c_134)
            refine g_aload_n ok (dk m_Mo_renew 123 rfl) (pc' := 199) rfl (i := 0) rfl rfl ?_
            refine g_iload_n ok (dk m_Mo_renew 124 rfl) (pc' := 200) rfl (i := 1) rfl rfl ?_
            refine g_iload ok (dk m_Mo_renew 125 rfl) (pc' := 202) rfl rfl ?_
            refine g_aload_n ok (dk m_Mo_renew 126 rfl) (pc' := 203) rfl (i := 0) rfl rfl ?_
            refine g_iconst ok (dk m_Mo_renew 127 rfl) (pc' := 204) rfl (v := 3) (by decide) ?_
            refine g_iload_n ok (dk m_Mo_renew 128 rfl) (pc' := 205) rfl (i := 3) rfl rfl ?_
            refine g_iconst ok (dk m_Mo_renew 129 rfl) (pc' := 206) rfl (v := 0) (by decide) ?_
            refine g_callV ok (dk m_Mo_renew 130 rfl) (pc' := 209) rfl c_Mo_221 (c_Mo_of g 3 (nI n1) 0 1 (by omega) (n := n1 + 1) (by exact (f5 1 (by decide)).1.trans hy1) (by omega) (by exact hno3) H4) H4.1 rfl rfl (by simp [Value.category]) (by omega) rfl (rc' := 0) (rs' := 0) (by omega) (by omega) (fun rv h' hcc => ?_) (fun i h' hcc => by obtain ⟨e9, -⟩ := hcc; cases e9)
            obtain ⟨e9, Y301⟩ := hcc
            cases e9
            refine g_callV ok (dk m_Mo_renew 131 rfl) (pc' := 212) rfl c_Mo_204 (c_Mo_set g (e := e) (v := abv l t) (nI (n1 + 1)) 0 he (abv_ok l hl t (by omega)).2 Y301) Y301.1 rfl rfl (by simp [Value.category]) (by omega) rfl (rc' := 0) (rs' := 0) (by omega) (by omega) (fun rv h' hcc => ?_) (fun i h' hcc => by obtain ⟨e9, -⟩ := hcc; cases e9)
            obtain ⟨e9, Y302⟩ := hcc
            cases e9
            refine g_iinc ok (dk m_Mo_renew 132 rfl) (pc' := 215) rfl rfl (nI_1 t) rfl ?_
            refine g_goto ok (dk m_Mo_renew 133 rfl) (pc' := 20) (by decide) ?_
            exact ih (t + 1) (by omega) (by omega) _ _ (mo_set (mk (rn_y3 e (abv l t) Y la L) (n1 + 1) 3 (nI n1) 0) e (abv l t) (nI (n1 + 1))) (n1 + 2) c3 (nI n1) _ _ _ Y302 (xcset (xcmk f5 _ _ _ _) _ _ _) ⟨hy13, rfl, by omega, by omega, hc3, by omega, hy12, uk.put hyu _, WF_mk hyw 3 0 (Or.inl (by omega)), Or.inr ⟨n1, rfl, rfl, hI.2.2.2.1, by
              show upd ((rn_y3 e (abv l t) Y la L).2 2) (n1 + 1) 3 (n1 + 1) = 3
              rw [upd_s]⟩⟩ (by
              rw [← hv, rn_m, rn_1, if_neg (by rw [hLd]; exact hL0)]
              rw [hLd, hI.2.1, ix_nI (by omega)])
          | succ mm ihk =>
            intro k hk h4 X4 Y4 c4 y7 H4 f4 hr4 hc4 hcb he4 hv4
            obtain ⟨r, hrk⟩ : ∃ r, L[k]? = some r := ⟨L[k]'(by omega), List.getElem?_eq_getElem (by omega)⟩
            have hdk : L.drop k = r :: L.drop (k + 1) := by
              rw [List.drop_eq_getElem_cons (by omega)]
              congr 1
              have q := List.getElem?_eq_getElem (l := L) (i := k) (by omega)
              rw [hrk] at q
              exact (Option.some.inj q).symm
            have hr31 : r < 31 := by
              have q := List.mem_of_getElem? hrk
              rw [← hLd] at q
              exact rsl_lt (t - 1) (sib l t) (by omega) hs4 hs3 r q
            have hrr : X4.2 49 k = nI r := hr4.2 k r hrk
            have e19 : X4.2 19 = Y4.2 19 := (f4 19 (by decide)).2
            have e22 : X4.2 22 = Y4.2 22 := (f4 22 (by decide)).2
            refine g_iload ok (dk m_Mo_renew 83 rfl) (pc' := 130) rfl rfl ?_
            refine g_aload_n ok (dk m_Mo_renew 84 rfl) (pc' := 131) rfl (i := 0) rfl rfl ?_
            refine g_get ok (dk m_Mo_renew 85 rfl) (pc' := 134) rfl f_Mo_176 H4.1 rfl ?_
            refine g_top (w := .int (nI L.length)) (congrArg Value.int hr4.1) ?_
            refine g_icmp_ge ok (dk m_Mo_renew 86 rfl) (tgt := 198) (by decide) (pc' := 137) rfl (fun c_134 => absurd c_134 (nI_ge (a := k) (b := L.length) (by omega) (by omega))) (fun c_134 => ?_)
            refine g_aload_n ok (dk m_Mo_renew 87 rfl) (pc' := 138) rfl (i := 0) rfl rfl ?_
            refine g_get ok (dk m_Mo_renew 88 rfl) (pc' := 141) rfl f_Mo_134 H4.1 rfl ?_
            refine g_iload ok (dk m_Mo_renew 89 rfl) (pc' := 143) rfl rfl ?_
            refine g_ialdI ok (dk m_Mo_renew 90 rfl) (pc' := 144) rfl (j := k) (H4.ar 49 rfl) rfl (show k < 32 by omega) (by decide) ?_
            rw [hrr]
            refine g_istore ok (dk m_Mo_renew 91 rfl) (pc' := 146) rfl (Nat.le_of_ble_eq_true rfl) rfl ?_
            refine g_iload ok (dk m_Mo_renew 92 rfl) (pc' := 148) rfl rfl ?_
            refine g_iconst ok (dk m_Mo_renew 93 rfl) (pc' := 149) rfl (v := 2) (by decide) ?_
            refine g_irem ok (dk m_Mo_renew 94 rfl) (pc' := 150) rfl (by decide) ?_
            rw [(rem2 r hr31).1]
            refine g_if_ne ok (dk m_Mo_renew 95 rfl) (tgt := 173) (by decide) (pc' := 153) rfl (fun c_150 => ?_) (fun c_150 => ?_)
            · refine g_aload_n ok (dk m_Mo_renew 109 rfl) (pc' := 174) rfl (i := 0) rfl rfl ?_
              refine g_aload_n ok (dk m_Mo_renew 110 rfl) (pc' := 175) rfl (i := 0) rfl rfl ?_
              refine g_get ok (dk m_Mo_renew 111 rfl) (pc' := 178) rfl f_Mo_65 H4.1 rfl ?_
              refine g_bipush ok (dk m_Mo_renew 112 rfl) (pc' := 180) rfl (v := 31) (by decide) ?_
              refine g_iload_n ok (dk m_Mo_renew 113 rfl) (pc' := 181) rfl (i := 1) rfl rfl ?_
              refine g_imul ok (dk m_Mo_renew 114 rfl) (pc' := 182) rfl ?_
              refine g_iload ok (dk m_Mo_renew 115 rfl) (pc' := 184) rfl rfl ?_
              refine g_iadd ok (dk m_Mo_renew 116 rfl) (pc' := 185) rfl ?_
              refine g_ialdI ok (dk m_Mo_renew 117 rfl) (pc' := 186) rfl (j := 31 * e + r) (H4.ar 22 rfl) (ix31 e r) (show 31 * e + r < 1860 by omega) (by decide) ?_
              rw [e22]
              refine g_iload_n ok (dk m_Mo_renew 118 rfl) (pc' := 187) rfl (i := 3) rfl rfl ?_
              refine g_iload ok (dk m_Mo_renew 119 rfl) (pc' := 189) rfl rfl ?_
              refine g_callV ok (dk m_Mo_renew 120 rfl) (pc' := 192) rfl c_Mo_224 (c_Mo_encrypt g (c := c4) (e := e) (Y4.2 22 (31 * e + r)) (nI n1) (nI (abv l t)) 0 (by exact (f4 7 (by decide)).1.trans hc4) (by omega) (by exact (f4 12 (by decide)).1.trans he4) he H4) H4.1 rfl rfl (by simp [Value.category]) (by omega) rfl (rc' := 0) (rs' := 0) (by omega) (by omega) (fun rv h' hcc => ?_) (fun i h' hcc => by obtain ⟨e9, -⟩ := hcc; cases e9)
              obtain ⟨e9, Y401⟩ := hcc
              cases e9
              refine g_iinc ok (dk m_Mo_renew 121 rfl) (pc' := 195) rfl rfl (nI_1 k) rfl ?_
              refine g_goto ok (dk m_Mo_renew 122 rfl) (pc' := 128) (by decide) ?_
              exact ihk (k + 1) (by omega) _ _ (mo_enc Y4 c4 e (Y4.2 22 (31 * e + r)) (nI n1) (nI (abv l t))) (c4 + 1) _ Y401 (xcenc f4 _ _ _ _ _) ⟨hr4.1, hr4.2⟩ rfl (by omega) he4 (by rw [← hv4, hdk, rn_e, if_neg (fun z => c_150 (by rw [z.1]; rfl)), hc4, ix_nI (by omega)])
            · refine g_aload_n ok (dk m_Mo_renew 96 rfl) (pc' := 154) rfl (i := 0) rfl rfl ?_
              refine g_get ok (dk m_Mo_renew 97 rfl) (pc' := 157) rfl f_Mo_56 H4.1 rfl ?_
              refine g_iload_n ok (dk m_Mo_renew 98 rfl) (pc' := 158) rfl (i := 1) rfl rfl ?_
              refine g_ialdI ok (dk m_Mo_renew 99 rfl) (pc' := 159) rfl (j := e) (H4.ar 19 rfl) rfl (show e < 60 by omega) (by decide) ?_
              rw [e19]
              refine g_iload ok (dk m_Mo_renew 100 rfl) (pc' := 161) rfl rfl ?_
              refine g_iconst ok (dk m_Mo_renew 101 rfl) (pc' := 162) rfl (v := 2) (by decide) ?_
              refine g_idiv ok (dk m_Mo_renew 102 rfl) (pc' := 163) rfl (by decide) ?_
              rw [(rem2 r hr31).2]
              refine g_ishr ok (dk m_Mo_renew 103 rfl) (pc' := 164) rfl ?_
              refine g_iconst ok (dk m_Mo_renew 104 rfl) (pc' := 165) rfl (v := 1) (by decide) ?_
              refine g_iand ok (dk m_Mo_renew 105 rfl) (pc' := 166) rfl ?_
              refine g_iconst ok (dk m_Mo_renew 106 rfl) (pc' := 167) rfl (v := 1) (by decide) ?_
              refine g_icmp_ne ok (dk m_Mo_renew 107 rfl) (tgt := 173) (by decide) (pc' := 170) rfl (fun c_167 => ?_) (fun c_167 => ?_)
              · refine g_aload_n ok (dk m_Mo_renew 109 rfl) (pc' := 174) rfl (i := 0) rfl rfl ?_
                refine g_aload_n ok (dk m_Mo_renew 110 rfl) (pc' := 175) rfl (i := 0) rfl rfl ?_
                refine g_get ok (dk m_Mo_renew 111 rfl) (pc' := 178) rfl f_Mo_65 H4.1 rfl ?_
                refine g_bipush ok (dk m_Mo_renew 112 rfl) (pc' := 180) rfl (v := 31) (by decide) ?_
                refine g_iload_n ok (dk m_Mo_renew 113 rfl) (pc' := 181) rfl (i := 1) rfl rfl ?_
                refine g_imul ok (dk m_Mo_renew 114 rfl) (pc' := 182) rfl ?_
                refine g_iload ok (dk m_Mo_renew 115 rfl) (pc' := 184) rfl rfl ?_
                refine g_iadd ok (dk m_Mo_renew 116 rfl) (pc' := 185) rfl ?_
                refine g_ialdI ok (dk m_Mo_renew 117 rfl) (pc' := 186) rfl (j := 31 * e + r) (H4.ar 22 rfl) (ix31 e r) (show 31 * e + r < 1860 by omega) (by decide) ?_
                rw [e22]
                refine g_iload_n ok (dk m_Mo_renew 118 rfl) (pc' := 187) rfl (i := 3) rfl rfl ?_
                refine g_iload ok (dk m_Mo_renew 119 rfl) (pc' := 189) rfl rfl ?_
                refine g_callV ok (dk m_Mo_renew 120 rfl) (pc' := 192) rfl c_Mo_224 (c_Mo_encrypt g (c := c4) (e := e) (Y4.2 22 (31 * e + r)) (nI n1) (nI (abv l t)) 0 (by exact (f4 7 (by decide)).1.trans hc4) (by omega) (by exact (f4 12 (by decide)).1.trans he4) he H4) H4.1 rfl rfl (by simp [Value.category]) (by omega) rfl (rc' := 0) (rs' := 0) (by omega) (by omega) (fun rv h' hcc => ?_) (fun i h' hcc => by obtain ⟨e9, -⟩ := hcc; cases e9)
                obtain ⟨e9, Y402⟩ := hcc
                cases e9
                refine g_iinc ok (dk m_Mo_renew 121 rfl) (pc' := 195) rfl rfl (nI_1 k) rfl ?_
                refine g_goto ok (dk m_Mo_renew 122 rfl) (pc' := 128) (by decide) ?_
                exact ihk (k + 1) (by omega) _ _ (mo_enc Y4 c4 e (Y4.2 22 (31 * e + r)) (nI n1) (nI (abv l t))) (c4 + 1) _ Y402 (xcenc f4 _ _ _ _ _) ⟨hr4.1, hr4.2⟩ rfl (by omega) he4 (by rw [← hv4, hdk, rn_e, if_neg (fun z => c_167 z.2), hc4, ix_nI (by omega)])
              · refine g_goto ok (dk m_Mo_renew 108 rfl) (pc' := 192) (by decide) ?_
                refine g_iinc ok (dk m_Mo_renew 121 rfl) (pc' := 195) rfl rfl (nI_1 k) rfl ?_
                refine g_goto ok (dk m_Mo_renew 122 rfl) (pc' := 128) (by decide) ?_
                exact ihk (k + 1) (by omega) _ _ Y4 c4 _ H4 f4 hr4 hc4 (by omega) he4 (by rw [← hv4, hdk, rn_e, if_pos ⟨(nI_eq (by omega) (by decide)).mp (c_150.trans (show (0 : Int32) = nI 0 from rfl)), c_167⟩])
        refine g_istore_n ok (dk m_Mo_renew 61 rfl) (pc' := 99) rfl (i := 3) rfl (Nat.le_of_ble_eq_true rfl) rfl ?_
        refine g_aload_n ok (dk m_Mo_renew 62 rfl) (pc' := 100) rfl (i := 0) rfl rfl ?_
        refine g_get ok (dk m_Mo_renew 63 rfl) (pc' := 103) rfl f_Mo_74 H3.1 rfl ?_
        refine g_bipush ok (dk m_Mo_renew 64 rfl) (pc' := 105) rfl (v := 31) (by decide) ?_
        refine g_iload_n ok (dk m_Mo_renew 65 rfl) (pc' := 106) rfl (i := 1) rfl rfl ?_
        refine g_imul ok (dk m_Mo_renew 66 rfl) (pc' := 107) rfl ?_
        refine g_iload ok (dk m_Mo_renew 67 rfl) (pc' := 109) rfl rfl ?_
        refine g_iadd ok (dk m_Mo_renew 68 rfl) (pc' := 110) rfl ?_
        refine g_iload_n ok (dk m_Mo_renew 69 rfl) (pc' := 111) rfl (i := 3) rfl rfl ?_
        refine g_iastI ok (dk m_Mo_renew 70 rfl) (pc' := 112) rfl (j := 31 * e + abv l t) (H3.ar 25 rfl) (ix31 e (abv l t)) (show 31 * e + abv l t < 1860 by have := (abv_ok l hl t (by omega)).2; omega) (by decide) (fun z201 e201 => ?_)
        have Y201 := H3.ast 25 rfl e201
        clear e201
        refine g_aload_n ok (dk m_Mo_renew 71 rfl) (pc' := 113) rfl (i := 0) rfl rfl ?_
        refine g_get ok (dk m_Mo_renew 72 rfl) (pc' := 116) rfl f_Mo_47 Y201.1 rfl ?_
        refine g_iload_n ok (dk m_Mo_renew 73 rfl) (pc' := 117) rfl (i := 1) rfl rfl ?_
        refine g_dup2 ok (dk m_Mo_renew 74 rfl) (pc' := 118) rfl rfl rfl ?_
        refine g_ialdI ok (dk m_Mo_renew 75 rfl) (pc' := 119) rfl (j := e) (Y201.ar 16 rfl) rfl (show e < 60 by omega) (by decide) ?_
        refine g_top (w := .int (Y.2 16 e)) (congrArg Value.int ((congrFun (f3 16 (by decide)).2 e).trans (by rw [mkl_of hI.2.1 (by omega)]; split <;> rfl))) ?_
        refine g_iconst ok (dk m_Mo_renew 76 rfl) (pc' := 120) rfl (v := 1) (by decide) ?_
        refine g_iload ok (dk m_Mo_renew 77 rfl) (pc' := 122) rfl rfl ?_
        refine g_ishl ok (dk m_Mo_renew 78 rfl) (pc' := 123) rfl ?_
        refine g_ior ok (dk m_Mo_renew 79 rfl) (pc' := 124) rfl ?_
        refine g_iastI ok (dk m_Mo_renew 80 rfl) (pc' := 125) rfl (j := e) (Y201.ar 16 rfl) rfl (show e < 60 by omega) (by decide) (fun z202 e202 => ?_)
        have Y202 := Y201.ast 16 rfl e202
        clear e202
        refine g_iconst ok (dk m_Mo_renew 81 rfl) (pc' := 126) rfl (v := 0) (by decide) ?_
        refine g_istore ok (dk m_Mo_renew 82 rfl) (pc' := 128) rfl (Nat.le_of_ble_eq_true rfl) rfl ?_
        exact inner L.length 0 (Nat.zero_add _) _ _ (rn_y2 e (abv l t) Y la) c1 _ Y202 (by rw [rn_y2, hI.2.1]; exact xcs (xcs f3 25 _ _ (by decide)) 16 _ _ (by decide)) ⟨hr3.1, hr3.2⟩ (by rw [rn_y2, mkl_of hI.2.1 (by omega)]; split <;> exact hI.2.2.2.2.1) (by omega) (by rw [rn_y2, mkl_of hI.2.1 (by omega)]; split <;> exact hI.2.2.2.2.2.2.1) (by rw [rn_y3, hI.2.1]; rfl)
      refine g_iload ok (dk m_Mo_renew 15 rfl) (pc' := 22) rfl rfl ?_
      refine g_aload_n ok (dk m_Mo_renew 16 rfl) (pc' := 23) rfl (i := 0) rfl rfl ?_
      refine g_get ok (dk m_Mo_renew 17 rfl) (pc' := 26) rfl f_Mo_38 H1.1 rfl ?_
      refine g_iload_n ok (dk m_Mo_renew 18 rfl) (pc' := 27) rfl (i := 1) rfl rfl ?_
      refine g_ialdI ok (dk m_Mo_renew 19 rfl) (pc' := 28) rfl (j := e) (H1.ar 13 rfl) rfl (show e < 60 by omega) (by decide) ?_
      refine g_top (w := .int (nI D)) (congrArg Value.int ((congrFun (f1 13 (by decide)).2 e).trans hI.1)) ?_
      refine g_icmp_gt ok (dk m_Mo_renew 20 rfl) (tgt := 218) (by decide) (pc' := 31) rfl (fun c_28 => absurd c_28 (nI_nlt (a := D) (b := t) (by omega) (by omega))) (fun c_28 => ?_)
      refine g_iload_n ok (dk m_Mo_renew 21 rfl) (pc' := 32) rfl (i := 2) rfl rfl ?_
      refine g_iload ok (dk m_Mo_renew 22 rfl) (pc' := 34) rfl rfl ?_
      refine g_callS ok (dk m_Mo_renew 23 rfl) (pc' := 37) rfl c_Mo_168 (c_Mo_above g (nI l) (nI t) 0) rfl rfl (by simp [Value.category]) (by omega) rfl (rc' := 0) (rs' := 0) (by omega) (by omega) (fun rv h' hcc => ?_) (fun i h' hcc => by obtain ⟨e9, -⟩ := hcc; cases e9)
      obtain ⟨e9, e2⟩ := hcc
      have e3 := e2.symm
      subst e3
      cases e9
      rw [(abv_ok l hl t (by omega)).1]
      refine g_istore ok (dk m_Mo_renew 24 rfl) (pc' := 39) rfl (Nat.le_of_ble_eq_true rfl) rfl ?_
      refine g_aload_n ok (dk m_Mo_renew 25 rfl) (pc' := 40) rfl (i := 0) rfl rfl ?_
      refine g_iload_n ok (dk m_Mo_renew 26 rfl) (pc' := 41) rfl (i := 1) rfl rfl ?_
      refine g_iload_n ok (dk m_Mo_renew 27 rfl) (pc' := 42) rfl (i := 2) rfl rfl ?_
      refine g_iconst ok (dk m_Mo_renew 28 rfl) (pc' := 43) rfl (v := 1) (by decide) ?_
      refine g_iload ok (dk m_Mo_renew 29 rfl) (pc' := 45) rfl rfl ?_
      refine g_iconst ok (dk m_Mo_renew 30 rfl) (pc' := 46) rfl (v := 1) (by decide) ?_
      refine g_isub ok (dk m_Mo_renew 31 rfl) (pc' := 47) rfl ?_
      rw [show nI t - 1 = nI (t - 1) from nI_sub (a := 1) ht1]
      refine g_ishl ok (dk m_Mo_renew 32 rfl) (pc' := 48) rfl ?_
      rw [j_shl (t - 1) (by omega)]
      refine g_ixor ok (dk m_Mo_renew 33 rfl) (pc' := 49) rfl ?_
      rw [hs2]
      refine g_iload ok (dk m_Mo_renew 34 rfl) (pc' := 51) rfl rfl ?_
      refine g_iconst ok (dk m_Mo_renew 35 rfl) (pc' := 52) rfl (v := 1) (by decide) ?_
      refine g_isub ok (dk m_Mo_renew 36 rfl) (pc' := 53) rfl ?_
      rw [show nI t - 1 = nI (t - 1) from nI_sub (a := 1) ht1]
      refine g_callS ok (dk m_Mo_renew 37 rfl) (pc' := 56) rfl c_Mo_168 (c_Mo_above g (nI (l ^^^ 2 ^ (t - 1))) (nI (t - 1)) 0) rfl rfl (by simp [Value.category]) (by omega) rfl (rc' := 0) (rs' := 0) (by omega) (by omega) (fun rv h' hcc => ?_) (fun i h' hcc => by obtain ⟨e9, -⟩ := hcc; cases e9)
      obtain ⟨e9, e2⟩ := hcc
      have e3 := e2.symm
      subst e3
      cases e9
      rw [(abv_ok _ hs1 (t - 1) (by omega)).1]
      refine g_callV ok (dk m_Mo_renew 38 rfl) (pc' := 59) rfl c_Mo_218 (c_Mo_resolve g (e := e) (v0 := sib l t) 1 (by omega) he hs4 (by exact hLx) H1) H1.1 rfl rfl (by simp [Value.category]) (by omega) rfl (rc' := 0) (rs' := 0) (by omega) (by omega) (fun rv h' hcc => ?_) (fun i h' hcc => by obtain ⟨e9, -⟩ := hcc; cases e9)
      obtain ⟨e9, X2, H2, fr2, hr2⟩ := hcc
      cases e9
      rw [hs3, hLe] at hr2
      have f2 := f1.tr fr2
      refine g_aload_n ok (dk m_Mo_renew 39 rfl) (pc' := 60) rfl (i := 0) rfl rfl ?_
      refine g_get ok (dk m_Mo_renew 40 rfl) (pc' := 63) rfl f_Mo_176 H2.1 rfl ?_
      refine g_top (w := .int (nI L.length)) (congrArg Value.int hr2.1) ?_
      refine g_if_ne ok (dk m_Mo_renew 41 rfl) (tgt := 76) (by decide) (pc' := 66) rfl (fun c_63 => ?_) (fun c_63 => ?_)
      · have hL0 : ¬ L = [] := fun z => c_63 (by rw [z]; rfl)
        refine g_iload_n ok (dk m_Mo_renew 47 rfl) (pc' := 77) rfl (i := 3) rfl rfl ?_
        refine g_iconst ok (dk m_Mo_renew 48 rfl) (pc' := 78) rfl (v := (-1)) (by decide) ?_
        refine g_icmp_ne ok (dk m_Mo_renew 49 rfl) (tgt := 91) (by decide) (pc' := 81) rfl (fun c_78 => ?_) (fun c_78 => ?_)
        · obtain ⟨a, rfl, ha, ha1, ha3⟩ := hI.2.2.2.2.2.2.2.2.2.resolve_left c_78
          have hno := hI.no f2 (by omega) ha ha1 ha3
          refine g_aload_n ok (dk m_Mo_renew 56 rfl) (pc' := 92) rfl (i := 0) rfl rfl ?_
          refine g_iconst ok (dk m_Mo_renew 57 rfl) (pc' := 93) rfl (v := 2) (by decide) ?_
          refine g_iload_n ok (dk m_Mo_renew 58 rfl) (pc' := 94) rfl (i := 3) rfl rfl ?_
          refine g_iconst ok (dk m_Mo_renew 59 rfl) (pc' := 95) rfl (v := 0) (by decide) ?_
          refine g_callV ok (dk m_Mo_renew 60 rfl) (pc' := 98) rfl c_Mo_221 (c_Mo_of g 2 (nI a) 0 1 (by omega) (n := n1) (by exact (f2 1 (by decide)).1.trans hI.2.1) (by omega) (by exact hno) H2) H2.1 rfl rfl (by simp [Value.category]) (by omega) rfl (rc' := 0) (rs' := 0) (by omega) (by omega) (fun rv h' hcc => ?_) (fun i h' hcc => by obtain ⟨e9, -⟩ := hcc; cases e9)
          obtain ⟨e9, Y1⟩ := hcc
          cases e9
          exact mid _ _ Y1 (by rw [mkl_of hI.2.1 (by omega), if_neg c_78]; exact xcmk f2 _ _ _ _) ⟨hr2.1, hr2.2⟩ hL0
        · refine g_aload_n ok (dk m_Mo_renew 50 rfl) (pc' := 82) rfl (i := 0) rfl rfl ?_
          refine g_iconst ok (dk m_Mo_renew 51 rfl) (pc' := 83) rfl (v := 1) (by decide) ?_
          refine g_iconst ok (dk m_Mo_renew 52 rfl) (pc' := 84) rfl (v := 0) (by decide) ?_
          refine g_iconst ok (dk m_Mo_renew 53 rfl) (pc' := 85) rfl (v := 0) (by decide) ?_
          refine g_callV ok (dk m_Mo_renew 54 rfl) (pc' := 88) rfl c_Mo_143 (c_Mo_make g 1 0 0 0 (n := n1) (by exact (f2 1 (by decide)).1.trans hI.2.1) (by omega) H2) H2.1 rfl rfl (by simp [Value.category]) (by omega) rfl (rc' := 0) (rs' := 0) (by omega) (by omega) (fun rv h' hcc => ?_) (fun i h' hcc => by obtain ⟨e9, -⟩ := hcc; cases e9)
          obtain ⟨e9, Y2⟩ := hcc
          cases e9
          refine g_goto ok (dk m_Mo_renew 55 rfl) (pc' := 98) (by decide) ?_
          exact mid _ _ Y2 (by rw [mkl_of hI.2.1 (by omega), if_pos c_78]; exact xcmk f2 _ _ _ _) ⟨hr2.1, hr2.2⟩ hL0
      · have hL0 : L = [] := by
          cases hLc : L with
          | nil => rfl
          | cons r M => rw [hLc] at c_63; exact absurd c_63 (nI_ne0 (by rw [List.length_cons]; omega) (by rw [← hLc]; omega))
        refine g_aload_n ok (dk m_Mo_renew 42 rfl) (pc' := 67) rfl (i := 0) rfl rfl ?_
        refine g_iload_n ok (dk m_Mo_renew 43 rfl) (pc' := 68) rfl (i := 1) rfl rfl ?_
        refine g_iload ok (dk m_Mo_renew 44 rfl) (pc' := 70) rfl rfl ?_
        refine g_callV ok (dk m_Mo_renew 45 rfl) (pc' := 73) rfl c_Mo_172 (c_Mo_blank g (e := e) (v := abv l t) 0 he (abv_ok l hl t (by omega)).2 H2) H2.1 rfl rfl (by simp [Value.category]) (by omega) rfl (rc' := 0) (rs' := 0) (by omega) (by omega) (fun rv h' hcc => ?_) (fun i h' hcc => by obtain ⟨e9, -⟩ := hcc; cases e9)
        obtain ⟨e9, Y3⟩ := hcc
        cases e9
        refine g_goto ok (dk m_Mo_renew 46 rfl) (pc' := 212) (by decide) ?_
        refine g_iinc ok (dk m_Mo_renew 132 rfl) (pc' := 215) rfl rfl (nI_1 t) rfl ?_
        refine g_goto ok (dk m_Mo_renew 133 rfl) (pc' := 20) (by decide) ?_
        exact ih (t + 1) (by omega) (by omega) _ _ _ n1 c1 la _ _ _ Y3 (xcbl f2 _ _) ⟨hI.1, hI.2.1, by omega, hI.2.2.2.1, hI.2.2.2.2.1, by omega, hI.2.2.2.2.2.2.1, uk.put hI.2.2.2.2.2.2.2.1 _, hI.2.2.2.2.2.2.2.2.1, hI.2.2.2.2.2.2.2.2.2⟩ (by rw [← hv, rn_m, rn_1, if_pos (by exact hLd.trans hL0)])
  refine g_aload_n ok (dk m_Mo_renew 0 rfl) (pc' := 1) rfl (i := 0) rfl rfl ?_
  refine g_iload_n ok (dk m_Mo_renew 1 rfl) (pc' := 2) rfl (i := 1) rfl rfl ?_
  refine g_iconst ok (dk m_Mo_renew 2 rfl) (pc' := 3) rfl (v := 2) (by decide) ?_
  refine g_iload_n ok (dk m_Mo_renew 3 rfl) (pc' := 4) rfl (i := 2) rfl rfl ?_
  refine g_imul ok (dk m_Mo_renew 4 rfl) (pc' := 5) rfl ?_
  rw [ix2]
  refine g_aload_n ok (dk m_Mo_renew 5 rfl) (pc' := 6) rfl (i := 0) rfl rfl ?_
  refine g_iconst ok (dk m_Mo_renew 6 rfl) (pc' := 7) rfl (v := 1) (by decide) ?_
  refine g_iconst ok (dk m_Mo_renew 7 rfl) (pc' := 8) rfl (v := 0) (by decide) ?_
  refine g_iconst ok (dk m_Mo_renew 8 rfl) (pc' := 9) rfl (v := 0) (by decide) ?_
  refine g_callV ok (dk m_Mo_renew 9 rfl) (pc' := 12) rfl c_Mo_143 (c_Mo_make g 1 0 0 0 (n := n) (by exact hn) (by omega) H) H.1 rfl rfl (by simp [Value.category]) (by omega) rfl (rc' := 0) (rs' := 0) (by omega) (by omega) (fun rv h' hcc => ?_) (fun i h' hcc => by obtain ⟨e9, -⟩ := hcc; cases e9)
  obtain ⟨e9, Y1⟩ := hcc
  cases e9
  refine g_callV ok (dk m_Mo_renew 10 rfl) (pc' := 15) rfl c_Mo_204 (c_Mo_set g (e := e) (v := 2 * l) (nI n) 0 he (by omega) Y1) Y1.1 rfl rfl (by simp [Value.category]) (by omega) rfl (rc' := 0) (rs' := 0) (by omega) (by omega) (fun rv h' hcc => ?_) (fun i h' hcc => by obtain ⟨e9, -⟩ := hcc; cases e9)
  obtain ⟨e9, Y2⟩ := hcc
  cases e9
  refine g_iconst ok (dk m_Mo_renew 11 rfl) (pc' := 16) rfl (v := (-1)) (by decide) ?_
  refine g_istore_n ok (dk m_Mo_renew 12 rfl) (pc' := 17) rfl (i := 3) rfl (Nat.le_of_ble_eq_true rfl) rfl ?_
  refine g_iconst ok (dk m_Mo_renew 13 rfl) (pc' := 18) rfl (v := 1) (by decide) ?_
  refine g_istore ok (dk m_Mo_renew 14 rfl) (pc' := 20) rfl (Nat.le_of_ble_eq_true rfl) rfl ?_
  exact loop D 1 (by omega) (Nat.le_refl _) _ _ (rn_0 X e l) (n + 1) c (-1) _ _ _ Y2 (by rw [rn_0, hn, ix_nI (by omega)]; exact xfr.rf) (by
    rw [rn_0, hn, ix_nI (by omega)]
    exact ⟨hD, rfl, by omega, by omega, hc, by omega, he12, uk.put hu _, WF_mk (f := 0) hw 1 0 (Or.inr rfl), Or.inl rfl⟩) rfl
