/-! ===== commit ===== -/
set_option maxHeartbeats 1000000 in
theorem c_AL_clearN (g : q_G) {h : q_H} {a : Nat} {mv : Int32} {el : Nat → Nat} (d : Nat) (ha : h a = some (.inl (3, [.ref (q_ad g 0), .int (nI 0), .int mv]))) : MG g y_AL_clear b_AL_clear 4 none d 0 0 [.ref a] h (fun q h' => q = .inl none ∧ q_lst g h' a none 0 el ∧ q_kp h h' (fun y => y = a)) := by
  refine MG.of (by decide +kernel) (by simp [Value.category]) (Nat.le_of_ble_eq_true rfl) ?_
  intro Z A ok
  refine g_aload_n ok (dk m_AL_clear 0 rfl) (pc' := 1) rfl (i := 0) rfl rfl ?_
  refine g_dup ok (dk m_AL_clear 1 rfl) (pc' := 2) rfl rfl ?_
  refine g_get ok (dk m_AL_clear 2 rfl) (pc' := 5) rfl f_AL_63 ha rfl ?_
  refine g_iconst ok (dk m_AL_clear 3 rfl) (pc' := 6) rfl (v := 1) (by decide) ?_
  refine g_iadd ok (dk m_AL_clear 4 rfl) (pc' := 7) rfl ?_
  refine g_put ok (dk m_AL_clear 5 rfl) (pc' := 10) rfl f_AL_63 (Or.inl rfl) ha (Nat.le_of_ble_eq_true rfl) rfl rfl ?_
  refine g_gen (fun h1 e1 => ?_)
  have ha1 : h1 a = some (.inl (3, [.ref (q_ad g 0), .int (nI 0), .int (mv + 1)])) := by rw [e1, q_up_s]; rfl
  have k1 := q_kp.up (q_kp.rf (h := h) (X := fun y => y = a)) rfl e1
  clear e1
  refine g_aload_n ok (dk m_AL_clear 6 rfl) (pc' := 11) rfl (i := 0) rfl rfl ?_
  refine g_get ok (dk m_AL_clear 7 rfl) (pc' := 14) rfl f_AL_9 ha1 rfl ?_
  refine g_astore_n ok (dk m_AL_clear 8 rfl) (pc' := 15) rfl (i := 1) rfl (Nat.le_of_ble_eq_true rfl) rfl ?_
  refine g_aload_n ok (dk m_AL_clear 9 rfl) (pc' := 16) rfl (i := 0) rfl rfl ?_
  refine g_get ok (dk m_AL_clear 10 rfl) (pc' := 19) rfl f_AL_48 ha1 rfl ?_
  refine g_istore_n ok (dk m_AL_clear 11 rfl) (pc' := 20) rfl (i := 2) rfl (Nat.le_of_ble_eq_true rfl) rfl ?_
  refine g_aload_n ok (dk m_AL_clear 12 rfl) (pc' := 21) rfl (i := 0) rfl rfl ?_
  refine g_iconst ok (dk m_AL_clear 13 rfl) (pc' := 22) rfl (v := 0) (by decide) ?_
  refine g_dup_x1 ok (dk m_AL_clear 14 rfl) (pc' := 23) rfl rfl rfl ?_
  refine g_put ok (dk m_AL_clear 15 rfl) (pc' := 26) rfl f_AL_48 (Or.inl rfl) ha1 (Nat.le_of_ble_eq_true rfl) rfl rfl ?_
  refine g_gen (fun h2 e2 => ?_)
  have ha2 : h2 a = some (.inl (3, [.ref (q_ad g 0), .int (nI 0), .int (mv + 1)])) := by rw [e2, q_up_s]; rfl
  have k2 := q_kp.up k1 rfl e2
  clear e2
  refine g_istore_n ok (dk m_AL_clear 16 rfl) (pc' := 27) rfl (i := 3) rfl (Nat.le_of_ble_eq_true rfl) rfl ?_
  refine g_iload_n ok (dk m_AL_clear 17 rfl) (pc' := 28) rfl (i := 3) rfl rfl ?_
  refine g_iload_n ok (dk m_AL_clear 18 rfl) (pc' := 29) rfl (i := 2) rfl rfl ?_
  refine g_icmp_ge ok (dk m_AL_clear 19 rfl) (tgt := 42) (by decide) (pc' := 32) rfl (fun c_29 => ?_) (fun c_29 => absurd (show nI 0 ≤ (0 : Int32) from by decide) c_29)
  exact g_vret ok (dk m_AL_clear 26 rfl) rfl ⟨rfl, ⟨rfl, _, ha2⟩, k2⟩
theorem c_AL_clear (g : q_G) {h : q_H} {a cnt : Nat} {ob : Option Nat} {el el2 : Nat → Nat} (d : Nat) (hl : q_lst g h a ob cnt el) : MG g y_AL_clear b_AL_clear 4 none d 0 0 [.ref a] h (fun q h' => q = .inl none ∧ q_lst g h' a ob 0 el2 ∧ q_kp h h' (fun y => y = a ∨ ob = some y)) := by
  cases ob with
  | none =>
    obtain ⟨-, mv, h2⟩ := hl
    exact (c_AL_clearN g d h2).mono (fun q h' z => ⟨z.1, z.2.1, z.2.2.wk (fun y hy => Or.inl hy)⟩)
  | some b =>
    obtain ⟨n, f, mv, h1, h2, h3, h4, h5, -⟩ := hl
    exact (c_AL_clearS g d h1 h2 h3 h4 h5).mono (fun q h' z => ⟨z.1, z.2.1, z.2.2.wk (fun y hy => by
      rcases hy with hy | hy
      · exact Or.inl hy
      · exact Or.inr (by rw [hy]))⟩)
section
variable {g : q_G} {h h' : q_H} {r : Nat} {w : Nat → Nat} {D : a_T} {ob : Nat → Option Nat} {G : G_T}
theorem q_RG.clr13 (H : q_RG g h r w D ob G) (hl : q_lst g h' (D.1 0 3) (ob 3) 0 (qA D)) (hk : q_kp h h' (fun y => w y = 13)) : q_RG g h' r w D ob (sN G 1 0) :=
  ⟨⟨hk _ _ H.fr (fun z => by have q := H.1.2; omega), H.1.2⟩,
   ⟨H.sec.kp hk (fun y hy z => by have q := H.secT y hy; omega), H.secT⟩,
   ⟨⟨hk _ _ H.hr (fun z => by have q := H.2.2.1.2.1; omega), hk _ _ H.hc (fun z => by have q := H.2.2.1.2.2; omega)⟩, H.2.2.1.2⟩,
   ⟨H.lm.kp hk (fun z => by have q := (H.ls (k := 1) (by decide) (by decide)).1; omega) (fun b hb z => by have q := (H.ls (k := 1) (by decide) (by decide)).2 b hb; omega), H.lp.kp hk (fun z => by have q := (H.ls (k := 2) (by decide) (by decide)).1; omega) (fun b hb z => by have q := (H.ls (k := 2) (by decide) (by decide)).2 b hb; omega), hl, H.le.kp hk (fun z => by have q := (H.ls (k := 4) (by decide) (by decide)).1; omega) (fun b hb z => by have q := (H.ls (k := 4) (by decide) (by decide)).2 b hb; omega)⟩,
   H.2.2.2.2.1,
   fun j hj => ⟨(H.mem hj).kp hk (fun y hy z => by have q := H.memT hj y hy; omega), H.memT hj⟩,
   fun j hj => ⟨hk _ _ (H.pk hj) (fun z => by have q := H.pkT hj; omega), H.own hj, H.pkT hj⟩,
   fun j hj => absurd hj (Nat.not_lt_zero _),
   ⟨fun j hj => ⟨(H.ep hj).kp hk (fun y hy z => by have q := H.epT hj y hy; omega), H.epT hj⟩, H.n1⟩⟩
theorem q_RG.clr (H : q_RG g h r w D ob G) (hl : q_lst g h' (D.1 0 3) (ob 3) 0 (qA D)) (hk : q_kp h h' (fun y => y = D.1 0 3 ∨ ob 3 = some y)) : q_RG g h' r w D ob (sN G 1 0) := H.clr13 hl (hk.wk (fun y hy => by
  rcases hy with hy | hy
  · rw [hy]
    exact (H.ls (k := 3) (by decide) (by decide)).1
  · exact (H.ls (k := 3) (by decide) (by decide)).2 y hy))
theorem q_GE.clr {x : Nat → Nat} {p : G_T × e_T} (H : q_GE g h r w D ob x p) (hl : q_lst g h' (D.1 0 3) (ob 3) 0 (qA D)) (hk : q_kp h h' (fun y => y = D.1 0 3 ∨ ob 3 = some y)) : q_GE g h' r w D ob x (sN p.1 1 0, p.2) :=
  ⟨H.1.clr hl hk, H.2.1.kp hk (fun y hy z => by
    have q := H.2.2.1 y hy
    rcases z with z | z
    · have q2 := (H.1.ls (k := 3) (by decide) (by decide)).1
      rw [z] at q
      omega
    · have q2 := (H.1.ls (k := 3) (by decide) (by decide)).2 y z
      omega), H.2.2⟩
theorem q_GE.apt {x : Nat → Nat} {p : G_T × e_T} (H : q_GE g h r w D ob x p) {i : Nat} (hi : i < ne p.1) : q_apt h (x 1) (D.2.2.2 i 1) (fun j => x (8 + j)) (fun j => D.2.2.2 i (4 + j)) (fun j => D.2.2.2 i (8 + j)) := by
  have T : ∀ y, A_ee D i y → ¬ tr_P (x 1) (fun j => x (8 + j)) y := fun y hy z => by
    have q := H.1.epT hi y hy
    have q2 := H.2.2.1 y (ep_P_A (Or.inr (Or.inr z)))
    omega
  exact ⟨T _ (Or.inr (Or.inl rfl)), fun k hk => ⟨T _ (Or.inr (Or.inr (Or.inr (Or.inr ⟨k, hk, Or.inl rfl⟩)))), T _ (Or.inr (Or.inr (Or.inr (Or.inr ⟨k, hk, Or.inr rfl⟩))))⟩⟩
theorem q_GE.mk {e t pr pb : Nat} {ra rb : Nat → Nat} {E : e_T} {o : q_O} (H : q_RG g h r w D ob G) (hwe : w e = 7) (hv : h e = some o) (hx : q_ep h' e t pr pb ra rb E) (hk : q_kp h h' (fun y => y = e)) (hA : ∀ y, ep_A e t pr pb ra rb y → y = e ∨ h y = none) (hT : E.2.1.2 ≤ 4) : ∃ w' x, x 0 = e ∧ q_GE g h' r w' D ob x (G, E) := by
  have hcl : ∀ y, Decidable (h y = none) := fun y => Classical.propDecidable _
  obtain ⟨x, x0, hx2, hA2⟩ := ex_of hx
  refine ⟨fun y => if h y = none then 7 else w y, x, x0, ?_⟩
  have H1 : q_RG g h r (fun y => if h y = none then 7 else w y) D ob G := H.retag (fun y o hy _ => if_neg (fun z => by rw [hy] at z; cases z))
  have hwE : (fun y => if h y = none then 7 else w y) e = 7 := (if_neg (fun z => by rw [hv] at z; cases z)).trans hwe
  have hwN : ∀ y, h y = none → (fun y => if h y = none then 7 else w y) y = 7 := fun y hy => if_pos hy
  generalize (fun y => if h y = none then 7 else w y) = w1 at H1 hwE hwN
  refine ⟨H1.keep (hk.wk (fun y hy => Or.inl (by rw [hy]; exact hwE))), hx2, fun y hy => ?_, hT⟩
  rcases hA y (hA2 y hy) with z | z
  · rw [z]
    exact hwE
  · exact hwN y z
end
theorem AR_k : ∀ (m k : Nat) (p : G_T × e_T), gN (AR m k p).1 = gN p.1 ∧ gQ (AR m k p).1 = gQ p.1 ∧ gE (AR m k p).1 = gE p.1 ∧ gK (AR m k p).1 = gK p.1 ∧ gS (AR m k p).1 = gS p.1 := by
  intro m
  induction m with
  | zero => intro k p; exact ⟨rfl, rfl, rfl, rfl, rfl⟩
  | succ m ih =>
    intro k p
    rw [AR]
    have h1 := ih (k + 1) (AR_1 k p)
    have h2 : gN (AR_1 k p).1 = gN p.1 ∧ gQ (AR_1 k p).1 = gQ p.1 ∧ gE (AR_1 k p).1 = gE p.1 ∧ gK (AR_1 k p).1 = gK p.1 ∧ gS (AR_1 k p).1 = gS p.1 := by
      unfold AR_1
      split
      · exact RL_k _ _
      · exact ⟨rfl, rfl, rfl, rfl, rfl⟩
    exact ⟨h1.1.trans h2.1, h1.2.1.trans h2.2.1, h1.2.2.1.trans h2.2.2.1, h1.2.2.2.1.trans h2.2.2.2.1, h1.2.2.2.2.trans h2.2.2.2.2⟩
theorem AN_k : ∀ (m k : Nat) (p : G_T × e_T), (AN m k p).1 = p.1 := by
  intro m
  induction m with
  | zero => intro k p; rfl
  | succ m ih =>
    intro k p
    rw [AN, ih, AN_1]
    split <;> rfl
theorem AA_k : ∀ (m k : Nat) (p : G_T × e_T), gN (AA m k p).1 = gN p.1 ∧ gQ (AA m k p).1 = gQ p.1 ∧ gE (AA m k p).1 = gE p.1 ∧ gM (AA m k p).1 = gM p.1 ∧ gS (AA m k p).1 = gS p.1 := by
  intro m
  induction m with
  | zero => intro k p; exact ⟨rfl, rfl, rfl, rfl, rfl⟩
  | succ m ih =>
    intro k p
    rw [AA]
    have h1 := ih (k + 1) (AA_1 k p)
    have h2 : gN (AA_1 k p).1 = gN p.1 ∧ gQ (AA_1 k p).1 = gQ p.1 ∧ gE (AA_1 k p).1 = gE p.1 ∧ gM (AA_1 k p).1 = gM p.1 ∧ gS (AA_1 k p).1 = gS p.1 := by
      unfold AA_1
      split
      · exact GL_k _ _
      · exact ⟨rfl, rfl, rfl, rfl, rfl⟩
    exact ⟨h1.1.trans h2.1, h1.2.1.trans h2.2.1, h1.2.2.1.trans h2.2.2.1, h1.2.2.2.1.trans h2.2.2.2.1, h1.2.2.2.2.trans h2.2.2.2.2⟩
theorem AW_k (jn : Int32) : ∀ (m k : Nat) (p : G_T × e_T), (AW jn m k p).1.2 = p.1.2 ∧ (AW jn m k p).2.2 = p.2.2 ∧ ∀ i, i ≠ 7 → (AW jn m k p).2.1 i = p.2.1 i := by
  intro m
  induction m with
  | zero => intro k p; exact ⟨rfl, rfl, fun _ _ => rfl⟩
  | succ m ih =>
    intro k p
    rw [AW]
    have h1 := ih (k + 1) (AW_1 jn k p)
    have h2 : (AW_1 jn k p).1.2 = p.1.2 ∧ (AW_1 jn k p).2.2 = p.2.2 ∧ ∀ i, i ≠ 7 → (AW_1 jn k p).2.1 i = p.2.1 i := by
      unfold AW_1
      split
      · split
        · exact ⟨rfl, rfl, fun i hi => if_neg hi⟩
        · exact ⟨rfl, rfl, fun i hi => (if_neg hi).trans (if_neg hi)⟩
      · exact ⟨rfl, rfl, fun _ _ => rfl⟩
    exact ⟨h1.1.trans h2.1, h1.2.1.trans h2.2.1, fun i hi => (h1.2.2 i hi).trans (h2.2.2 i hi)⟩
noncomputable def C_0 (G : G_T) (j : Nat) : G_T × e_T := (G, (E_new (nI (ne G)) ((gM G j).1 3)).1, T_copy (E_new (nI (ne G)) ((gM G j).1 3)).2.1 (gE G (ne G - 1)).2.1, (E_new (nI (ne G)) ((gM G j).1 3)).2.2)
noncomputable def C_2 (G : G_T) (j : Nat) : G_T × e_T := AN (nq (G_rem (C_0 G j)).1) 0 (G_rem (C_0 G j))
noncomputable def C_3 (G : G_T) (j : Nat) : G_T × e_T := AA (nq (C_2 G j).1) 0 (C_2 G j)
noncomputable def C_lay (p : G_T × e_T) : (G_T × e_T) × Int32 := ((sS p.1 (S_nxt (ES_path p.2 (gS p.1)).1.2 (ES_path p.2 (gS p.1)).2).2, (ES_path p.2 (gS p.1)).1.1), (S_nxt (ES_path p.2 (gS p.1)).1.2 (ES_path p.2 (gS p.1)).2).1)
noncomputable def C_4 (G : G_T) (j : Nat) (pa : Int32) : (G_T × e_T) × Int32 := by
  classical exact if E_need (C_3 G j).2 pa then C_lay (C_3 G j) else (C_3 G j, 0)
noncomputable def C_ini (p : G_T × e_T) : Int32 × s_T := S_der (gS p.1) ((gE p.1 (ne p.1 - 1)).1 2)
noncomputable def C_joi (q : (G_T × e_T) × Int32) : Int32 × s_T := S_joi (C_ini q.1).2 (C_ini q.1).1 q.2
noncomputable def C_sec (q : (G_T × e_T) × Int32) : Int32 × s_T := S_der (C_joi q).2 (C_joi q).1
noncomputable def C_5 (q : (G_T × e_T) × Int32) : G_T × e_T := AW (C_joi q).1 (np q.1.1) 0 (sS q.1.1 (C_sec q).2, upd q.1.2.1 2 (C_sec q).1, q.1.2.2)
noncomputable def C_6 (p : G_T × e_T) : G_T := sN (sE (sN p.1 1 0) (ne p.1) p.2) 2 (ne p.1 + 1)
noncomputable def S_settle (S : s_T) : s_T := S_set (ix (S.2 1)) (2201 - ix (S.2 3)) S
noncomputable def C_7 (p : G_T × e_T) (j : Nat) : G_T := sS (sM (C_6 p) j (M_lead (gM p.1 j) p.2)) (S_settle (gS p.1))
noncomputable def O_commit (G : G_T) (m pa : Int32) : q_R × G_T := by
  classical exact if r_in 16 m then (if (gM G (ix m)).1 2 = (gE G (ne G - 1)).1 0 then (if 60 ≤ ne G then (.inr 1, G) else (.inl (some (.int ((C_5 (C_4 G (ix m) pa)).2.1 0))), C_7 (C_5 (C_4 G (ix m) pa)) (ix m))) else (.inr 1, G)) else (.inr 0, G)
theorem G_rem_k (p : G_T × e_T) : gN (G_rem p).1 = gN p.1 ∧ gQ (G_rem p).1 = gQ p.1 ∧ gE (G_rem p).1 = gE p.1 ∧ gK (G_rem p).1 = gK p.1 ∧ gS (G_rem p).1 = gS p.1 := AR_k _ _ _
theorem C_2_n (G : G_T) (j : Nat) : gN (C_2 G j).1 = gN G := by
  rw [C_2, AN_k]
  exact (G_rem_k _).1
theorem C_3_n (G : G_T) (j : Nat) : gN (C_3 G j).1 = gN G := (AA_k _ _ _).1.trans (C_2_n G j)
theorem ES_path_d (E : e_T) (S : s_T) : (ES_path E S).1.1.2.1.2 = E.2.1.2 := (ES_lay_k _ _ _).1
set_option maxHeartbeats 1000000 in
theorem c_RG_commit (g : q_G) {h : q_H} {r : Nat} {w : Nat → Nat} {D : a_T} {ob : Nat → Option Nat} {G : G_T} (m pa : Int32) {n k0 : Nat} (d mc ms : Nat) (hd : 10 ≤ d) (hmc : 14 ≤ mc) (hms : 250 ≤ ms) (hnp : np G ≤ 60) (hnq : nq G ≤ 20) (hne : ne G ≤ 60) (hD4 : (gE G (ne G - 1)).2.1.2 ≤ 4) (hS : S_n (gS (C_5 (C_4 G (ix m) pa)).1) n k0) (H : q_RG g h r w D ob G) : MG g y_RG_commit b_RG_commit 7 (some .int) d mc ms [.ref r, .int m, .int pa] h (fun q h' => ∃ w' D' ob', q = (O_commit G m pa).1 ∧ q_RG g h' r w' D' ob' (O_commit G m pa).2) := by
  obtain ⟨le0, le1, hle⟩ := H.le.size
  refine MG.of (by decide +kernel) (by simp [Value.category]) (Nat.le_of_ble_eq_true rfl) ?_
  intro Z A ok
  refine g_aload_n ok (dk m_RG_commit 0 rfl) (pc' := 1) rfl (i := 0) rfl rfl ?_
  refine g_iload_n ok (dk m_RG_commit 1 rfl) (pc' := 2) rfl (i := 1) rfl rfl ?_
  refine g_callV ok (dk m_RG_commit 2 rfl) (pc' := 5) rfl c_RG_82 (c_RG_memberNumbered g m 6 1 6 (by omega) (by omega) (by omega) H) H.fr rfl rfl (by simp [Value.category]) (by omega) rfl (rc' := (mc - 1)) (rs' := (ms - 6)) (by omega) (by omega) (fun rv h' hcc => ?_) (fun i h' hcc => by obtain ⟨e9 | ⟨hr, e9⟩, e3⟩ := hcc; exact absurd e9.2 (fun z => by cases z); exact ⟨w, D, ob, by rw [O_commit, if_neg hr]; exact e9, by rw [O_commit, if_neg hr, e3]; exact H⟩)
  have hr : r_in 16 m ∧ rv = some (.ref (mA D (ix m))) := by
    rcases hcc.1 with ⟨a, b⟩ | ⟨a, b⟩
    · exact ⟨a, Sum.inl.inj b⟩
    · cases b
  obtain ⟨hr, rfl⟩ := hr
  have e4 := hcc.2.symm
  clear hcc
  subst e4
  obtain ⟨j, hj, rfl⟩ := r_in_of (by decide) hr
  have hx : ix (nI j) = j := ix_nI (by omega)
  rw [hx]
  have hO : O_commit G (nI j) pa = if (gM G j).1 2 = (gE G (ne G - 1)).1 0 then (if 60 ≤ ne G then (.inr 1, G) else (.inl (some (.int ((C_5 (C_4 G j pa)).2.1 0))), C_7 (C_5 (C_4 G j pa)) j)) else (.inr 1, G) := by rw [O_commit, if_pos hr, hx]
  rw [hx] at hS
  refine g_astore_n ok (dk m_RG_commit 3 rfl) (pc' := 6) rfl (i := 3) rfl (Nat.le_of_ble_eq_true rfl) rfl ?_
  refine g_aload_n ok (dk m_RG_commit 4 rfl) (pc' := 7) rfl (i := 3) rfl rfl ?_
  refine g_get ok (dk m_RG_commit 5 rfl) (pc' := 10) rfl f_RG_133 (H.mem hj).1 rfl ?_
  refine g_aload_n ok (dk m_RG_commit 6 rfl) (pc' := 11) rfl (i := 0) rfl rfl ?_
  refine g_get ok (dk m_RG_commit 7 rfl) (pc' := 14) rfl f_RG_53 H.fr rfl ?_
  refine g_getR ok (dk m_RG_commit 8 rfl) (pc' := 17) rfl f_RG_136 (H.ep H.lat).1 rfl ?_
  refine g_icmp_eq ok (dk m_RG_commit 9 rfl) (tgt := 30) (by decide) (pc' := 20) rfl (fun c_17 => ?_) (fun c_17 => ?_)
  · refine g_aload_n ok (dk m_RG_commit 15 rfl) (pc' := 31) rfl (i := 0) rfl rfl ?_
    refine g_get ok (dk m_RG_commit 16 rfl) (pc' := 34) rfl f_RG_29 H.fr rfl ?_
    refine g_callV ok (dk m_RG_commit 17 rfl) (pc' := 37) rfl c_RG_86 (c_AL_size g 0 hle) hle rfl rfl (by simp [Value.category]) (by omega) rfl (rc' := (mc - 1)) (rs' := (ms - 6)) (by omega) (by omega) (fun rv h' hcc => ?_) (fun i h' hcc => by obtain ⟨e9, -⟩ := hcc; cases e9)
    obtain ⟨e9, e2⟩ := hcc
    have e3 := e2.symm
    subst e3
    cases e9
    refine g_bipush ok (dk m_RG_commit 18 rfl) (pc' := 39) rfl (v := 60) (by decide) ?_
    refine g_icmp_lt ok (dk m_RG_commit 19 rfl) (tgt := 52) (by decide) (pc' := 42) rfl (fun c_39 => ?_) (fun c_39 => ?_)
    · have hnn : ¬ 60 ≤ ne G := fun z => by
        have q : ne G < 60 := nI_tl (by omega) c_39
        omega
      refine g_new ok (dk m_RG_commit 25 rfl) (pc' := 55) rfl o_RG_50 (rc' := (mc - 2)) (rs' := (ms - 16)) (by omega) (by omega) (fun e he0 heb => ?_)
      refine g_gen (fun v1 e1 => ?_)
      obtain ⟨H1, hw1, -⟩ := H.newX he0 e1
      have hv1 : v1 e = some (.inl (5, [.int 0, .int 0, .null, .null, .int 0, .int 0, .int 0, .int 0, .int 0, .int 0])) := by rw [e1, q_up_s]
      clear e1
      generalize va_up w e 7 = w1 at H1 hw1
      obtain ⟨l0, l1, hl1⟩ := H1.le.size
      refine g_dup ok (dk m_RG_commit 26 rfl) (pc' := 56) rfl rfl ?_
      refine g_aload_n ok (dk m_RG_commit 27 rfl) (pc' := 57) rfl (i := 0) rfl rfl ?_
      refine g_get ok (dk m_RG_commit 28 rfl) (pc' := 60) rfl f_RG_29 H1.fr rfl ?_
      refine g_callV ok (dk m_RG_commit 29 rfl) (pc' := 63) rfl c_RG_86 (c_AL_size g 0 hl1) hl1 rfl rfl (by simp [Value.category]) (by omega) rfl (rc' := (mc - 2)) (rs' := (ms - 16)) (by omega) (by omega) (fun rv h' hcc => ?_) (fun i h' hcc => by obtain ⟨e9, -⟩ := hcc; cases e9)
      obtain ⟨e9, e2⟩ := hcc
      have e3 := e2.symm
      subst e3
      cases e9
      refine g_aload_n ok (dk m_RG_commit 30 rfl) (pc' := 64) rfl (i := 3) rfl rfl ?_
      refine g_get ok (dk m_RG_commit 31 rfl) (pc' := 67) rfl f_RG_129 (H1.mem hj).1 rfl ?_
      refine g_callI ok (dk m_RG_commit 32 rfl) (pc' := 70) rfl c_RG_52 (c_Ep_init g (nI (ne G)) ((gM G j).1 3) 3 11 124 (by omega) (by omega) (by omega) hv1) rfl rfl (by simp [Value.category]) (by omega) rfl (rc' := (mc - 13)) (rs' := (ms - 140)) (by omega) (by omega) (fun rv h' hcc => ?_) (fun i h' hcc => by obtain ⟨e9, -⟩ := hcc; cases e9)
      obtain ⟨e9, t, pr, pb, ra, rb, hx1, k2, hA⟩ := hcc
      cases e9
      obtain ⟨w2, x, rfl, H2⟩ := q_GE.mk H1 hw1 hv1 hx1 k2 hA (show (0 : Nat) ≤ 4 from by decide)
      refine g_astore ok (dk m_RG_commit 33 rfl) (pc' := 72) rfl (Nat.le_of_ble_eq_true rfl) rfl ?_
      refine g_aload ok (dk m_RG_commit 34 rfl) (pc' := 74) rfl rfl ?_
      refine g_getR ok (dk m_RG_commit 35 rfl) (pc' := 77) rfl f_RG_65 H2.2.1.1 rfl ?_
      refine g_aload_n ok (dk m_RG_commit 36 rfl) (pc' := 78) rfl (i := 0) rfl rfl ?_
      refine g_get ok (dk m_RG_commit 37 rfl) (pc' := 81) rfl f_RG_53 H2.1.fr rfl ?_
      refine g_getR ok (dk m_RG_commit 38 rfl) (pc' := 84) rfl f_RG_65 (H2.1.ep H2.lat).1 rfl ?_
      refine g_callV ok (dk m_RG_commit 39 rfl) (pc' := 87) rfl c_RG_141 (c_Tr_copy g 2 (by omega) H2.2.1.2.1 (H2.1.ep H2.lat).2.1 (H2.apt H2.lat)) H2.2.1.2.1.1 rfl rfl (by simp [Value.category]) (by omega) rfl (rc' := (mc - 13)) (rs' := (ms - 140)) (by omega) (by omega) (fun rv h' hcc => ?_) (fun i h' hcc => by obtain ⟨e9, -⟩ := hcc; cases e9)
      obtain ⟨e9, ht3, o3⟩ := hcc
      cases e9
      have H3 : q_GE g h' r w2 D ob x (C_0 G j) := H2.tT ht3 o3 hD4
      refine g_aload_n ok (dk m_RG_commit 40 rfl) (pc' := 88) rfl (i := 0) rfl rfl ?_
      refine g_aload ok (dk m_RG_commit 41 rfl) (pc' := 90) rfl rfl ?_
      refine g_callV ok (dk m_RG_commit 42 rfl) (pc' := 93) rfl c_RG_145 (c_RG_applyRemovals g 5 (by omega) (by show nq G < 2 ^ 31; omega) H3) H3.1.fr rfl rfl (by simp [Value.category]) (by omega) rfl (rc' := (mc - 13)) (rs' := (ms - 140)) (by omega) (by omega) (fun rv h' hcc => ?_) (fun i h' hcc => by obtain ⟨e9, -⟩ := hcc; cases e9)
      obtain ⟨e9, H4⟩ := hcc
      cases e9
      refine g_aload_n ok (dk m_RG_commit 43 rfl) (pc' := 94) rfl (i := 0) rfl rfl ?_
      refine g_aload ok (dk m_RG_commit 44 rfl) (pc' := 96) rfl rfl ?_
      refine g_callV ok (dk m_RG_commit 45 rfl) (pc' := 99) rfl c_RG_149 (c_RG_applyRenewals g 5 (by omega) (by show gN (G_rem _).1 1 < 2 ^ 31; rw [(G_rem_k _).1]; show nq G < 2 ^ 31; omega) H4) H4.1.fr rfl rfl (by simp [Value.category]) (by omega) rfl (rc' := (mc - 13)) (rs' := (ms - 140)) (by omega) (by omega) (fun rv h' hcc => ?_) (fun i h' hcc => by obtain ⟨e9, -⟩ := hcc; cases e9)
      obtain ⟨e9, H5⟩ := hcc
      cases e9
      have H5 : q_GE g h' r w2 D ob x (C_2 G j) := H5
      refine g_aload_n ok (dk m_RG_commit 46 rfl) (pc' := 100) rfl (i := 0) rfl rfl ?_
      refine g_aload ok (dk m_RG_commit 47 rfl) (pc' := 102) rfl rfl ?_
      refine g_callV ok (dk m_RG_commit 48 rfl) (pc' := 105) rfl c_RG_152 (c_RG_applyAdditions g (by show gN (C_2 G j).1 0 ≤ 60; rw [C_2_n]; exact hnp) 4 (by omega) (by show gN (C_2 G j).1 1 < 2 ^ 31; rw [C_2_n]; show nq G < 2 ^ 31; omega) H5) H5.1.fr rfl rfl (by simp [Value.category]) (by omega) rfl (rc' := (mc - 13)) (rs' := (ms - 140)) (by omega) (by omega) (fun rv h' hcc => ?_) (fun i h' hcc => by obtain ⟨e9, -⟩ := hcc; cases e9)
      obtain ⟨e9, H6⟩ := hcc
      cases e9
      have H6 : q_GE g h' r w2 D ob x (C_3 G j) := H6
      have tail : ∀ (h7 : q_H) (p7 : G_T × e_T) (last : Int32), q_GE g h7 r w2 D ob x p7 → gN p7.1 = gN G → C_4 G j pa = (p7, last) → GW g Z A (fun q h' => ∃ w' D' ob', q = (O_commit G (nI j) pa).1 ∧ q_RG g h' r w' D' ob' (O_commit G (nI j) pa).2) (mc - 13) (ms - 140) h7 127 [some (.ref r), some (.int (nI j)), some (.int pa), some (.ref (mA D j)), some (.ref (x 0)), none, none] [.int last] := by
        intro h7 p7 last H7 hn7 hv
        have hnp7 : np p7.1 ≤ 60 := by show gN p7.1 0 ≤ 60; rw [hn7]; exact hnp
        refine g_istore ok (dk m_RG_commit 59 rfl) (pc' := 129) rfl (Nat.le_of_ble_eq_true rfl) rfl ?_
        refine g_aload_n ok (dk m_RG_commit 60 rfl) (pc' := 130) rfl (i := 0) rfl rfl ?_
        refine g_get ok (dk m_RG_commit 61 rfl) (pc' := 133) rfl f_RG_12 H7.1.fr rfl ?_
        refine g_aload_n ok (dk m_RG_commit 62 rfl) (pc' := 134) rfl (i := 0) rfl rfl ?_
        refine g_get ok (dk m_RG_commit 63 rfl) (pc' := 137) rfl f_RG_12 H7.1.fr rfl ?_
        refine g_aload_n ok (dk m_RG_commit 64 rfl) (pc' := 138) rfl (i := 0) rfl rfl ?_
        refine g_get ok (dk m_RG_commit 65 rfl) (pc' := 141) rfl f_RG_53 H7.1.fr rfl ?_
        refine g_get ok (dk m_RG_commit 66 rfl) (pc' := 144) rfl f_RG_61 (H7.1.ep H7.lat).1 rfl ?_
        refine g_callV ok (dk m_RG_commit 67 rfl) (pc' := 147) rfl c_RG_163 (c_Sec_derivedFrom g ((gE p7.1 (ne p7.1 - 1)).1 2) 3 (by omega) (S := gS p7.1) H7.1.sec) H7.1.sec.1 rfl rfl (by simp [Value.category]) (by omega) rfl (rc' := (mc - 13)) (rs' := (ms - 140)) (by omega) (by omega) (fun rv h' hcc => ?_) (fun i h' hcc => by obtain ⟨e9, -⟩ := hcc; cases e9)
        obtain ⟨e9, hs8, o8⟩ := hcc
        cases e9
        generalize hci : S_der (gS p7.1) ((gE p7.1 (ne p7.1 - 1)).1 2) = ci at hs8 ⊢
        have H8 : q_GE g h' r w2 D ob x (sS p7.1 ci.2, p7.2) := H7.tS hs8 o8
        clear hs8 o8 H7
        have hci2 : C_ini p7 = ci := hci
        refine g_iload ok (dk m_RG_commit 68 rfl) (pc' := 149) rfl rfl ?_
        refine g_callV ok (dk m_RG_commit 69 rfl) (pc' := 152) rfl c_RG_167 (c_Sec_joinerOf g ci.1 last 3 (by omega) (S := ci.2) H8.1.sec) H8.1.sec.1 rfl rfl (by simp [Value.category]) (by omega) rfl (rc' := (mc - 13)) (rs' := (ms - 140)) (by omega) (by omega) (fun rv h' hcc => ?_) (fun i h' hcc => by obtain ⟨e9, -⟩ := hcc; cases e9)
        obtain ⟨e9, hs8, o8⟩ := hcc
        cases e9
        generalize hcj : S_joi ci.2 ci.1 last = cj at hs8 ⊢
        have H9 : q_GE g h' r w2 D ob x (sS p7.1 cj.2, p7.2) := H8.tS hs8 o8
        clear hs8 o8 H8
        have hcj2 : C_joi (p7, last) = cj := by
          rw [C_joi]
          show S_joi (C_ini p7).2 (C_ini p7).1 last = cj
          rw [hci2]
          exact hcj
        refine g_istore ok (dk m_RG_commit 70 rfl) (pc' := 154) rfl (Nat.le_of_ble_eq_true rfl) rfl ?_
        refine g_aload ok (dk m_RG_commit 71 rfl) (pc' := 156) rfl rfl ?_
        refine g_aload_n ok (dk m_RG_commit 72 rfl) (pc' := 157) rfl (i := 0) rfl rfl ?_
        refine g_get ok (dk m_RG_commit 73 rfl) (pc' := 160) rfl f_RG_12 H9.1.fr rfl ?_
        refine g_iload ok (dk m_RG_commit 74 rfl) (pc' := 162) rfl rfl ?_
        refine g_callV ok (dk m_RG_commit 75 rfl) (pc' := 165) rfl c_RG_163 (c_Sec_derivedFrom g cj.1 3 (by omega) (S := cj.2) H9.1.sec) H9.1.sec.1 rfl rfl (by simp [Value.category]) (by omega) rfl (rc' := (mc - 13)) (rs' := (ms - 140)) (by omega) (by omega) (fun rv h' hcc => ?_) (fun i h' hcc => by obtain ⟨e9, -⟩ := hcc; cases e9)
        obtain ⟨e9, hs8, o8⟩ := hcc
        cases e9
        generalize hcs : S_der cj.2 cj.1 = cs at hs8 ⊢
        have H10 : q_GE g h' r w2 D ob x (sS p7.1 cs.2, p7.2) := H9.tS hs8 o8
        clear hs8 o8 H9
        have hcs2 : C_sec (p7, last) = cs := by
          rw [C_sec, hcj2]
          exact hcs
        refine g_put ok (dk m_RG_commit 76 rfl) (pc' := 168) rfl f_RG_61 (Or.inl rfl) H10.2.1.1 (Nat.le_of_ble_eq_true rfl) rfl rfl ?_
        refine g_gen (fun h11 e11 => ?_)
        have H11 : q_GE g h11 r w2 D ob x (sS p7.1 cs.2, upd p7.2.1 2 cs.1, p7.2.2) := H10.tI 2 4 (by decide) e11
        clear e11 H10
        refine g_aload_n ok (dk m_RG_commit 77 rfl) (pc' := 169) rfl (i := 0) rfl rfl ?_
        refine g_aload ok (dk m_RG_commit 78 rfl) (pc' := 171) rfl rfl ?_
        refine g_iload ok (dk m_RG_commit 79 rfl) (pc' := 173) rfl rfl ?_
        refine g_callV ok (dk m_RG_commit 80 rfl) (pc' := 176) rfl c_RG_171 (c_RG_welcomeAdded g cj.1 4 (by omega) (by exact Nat.lt_of_le_of_lt hnp7 (by decide)) H11) H11.1.fr rfl rfl (by simp [Value.category]) (by omega) rfl (rc' := (mc - 13)) (rs' := (ms - 140)) (by omega) (by omega) (fun rv h' hcc => ?_) (fun i h' hcc => by obtain ⟨e9, -⟩ := hcc; cases e9)
        obtain ⟨e9, H12⟩ := hcc
        cases e9
        have hC5 : C_5 (p7, last) = AW cj.1 (np p7.1) 0 (sS p7.1 cs.2, upd p7.2.1 2 cs.1, p7.2.2) := by rw [C_5, hcj2, hcs2]
        have hp12 : q_GE g h' r w2 D ob x (C_5 (p7, last)) := by rw [hC5]; exact H12
        clear H12 H11
        have hn12 : gN (C_5 (p7, last)).1 = gN p7.1 := by rw [hC5]; exact congrArg (fun z => z.2.2.2.2.2) (AW_k cj.1 (np p7.1) 0 (sS p7.1 cs.2, upd p7.2.1 2 cs.1, p7.2.2)).1
        rw [← hv] at hp12 hn12
        generalize hp5 : C_5 (C_4 G j pa) = p12 at hp12 hn12 hS hO
        have H12 := hp12
        clear hp12
        have hne12 : ne p12.1 = ne G := by show gN p12.1 2 = _; rw [hn12, hn7]
        refine g_aload_n ok (dk m_RG_commit 81 rfl) (pc' := 177) rfl (i := 0) rfl rfl ?_
        refine g_get ok (dk m_RG_commit 82 rfl) (pc' := 180) rfl f_RG_26 H12.1.fr rfl ?_
        obtain ⟨l0, l1, hl0⟩ := H12.1.lq.size
        refine g_callV ok (dk m_RG_commit 83 rfl) (pc' := 183) rfl c_RG_174 (c_AL_clear g 0 (el2 := qA D) H12.1.lq) hl0 rfl rfl (by simp [Value.category]) (by omega) rfl (rc' := (mc - 13)) (rs' := (ms - 140)) (by omega) (by omega) (fun rv h' hcc => ?_) (fun i h' hcc => by obtain ⟨e9, -⟩ := hcc; cases e9)
        obtain ⟨e9, hl13, k13⟩ := hcc
        cases e9
        have H13 := H12.clr hl13 k13
        obtain ⟨l2, l3, hl2⟩ := H13.1.le.size
        refine g_aload_n ok (dk m_RG_commit 84 rfl) (pc' := 184) rfl (i := 0) rfl rfl ?_
        refine g_get ok (dk m_RG_commit 85 rfl) (pc' := 187) rfl f_RG_29 H13.1.fr rfl ?_
        refine g_aload ok (dk m_RG_commit 86 rfl) (pc' := 189) rfl rfl ?_
        refine g_callV ok (dk m_RG_commit 87 rfl) (pc' := 192) rfl c_RG_46 (c_AL_add g 6 1 110 (by omega) (by omega) (by omega) H13.1.le (by show ne p12.1 ≤ 72; omega) H13.1.ele H13.2.1.1 (H13.1.lne (by decide) (by decide) (H13.2.2.1 _ (Or.inl rfl))) ty_5 xo_5) hl2 rfl rfl (by simp [Value.category]) (by omega) rfl (rc' := (mc - 14)) (rs' := (ms - 250)) (by omega) (by omega) (fun rv h' hcc => ?_) (fun i h' hcc => by obtain ⟨e9, -⟩ := hcc; cases e9)
        obtain ⟨e9, ob5, hl5, hk5, hob5, -⟩ := hcc
        cases e9
        have hrb : ∀ b, ob 4 = some b → r ≠ b := fun b hb z => by
          have q := (H13.1.ls (k := 4) (by decide) (by decide)).2 b hb
          have q2 : w2 r = 6 := H13.1.1.2
          rw [z] at q2
          omega
        have hrl : r ≠ D.1 0 4 := fun z => by
          have q := (H13.1.ls (k := 4) (by decide) (by decide)).1
          have q2 : w2 r = 6 := H13.1.1.2
          rw [z] at q2
          omega
        have hr5 := hk5 r _ H13.1.fr hrl hrb
        refine g_pop ok (dk m_RG_commit 88 rfl) (pc' := 193) rfl rfl ?_
        refine g_aload_n ok (dk m_RG_commit 89 rfl) (pc' := 194) rfl (i := 0) rfl rfl ?_
        refine g_aload ok (dk m_RG_commit 90 rfl) (pc' := 196) rfl rfl ?_
        refine g_put ok (dk m_RG_commit 91 rfl) (pc' := 199) rfl f_RG_53 (Or.inl rfl) hr5 (Nat.le_of_ble_eq_true rfl) rfl rfl ?_
        refine g_gen (fun h6 e6 => ?_)
        have hr6 : h6 r = some (.inl (0, r_fs D (x 0))) := by rw [e6, q_up_s]; rfl
        have k6 := q_kp.up (q_kp.rf (X := fun y => y = r)) rfl e6
        clear e6
        have hl6 := hl5.kp k6 (fun z => hrl z.symm) (fun b hb z => by
          rcases hob5 with q | ⟨c, q, hc, -⟩
          · exact hrb b (q.symm.trans hb) z.symm
          · rw [Option.some.inj (hb.symm.trans q)] at z
            rw [z, H13.1.fr] at hc
            cases hc)
        obtain ⟨w7, D7, H14, hD1, hD0⟩ := H13.1.addE H13.2.1 H13.2.2.1 hl6 (fun y o hy h1 h2 h3 => k6 y o (hk5 y o hy h2 h3) h1) hob5 hr6
        have H14 : q_RG g h6 r w7 D7 (va_up ob 4 ob5) (C_6 p12) := H14
        have he14 : q_ee h6 D7 (ne p12.1) (gE (C_6 p12) (ne p12.1)) := H14.ep (i := ne p12.1) (by show ne p12.1 < ne p12.1 + 1; omega)
        rw [show gE (C_6 p12) (ne p12.1) = p12.2 from if_pos rfl] at he14
        have hmj : mA D j = mA D7 j := by show D.1 3 j = D7.1 3 j; rw [hD1]
        have hD0 : eA D7 (ne p12.1) = x 0 := hD0
        rw [hmj, ← hD0]
        refine g_aload_n ok (dk m_RG_commit 92 rfl) (pc' := 200) rfl (i := 3) rfl rfl ?_
        refine g_aload ok (dk m_RG_commit 93 rfl) (pc' := 202) rfl rfl ?_
        refine g_callV ok (dk m_RG_commit 94 rfl) (pc' := 205) rfl c_RG_177 (c_Mem_lead g 3 (by omega) (H14.mem hj) he14 (fun y hy z => by have q := H14.memT hj y (m_P_A z); have q2 := H14.epT (i := ne p12.1) (by show ne p12.1 < ne p12.1 + 1; omega) y hy; omega) H12.2.2.2) (H14.mem hj).1 rfl rfl (by simp [Value.category]) (by omega) rfl (rc' := (mc - 14)) (rs' := (ms - 250)) (by omega) (by omega) (fun rv h' hcc => ?_) (fun i h' hcc => by obtain ⟨e9, -⟩ := hcc; cases e9)
        obtain ⟨e9, hm15, o15⟩ := hcc
        cases e9
        have H15 := H14.tM hj hm15 o15
        refine g_aload_n ok (dk m_RG_commit 95 rfl) (pc' := 206) rfl (i := 0) rfl rfl ?_
        refine g_get ok (dk m_RG_commit 96 rfl) (pc' := 209) rfl f_RG_12 H15.fr rfl ?_
        refine g_callV ok (dk m_RG_commit 97 rfl) (pc' := 212) rfl c_RG_180 (c_Sec_settle g 3 (by omega) hS.1 hS.2.1 hS.2.2.1 hS.2.2.2 H15.sec) H15.sec.1 rfl rfl (by simp [Value.category]) (by omega) rfl (rc' := (mc - 14)) (rs' := (ms - 250)) (by omega) (by omega) (fun rv h' hcc => ?_) (fun i h' hcc => by obtain ⟨e9, -⟩ := hcc; cases e9)
        obtain ⟨e9, hs16, o16⟩ := hcc
        cases e9
        have H16 := H15.tS hs16 o16
        have he16 : q_ee h' D7 (ne p12.1) (gE (C_6 p12) (ne p12.1)) := H16.ep (i := ne p12.1) (by show ne p12.1 < ne p12.1 + 1; omega)
        rw [show gE (C_6 p12) (ne p12.1) = p12.2 from if_pos rfl] at he16
        have hst : S_settle (gS p12.1) = S_set n (2201 - k0) (gS p12.1) := by rw [S_settle, hS.1, hS.2.2.1, ix_nI (by have := hS.2.1; omega), ix_nI (by have := hS.2.2.2; omega)]
        refine g_aload ok (dk m_RG_commit 98 rfl) (pc' := 214) rfl rfl ?_
        refine g_getR ok (dk m_RG_commit 99 rfl) (pc' := 217) rfl f_RG_136 he16.1 rfl ?_
        exact g_iret ok (dk m_RG_commit 100 rfl) rfl rfl ⟨w7, D7, _, by rw [hO, if_pos c_17, if_neg hnn], by rw [hO, if_pos c_17, if_neg hnn]; show q_RG _ _ _ _ _ _ (C_7 p12 j); rw [C_7, hst]; exact H16⟩
      refine g_aload ok (dk m_RG_commit 49 rfl) (pc' := 107) rfl rfl ?_
      refine g_iload_n ok (dk m_RG_commit 50 rfl) (pc' := 108) rfl (i := 2) rfl rfl ?_
      refine g_callV ok (dk m_RG_commit 51 rfl) (pc' := 111) rfl c_RG_155 (c_Ep_needsPath g pa 0 H6.2.1) H6.2.1.1 rfl rfl (by simp [Value.category]) (by omega) rfl (rc' := (mc - 13)) (rs' := (ms - 140)) (by omega) (by omega) (fun rv h' hcc => ?_) (fun i h' hcc => by obtain ⟨e9, -⟩ := hcc; cases e9)
      obtain ⟨e9, e2⟩ := hcc
      have e3 := e2.symm
      subst e3
      cases e9
      refine g_if_eq ok (dk m_RG_commit 52 rfl) (tgt := 126) (by decide) (pc' := 114) rfl (fun c_111 => ?_) (fun c_111 => ?_)
      · refine g_iconst ok (dk m_RG_commit 58 rfl) (pc' := 127) rfl (v := 0) (by decide) ?_
        exact tail _ _ _ H6 (C_3_n G j) (by rw [C_4, if_neg (b2i_0 c_111)])
      · refine g_aload ok (dk m_RG_commit 53 rfl) (pc' := 116) rfl rfl ?_
        refine g_aload_n ok (dk m_RG_commit 54 rfl) (pc' := 117) rfl (i := 0) rfl rfl ?_
        refine g_get ok (dk m_RG_commit 55 rfl) (pc' := 120) rfl f_RG_12 H6.1.fr rfl ?_
        refine g_callV ok (dk m_RG_commit 56 rfl) (pc' := 123) rfl c_RG_159 (c_Ep_layPath g 9 (by omega) H6.2.2.2 H6.2.1 H6.1.sec H6.es) H6.2.1.1 rfl rfl (by simp [Value.category]) (by omega) rfl (rc' := (mc - 13)) (rs' := (ms - 140)) (by omega) (by omega) (fun rv h' hcc => ?_) (fun i h' hcc => by obtain ⟨e9, -⟩ := hcc; cases e9)
        obtain ⟨e9, he7, hs7, o7⟩ := hcc
        cases e9
        have H7 := H6.tES he7 hs7 o7 (by rw [ES_path_d]; exact H6.2.2.2)
        refine g_goto ok (dk m_RG_commit 57 rfl) (pc' := 127) (by decide) ?_
        exact tail _ _ _ H7 (C_3_n G j) (by rw [C_4, if_pos (b2i_n c_111)]; rfl)
    · exact g_throw ok (kx := 1) (sx := 139) (tx := "there are 60 epochs") (Or.inr ⟨rfl, rfl, rfl⟩) (by decide +kernel) (dk m_RG_commit 20 rfl) (dk m_RG_commit 21 rfl) (Or.inl ⟨dk m_RG_commit 22 rfl, rfl⟩) (dk m_RG_commit 23 rfl) (dk m_RG_commit 24 rfl) (by decide) (by omega) rfl (by omega) (by omega) ⟨w, D, ob, by rw [hO, if_pos c_17, if_pos (nI_nl (by omega) c_39 (by decide))], by rw [hO, if_pos c_17, if_pos (nI_nl (by omega) c_39 (by decide))]; exact H⟩
  · exact g_throw ok (kx := 1) (sx := 137) (tx := "the member is not in the latest epoch") (Or.inr ⟨rfl, rfl, rfl⟩) (by decide +kernel) (dk m_RG_commit 10 rfl) (dk m_RG_commit 11 rfl) (Or.inl ⟨dk m_RG_commit 12 rfl, rfl⟩) (dk m_RG_commit 13 rfl) (dk m_RG_commit 14 rfl) (by decide) (by omega) rfl (by omega) (by omega) ⟨w, D, ob, by rw [hO, if_neg c_17], by rw [hO, if_neg c_17]; exact H⟩
