/-! ===== the group: offer, add, remove, update ===== -/
theorem nI_nl {a b : Nat} (ha : a < 2 ^ 31) (h : ¬ nI a < nI b) (hb : b < 2 ^ 31) : b ≤ a := by
  rcases Nat.lt_or_ge a b with q | q
  · exact absurd (nI_lt q hb) h
  · exact q
theorem nI_tl {a b : Nat} (ha : a < 2 ^ 31) (h : nI a < nI b) : a < b := by
  rcases Nat.lt_or_ge a b with q | q
  · exact q
  · exfalso
    rcases Nat.lt_or_ge b a with q2 | q2
    · exact nI_ge q2 ha (Int32.le_of_lt h)
    · rw [show a = b by omega] at h
      exact Int32.lt_irrefl h
section
variable {g : q_G} {h h' : q_H} {r : Nat} {w : Nat → Nat} {D : a_T} {ob : Nat → Option Nat} {G : G_T}
theorem q_RG.elp (H : q_RG g h r w D ob G) : ∀ i, i < np G → q_obj h (pA D i) ∧ pA D i ≠ D.1 0 2 := fun i hi => ⟨⟨7, _, _, H.pk hi, ty_7, xo_7⟩, fun z => by
  have q : w (pA D i) = 200 + i := H.pkT hi
  have q2 := (H.ls (k := 2) (by decide) (by decide)).1
  rw [z] at q
  omega⟩
theorem q_RG.elq (H : q_RG g h r w D ob G) : ∀ i, i < nq G → q_obj h (qA D i) ∧ qA D i ≠ D.1 0 3 := fun i hi => ⟨by
  rcases H.pr hi with ⟨-, -, h3⟩ | ⟨-, h3⟩ | ⟨-, h3⟩
  · exact ⟨8, _, _, h3, ty_8, xo_8⟩
  · exact ⟨9, _, _, h3, ty_9, xo_9⟩
  · exact ⟨10, _, _, h3, ty_10, xo_10⟩, fun z => by
  have q : w (qA D i) = 5 := H.prT hi
  have q2 := (H.ls (k := 3) (by decide) (by decide)).1
  rw [z] at q
  omega⟩
theorem q_RG.ele (H : q_RG g h r w D ob G) : ∀ i, i < ne G → q_obj h (eA D i) ∧ eA D i ≠ D.1 0 4 := fun i hi => ⟨⟨5, _, _, (H.ep hi).1, ty_5, xo_5⟩, fun z => by
  have q : w (eA D i) = 1000 + i := H.epT hi _ (Or.inl rfl)
  have q2 := (H.ls (k := 4) (by decide) (by decide)).1
  rw [z] at q
  omega⟩
theorem q_RG.lne (H : q_RG g h r w D ob G) {k x : Nat} (h1 : 1 ≤ k) (h4 : k ≤ 4) (hx : w x = 7) : D.1 0 k ≠ x := fun z => by
  have q := (H.ls h1 h4).1
  rw [z] at q
  omega
theorem q_RG.lat (H : q_RG g h r w D ob G) : ne G - 1 < ne G := by
  have q := H.n1
  omega
theorem q_RG.tM (H : q_RG g h r w D ob G) {i : Nat} (hi : i < 16) {M : m_T} (hm : q_me h' D i M) (ho : q_off h h' (m_P (mA D i) (fun j => D.1 (6 + j) i))) : q_RG g h' r w D ob (sM G i M) := H.upM hi hm (ho.kp.wk (fun y hy => H.memT hi y (m_P_A hy)))
end
def P_may (G : G_T) (i : Nat) : Prop := (gM G i).1 2 = (gE G (ne G - 1)).1 0 ∧ nq G < 20
def k_new (a b : Int32) : Nat → Int32 := fun j => if j = 0 then a else if j = 1 then b else if j = 2 then -1 else if j = 3 then -1 else 0
def G_off (G : G_T) (i : Nat) : G_T := sN (sK (sS G (S_fresh (S_fresh (gS G)).2).2) (np G) (i, k_new (S_fresh (gS G)).1 (S_fresh (S_fresh (gS G)).2).1)) 0 (np G + 1)
def G_prop (G : G_T) (p : p_T) : G_T := sN (sQ G (nq G) p) 1 (nq G + 1)
noncomputable def G_upd (G : G_T) (i : Nat) : G_T := G_prop (sM (sS G (S_fresh (gS G)).2) i (M_keep (gM G i) (S_fresh (gS G)).1)) (2, 0, (M_keep (gM G i) (S_fresh (gS G)).1).1 3, (S_fresh (gS G)).1)
noncomputable def O_offer (G : G_T) (m : Int32) : q_R × G_T := by
  classical exact if r_in 16 m then (if 60 ≤ np G then (.inr 1, G) else (.inl (some (.int (nI (np G)))), G_off G (ix m))) else (.inr 0, G)
noncomputable def O_add (G : G_T) (m k : Int32) : q_R × G_T := by
  classical exact if r_in 16 m then (if r_in (np G) k then (if P_may G (ix m) then (.inl (some (.int (nI (nq G + 1)))), G_prop G (0, ix k, 0, 0)) else (.inr 1, G)) else (.inr 0, G)) else (.inr 0, G)
noncomputable def O_remove (G : G_T) (m l : Int32) : q_R × G_T := by
  classical exact if r_in 16 m then (if r_in 16 l then (if P_may G (ix m) then (.inl (some (.int (nI (nq G + 1)))), G_prop G (1, 0, l, 0)) else (.inr 1, G)) else (.inr 0, G)) else (.inr 0, G)
noncomputable def O_update (G : G_T) (m : Int32) : q_R × G_T := by
  classical exact if r_in 16 m then (if P_may G (ix m) then (.inl (some (.int (nI (nq G + 1)))), G_upd G (ix m)) else (.inr 1, G)) else (.inr 0, G)
set_option maxHeartbeats 1000000 in
theorem c_RG_refuseUnlessMayPropose (g : q_G) {h : q_H} {r : Nat} {w : Nat → Nat} {D : a_T} {ob : Nat → Option Nat} {G : G_T} {i : Nat} (d mc ms : Nat) (hd : 6 ≤ d) (hmc : 1 ≤ mc) (hms : 6 ≤ ms) (hi : i < 16) (hnq : nq G < 2 ^ 31) (H : q_RG g h r w D ob G) : MG g y_RG_refuseUnlessMayPropose b_RG_refuseUnlessMayPropose 2 none d mc ms [.ref r, .ref (mA D i)] h (fun q h' => ((P_may G i ∧ q = .inl none) ∨ (¬ P_may G i ∧ q = .inr 1)) ∧ h' = h) := by
  obtain ⟨lq0, lq1, hlq⟩ := H.lq.size
  refine MG.of (by decide +kernel) (by simp [Value.category]) (Nat.le_of_ble_eq_true rfl) ?_
  intro Z A ok
  refine g_aload_n ok (dk m_RG_refuseUnlessMayPropose 0 rfl) (pc' := 1) rfl (i := 1) rfl rfl ?_
  refine g_get ok (dk m_RG_refuseUnlessMayPropose 1 rfl) (pc' := 4) rfl f_RG_133 (H.mem hi).1 rfl ?_
  refine g_aload_n ok (dk m_RG_refuseUnlessMayPropose 2 rfl) (pc' := 5) rfl (i := 0) rfl rfl ?_
  refine g_get ok (dk m_RG_refuseUnlessMayPropose 3 rfl) (pc' := 8) rfl f_RG_53 H.fr rfl ?_
  refine g_getR ok (dk m_RG_refuseUnlessMayPropose 4 rfl) (pc' := 11) rfl f_RG_136 (H.ep H.lat).1 rfl ?_
  refine g_icmp_eq ok (dk m_RG_refuseUnlessMayPropose 5 rfl) (tgt := 24) (by decide) (pc' := 14) rfl (fun c_11 => ?_) (fun c_11 => ?_)
  · refine g_aload_n ok (dk m_RG_refuseUnlessMayPropose 11 rfl) (pc' := 25) rfl (i := 0) rfl rfl ?_
    refine g_get ok (dk m_RG_refuseUnlessMayPropose 12 rfl) (pc' := 28) rfl f_RG_26 H.fr rfl ?_
    refine g_callV ok (dk m_RG_refuseUnlessMayPropose 13 rfl) (pc' := 31) rfl c_RG_86 (c_AL_size g 0 hlq) hlq rfl rfl (by simp [Value.category]) (by omega) rfl (rc' := mc) (rs' := ms) (by omega) (by omega) (fun rv h' hcc => ?_) (fun i h' hcc => by obtain ⟨e9, -⟩ := hcc; cases e9)
    obtain ⟨e9, e2⟩ := hcc
    have e3 := e2.symm
    subst e3
    cases e9
    refine g_bipush ok (dk m_RG_refuseUnlessMayPropose 14 rfl) (pc' := 33) rfl (v := 20) (by decide) ?_
    refine g_icmp_lt ok (dk m_RG_refuseUnlessMayPropose 15 rfl) (tgt := 47) (by decide) (pc' := 36) rfl (fun c_33 => ?_) (fun c_33 => ?_)
    · exact g_vret ok (dk m_RG_refuseUnlessMayPropose 21 rfl) rfl ⟨Or.inl ⟨⟨c_11, nI_tl hnq c_33⟩, rfl⟩, rfl⟩
    · exact g_throw ok (kx := 1) (sx := 265) (tx := "20 proposals wait") (Or.inr ⟨rfl, rfl, rfl⟩) (by decide +kernel) (dk m_RG_refuseUnlessMayPropose 16 rfl) (dk m_RG_refuseUnlessMayPropose 17 rfl) (Or.inr ⟨dk m_RG_refuseUnlessMayPropose 18 rfl, rfl⟩) (dk m_RG_refuseUnlessMayPropose 19 rfl) (dk m_RG_refuseUnlessMayPropose 20 rfl) (by decide) (by omega) rfl (by omega) (by omega) ⟨Or.inr ⟨fun z => c_33 (nI_lt z.2 (by decide)), rfl⟩, rfl⟩
  · exact g_throw ok (kx := 1) (sx := 137) (tx := "the member is not in the latest epoch") (Or.inr ⟨rfl, rfl, rfl⟩) (by decide +kernel) (dk m_RG_refuseUnlessMayPropose 6 rfl) (dk m_RG_refuseUnlessMayPropose 7 rfl) (Or.inl ⟨dk m_RG_refuseUnlessMayPropose 8 rfl, rfl⟩) (dk m_RG_refuseUnlessMayPropose 9 rfl) (dk m_RG_refuseUnlessMayPropose 10 rfl) (by decide) (by omega) rfl (by omega) (by omega) ⟨Or.inr ⟨fun z => c_11 z.1, rfl⟩, rfl⟩
set_option maxHeartbeats 1000000 in
theorem c_RG_offer (g : q_G) {h : q_H} {r : Nat} {w : Nat → Nat} {D : a_T} {ob : Nat → Option Nat} {G : G_T} (m : Int32) (d mc ms : Nat) (hd : 7 ≤ d) (hmc : 3 ≤ mc) (hms : 122 ≤ ms) (hnp : np G ≤ 60) (H : q_RG g h r w D ob G) : MG g y_RG_offer b_RG_offer 4 (some .int) d mc ms [.ref r, .int m] h (fun q h' => ∃ w' D' ob', q = (O_offer G m).1 ∧ q_RG g h' r w' D' ob' (O_offer G m).2) := by
  obtain ⟨lp0, lp1, hlp⟩ := H.lp.size
  refine MG.of (by decide +kernel) (by simp [Value.category]) (Nat.le_of_ble_eq_true rfl) ?_
  intro Z A ok
  refine g_aload_n ok (dk m_RG_offer 0 rfl) (pc' := 1) rfl (i := 0) rfl rfl ?_
  refine g_iload_n ok (dk m_RG_offer 1 rfl) (pc' := 2) rfl (i := 1) rfl rfl ?_
  refine g_callV ok (dk m_RG_offer 2 rfl) (pc' := 5) rfl c_RG_82 (c_RG_memberNumbered g m 6 1 6 (by omega) (by omega) (by omega) H) H.fr rfl rfl (by simp [Value.category]) (by omega) rfl (rc' := (mc - 1)) (rs' := (ms - 6)) (by omega) (by omega) (fun rv h' hcc => ?_) (fun i h' hcc => by obtain ⟨e9 | ⟨hr, e9⟩, e3⟩ := hcc; exact absurd e9.2 (fun z => by cases z); exact ⟨w, D, ob, by rw [O_offer, if_neg hr]; exact e9, by rw [O_offer, if_neg hr, e3]; exact H⟩)
  have hr : r_in 16 m ∧ rv = some (.ref (mA D (ix m))) := by
    rcases hcc.1 with ⟨a, b⟩ | ⟨a, b⟩
    · exact ⟨a, Sum.inl.inj b⟩
    · cases b
  obtain ⟨hr, rfl⟩ := hr
  have e4 := hcc.2.symm
  clear hcc
  subst e4
  obtain ⟨j, hj, rfl⟩ := r_in_of (by decide) hr
  have hx : ix (nI j) = j := ix_nI (by omega)
  rw [hx]
  have hO : O_offer G (nI j) = if 60 ≤ np G then (.inr 1, G) else (.inl (some (.int (nI (np G)))), G_off G j) := by rw [O_offer, if_pos hr, hx]
  refine g_astore_n ok (dk m_RG_offer 3 rfl) (pc' := 6) rfl (i := 2) rfl (Nat.le_of_ble_eq_true rfl) rfl ?_
  refine g_aload_n ok (dk m_RG_offer 4 rfl) (pc' := 7) rfl (i := 0) rfl rfl ?_
  refine g_get ok (dk m_RG_offer 5 rfl) (pc' := 10) rfl f_RG_23 H.fr rfl ?_
  refine g_callV ok (dk m_RG_offer 6 rfl) (pc' := 13) rfl c_RG_86 (c_AL_size g 0 hlp) hlp rfl rfl (by simp [Value.category]) (by omega) rfl (rc' := (mc - 1)) (rs' := (ms - 6)) (by omega) (by omega) (fun rv h' hcc => ?_) (fun i h' hcc => by obtain ⟨e9, -⟩ := hcc; cases e9)
  obtain ⟨e9, e2⟩ := hcc
  have e3 := e2.symm
  subst e3
  cases e9
  refine g_bipush ok (dk m_RG_offer 7 rfl) (pc' := 15) rfl (v := 60) (by decide) ?_
  refine g_icmp_lt ok (dk m_RG_offer 8 rfl) (tgt := 28) (by decide) (pc' := 18) rfl (fun c_15 => ?_) (fun c_15 => ?_)
  · have hnn : ¬ 60 ≤ np G := fun z => by
      have q : np G < 60 := nI_tl (by omega) c_15
      omega
    refine g_aload_n ok (dk m_RG_offer 14 rfl) (pc' := 29) rfl (i := 0) rfl rfl ?_
    refine g_get ok (dk m_RG_offer 15 rfl) (pc' := 32) rfl f_RG_12 H.fr rfl ?_
    refine g_callV ok (dk m_RG_offer 16 rfl) (pc' := 35) rfl c_RG_57 (c_Sec_fresh g 0 H.sec) H.sec.1 rfl rfl (by simp [Value.category]) (by omega) rfl (rc' := (mc - 1)) (rs' := (ms - 6)) (by omega) (by omega) (fun rv h' hcc => ?_) (fun i h' hcc => by obtain ⟨e9, -⟩ := hcc; cases e9)
    obtain ⟨e9, hs1, o1⟩ := hcc
    cases e9
    have H1 := H.tS hs1 o1
    refine g_istore_n ok (dk m_RG_offer 17 rfl) (pc' := 36) rfl (i := 3) rfl (Nat.le_of_ble_eq_true rfl) rfl ?_
    refine g_aload_n ok (dk m_RG_offer 18 rfl) (pc' := 37) rfl (i := 0) rfl rfl ?_
    refine g_get ok (dk m_RG_offer 19 rfl) (pc' := 40) rfl f_RG_23 H1.fr rfl ?_
    refine g_new ok (dk m_RG_offer 20 rfl) (pc' := 43) rfl o_RG_96 (rc' := (mc - 2)) (rs' := (ms - 12)) (by omega) (by omega) (fun x hx0 hxb => ?_)
    refine g_gen (fun v e => ?_)
    obtain ⟨H2, hw, hk⟩ := H1.newX hx0 e
    have hv : v x = some (.inl (7, [.null, .int 0, .int 0, .int 0, .int 0, .int 0])) := by rw [e, q_up_s]
    clear e
    generalize va_up w x 7 = w at H2 hw
    refine g_dup ok (dk m_RG_offer 21 rfl) (pc' := 44) rfl rfl ?_
    refine g_aload_n ok (dk m_RG_offer 22 rfl) (pc' := 45) rfl (i := 2) rfl rfl ?_
    refine g_iload_n ok (dk m_RG_offer 23 rfl) (pc' := 46) rfl (i := 3) rfl rfl ?_
    refine g_aload_n ok (dk m_RG_offer 24 rfl) (pc' := 47) rfl (i := 0) rfl rfl ?_
    refine g_get ok (dk m_RG_offer 25 rfl) (pc' := 50) rfl f_RG_12 H2.fr rfl ?_
    refine g_callV ok (dk m_RG_offer 26 rfl) (pc' := 53) rfl c_RG_57 (c_Sec_fresh g 0 H2.sec) H2.sec.1 rfl rfl (by simp [Value.category]) (by omega) rfl (rc' := (mc - 2)) (rs' := (ms - 12)) (by omega) (by omega) (fun rv h' hcc => ?_) (fun i h' hcc => by obtain ⟨e9, -⟩ := hcc; cases e9)
    obtain ⟨e9, hs3, o3⟩ := hcc
    cases e9
    have H3 := H2.tS hs3 o3
    have hv3 := o3.kp x _ hv (fun z => by have q := H2.secT x (s_P_A z); omega)
    refine g_callI ok (dk m_RG_offer 27 rfl) (pc' := 56) rfl c_RG_98 (c_KP_init g _ _ 1 (by omega) hv3) rfl rfl (by simp [Value.category]) (by omega) rfl (rc' := (mc - 2)) (rs' := (ms - 12)) (by omega) (by omega) (fun rv h' hcc => ?_) (fun i h' hcc => by obtain ⟨e9, -⟩ := hcc; cases e9)
    obtain ⟨e9, hv4, k4⟩ := hcc
    cases e9
    have H4 := H3.keep (k4.wk (fun y hy => Or.inl (by rw [hy]; exact hw)))
    obtain ⟨l4, l5, hl4⟩ := H4.lp.size
    refine g_callV ok (dk m_RG_offer 28 rfl) (pc' := 59) rfl c_RG_46 (c_AL_add g 6 1 110 (by omega) (by omega) (by omega) H4.lp (by show np G ≤ 72; omega) H4.elp hv4 (H4.lne (by decide) (by decide) hw) ty_7 xo_7) hl4 rfl rfl (by simp [Value.category]) (by omega) rfl (rc' := (mc - 3)) (rs' := (ms - 122)) (by omega) (by omega) (fun rv h' hcc => ?_) (fun i h' hcc => by obtain ⟨e9, -⟩ := hcc; cases e9)
    obtain ⟨e9, ob5, hl5, hk5, hob5, -⟩ := hcc
    cases e9
    obtain ⟨w6, H6⟩ := H4.addP (K := k_new (S_fresh (gS G)).1 (S_fresh (S_fresh (gS G)).2).1) (o := j) hv4 hj hw hl5 hk5 hob5
    obtain ⟨l6, l7, hl6⟩ := H6.lp.size
    refine g_pop ok (dk m_RG_offer 29 rfl) (pc' := 60) rfl rfl ?_
    refine g_aload_n ok (dk m_RG_offer 30 rfl) (pc' := 61) rfl (i := 0) rfl rfl ?_
    refine g_get ok (dk m_RG_offer 31 rfl) (pc' := 64) rfl f_RG_23 H6.fr rfl ?_
    refine g_callV ok (dk m_RG_offer 32 rfl) (pc' := 67) rfl c_RG_86 (c_AL_size g 0 hl6) hl6 rfl rfl (by simp [Value.category]) (by omega) rfl (rc' := (mc - 3)) (rs' := (ms - 122)) (by omega) (by omega) (fun rv h' hcc => ?_) (fun i h' hcc => by obtain ⟨e9, -⟩ := hcc; cases e9)
    obtain ⟨e9, e2⟩ := hcc
    have e3 := e2.symm
    subst e3
    cases e9
    refine g_iconst ok (dk m_RG_offer 33 rfl) (pc' := 68) rfl (v := 1) (by decide) ?_
    refine g_isub ok (dk m_RG_offer 34 rfl) (pc' := 69) rfl ?_
    refine g_top (w := .int (nI (np G))) (by show Value.int (nI (np G + 1) - 1) = _; rw [nI_pred]) ?_
    exact g_iret ok (dk m_RG_offer 35 rfl) rfl rfl ⟨w6, _, _, by rw [hO, if_neg hnn], by rw [hO, if_neg hnn]; exact H6⟩
  · exact g_throw ok (kx := 1) (sx := 91) (tx := "there are 60 packages") (Or.inr ⟨rfl, rfl, rfl⟩) (by decide +kernel) (dk m_RG_offer 9 rfl) (dk m_RG_offer 10 rfl) (Or.inl ⟨dk m_RG_offer 11 rfl, rfl⟩) (dk m_RG_offer 12 rfl) (dk m_RG_offer 13 rfl) (by decide) (by omega) rfl (by omega) (by omega) ⟨w, D, ob, by rw [hO, if_pos (nI_nl (by omega) c_15 (by decide))], by rw [hO, if_pos (nI_nl (by omega) c_15 (by decide))]; exact H⟩
set_option maxHeartbeats 1000000 in
theorem c_RG_add (g : q_G) {h : q_H} {r : Nat} {w : Nat → Nat} {D : a_T} {ob : Nat → Option Nat} {G : G_T} (m k : Int32) (d mc ms : Nat) (hd : 7 ≤ d) (hmc : 4 ≤ mc) (hms : 123 ≤ ms) (hnp : np G ≤ 60) (hnq : nq G ≤ 20) (H : q_RG g h r w D ob G) : MG g y_RG_add b_RG_add 4 (some .int) d mc ms [.ref r, .int m, .int k] h (fun q h' => ∃ w' D' ob', q = (O_add G m k).1 ∧ q_RG g h' r w' D' ob' (O_add G m k).2) := by
  obtain ⟨lp0, lp1, hlp⟩ := H.lp.size
  classical
  refine MG.of (by decide +kernel) (by simp [Value.category]) (Nat.le_of_ble_eq_true rfl) ?_
  intro Z A ok
  refine g_aload_n ok (dk m_RG_add 0 rfl) (pc' := 1) rfl (i := 0) rfl rfl ?_
  refine g_iload_n ok (dk m_RG_add 1 rfl) (pc' := 2) rfl (i := 1) rfl rfl ?_
  refine g_callV ok (dk m_RG_add 2 rfl) (pc' := 5) rfl c_RG_82 (c_RG_memberNumbered g m 6 1 6 (by omega) (by omega) (by omega) H) H.fr rfl rfl (by simp [Value.category]) (by omega) rfl (rc' := (mc - 1)) (rs' := (ms - 6)) (by omega) (by omega) (fun rv h' hcc => ?_) (fun i h' hcc => by obtain ⟨e9 | ⟨hr, e9⟩, e3⟩ := hcc; exact absurd e9.2 (fun z => by cases z); exact ⟨w, D, ob, by rw [O_add, if_neg hr]; exact e9, by rw [O_add, if_neg hr, e3]; exact H⟩)
  have hr : r_in 16 m ∧ rv = some (.ref (mA D (ix m))) := by
    rcases hcc.1 with ⟨a, b⟩ | ⟨a, b⟩
    · exact ⟨a, Sum.inl.inj b⟩
    · cases b
  obtain ⟨hr, rfl⟩ := hr
  have e4 := hcc.2.symm
  clear hcc
  subst e4
  obtain ⟨j, hj, rfl⟩ := r_in_of (by decide) hr
  have hx : ix (nI j) = j := ix_nI (by omega)
  rw [hx]
  have hO : O_add G (nI j) k = if r_in (np G) k then (if P_may G j then (.inl (some (.int (nI (nq G + 1)))), G_prop G (0, ix k, 0, 0)) else (.inr 1, G)) else (.inr 0, G) := by rw [O_add, if_pos hr, hx]
  refine g_astore_n ok (dk m_RG_add 3 rfl) (pc' := 6) rfl (i := 3) rfl (Nat.le_of_ble_eq_true rfl) rfl ?_
  refine g_iload_n ok (dk m_RG_add 4 rfl) (pc' := 7) rfl (i := 2) rfl rfl ?_
  refine g_if_lt ok (dk m_RG_add 5 rfl) (tgt := 21) (by decide) (pc' := 10) rfl (fun c_7 => ?_) (fun c_7 => ?_)
  · exact g_throw ok (kx := 0) (sx := 103) (tx := "no such package") (Or.inl ⟨rfl, rfl, rfl⟩) (by decide +kernel) (dk m_RG_add 11 rfl) (dk m_RG_add 12 rfl) (Or.inl ⟨dk m_RG_add 13 rfl, rfl⟩) (dk m_RG_add 14 rfl) (dk m_RG_add 15 rfl) (by decide) (by omega) rfl (by omega) (by omega) ⟨w, D, ob, by rw [hO, if_neg (fun z => z.1 c_7)], by rw [hO, if_neg (fun z => z.1 c_7)]; exact H⟩
  · refine g_iload_n ok (dk m_RG_add 6 rfl) (pc' := 11) rfl (i := 2) rfl rfl ?_
    refine g_aload_n ok (dk m_RG_add 7 rfl) (pc' := 12) rfl (i := 0) rfl rfl ?_
    refine g_get ok (dk m_RG_add 8 rfl) (pc' := 15) rfl f_RG_23 H.fr rfl ?_
    refine g_callV ok (dk m_RG_add 9 rfl) (pc' := 18) rfl c_RG_86 (c_AL_size g 0 hlp) hlp rfl rfl (by simp [Value.category]) (by omega) rfl (rc' := (mc - 1)) (rs' := (ms - 6)) (by omega) (by omega) (fun rv h' hcc => ?_) (fun i h' hcc => by obtain ⟨e9, -⟩ := hcc; cases e9)
    obtain ⟨e9, e2⟩ := hcc
    have e3 := e2.symm
    subst e3
    cases e9
    refine g_icmp_lt ok (dk m_RG_add 10 rfl) (tgt := 31) (by decide) (pc' := 21) rfl (fun c_18 => ?_) (fun c_18 => ?_)
    · have hk1 : r_in (np G) k := ⟨c_7, fun z => absurd c_18 (fun q => Int32.lt_irrefl (Int32.lt_of_lt_of_le q z))⟩
      have hO2 : O_add G (nI j) k = if P_may G j then (.inl (some (.int (nI (nq G + 1)))), G_prop G (0, ix k, 0, 0)) else (.inr 1, G) := by rw [hO, if_pos hk1]
      obtain ⟨i, hi, rfl⟩ := r_in_of (by omega) hk1
      have hxi : ix (nI i) = i := ix_nI (by omega)
      rw [hxi] at hO2
      refine g_aload_n ok (dk m_RG_add 16 rfl) (pc' := 32) rfl (i := 0) rfl rfl ?_
      refine g_aload_n ok (dk m_RG_add 17 rfl) (pc' := 33) rfl (i := 3) rfl rfl ?_
      refine g_callV ok (dk m_RG_add 18 rfl) (pc' := 36) rfl c_RG_106 (c_RG_refuseUnlessMayPropose g 6 1 6 (by omega) (by omega) (by omega) hj (by omega) H) H.fr rfl rfl (by simp [Value.category]) (by omega) rfl (rc' := (mc - 2)) (rs' := (ms - 12)) (by omega) (by omega) (fun rv h' hcc => ?_) (fun i h' hcc => by obtain ⟨e9 | ⟨hy, e9⟩, e3⟩ := hcc; exact absurd e9.2 (fun z => by cases z); exact ⟨w, D, ob, by rw [hO2, if_neg hy]; exact e9, by rw [hO2, if_neg hy, e3]; exact H⟩)
      have hy : P_may G j ∧ rv = none := by
        rcases hcc.1 with ⟨a, b⟩ | ⟨a, b⟩
        · exact ⟨a, Sum.inl.inj b⟩
        · cases b
      obtain ⟨hy, rfl⟩ := hy
      have e4 := hcc.2.symm
      clear hcc
      subst e4
      refine g_aload_n ok (dk m_RG_add 19 rfl) (pc' := 37) rfl (i := 0) rfl rfl ?_
      refine g_get ok (dk m_RG_add 20 rfl) (pc' := 40) rfl f_RG_26 H.fr rfl ?_
      refine g_new ok (dk m_RG_add 21 rfl) (pc' := 43) rfl o_RG_110 (rc' := (mc - 3)) (rs' := (ms - 13)) (by omega) (by omega) (fun x hx0 hxb => ?_)
      refine g_gen (fun v e => ?_)
      obtain ⟨H2, hw, hk⟩ := H.newX hx0 e
      have hv : v x = some (.inl (8, [.null])) := by rw [e, q_up_s]
      clear e
      generalize va_up w x 7 = w at H2 hw
      obtain ⟨l2, l3, hl2⟩ := H2.lp.size
      refine g_dup ok (dk m_RG_add 22 rfl) (pc' := 44) rfl rfl ?_
      refine g_aload_n ok (dk m_RG_add 23 rfl) (pc' := 45) rfl (i := 0) rfl rfl ?_
      refine g_get ok (dk m_RG_add 24 rfl) (pc' := 48) rfl f_RG_23 H2.fr rfl ?_
      refine g_iload_n ok (dk m_RG_add 25 rfl) (pc' := 49) rfl (i := 2) rfl rfl ?_
      refine g_callV ok (dk m_RG_add 26 rfl) (pc' := 52) rfl c_RG_112 (c_AL_get g 2 (by omega) H2.lp hi) hl2 rfl rfl (by simp [Value.category]) (by omega) rfl (rc' := (mc - 3)) (rs' := (ms - 13)) (by omega) (by omega) (fun rv h' hcc => ?_) (fun i h' hcc => by obtain ⟨e9, -⟩ := hcc; cases e9)
      obtain ⟨e9, e2⟩ := hcc
      have e3 := e2.symm
      subst e3
      cases e9
      refine g_castY ok (dk m_RG_add 27 rfl) (pc' := 55) rfl k_RG_96 xc_7 ty_7 (H2.pk hi) ?_
      refine g_callI ok (dk m_RG_add 28 rfl) (pc' := 58) rfl c_RG_116 (c_Ad_init g 1 (by omega) hv) rfl rfl (by simp [Value.category]) (by omega) rfl (rc' := (mc - 3)) (rs' := (ms - 13)) (by omega) (by omega) (fun rv h' hcc => ?_) (fun i h' hcc => by obtain ⟨e9, -⟩ := hcc; cases e9)
      obtain ⟨e9, hv4, k4⟩ := hcc
      cases e9
      have H4 := H2.keep (k4.wk (fun y hy => Or.inl (by rw [hy]; exact hw)))
      obtain ⟨l4, l5, hl4⟩ := H4.lq.size
      refine g_callV ok (dk m_RG_add 29 rfl) (pc' := 61) rfl c_RG_46 (c_AL_add g 6 1 110 (by omega) (by omega) (by omega) H4.lq (by show nq G ≤ 72; omega) H4.elq hv4 (H4.lne (by decide) (by decide) hw) ty_8 xo_8) hl4 rfl rfl (by simp [Value.category]) (by omega) rfl (rc' := (mc - 4)) (rs' := (ms - 123)) (by omega) (by omega) (fun rv h' hcc => ?_) (fun i h' hcc => by obtain ⟨e9, -⟩ := hcc; cases e9)
      obtain ⟨e9, ob5, hl5, hk5, hob5, -⟩ := hcc
      cases e9
      obtain ⟨w6, H6⟩ := H4.addQ (p := (0, i, 0, 0)) (Or.inl ⟨rfl, hi, hv4⟩) hw hl5 hk5 hob5
      obtain ⟨l6, l7, hl6⟩ := H6.lq.size
      refine g_pop ok (dk m_RG_add 30 rfl) (pc' := 62) rfl rfl ?_
      refine g_aload_n ok (dk m_RG_add 31 rfl) (pc' := 63) rfl (i := 0) rfl rfl ?_
      refine g_get ok (dk m_RG_add 32 rfl) (pc' := 66) rfl f_RG_26 H6.fr rfl ?_
      refine g_callV ok (dk m_RG_add 33 rfl) (pc' := 69) rfl c_RG_86 (c_AL_size g 0 hl6) hl6 rfl rfl (by simp [Value.category]) (by omega) rfl (rc' := (mc - 4)) (rs' := (ms - 123)) (by omega) (by omega) (fun rv h' hcc => ?_) (fun i h' hcc => by obtain ⟨e9, -⟩ := hcc; cases e9)
      obtain ⟨e9, e2⟩ := hcc
      have e3 := e2.symm
      subst e3
      cases e9
      exact g_iret ok (dk m_RG_add 34 rfl) rfl rfl ⟨w6, _, _, by rw [hO2, if_pos hy]; rfl, by rw [hO2, if_pos hy]; exact H6⟩
    · exact g_throw ok (kx := 0) (sx := 103) (tx := "no such package") (Or.inl ⟨rfl, rfl, rfl⟩) (by decide +kernel) (dk m_RG_add 11 rfl) (dk m_RG_add 12 rfl) (Or.inl ⟨dk m_RG_add 13 rfl, rfl⟩) (dk m_RG_add 14 rfl) (dk m_RG_add 15 rfl) (by decide) (by omega) rfl (by omega) (by omega) ⟨w, D, ob, by rw [hO, if_neg (fun z => c_18 (Int32.not_le.mp z.2))], by rw [hO, if_neg (fun z => c_18 (Int32.not_le.mp z.2))]; exact H⟩
set_option maxHeartbeats 1000000 in
theorem c_RG_remove (g : q_G) {h : q_H} {r : Nat} {w : Nat → Nat} {D : a_T} {ob : Nat → Option Nat} {G : G_T} (m l : Int32) (d mc ms : Nat) (hd : 7 ≤ d) (hmc : 4 ≤ mc) (hms : 123 ≤ ms) (hnq : nq G ≤ 20) (H : q_RG g h r w D ob G) : MG g y_RG_remove b_RG_remove 4 (some .int) d mc ms [.ref r, .int m, .int l] h (fun q h' => ∃ w' D' ob', q = (O_remove G m l).1 ∧ q_RG g h' r w' D' ob' (O_remove G m l).2) := by
  classical
  refine MG.of (by decide +kernel) (by simp [Value.category]) (Nat.le_of_ble_eq_true rfl) ?_
  intro Z A ok
  refine g_aload_n ok (dk m_RG_remove 0 rfl) (pc' := 1) rfl (i := 0) rfl rfl ?_
  refine g_iload_n ok (dk m_RG_remove 1 rfl) (pc' := 2) rfl (i := 1) rfl rfl ?_
  refine g_callV ok (dk m_RG_remove 2 rfl) (pc' := 5) rfl c_RG_82 (c_RG_memberNumbered g m 6 1 6 (by omega) (by omega) (by omega) H) H.fr rfl rfl (by simp [Value.category]) (by omega) rfl (rc' := (mc - 1)) (rs' := (ms - 6)) (by omega) (by omega) (fun rv h' hcc => ?_) (fun i h' hcc => by obtain ⟨e9 | ⟨hr, e9⟩, e3⟩ := hcc; exact absurd e9.2 (fun z => by cases z); exact ⟨w, D, ob, by rw [O_remove, if_neg hr]; exact e9, by rw [O_remove, if_neg hr, e3]; exact H⟩)
  have hr : r_in 16 m ∧ rv = some (.ref (mA D (ix m))) := by
    rcases hcc.1 with ⟨a, b⟩ | ⟨a, b⟩
    · exact ⟨a, Sum.inl.inj b⟩
    · cases b
  obtain ⟨hr, rfl⟩ := hr
  have e4 := hcc.2.symm
  clear hcc
  subst e4
  obtain ⟨j, hj, rfl⟩ := r_in_of (by decide) hr
  have hx : ix (nI j) = j := ix_nI (by omega)
  rw [hx]
  have hO : O_remove G (nI j) l = if r_in 16 l then (if P_may G j then (.inl (some (.int (nI (nq G + 1)))), G_prop G (1, 0, l, 0)) else (.inr 1, G)) else (.inr 0, G) := by rw [O_remove, if_pos hr, hx]
  refine g_astore_n ok (dk m_RG_remove 3 rfl) (pc' := 6) rfl (i := 3) rfl (Nat.le_of_ble_eq_true rfl) rfl ?_
  refine g_iload_n ok (dk m_RG_remove 4 rfl) (pc' := 7) rfl (i := 2) rfl rfl ?_
  refine g_if_lt ok (dk m_RG_remove 5 rfl) (tgt := 16) (by decide) (pc' := 10) rfl (fun c_7 => ?_) (fun c_7 => ?_)
  · exact g_throw ok (kx := 0) (sx := 119) (tx := "no such leaf") (Or.inl ⟨rfl, rfl, rfl⟩) (by decide +kernel) (dk m_RG_remove 9 rfl) (dk m_RG_remove 10 rfl) (Or.inl ⟨dk m_RG_remove 11 rfl, rfl⟩) (dk m_RG_remove 12 rfl) (dk m_RG_remove 13 rfl) (by decide) (by omega) rfl (by omega) (by omega) ⟨w, D, ob, by rw [hO, if_neg (fun z => z.1 c_7)], by rw [hO, if_neg (fun z => z.1 c_7)]; exact H⟩
  · refine g_iload_n ok (dk m_RG_remove 6 rfl) (pc' := 11) rfl (i := 2) rfl rfl ?_
    refine g_bipush ok (dk m_RG_remove 7 rfl) (pc' := 13) rfl (v := 16) (by decide) ?_
    refine g_icmp_lt ok (dk m_RG_remove 8 rfl) (tgt := 26) (by decide) (pc' := 16) rfl (fun c_13 => ?_) (fun c_13 => ?_)
    · have hk1 : r_in 16 l := ⟨c_7, fun z => absurd c_13 (fun q => Int32.lt_irrefl (Int32.lt_of_lt_of_le q z))⟩
      have hO2 : O_remove G (nI j) l = if P_may G j then (.inl (some (.int (nI (nq G + 1)))), G_prop G (1, 0, l, 0)) else (.inr 1, G) := by rw [hO, if_pos hk1]
      refine g_aload_n ok (dk m_RG_remove 14 rfl) (pc' := 27) rfl (i := 0) rfl rfl ?_
      refine g_aload_n ok (dk m_RG_remove 15 rfl) (pc' := 28) rfl (i := 3) rfl rfl ?_
      refine g_callV ok (dk m_RG_remove 16 rfl) (pc' := 31) rfl c_RG_106 (c_RG_refuseUnlessMayPropose g 6 1 6 (by omega) (by omega) (by omega) hj (by omega) H) H.fr rfl rfl (by simp [Value.category]) (by omega) rfl (rc' := (mc - 2)) (rs' := (ms - 12)) (by omega) (by omega) (fun rv h' hcc => ?_) (fun i h' hcc => by obtain ⟨e9 | ⟨hy, e9⟩, e3⟩ := hcc; exact absurd e9.2 (fun z => by cases z); exact ⟨w, D, ob, by rw [hO2, if_neg hy]; exact e9, by rw [hO2, if_neg hy, e3]; exact H⟩)
      have hy : P_may G j ∧ rv = none := by
        rcases hcc.1 with ⟨a, b⟩ | ⟨a, b⟩
        · exact ⟨a, Sum.inl.inj b⟩
        · cases b
      obtain ⟨hy, rfl⟩ := hy
      have e4 := hcc.2.symm
      clear hcc
      subst e4
      refine g_aload_n ok (dk m_RG_remove 17 rfl) (pc' := 32) rfl (i := 0) rfl rfl ?_
      refine g_get ok (dk m_RG_remove 18 rfl) (pc' := 35) rfl f_RG_26 H.fr rfl ?_
      refine g_new ok (dk m_RG_remove 19 rfl) (pc' := 38) rfl o_RG_121 (rc' := (mc - 3)) (rs' := (ms - 13)) (by omega) (by omega) (fun x hx0 hxb => ?_)
      refine g_gen (fun v e => ?_)
      obtain ⟨H2, hw, hk⟩ := H.newX hx0 e
      have hv : v x = some (.inl (9, [.int 0])) := by rw [e, q_up_s]
      clear e
      generalize va_up w x 7 = w at H2 hw
      refine g_dup ok (dk m_RG_remove 20 rfl) (pc' := 39) rfl rfl ?_
      refine g_iload_n ok (dk m_RG_remove 21 rfl) (pc' := 40) rfl (i := 2) rfl rfl ?_
      refine g_callI ok (dk m_RG_remove 22 rfl) (pc' := 43) rfl c_RG_123 (c_Re_init g _ 1 (by omega) hv) rfl rfl (by simp [Value.category]) (by omega) rfl (rc' := (mc - 3)) (rs' := (ms - 13)) (by omega) (by omega) (fun rv h' hcc => ?_) (fun i h' hcc => by obtain ⟨e9, -⟩ := hcc; cases e9)
      obtain ⟨e9, hv4, k4⟩ := hcc
      cases e9
      have H4 := H2.keep (k4.wk (fun y hy => Or.inl (by rw [hy]; exact hw)))
      obtain ⟨l4, l5, hl4⟩ := H4.lq.size
      refine g_callV ok (dk m_RG_remove 23 rfl) (pc' := 46) rfl c_RG_46 (c_AL_add g 6 1 110 (by omega) (by omega) (by omega) H4.lq (by show nq G ≤ 72; omega) H4.elq hv4 (H4.lne (by decide) (by decide) hw) ty_9 xo_9) hl4 rfl rfl (by simp [Value.category]) (by omega) rfl (rc' := (mc - 4)) (rs' := (ms - 123)) (by omega) (by omega) (fun rv h' hcc => ?_) (fun i h' hcc => by obtain ⟨e9, -⟩ := hcc; cases e9)
      obtain ⟨e9, ob5, hl5, hk5, hob5, -⟩ := hcc
      cases e9
      obtain ⟨w6, H6⟩ := H4.addQ (p := (1, 0, l, 0)) (Or.inr (Or.inl ⟨rfl, hv4⟩)) hw hl5 hk5 hob5
      obtain ⟨l6, l7, hl6⟩ := H6.lq.size
      refine g_pop ok (dk m_RG_remove 24 rfl) (pc' := 47) rfl rfl ?_
      refine g_aload_n ok (dk m_RG_remove 25 rfl) (pc' := 48) rfl (i := 0) rfl rfl ?_
      refine g_get ok (dk m_RG_remove 26 rfl) (pc' := 51) rfl f_RG_26 H6.fr rfl ?_
      refine g_callV ok (dk m_RG_remove 27 rfl) (pc' := 54) rfl c_RG_86 (c_AL_size g 0 hl6) hl6 rfl rfl (by simp [Value.category]) (by omega) rfl (rc' := (mc - 4)) (rs' := (ms - 123)) (by omega) (by omega) (fun rv h' hcc => ?_) (fun i h' hcc => by obtain ⟨e9, -⟩ := hcc; cases e9)
      obtain ⟨e9, e2⟩ := hcc
      have e3 := e2.symm
      subst e3
      cases e9
      exact g_iret ok (dk m_RG_remove 28 rfl) rfl rfl ⟨w6, _, _, by rw [hO2, if_pos hy]; rfl, by rw [hO2, if_pos hy]; exact H6⟩
    · exact g_throw ok (kx := 0) (sx := 119) (tx := "no such leaf") (Or.inl ⟨rfl, rfl, rfl⟩) (by decide +kernel) (dk m_RG_remove 9 rfl) (dk m_RG_remove 10 rfl) (Or.inl ⟨dk m_RG_remove 11 rfl, rfl⟩) (dk m_RG_remove 12 rfl) (dk m_RG_remove 13 rfl) (by decide) (by omega) rfl (by omega) (by omega) ⟨w, D, ob, by rw [hO, if_neg (fun z => c_13 (Int32.not_le.mp z.2))], by rw [hO, if_neg (fun z => c_13 (Int32.not_le.mp z.2))]; exact H⟩
set_option maxHeartbeats 1000000 in
theorem c_RG_update (g : q_G) {h : q_H} {r : Nat} {w : Nat → Nat} {D : a_T} {ob : Nat → Option Nat} {G : G_T} (m : Int32) (d mc ms : Nat) (hd : 7 ≤ d) (hmc : 4 ≤ mc) (hms : 124 ≤ ms) (hnq : nq G ≤ 20) (H : q_RG g h r w D ob G) : MG g y_RG_update b_RG_update 4 (some .int) d mc ms [.ref r, .int m] h (fun q h' => ∃ w' D' ob', q = (O_update G m).1 ∧ q_RG g h' r w' D' ob' (O_update G m).2) := by
  classical
  refine MG.of (by decide +kernel) (by simp [Value.category]) (Nat.le_of_ble_eq_true rfl) ?_
  intro Z A ok
  refine g_aload_n ok (dk m_RG_update 0 rfl) (pc' := 1) rfl (i := 0) rfl rfl ?_
  refine g_iload_n ok (dk m_RG_update 1 rfl) (pc' := 2) rfl (i := 1) rfl rfl ?_
  refine g_callV ok (dk m_RG_update 2 rfl) (pc' := 5) rfl c_RG_82 (c_RG_memberNumbered g m 6 1 6 (by omega) (by omega) (by omega) H) H.fr rfl rfl (by simp [Value.category]) (by omega) rfl (rc' := (mc - 1)) (rs' := (ms - 6)) (by omega) (by omega) (fun rv h' hcc => ?_) (fun i h' hcc => by obtain ⟨e9 | ⟨hr, e9⟩, e3⟩ := hcc; exact absurd e9.2 (fun z => by cases z); exact ⟨w, D, ob, by rw [O_update, if_neg hr]; exact e9, by rw [O_update, if_neg hr, e3]; exact H⟩)
  have hr : r_in 16 m ∧ rv = some (.ref (mA D (ix m))) := by
    rcases hcc.1 with ⟨a, b⟩ | ⟨a, b⟩
    · exact ⟨a, Sum.inl.inj b⟩
    · cases b
  obtain ⟨hr, rfl⟩ := hr
  have e4 := hcc.2.symm
  clear hcc
  subst e4
  obtain ⟨j, hj, rfl⟩ := r_in_of (by decide) hr
  have hx : ix (nI j) = j := ix_nI (by omega)
  rw [hx]
  have hO : O_update G (nI j) = if P_may G j then (.inl (some (.int (nI (nq G + 1)))), G_upd G j) else (.inr 1, G) := by rw [O_update, if_pos hr, hx]
  refine g_astore_n ok (dk m_RG_update 3 rfl) (pc' := 6) rfl (i := 2) rfl (Nat.le_of_ble_eq_true rfl) rfl ?_
  refine g_aload_n ok (dk m_RG_update 4 rfl) (pc' := 7) rfl (i := 0) rfl rfl ?_
  refine g_aload_n ok (dk m_RG_update 5 rfl) (pc' := 8) rfl (i := 2) rfl rfl ?_
  refine g_callV ok (dk m_RG_update 6 rfl) (pc' := 11) rfl c_RG_106 (c_RG_refuseUnlessMayPropose g 6 1 6 (by omega) (by omega) (by omega) hj (by omega) H) H.fr rfl rfl (by simp [Value.category]) (by omega) rfl (rc' := (mc - 2)) (rs' := (ms - 12)) (by omega) (by omega) (fun rv h' hcc => ?_) (fun i h' hcc => by obtain ⟨e9 | ⟨hy, e9⟩, e3⟩ := hcc; exact absurd e9.2 (fun z => by cases z); exact ⟨w, D, ob, by rw [hO, if_neg hy]; exact e9, by rw [hO, if_neg hy, e3]; exact H⟩)
  have hy : P_may G j ∧ rv = none := by
    rcases hcc.1 with ⟨a, b⟩ | ⟨a, b⟩
    · exact ⟨a, Sum.inl.inj b⟩
    · cases b
  obtain ⟨hy, rfl⟩ := hy
  have e4 := hcc.2.symm
  clear hcc
  subst e4
  refine g_aload_n ok (dk m_RG_update 7 rfl) (pc' := 12) rfl (i := 0) rfl rfl ?_
  refine g_get ok (dk m_RG_update 8 rfl) (pc' := 15) rfl f_RG_12 H.fr rfl ?_
  refine g_callV ok (dk m_RG_update 9 rfl) (pc' := 18) rfl c_RG_57 (c_Sec_fresh g 0 H.sec) H.sec.1 rfl rfl (by simp [Value.category]) (by omega) rfl (rc' := (mc - 2)) (rs' := (ms - 12)) (by omega) (by omega) (fun rv h' hcc => ?_) (fun i h' hcc => by obtain ⟨e9, -⟩ := hcc; cases e9)
  obtain ⟨e9, hs1, o1⟩ := hcc
  cases e9
  have H1 := H.tS hs1 o1
  refine g_istore_n ok (dk m_RG_update 10 rfl) (pc' := 19) rfl (i := 3) rfl (Nat.le_of_ble_eq_true rfl) rfl ?_
  refine g_aload_n ok (dk m_RG_update 11 rfl) (pc' := 20) rfl (i := 2) rfl rfl ?_
  refine g_iload_n ok (dk m_RG_update 12 rfl) (pc' := 21) rfl (i := 3) rfl rfl ?_
  refine g_callV ok (dk m_RG_update 13 rfl) (pc' := 24) rfl c_RG_124 (c_Mem_keepUpdate g _ 1 (by omega) (H1.mem hj)) (H1.mem hj).1 rfl rfl (by simp [Value.category]) (by omega) rfl (rc' := (mc - 2)) (rs' := (ms - 12)) (by omega) (by omega) (fun rv h' hcc => ?_) (fun i h' hcc => by obtain ⟨e9, -⟩ := hcc; cases e9)
  obtain ⟨e9, hm1, o2⟩ := hcc
  cases e9
  have H1 := H1.tM hj hm1 o2
  refine g_aload_n ok (dk m_RG_update 14 rfl) (pc' := 25) rfl (i := 0) rfl rfl ?_
  refine g_get ok (dk m_RG_update 15 rfl) (pc' := 28) rfl f_RG_26 H1.fr rfl ?_
  refine g_new ok (dk m_RG_update 16 rfl) (pc' := 31) rfl o_RG_127 (rc' := (mc - 3)) (rs' := (ms - 14)) (by omega) (by omega) (fun x hx0 hxb => ?_)
  refine g_gen (fun v e => ?_)
  obtain ⟨H2, hw, hk⟩ := H1.newX hx0 e
  have hv : v x = some (.inl (10, [.int 0, .int 0])) := by rw [e, q_up_s]
  clear e
  generalize va_up w x 7 = w at H2 hw
  have hm2 := H2.mem hj
  rw [show gM (sM (sS G (S_fresh (gS G)).2) j (M_keep (gM G j) (S_fresh (gS G)).1)) j = M_keep (gM G j) (S_fresh (gS G)).1 from if_pos rfl] at hm2
  refine g_dup ok (dk m_RG_update 17 rfl) (pc' := 32) rfl rfl ?_
  refine g_aload_n ok (dk m_RG_update 18 rfl) (pc' := 33) rfl (i := 2) rfl rfl ?_
  refine g_get ok (dk m_RG_update 19 rfl) (pc' := 36) rfl f_RG_129 hm2.1 rfl ?_
  refine g_iload_n ok (dk m_RG_update 20 rfl) (pc' := 37) rfl (i := 3) rfl rfl ?_
  refine g_callI ok (dk m_RG_update 21 rfl) (pc' := 40) rfl c_RG_132 (c_Rn_init g _ _ 1 (by omega) hv) rfl rfl (by simp [Value.category]) (by omega) rfl (rc' := (mc - 3)) (rs' := (ms - 14)) (by omega) (by omega) (fun rv h' hcc => ?_) (fun i h' hcc => by obtain ⟨e9, -⟩ := hcc; cases e9)
  obtain ⟨e9, hv4, k4⟩ := hcc
  cases e9
  have H4 := H2.keep (k4.wk (fun y hy => Or.inl (by rw [hy]; exact hw)))
  obtain ⟨l4, l5, hl4⟩ := H4.lq.size
  refine g_callV ok (dk m_RG_update 22 rfl) (pc' := 43) rfl c_RG_46 (c_AL_add g 6 1 110 (by omega) (by omega) (by omega) H4.lq (by show nq G ≤ 72; omega) H4.elq hv4 (H4.lne (by decide) (by decide) hw) ty_10 xo_10) hl4 rfl rfl (by simp [Value.category]) (by omega) rfl (rc' := (mc - 4)) (rs' := (ms - 124)) (by omega) (by omega) (fun rv h' hcc => ?_) (fun i h' hcc => by obtain ⟨e9, -⟩ := hcc; cases e9)
  obtain ⟨e9, ob5, hl5, hk5, hob5, -⟩ := hcc
  cases e9
  obtain ⟨w6, H6⟩ := H4.addQ (p := (2, 0, (M_keep (gM G j) (S_fresh (gS G)).1).1 3, (S_fresh (gS G)).1)) (Or.inr (Or.inr ⟨rfl, hv4⟩)) hw hl5 hk5 hob5
  obtain ⟨l6, l7, hl6⟩ := H6.lq.size
  refine g_pop ok (dk m_RG_update 23 rfl) (pc' := 44) rfl rfl ?_
  refine g_aload_n ok (dk m_RG_update 24 rfl) (pc' := 45) rfl (i := 0) rfl rfl ?_
  refine g_get ok (dk m_RG_update 25 rfl) (pc' := 48) rfl f_RG_26 H6.fr rfl ?_
  refine g_callV ok (dk m_RG_update 26 rfl) (pc' := 51) rfl c_RG_86 (c_AL_size g 0 hl6) hl6 rfl rfl (by simp [Value.category]) (by omega) rfl (rc' := (mc - 4)) (rs' := (ms - 124)) (by omega) (by omega) (fun rv h' hcc => ?_) (fun i h' hcc => by obtain ⟨e9, -⟩ := hcc; cases e9)
  obtain ⟨e9, e2⟩ := hcc
  have e3 := e2.symm
  subst e3
  cases e9
  exact g_iret ok (dk m_RG_update 27 rfl) rfl rfl ⟨w6, _, _, by rw [hO, if_pos hy]; rfl, by rw [hO, if_pos hy]; exact H6⟩
