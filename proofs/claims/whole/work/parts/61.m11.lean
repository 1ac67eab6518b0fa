/-! ===== the reference: welcome, keep, tell, advance ===== -/
theorem mo_mt_or (c : Int32) {l : Nat} (hl : l < 16) : ∀ (m k : Nat), k + m ≤ 5 → mo_mt c l m k = -1 ∨ ∃ v, v < 31 ∧ mo_mt c l m k = nI v := by
  intro m
  induction m with
  | zero => intro k hk; exact Or.inl rfl
  | succ m ih =>
    intro k hk
    rw [mo_mt]
    split
    · exact Or.inr ⟨abv l k, (abv_ok l hl k (by omega)).2, rfl⟩
    · exact ih (k + 1) (by omega)
def we_v (X : x_T) (e D k : Nat) : Int32 := if X.2 21 e = 0 then -1 else mo_mt (X.2 16 e) (ix (X.2 40 k)) D 1
def we_1 (X0 : x_T) (e D : Nat) (jn : Int32) (k : Nat) (X : x_T) : x_T :=
  if X0.2 39 k = nI e then (if we_v X0 e D k = -1 then mo_enc X (ix (X.1 7)) e (X0.2 37 k) jn (-1) else mo_enc (mo_enc X (ix (X.1 7)) e (X0.2 37 k) jn (-1)) (ix (X.1 7) + 1) e (X0.2 37 k) (X0.2 25 (31 * e + ix (we_v X0 e D k))) (-1)) else X
def we_m (X0 : x_T) (e D : Nat) (jn : Int32) : Nat → Nat → x_T → x_T
  | 0, _, X => X
  | m + 1, k, X => we_m X0 e D jn m (k + 1) (we_1 X0 e D jn k X)
def kp_b (X : x_T) (mm e l D v : Nat) : Prop := (v < 2 ^ (D + 1) - 1 ∧ 0 < hgt v ∧ abv l (hgt v) = v) ∧ X.2 22 (31 * e + v) = X.2 33 (31 * mm + v)
noncomputable def kp_m (mm e l D : Nat) : Nat → Nat → x_T → x_T
  | 0, _, X => X
  | m + 1, v, X => by classical exact kp_m mm e l D m (v + 1) (if kp_b X mm e l D v then X else xs X 33 (31 * mm + v) (-1))
def tl_m (mm e l : Nat) : Nat → Nat → x_T → x_T
  | 0, _, X => X
  | m + 1, t, X => tl_m mm e l m (t + 1) (if (X.2 16 e >>> (nI (abv l t) &&& 31)) &&& 1 = 1 then xs X 33 (31 * mm + abv l t) (X.2 22 (31 * e + abv l t)) else X)
theorem kp_m_f (mm e l D : Nat) : ∀ (m v : Nat) (X : x_T), xfr [33] X (kp_m mm e l D m v X) := by
  intro m
  induction m with
  | zero => intro v X; exact xfr.rf
  | succ m ih =>
    intro v X
    rw [kp_m]
    refine xfr.tr ?_ (ih (v + 1) _)
    split
    · exact xfr.rf
    · exact xfr.rf.xs 33 _ _ (by decide)
theorem tl_m_f (mm e l : Nat) : ∀ (m v : Nat) (X : x_T), xfr [33] X (tl_m mm e l m v X) := by
  intro m
  induction m with
  | zero => intro v X; exact xfr.rf
  | succ m ih =>
    intro v X
    rw [tl_m]
    refine xfr.tr ?_ (ih (v + 1) _)
    split
    · exact xfr.rf.xs 33 _ _ (by decide)
    · exact xfr.rf
theorem abv1 : ∀ l, l < 16 → hgt (abv l 1) = 1 := by decide +kernel
abbrev ad_0 (X : x_T) (mm e l : Nat) : x_T := xs (xs (xs X 27 mm (nI e)) 31 mm 0) 29 mm (X.2 22 (31 * e + 2 * l))
noncomputable def ad (X : x_T) (mm e l D : Nat) (pa : Int32) : x_T := if pa = 0 ∨ D = 0 then kp_m mm e l D 31 0 (ad_0 X mm e l) else tl_m mm e l D 1 (kp_m mm e l D 31 0 (ad_0 X mm e l))
set_option maxHeartbeats 1000000 in
theorem c_Mo_welcome (g : q_G) {h : q_H} {o : Nat} {ba : Nat → Nat} {X : x_T} {e D p c : Nat} (jn : Int32) (d : Nat) (hd : 2 ≤ d) (he : e < 60) (hp : X.1 35 = nI p) (hp2 : p ≤ 60) (hc : X.1 7 = nI c) (hc2 : c + 2 * p ≤ 3600) (he12 : X.1 12 = nI e) (hD : X.2 13 e = nI D) (hD4 : D ≤ 4) (hA : ∀ k, k < p → X.2 39 k = nI e → ∃ l, l < 16 ∧ X.2 40 k = nI l) (H : q_mo h o ba X) : MG g y_Mo_welcome b_Mo_welcome 5 none d 0 0 [.ref o, .int (nI e), .int jn] h (fun q h' => q = .inl none ∧ q_mo h' o ba (we_m X e D jn p 0 X)) := by
  refine MG.of (by decide +kernel) (by simp [Value.category]) (Nat.le_of_ble_eq_true rfl) ?_
  intro Z A ok
  have loop : ∀ (m k : Nat), k + m = p → ∀ (h1 : q_H) (X1 : x_T) (c1 : Nat) (x4 : Option Value), q_mo h1 o ba X1 → xfr en_K X X1 → X1.1 7 = nI c1 → c1 + 2 * m ≤ c + 2 * p → we_m X e D jn m k X1 = we_m X e D jn p 0 X → GW g Z A (fun q h' => q = .inl none ∧ q_mo h' o ba (we_m X e D jn p 0 X)) 0 0 h1 2 [some (.ref o), some (.int (nI e)), some (.int jn), some (.int (nI k)), x4] [] := by
    intro m
    induction m with
    | zero =>
      intro k hk h1 X1 c1 x4 H1 f1 hc1 hcb hv
      refine g_iload_n ok (dk m_Mo_welcome 2 rfl) (pc' := 3) rfl (i := 3) rfl rfl ?_
      refine g_aload_n ok (dk m_Mo_welcome 3 rfl) (pc' := 4) rfl (i := 0) rfl rfl ?_
      refine g_get ok (dk m_Mo_welcome 4 rfl) (pc' := 7) rfl f_Mo_189 H1.1 rfl ?_
      refine g_top (w := .int (nI p)) (congrArg Value.int ((f1 35 (by decide)).1.trans hp)) ?_
      refine g_icmp_ge ok (dk m_Mo_welcome 5 rfl) (tgt := 96) (by decide) (pc' := 10) rfl (fun c_7 => ?_) (fun c_7 => absurd (nI_le (a := p) (b := k) (by omega) (by omega)) c_7)
      exact g_vret ok (dk m_Mo_welcome 56 rfl) rfl ⟨rfl, by rw [← hv]; exact H1⟩
    | succ m ih =>
      intro k hk h1 X1 c1 x4 H1 f1 hc1 hcb hv
      have hk2 : k < p := by omega
      have mid : X.2 39 k = nI e → ∀ (h2 : q_H) (w : Int32), q_mo h2 o ba (mo_enc X1 c1 e (X.2 37 k) jn (-1)) → we_v X e D k = w → (w = -1 ∨ ∃ v, v < 31 ∧ w = nI v) → GW g Z A (fun q h' => q = .inl none ∧ q_mo h' o ba (we_m X e D jn p 0 X)) 0 0 h2 59 [some (.ref o), some (.int (nI e)), some (.int jn), some (.int (nI k)), x4] [.int w] := by
        intro hk39 h2 w H2 hwv hw
        refine g_istore ok (dk m_Mo_welcome 35 rfl) (pc' := 61) rfl (Nat.le_of_ble_eq_true rfl) rfl ?_
        refine g_iload ok (dk m_Mo_welcome 36 rfl) (pc' := 63) rfl rfl ?_
        refine g_iconst ok (dk m_Mo_welcome 37 rfl) (pc' := 64) rfl (v := (-1)) (by decide) ?_
        refine g_icmp_eq ok (dk m_Mo_welcome 38 rfl) (tgt := 90) (by decide) (pc' := 67) rfl (fun c_64 => ?_) (fun c_64 => ?_)
        · refine g_iinc ok (dk m_Mo_welcome 54 rfl) (pc' := 93) rfl rfl (nI_1 k) rfl ?_
          refine g_goto ok (dk m_Mo_welcome 55 rfl) (pc' := 2) (by decide) ?_
          exact ih (k + 1) (by omega) _ _ (c1 + 1) _ H2 (f1.tr (mo_enc_f _ _ _ _ _ _)) rfl (by omega) (by rw [← hv, we_m, we_1, if_pos hk39, hwv, if_pos c_64, hc1, ix_nI (by omega)])
        · obtain ⟨v, hv31, hvv⟩ := hw.resolve_left c_64
          have hxv : ix (nI v) = v := ix_nI (by omega)
          rw [hvv]
          refine g_aload_n ok (dk m_Mo_welcome 39 rfl) (pc' := 68) rfl (i := 0) rfl rfl ?_
          refine g_aload_n ok (dk m_Mo_welcome 40 rfl) (pc' := 69) rfl (i := 0) rfl rfl ?_
          refine g_get ok (dk m_Mo_welcome 41 rfl) (pc' := 72) rfl f_Mo_107 H2.1 rfl ?_
          refine g_iload_n ok (dk m_Mo_welcome 42 rfl) (pc' := 73) rfl (i := 3) rfl rfl ?_
          refine g_ialdI ok (dk m_Mo_welcome 43 rfl) (pc' := 74) rfl (j := k) (H2.ar 37 rfl) rfl (show k < 60 by omega) (by decide) ?_
          refine g_top (w := .int (X.2 37 k)) (congrArg Value.int (congrFun (f1 37 (by decide)).2 k)) ?_
          refine g_aload_n ok (dk m_Mo_welcome 44 rfl) (pc' := 75) rfl (i := 0) rfl rfl ?_
          refine g_get ok (dk m_Mo_welcome 45 rfl) (pc' := 78) rfl f_Mo_74 H2.1 rfl ?_
          refine g_bipush ok (dk m_Mo_welcome 46 rfl) (pc' := 80) rfl (v := 31) (by decide) ?_
          refine g_iload_n ok (dk m_Mo_welcome 47 rfl) (pc' := 81) rfl (i := 1) rfl rfl ?_
          refine g_imul ok (dk m_Mo_welcome 48 rfl) (pc' := 82) rfl ?_
          refine g_iload ok (dk m_Mo_welcome 49 rfl) (pc' := 84) rfl rfl ?_
          refine g_iadd ok (dk m_Mo_welcome 50 rfl) (pc' := 85) rfl ?_
          refine g_ialdI ok (dk m_Mo_welcome 51 rfl) (pc' := 86) rfl (j := 31 * e + v) (H2.ar 25 rfl) (ix31 e v) (show 31 * e + v < 1860 by omega) (by decide) ?_
          refine g_top (w := .int (X.2 25 (31 * e + v))) (congrArg Value.int (congrFun (f1 25 (by decide)).2 (31 * e + v))) ?_
          refine g_iconst ok (dk m_Mo_welcome 52 rfl) (pc' := 87) rfl (v := (-1)) (by decide) ?_
          refine g_callV ok (dk m_Mo_welcome 53 rfl) (pc' := 90) rfl c_Mo_224 (c_Mo_encrypt g (c := c1 + 1) (e := e) (X.2 37 k) (X.2 25 (31 * e + v)) (-1) 0 (by exact rfl) (by omega) (by exact (f1 12 (by decide)).1.trans he12) he H2) H2.1 rfl rfl (by simp [Value.category]) (by omega) rfl (rc' := 0) (rs' := 0) (by omega) (by omega) (fun rv h' hcc => ?_) (fun i h' hcc => by obtain ⟨e9, -⟩ := hcc; cases e9)
          obtain ⟨e9, Y61⟩ := hcc
          cases e9
          refine g_iinc ok (dk m_Mo_welcome 54 rfl) (pc' := 93) rfl rfl (nI_1 k) rfl ?_
          refine g_goto ok (dk m_Mo_welcome 55 rfl) (pc' := 2) (by decide) ?_
          exact ih (k + 1) (by omega) _ _ (c1 + 2) _ Y61 ((f1.tr (mo_enc_f _ _ _ _ _ _)).tr (mo_enc_f _ _ _ _ _ _)) rfl (by omega) (by rw [← hv, we_m, we_1, if_pos hk39, hwv, if_neg c_64, hc1, ix_nI (by omega), hvv, hxv])
      refine g_iload_n ok (dk m_Mo_welcome 2 rfl) (pc' := 3) rfl (i := 3) rfl rfl ?_
      refine g_aload_n ok (dk m_Mo_welcome 3 rfl) (pc' := 4) rfl (i := 0) rfl rfl ?_
      refine g_get ok (dk m_Mo_welcome 4 rfl) (pc' := 7) rfl f_Mo_189 H1.1 rfl ?_
      refine g_top (w := .int (nI p)) (congrArg Value.int ((f1 35 (by decide)).1.trans hp)) ?_
      refine g_icmp_ge ok (dk m_Mo_welcome 5 rfl) (tgt := 96) (by decide) (pc' := 10) rfl (fun c_7 => absurd c_7 (nI_ge (show k < p by omega) (by omega))) (fun c_7 => ?_)
      refine g_aload_n ok (dk m_Mo_welcome 6 rfl) (pc' := 11) rfl (i := 0) rfl rfl ?_
      refine g_get ok (dk m_Mo_welcome 7 rfl) (pc' := 14) rfl f_Mo_113 H1.1 rfl ?_
      refine g_iload_n ok (dk m_Mo_welcome 8 rfl) (pc' := 15) rfl (i := 3) rfl rfl ?_
      refine g_ialdI ok (dk m_Mo_welcome 9 rfl) (pc' := 16) rfl (j := k) (H1.ar 39 rfl) rfl (show k < 60 by omega) (by decide) ?_
      refine g_top (w := .int (X.2 39 k)) (congrArg Value.int (congrFun (f1 39 (by decide)).2 k)) ?_
      refine g_iload_n ok (dk m_Mo_welcome 10 rfl) (pc' := 17) rfl (i := 1) rfl rfl ?_
      refine g_icmp_eq ok (dk m_Mo_welcome 11 rfl) (tgt := 23) (by decide) (pc' := 20) rfl (fun c_17 => ?_) (fun c_17 => ?_)
      · obtain ⟨l, hl, hll⟩ := hA k hk2 c_17
        have hxl : ix (nI l) = l := ix_nI (by omega)
        refine g_aload_n ok (dk m_Mo_welcome 13 rfl) (pc' := 24) rfl (i := 0) rfl rfl ?_
        refine g_aload_n ok (dk m_Mo_welcome 14 rfl) (pc' := 25) rfl (i := 0) rfl rfl ?_
        refine g_get ok (dk m_Mo_welcome 15 rfl) (pc' := 28) rfl f_Mo_107 H1.1 rfl ?_
        refine g_iload_n ok (dk m_Mo_welcome 16 rfl) (pc' := 29) rfl (i := 3) rfl rfl ?_
        refine g_ialdI ok (dk m_Mo_welcome 17 rfl) (pc' := 30) rfl (j := k) (H1.ar 37 rfl) rfl (show k < 60 by omega) (by decide) ?_
        refine g_top (w := .int (X.2 37 k)) (congrArg Value.int (congrFun (f1 37 (by decide)).2 k)) ?_
        refine g_iload_n ok (dk m_Mo_welcome 18 rfl) (pc' := 31) rfl (i := 2) rfl rfl ?_
        refine g_iconst ok (dk m_Mo_welcome 19 rfl) (pc' := 32) rfl (v := (-1)) (by decide) ?_
        refine g_callV ok (dk m_Mo_welcome 20 rfl) (pc' := 35) rfl c_Mo_224 (c_Mo_encrypt g (c := c1) (e := e) (X.2 37 k) jn (-1) 0 (by exact hc1) (by omega) (by exact (f1 12 (by decide)).1.trans he12) he H1) H1.1 rfl rfl (by simp [Value.category]) (by omega) rfl (rc' := 0) (rs' := 0) (by omega) (by omega) (fun rv h' hcc => ?_) (fun i h' hcc => by obtain ⟨e9, -⟩ := hcc; cases e9)
        obtain ⟨e9, Y1⟩ := hcc
        cases e9
        refine g_aload_n ok (dk m_Mo_welcome 21 rfl) (pc' := 36) rfl (i := 0) rfl rfl ?_
        refine g_get ok (dk m_Mo_welcome 22 rfl) (pc' := 39) rfl f_Mo_62 Y1.1 rfl ?_
        refine g_iload_n ok (dk m_Mo_welcome 23 rfl) (pc' := 40) rfl (i := 1) rfl rfl ?_
        refine g_zaldI ok (dk m_Mo_welcome 24 rfl) (pc' := 41) rfl (j := e) (Y1.ar 21 rfl) rfl (show e < 60 by omega) (by decide) ?_
        refine g_top (w := .int (X.2 21 e)) (congrArg Value.int (congrFun (f1 21 (by decide)).2 e)) ?_
        refine g_if_eq ok (dk m_Mo_welcome 25 rfl) (tgt := 58) (by decide) (pc' := 44) rfl (fun c_41 => ?_) (fun c_41 => ?_)
        · refine g_iconst ok (dk m_Mo_welcome 34 rfl) (pc' := 59) rfl (v := (-1)) (by decide) ?_
          exact mid c_17 _ _ Y1 (by rw [we_v, if_pos c_41]) (Or.inl rfl)
        · refine g_aload_n ok (dk m_Mo_welcome 26 rfl) (pc' := 45) rfl (i := 0) rfl rfl ?_
          refine g_iload_n ok (dk m_Mo_welcome 27 rfl) (pc' := 46) rfl (i := 1) rfl rfl ?_
          refine g_aload_n ok (dk m_Mo_welcome 28 rfl) (pc' := 47) rfl (i := 0) rfl rfl ?_
          refine g_get ok (dk m_Mo_welcome 29 rfl) (pc' := 50) rfl f_Mo_116 Y1.1 rfl ?_
          refine g_iload_n ok (dk m_Mo_welcome 30 rfl) (pc' := 51) rfl (i := 3) rfl rfl ?_
          refine g_ialdI ok (dk m_Mo_welcome 31 rfl) (pc' := 52) rfl (j := k) (Y1.ar 40 rfl) rfl (show k < 60 by omega) (by decide) ?_
          refine g_top (w := .int (nI l)) (congrArg Value.int ((congrFun (f1 40 (by decide)).2 k).trans hll)) ?_
          refine g_callV ok (dk m_Mo_welcome 32 rfl) (pc' := 55) rfl c_Mo_227 (c_Mo_meeting g (e := e) (l := l) (D := D) 1 (by omega) he hl (by exact (congrFun (f1 13 (by decide)).2 e).trans hD) hD4 Y1) Y1.1 rfl rfl (by simp [Value.category]) (by omega) rfl (rc' := 0) (rs' := 0) (by omega) (by omega) (fun rv h' hcc => ?_) (fun i h' hcc => by obtain ⟨e9, -⟩ := hcc; cases e9)
          obtain ⟨e9, e2⟩ := hcc
          have e3 := e2.symm
          subst e3
          cases e9
          refine g_goto ok (dk m_Mo_welcome 33 rfl) (pc' := 59) (by decide) ?_
          exact mid c_17 _ _ Y1 (by rw [we_v, if_neg c_41, hll, hxl]; show mo_mt (X.2 16 e) l D 1 = mo_mt (X1.2 16 e) l D 1; rw [(f1 16 (by decide)).2]) (mo_mt_or _ hl D 1 (by omega))
      · refine g_goto ok (dk m_Mo_welcome 12 rfl) (pc' := 90) (by decide) ?_
        refine g_iinc ok (dk m_Mo_welcome 54 rfl) (pc' := 93) rfl rfl (nI_1 k) rfl ?_
        refine g_goto ok (dk m_Mo_welcome 55 rfl) (pc' := 2) (by decide) ?_
        exact ih (k + 1) (by omega) _ _ c1 _ H1 f1 hc1 (by omega) (by rw [← hv, we_m, we_1, if_neg c_17])
  refine g_iconst ok (dk m_Mo_welcome 0 rfl) (pc' := 1) rfl (v := 0) (by decide) ?_
  refine g_istore_n ok (dk m_Mo_welcome 1 rfl) (pc' := 2) rfl (i := 3) rfl (Nat.le_of_ble_eq_true rfl) rfl ?_
  exact loop p 0 (by omega) _ _ c _ H xfr.rf hc (by omega) rfl
set_option maxHeartbeats 1000000 in
theorem c_Mo_keep (g : q_G) {h : q_H} {o : Nat} {ba : Nat → Nat} {X : x_T} {mm e l D : Nat} (d : Nat) (hd : 1 ≤ d) (hm : mm < 16) (he : e < 60) (hl : l < 16) (hlf : X.2 28 mm = nI l) (hD : X.2 13 e = nI D) (hD4 : D ≤ 4) (H : q_mo h o ba X) : MG g y_Mo_keep b_Mo_keep 6 none d 0 0 [.ref o, .int (nI mm), .int (nI e)] h (fun q h' => q = .inl none ∧ q_mo h' o ba (kp_m mm e l D 31 0 X)) := by
  refine MG.of (by decide +kernel) (by simp [Value.category]) (Nat.le_of_ble_eq_true rfl) ?_
  intro Z A ok
  have hDd : 2 ^ (D + 1) ≤ 32 := by
    rcases (show D = 0 ∨ D = 1 ∨ D = 2 ∨ D = 3 ∨ D = 4 by omega) with rfl | rfl | rfl | rfl | rfl <;> decide
  have loop : ∀ (m k : Nat), k + m = 31 → ∀ (h1 : q_H) (X1 : x_T) (x4 x5 : Option Value), q_mo h1 o ba X1 → xfr [33] X X1 → kp_m mm e l D m k X1 = kp_m mm e l D 31 0 X → GW g Z A (fun q h' => q = .inl none ∧ q_mo h' o ba (kp_m mm e l D 31 0 X)) 0 0 h1 2 [some (.ref o), some (.int (nI mm)), some (.int (nI e)), some (.int (nI k)), x4, x5] [] := by
    intro m
    induction m with
    | zero =>
      intro k hk h1 X1 x4 x5 H1 f1 hv
      refine g_iload_n ok (dk m_Mo_keep 2 rfl) (pc' := 3) rfl (i := 3) rfl rfl ?_
      refine g_bipush ok (dk m_Mo_keep 3 rfl) (pc' := 5) rfl (v := 31) (by decide) ?_
      refine g_icmp_ge ok (dk m_Mo_keep 4 rfl) (tgt := 96) (by decide) (pc' := 8) rfl (fun c_5 => ?_) (fun c_5 => absurd (show nI 31 ≤ nI k from by rw [show k = 31 by omega]; exact Int32.le_refl _) c_5)
      exact g_vret ok (dk m_Mo_keep 54 rfl) rfl ⟨rfl, by rw [← hv]; exact H1⟩
    | succ m ih =>
      intro k hk h1 X1 x4 x5 H1 f1 hv
      refine g_iload_n ok (dk m_Mo_keep 2 rfl) (pc' := 3) rfl (i := 3) rfl rfl ?_
      refine g_bipush ok (dk m_Mo_keep 3 rfl) (pc' := 5) rfl (v := 31) (by decide) ?_
      refine g_icmp_ge ok (dk m_Mo_keep 4 rfl) (tgt := 96) (by decide) (pc' := 8) rfl (fun c_5 => absurd c_5 (show ¬ nI 31 ≤ nI k from nI_ge (by omega) (by decide))) (fun c_5 => ?_)
      refine g_bipush ok (dk m_Mo_keep 5 rfl) (pc' := 10) rfl (v := 31) (by decide) ?_
      refine g_iload_n ok (dk m_Mo_keep 6 rfl) (pc' := 11) rfl (i := 1) rfl rfl ?_
      refine g_imul ok (dk m_Mo_keep 7 rfl) (pc' := 12) rfl ?_
      refine g_iload_n ok (dk m_Mo_keep 8 rfl) (pc' := 13) rfl (i := 3) rfl rfl ?_
      refine g_iadd ok (dk m_Mo_keep 9 rfl) (pc' := 14) rfl ?_
      refine g_istore ok (dk m_Mo_keep 10 rfl) (pc' := 16) rfl (Nat.le_of_ble_eq_true rfl) rfl ?_
      refine g_iload_n ok (dk m_Mo_keep 11 rfl) (pc' := 17) rfl (i := 3) rfl rfl ?_
      refine g_aload_n ok (dk m_Mo_keep 12 rfl) (pc' := 18) rfl (i := 0) rfl rfl ?_
      refine g_iload_n ok (dk m_Mo_keep 13 rfl) (pc' := 19) rfl (i := 2) rfl rfl ?_
      refine g_callV ok (dk m_Mo_keep 14 rfl) (pc' := 22) rfl c_Mo_192 (c_Mo_width g (e := e) (D := D) 0 he (by exact (congrFun (f1 13 (by decide)).2 e).trans hD) hD4 H1) H1.1 rfl rfl (by simp [Value.category]) (by omega) rfl (rc' := 0) (rs' := 0) (by omega) (by omega) (fun rv h' hcc => ?_) (fun i h' hcc => by obtain ⟨e9, -⟩ := hcc; cases e9)
      obtain ⟨e9, e2⟩ := hcc
      have e3 := e2.symm
      subst e3
      cases e9
      refine g_icmp_ge ok (dk m_Mo_keep 15 rfl) (tgt := 53) (by decide) (pc' := 25) rfl (fun c_22 => ?_) (fun c_22 => ?_)
      · refine g_iconst ok (dk m_Mo_keep 30 rfl) (pc' := 54) rfl (v := 0) (by decide) ?_
        refine g_istore ok (dk m_Mo_keep 31 rfl) (pc' := 56) rfl (Nat.le_of_ble_eq_true rfl) rfl ?_
        refine g_iload ok (dk m_Mo_keep 32 rfl) (pc' := 58) rfl rfl ?_
        refine g_if_eq ok (dk m_Mo_keep 33 rfl) (tgt := 82) (by decide) (pc' := 61) rfl (fun c_58 => ?_) (fun c_58 => absurd rfl c_58)
        refine g_aload_n ok (dk m_Mo_keep 47 rfl) (pc' := 83) rfl (i := 0) rfl rfl ?_
        refine g_get ok (dk m_Mo_keep 48 rfl) (pc' := 86) rfl f_Mo_98 H1.1 rfl ?_
        refine g_iload ok (dk m_Mo_keep 49 rfl) (pc' := 88) rfl rfl ?_
        refine g_iconst ok (dk m_Mo_keep 50 rfl) (pc' := 89) rfl (v := (-1)) (by decide) ?_
        refine g_iastI ok (dk m_Mo_keep 51 rfl) (pc' := 90) rfl (j := 31 * mm + k) (H1.ar 33 rfl) (ix31 mm k) (show 31 * mm + k < 496 by omega) (by decide) (fun z61 e61 => ?_)
        have Y61 := H1.ast 33 rfl e61
        clear e61
        refine g_iinc ok (dk m_Mo_keep 52 rfl) (pc' := 93) rfl rfl (nI_1 k) rfl ?_
        refine g_goto ok (dk m_Mo_keep 53 rfl) (pc' := 2) (by decide) ?_
        exact ih (k + 1) (by omega) _ _ _ _ Y61 (f1.xs 33 _ _ (by decide)) (by rw [← hv, kp_m, if_neg (fun z => nI_ge z.1.1 (by omega) c_22)])
      · refine g_iload_n ok (dk m_Mo_keep 16 rfl) (pc' := 26) rfl (i := 3) rfl rfl ?_
        refine g_callS ok (dk m_Mo_keep 17 rfl) (pc' := 29) rfl c_Mo_179 (c_Mo_height g (v := k) 0 (by omega)) rfl rfl (by simp [Value.category]) (by omega) rfl (rc' := 0) (rs' := 0) (by omega) (by omega) (fun rv h' hcc => ?_) (fun i h' hcc => by obtain ⟨e9, -⟩ := hcc; cases e9)
        obtain ⟨e9, e2⟩ := hcc
        have e3 := e2.symm
        subst e3
        cases e9
        refine g_if_le ok (dk m_Mo_keep 18 rfl) (tgt := 53) (by decide) (pc' := 32) rfl (fun c_29 => ?_) (fun c_29 => ?_)
        · refine g_iconst ok (dk m_Mo_keep 30 rfl) (pc' := 54) rfl (v := 0) (by decide) ?_
          refine g_istore ok (dk m_Mo_keep 31 rfl) (pc' := 56) rfl (Nat.le_of_ble_eq_true rfl) rfl ?_
          refine g_iload ok (dk m_Mo_keep 32 rfl) (pc' := 58) rfl rfl ?_
          refine g_if_eq ok (dk m_Mo_keep 33 rfl) (tgt := 82) (by decide) (pc' := 61) rfl (fun c_58 => ?_) (fun c_58 => absurd rfl c_58)
          refine g_aload_n ok (dk m_Mo_keep 47 rfl) (pc' := 83) rfl (i := 0) rfl rfl ?_
          refine g_get ok (dk m_Mo_keep 48 rfl) (pc' := 86) rfl f_Mo_98 H1.1 rfl ?_
          refine g_iload ok (dk m_Mo_keep 49 rfl) (pc' := 88) rfl rfl ?_
          refine g_iconst ok (dk m_Mo_keep 50 rfl) (pc' := 89) rfl (v := (-1)) (by decide) ?_
          refine g_iastI ok (dk m_Mo_keep 51 rfl) (pc' := 90) rfl (j := 31 * mm + k) (H1.ar 33 rfl) (ix31 mm k) (show 31 * mm + k < 496 by omega) (by decide) (fun z61 e61 => ?_)
          have Y61 := H1.ast 33 rfl e61
          clear e61
          refine g_iinc ok (dk m_Mo_keep 52 rfl) (pc' := 93) rfl rfl (nI_1 k) rfl ?_
          refine g_goto ok (dk m_Mo_keep 53 rfl) (pc' := 2) (by decide) ?_
          exact ih (k + 1) (by omega) _ _ _ _ Y61 (f1.xs 33 _ _ (by decide)) (by rw [← hv, kp_m, if_neg (fun z => nI_nle z.1.2.1 (by have := hgt_4 k (by omega); omega) c_29)])
        · refine g_aload_n ok (dk m_Mo_keep 19 rfl) (pc' := 33) rfl (i := 0) rfl rfl ?_
          refine g_get ok (dk m_Mo_keep 20 rfl) (pc' := 36) rfl f_Mo_83 H1.1 rfl ?_
          refine g_iload_n ok (dk m_Mo_keep 21 rfl) (pc' := 37) rfl (i := 1) rfl rfl ?_
          refine g_ialdI ok (dk m_Mo_keep 22 rfl) (pc' := 38) rfl (j := mm) (H1.ar 28 rfl) rfl (show mm < 16 by omega) (by decide) ?_
          refine g_top (w := .int (nI l)) (congrArg Value.int ((congrFun (f1 28 (by decide)).2 mm).trans hlf)) ?_
          refine g_iload_n ok (dk m_Mo_keep 23 rfl) (pc' := 39) rfl (i := 3) rfl rfl ?_
          refine g_callS ok (dk m_Mo_keep 24 rfl) (pc' := 42) rfl c_Mo_179 (c_Mo_height g (v := k) 0 (by omega)) rfl rfl (by simp [Value.category]) (by omega) rfl (rc' := 0) (rs' := 0) (by omega) (by omega) (fun rv h' hcc => ?_) (fun i h' hcc => by obtain ⟨e9, -⟩ := hcc; cases e9)
          obtain ⟨e9, e2⟩ := hcc
          have e3 := e2.symm
          subst e3
          cases e9
          refine g_callS ok (dk m_Mo_keep 25 rfl) (pc' := 45) rfl c_Mo_168 (c_Mo_above g (nI l) (nI (hgt k)) 0) rfl rfl (by simp [Value.category]) (by omega) rfl (rc' := 0) (rs' := 0) (by omega) (by omega) (fun rv h' hcc => ?_) (fun i h' hcc => by obtain ⟨e9, -⟩ := hcc; cases e9)
          obtain ⟨e9, e2⟩ := hcc
          have e3 := e2.symm
          subst e3
          cases e9
          rw [(abv_ok l hl (hgt k) (by have := hgt_4 k (by omega); omega)).1]
          refine g_iload_n ok (dk m_Mo_keep 26 rfl) (pc' := 46) rfl (i := 3) rfl rfl ?_
          refine g_icmp_ne ok (dk m_Mo_keep 27 rfl) (tgt := 53) (by decide) (pc' := 49) rfl (fun c_46 => ?_) (fun c_46 => ?_)
          · refine g_iconst ok (dk m_Mo_keep 30 rfl) (pc' := 54) rfl (v := 0) (by decide) ?_
            refine g_istore ok (dk m_Mo_keep 31 rfl) (pc' := 56) rfl (Nat.le_of_ble_eq_true rfl) rfl ?_
            refine g_iload ok (dk m_Mo_keep 32 rfl) (pc' := 58) rfl rfl ?_
            refine g_if_eq ok (dk m_Mo_keep 33 rfl) (tgt := 82) (by decide) (pc' := 61) rfl (fun c_58 => ?_) (fun c_58 => absurd rfl c_58)
            refine g_aload_n ok (dk m_Mo_keep 47 rfl) (pc' := 83) rfl (i := 0) rfl rfl ?_
            refine g_get ok (dk m_Mo_keep 48 rfl) (pc' := 86) rfl f_Mo_98 H1.1 rfl ?_
            refine g_iload ok (dk m_Mo_keep 49 rfl) (pc' := 88) rfl rfl ?_
            refine g_iconst ok (dk m_Mo_keep 50 rfl) (pc' := 89) rfl (v := (-1)) (by decide) ?_
            refine g_iastI ok (dk m_Mo_keep 51 rfl) (pc' := 90) rfl (j := 31 * mm + k) (H1.ar 33 rfl) (ix31 mm k) (show 31 * mm + k < 496 by omega) (by decide) (fun z61 e61 => ?_)
            have Y61 := H1.ast 33 rfl e61
            clear e61
            refine g_iinc ok (dk m_Mo_keep 52 rfl) (pc' := 93) rfl rfl (nI_1 k) rfl ?_
            refine g_goto ok (dk m_Mo_keep 53 rfl) (pc' := 2) (by decide) ?_
            exact ih (k + 1) (by omega) _ _ _ _ Y61 (f1.xs 33 _ _ (by decide)) (by rw [← hv, kp_m, if_neg (fun z => c_46 (by rw [z.1.2.2]))])
          · have hmine : k < 2 ^ (D + 1) - 1 ∧ 0 < hgt k ∧ abv l (hgt k) = k := ⟨by
              rcases Nat.lt_or_ge k (2 ^ (D + 1) - 1) with q | q
              · exact q
              · exact absurd (nI_le q (by omega)) c_22, by
              rcases Nat.eq_zero_or_pos (hgt k) with q | q
              · rw [q] at c_29; exact absurd (by decide) c_29
              · exact q, (nI_eq (by have := (abv_ok l hl (hgt k) (by have := hgt_4 k (by omega); omega)).2; omega) (by omega)).mp c_46⟩
            refine g_iconst ok (dk m_Mo_keep 28 rfl) (pc' := 50) rfl (v := 1) (by decide) ?_
            refine g_goto ok (dk m_Mo_keep 29 rfl) (pc' := 54) (by decide) ?_
            refine g_istore ok (dk m_Mo_keep 31 rfl) (pc' := 56) rfl (Nat.le_of_ble_eq_true rfl) rfl ?_
            refine g_iload ok (dk m_Mo_keep 32 rfl) (pc' := 58) rfl rfl ?_
            refine g_if_eq ok (dk m_Mo_keep 33 rfl) (tgt := 82) (by decide) (pc' := 61) rfl (fun c_58 => absurd c_58 (by decide)) (fun c_58 => ?_)
            refine g_aload_n ok (dk m_Mo_keep 34 rfl) (pc' := 62) rfl (i := 0) rfl rfl ?_
            refine g_get ok (dk m_Mo_keep 35 rfl) (pc' := 65) rfl f_Mo_65 H1.1 rfl ?_
            refine g_bipush ok (dk m_Mo_keep 36 rfl) (pc' := 67) rfl (v := 31) (by decide) ?_
            refine g_iload_n ok (dk m_Mo_keep 37 rfl) (pc' := 68) rfl (i := 2) rfl rfl ?_
            refine g_imul ok (dk m_Mo_keep 38 rfl) (pc' := 69) rfl ?_
            refine g_iload_n ok (dk m_Mo_keep 39 rfl) (pc' := 70) rfl (i := 3) rfl rfl ?_
            refine g_iadd ok (dk m_Mo_keep 40 rfl) (pc' := 71) rfl ?_
            refine g_ialdI ok (dk m_Mo_keep 41 rfl) (pc' := 72) rfl (j := 31 * e + k) (H1.ar 22 rfl) (ix31 e k) (show 31 * e + k < 1860 by omega) (by decide) ?_
            refine g_aload_n ok (dk m_Mo_keep 42 rfl) (pc' := 73) rfl (i := 0) rfl rfl ?_
            refine g_get ok (dk m_Mo_keep 43 rfl) (pc' := 76) rfl f_Mo_98 H1.1 rfl ?_
            refine g_iload ok (dk m_Mo_keep 44 rfl) (pc' := 78) rfl rfl ?_
            refine g_ialdI ok (dk m_Mo_keep 45 rfl) (pc' := 79) rfl (j := 31 * mm + k) (H1.ar 33 rfl) (ix31 mm k) (show 31 * mm + k < 496 by omega) (by decide) ?_
            refine g_icmp_eq ok (dk m_Mo_keep 46 rfl) (tgt := 90) (by decide) (pc' := 82) rfl (fun c_79 => ?_) (fun c_79 => ?_)
            · refine g_iinc ok (dk m_Mo_keep 52 rfl) (pc' := 93) rfl rfl (nI_1 k) rfl ?_
              refine g_goto ok (dk m_Mo_keep 53 rfl) (pc' := 2) (by decide) ?_
              exact ih (k + 1) (by omega) _ _ _ _ H1 f1 (by rw [← hv, kp_m, if_pos ⟨hmine, c_79⟩])
            · refine g_aload_n ok (dk m_Mo_keep 47 rfl) (pc' := 83) rfl (i := 0) rfl rfl ?_
              refine g_get ok (dk m_Mo_keep 48 rfl) (pc' := 86) rfl f_Mo_98 H1.1 rfl ?_
              refine g_iload ok (dk m_Mo_keep 49 rfl) (pc' := 88) rfl rfl ?_
              refine g_iconst ok (dk m_Mo_keep 50 rfl) (pc' := 89) rfl (v := (-1)) (by decide) ?_
              refine g_iastI ok (dk m_Mo_keep 51 rfl) (pc' := 90) rfl (j := 31 * mm + k) (H1.ar 33 rfl) (ix31 mm k) (show 31 * mm + k < 496 by omega) (by decide) (fun z81 e81 => ?_)
              have Y81 := H1.ast 33 rfl e81
              clear e81
              refine g_iinc ok (dk m_Mo_keep 52 rfl) (pc' := 93) rfl rfl (nI_1 k) rfl ?_
              refine g_goto ok (dk m_Mo_keep 53 rfl) (pc' := 2) (by decide) ?_
              exact ih (k + 1) (by omega) _ _ _ _ Y81 (f1.xs 33 _ _ (by decide)) (by rw [← hv, kp_m, if_neg (fun z => c_79 z.2)])
  refine g_iconst ok (dk m_Mo_keep 0 rfl) (pc' := 1) rfl (v := 0) (by decide) ?_
  refine g_istore_n ok (dk m_Mo_keep 1 rfl) (pc' := 2) rfl (i := 3) rfl (Nat.le_of_ble_eq_true rfl) rfl ?_
  exact loop 31 0 (by omega) _ _ _ _ H xfr.rf rfl
set_option maxHeartbeats 1000000 in
theorem c_Mo_tell (g : q_G) {h : q_H} {o : Nat} {ba : Nat → Nat} {X : x_T} {mm e l D f : Nat} (d : Nat) (hd : 1 ≤ d) (hm : mm < 16) (he : e < 60) (hl : l < 16) (hlf : X.2 28 mm = nI l) (hD : X.2 13 e = nI D) (hD4 : D ≤ 4) (hf : f < 31) (H : q_mo h o ba X) : MG g y_Mo_tell b_Mo_tell 6 none d 0 0 [.ref o, .int (nI mm), .int (nI e), .int (nI f)] h (fun q h' => q = .inl none ∧ q_mo h' o ba (tl_m mm e l (D + 1 - hgt f) (hgt f) X)) := by
  refine MG.of (by decide +kernel) (by simp [Value.category]) (Nat.le_of_ble_eq_true rfl) ?_
  intro Z A ok
  have loop : ∀ (m k : Nat), m = D + 1 - k → k ≤ 5 → ∀ (h1 : q_H) (X1 : x_T) (x5 : Option Value), q_mo h1 o ba X1 → xfr [33] X X1 → tl_m mm e l m k X1 = tl_m mm e l (D + 1 - hgt f) (hgt f) X → GW g Z A (fun q h' => q = .inl none ∧ q_mo h' o ba (tl_m mm e l (D + 1 - hgt f) (hgt f) X)) 0 0 h1 6 [some (.ref o), some (.int (nI mm)), some (.int (nI e)), some (.int (nI f)), some (.int (nI k)), x5] [] := by
    intro m
    induction m with
    | zero =>
      intro k hk hk5 h1 X1 x5 H1 f1 hv
      refine g_iload ok (dk m_Mo_tell 3 rfl) (pc' := 8) rfl rfl ?_
      refine g_aload_n ok (dk m_Mo_tell 4 rfl) (pc' := 9) rfl (i := 0) rfl rfl ?_
      refine g_get ok (dk m_Mo_tell 5 rfl) (pc' := 12) rfl f_Mo_38 H1.1 rfl ?_
      refine g_iload_n ok (dk m_Mo_tell 6 rfl) (pc' := 13) rfl (i := 2) rfl rfl ?_
      refine g_ialdI ok (dk m_Mo_tell 7 rfl) (pc' := 14) rfl (j := e) (H1.ar 13 rfl) rfl (show e < 60 by omega) (by decide) ?_
      refine g_top (w := .int (nI D)) (congrArg Value.int ((congrFun (f1 13 (by decide)).2 e).trans hD)) ?_
      refine g_icmp_gt ok (dk m_Mo_tell 8 rfl) (tgt := 75) (by decide) (pc' := 17) rfl (fun c_14 => ?_) (fun c_14 => absurd (nI_lt (a := D) (b := k) (by omega) (by omega)) c_14)
      exact g_vret ok (dk m_Mo_tell 44 rfl) rfl ⟨rfl, by rw [← hv]; exact H1⟩
    | succ m ih =>
      intro k hk hk5 h1 X1 x5 H1 f1 hv
      refine g_iload ok (dk m_Mo_tell 3 rfl) (pc' := 8) rfl rfl ?_
      refine g_aload_n ok (dk m_Mo_tell 4 rfl) (pc' := 9) rfl (i := 0) rfl rfl ?_
      refine g_get ok (dk m_Mo_tell 5 rfl) (pc' := 12) rfl f_Mo_38 H1.1 rfl ?_
      refine g_iload_n ok (dk m_Mo_tell 6 rfl) (pc' := 13) rfl (i := 2) rfl rfl ?_
      refine g_ialdI ok (dk m_Mo_tell 7 rfl) (pc' := 14) rfl (j := e) (H1.ar 13 rfl) rfl (show e < 60 by omega) (by decide) ?_
      refine g_top (w := .int (nI D)) (congrArg Value.int ((congrFun (f1 13 (by decide)).2 e).trans hD)) ?_
      refine g_icmp_gt ok (dk m_Mo_tell 8 rfl) (tgt := 75) (by decide) (pc' := 17) rfl (fun c_14 => absurd c_14 (nI_nlt (a := D) (b := k) (by omega) (by omega))) (fun c_14 => ?_)
      refine g_aload_n ok (dk m_Mo_tell 9 rfl) (pc' := 18) rfl (i := 0) rfl rfl ?_
      refine g_get ok (dk m_Mo_tell 10 rfl) (pc' := 21) rfl f_Mo_83 H1.1 rfl ?_
      refine g_iload_n ok (dk m_Mo_tell 11 rfl) (pc' := 22) rfl (i := 1) rfl rfl ?_
      refine g_ialdI ok (dk m_Mo_tell 12 rfl) (pc' := 23) rfl (j := mm) (H1.ar 28 rfl) rfl (show mm < 16 by omega) (by decide) ?_
      refine g_top (w := .int (nI l)) (congrArg Value.int ((congrFun (f1 28 (by decide)).2 mm).trans hlf)) ?_
      refine g_iload ok (dk m_Mo_tell 13 rfl) (pc' := 25) rfl rfl ?_
      refine g_callS ok (dk m_Mo_tell 14 rfl) (pc' := 28) rfl c_Mo_168 (c_Mo_above g (nI l) (nI k) 0) rfl rfl (by simp [Value.category]) (by omega) rfl (rc' := 0) (rs' := 0) (by omega) (by omega) (fun rv h' hcc => ?_) (fun i h' hcc => by obtain ⟨e9, -⟩ := hcc; cases e9)
      obtain ⟨e9, e2⟩ := hcc
      have e3 := e2.symm
      subst e3
      cases e9
      rw [(abv_ok l hl k (by omega)).1]
      refine g_istore ok (dk m_Mo_tell 15 rfl) (pc' := 30) rfl (Nat.le_of_ble_eq_true rfl) rfl ?_
      refine g_aload_n ok (dk m_Mo_tell 16 rfl) (pc' := 31) rfl (i := 0) rfl rfl ?_
      refine g_get ok (dk m_Mo_tell 17 rfl) (pc' := 34) rfl f_Mo_47 H1.1 rfl ?_
      refine g_iload_n ok (dk m_Mo_tell 18 rfl) (pc' := 35) rfl (i := 2) rfl rfl ?_
      refine g_ialdI ok (dk m_Mo_tell 19 rfl) (pc' := 36) rfl (j := e) (H1.ar 16 rfl) rfl (show e < 60 by omega) (by decide) ?_
      refine g_iload ok (dk m_Mo_tell 20 rfl) (pc' := 38) rfl rfl ?_
      refine g_ishr ok (dk m_Mo_tell 21 rfl) (pc' := 39) rfl ?_
      refine g_iconst ok (dk m_Mo_tell 22 rfl) (pc' := 40) rfl (v := 1) (by decide) ?_
      refine g_iand ok (dk m_Mo_tell 23 rfl) (pc' := 41) rfl ?_
      refine g_iconst ok (dk m_Mo_tell 24 rfl) (pc' := 42) rfl (v := 1) (by decide) ?_
      refine g_icmp_ne ok (dk m_Mo_tell 25 rfl) (tgt := 69) (by decide) (pc' := 45) rfl (fun c_42 => ?_) (fun c_42 => ?_)
      · refine g_iinc ok (dk m_Mo_tell 42 rfl) (pc' := 72) rfl rfl (nI_1 k) rfl ?_
        refine g_goto ok (dk m_Mo_tell 43 rfl) (pc' := 6) (by decide) ?_
        exact ih (k + 1) (by omega) (by omega) _ _ _ H1 f1 (by rw [← hv, tl_m, if_neg c_42])
      · refine g_aload_n ok (dk m_Mo_tell 26 rfl) (pc' := 46) rfl (i := 0) rfl rfl ?_
        refine g_get ok (dk m_Mo_tell 27 rfl) (pc' := 49) rfl f_Mo_98 H1.1 rfl ?_
        refine g_bipush ok (dk m_Mo_tell 28 rfl) (pc' := 51) rfl (v := 31) (by decide) ?_
        refine g_iload_n ok (dk m_Mo_tell 29 rfl) (pc' := 52) rfl (i := 1) rfl rfl ?_
        refine g_imul ok (dk m_Mo_tell 30 rfl) (pc' := 53) rfl ?_
        refine g_iload ok (dk m_Mo_tell 31 rfl) (pc' := 55) rfl rfl ?_
        refine g_iadd ok (dk m_Mo_tell 32 rfl) (pc' := 56) rfl ?_
        refine g_aload_n ok (dk m_Mo_tell 33 rfl) (pc' := 57) rfl (i := 0) rfl rfl ?_
        refine g_get ok (dk m_Mo_tell 34 rfl) (pc' := 60) rfl f_Mo_65 H1.1 rfl ?_
        refine g_bipush ok (dk m_Mo_tell 35 rfl) (pc' := 62) rfl (v := 31) (by decide) ?_
        refine g_iload_n ok (dk m_Mo_tell 36 rfl) (pc' := 63) rfl (i := 2) rfl rfl ?_
        refine g_imul ok (dk m_Mo_tell 37 rfl) (pc' := 64) rfl ?_
        refine g_iload ok (dk m_Mo_tell 38 rfl) (pc' := 66) rfl rfl ?_
        refine g_iadd ok (dk m_Mo_tell 39 rfl) (pc' := 67) rfl ?_
        refine g_ialdI ok (dk m_Mo_tell 40 rfl) (pc' := 68) rfl (j := 31 * e + abv l k) (H1.ar 22 rfl) (ix31 e (abv l k)) (show 31 * e + abv l k < 1860 by have := (abv_ok l hl k (by omega)).2; omega) (by decide) ?_
        refine g_iastI ok (dk m_Mo_tell 41 rfl) (pc' := 69) rfl (j := 31 * mm + abv l k) (H1.ar 33 rfl) (ix31 mm (abv l k)) (show 31 * mm + abv l k < 496 by have := (abv_ok l hl k (by omega)).2; omega) (by decide) (fun z1 e1 => ?_)
        have Y1 := H1.ast 33 rfl e1
        clear e1
        refine g_iinc ok (dk m_Mo_tell 42 rfl) (pc' := 72) rfl rfl (nI_1 k) rfl ?_
        refine g_goto ok (dk m_Mo_tell 43 rfl) (pc' := 6) (by decide) ?_
        exact ih (k + 1) (by omega) (by omega) _ _ _ Y1 (f1.xs 33 _ _ (by decide)) (by rw [← hv, tl_m, if_pos c_42])
  refine g_iload_n ok (dk m_Mo_tell 0 rfl) (pc' := 1) rfl (i := 3) rfl rfl ?_
  refine g_callS ok (dk m_Mo_tell 1 rfl) (pc' := 4) rfl c_Mo_179 (c_Mo_height g (v := f) 0 hf) rfl rfl (by simp [Value.category]) (by omega) rfl (rc' := 0) (rs' := 0) (by omega) (by omega) (fun rv h' hcc => ?_) (fun i h' hcc => by obtain ⟨e9, -⟩ := hcc; cases e9)
  obtain ⟨e9, e2⟩ := hcc
  have e3 := e2.symm
  subst e3
  cases e9
  refine g_istore ok (dk m_Mo_tell 2 rfl) (pc' := 6) rfl (Nat.le_of_ble_eq_true rfl) rfl ?_
  exact loop (D + 1 - hgt f) (hgt f) rfl (by have := hgt_4 f hf; omega) _ _ _ H xfr.rf rfl
set_option maxHeartbeats 1000000 in
theorem c_Mo_advance (g : q_G) {h : q_H} {o : Nat} {ba : Nat → Nat} {X : x_T} {mm e l D : Nat} (pa : Int32) (d : Nat) (hd : 2 ≤ d) (hm : mm < 16) (he : e < 60) (hl : l < 16) (hlf : X.2 28 mm = nI l) (hD : X.2 13 e = nI D) (hD4 : D ≤ 4) (H : q_mo h o ba X) : MG g y_Mo_advance b_Mo_advance 4 none d 0 0 [.ref o, .int (nI mm), .int (nI e), .int pa] h (fun q h' => q = .inl none ∧ q_mo h' o ba (ad X mm e l D pa)) := by
  refine MG.of (by decide +kernel) (by simp [Value.category]) (Nat.le_of_ble_eq_true rfl) ?_
  intro Z A ok
  refine g_aload_n ok (dk m_Mo_advance 0 rfl) (pc' := 1) rfl (i := 0) rfl rfl ?_
  refine g_get ok (dk m_Mo_advance 1 rfl) (pc' := 4) rfl f_Mo_80 H.1 rfl ?_
  refine g_iload_n ok (dk m_Mo_advance 2 rfl) (pc' := 5) rfl (i := 1) rfl rfl ?_
  refine g_iload_n ok (dk m_Mo_advance 3 rfl) (pc' := 6) rfl (i := 2) rfl rfl ?_
  refine g_iastI ok (dk m_Mo_advance 4 rfl) (pc' := 7) rfl (j := mm) (H.ar 27 rfl) rfl (show mm < 16 by omega) (by decide) (fun z1 e1 => ?_)
  have Y1 := H.ast 27 rfl e1
  clear e1
  refine g_aload_n ok (dk m_Mo_advance 5 rfl) (pc' := 8) rfl (i := 0) rfl rfl ?_
  refine g_get ok (dk m_Mo_advance 6 rfl) (pc' := 11) rfl f_Mo_92 Y1.1 rfl ?_
  refine g_iload_n ok (dk m_Mo_advance 7 rfl) (pc' := 12) rfl (i := 1) rfl rfl ?_
  refine g_iconst ok (dk m_Mo_advance 8 rfl) (pc' := 13) rfl (v := 0) (by decide) ?_
  refine g_iastI ok (dk m_Mo_advance 9 rfl) (pc' := 14) rfl (j := mm) (Y1.ar 31 rfl) rfl (show mm < 16 by omega) (by decide) (fun z2 e2 => ?_)
  have Y2 := Y1.ast 31 rfl e2
  clear e2
  refine g_aload_n ok (dk m_Mo_advance 10 rfl) (pc' := 15) rfl (i := 0) rfl rfl ?_
  refine g_get ok (dk m_Mo_advance 11 rfl) (pc' := 18) rfl f_Mo_86 Y2.1 rfl ?_
  refine g_iload_n ok (dk m_Mo_advance 12 rfl) (pc' := 19) rfl (i := 1) rfl rfl ?_
  refine g_aload_n ok (dk m_Mo_advance 13 rfl) (pc' := 20) rfl (i := 0) rfl rfl ?_
  refine g_get ok (dk m_Mo_advance 14 rfl) (pc' := 23) rfl f_Mo_65 Y2.1 rfl ?_
  refine g_bipush ok (dk m_Mo_advance 15 rfl) (pc' := 25) rfl (v := 31) (by decide) ?_
  refine g_iload_n ok (dk m_Mo_advance 16 rfl) (pc' := 26) rfl (i := 2) rfl rfl ?_
  refine g_imul ok (dk m_Mo_advance 17 rfl) (pc' := 27) rfl ?_
  refine g_iconst ok (dk m_Mo_advance 18 rfl) (pc' := 28) rfl (v := 2) (by decide) ?_
  refine g_aload_n ok (dk m_Mo_advance 19 rfl) (pc' := 29) rfl (i := 0) rfl rfl ?_
  refine g_get ok (dk m_Mo_advance 20 rfl) (pc' := 32) rfl f_Mo_83 Y2.1 rfl ?_
  refine g_iload_n ok (dk m_Mo_advance 21 rfl) (pc' := 33) rfl (i := 1) rfl rfl ?_
  refine g_ialdI ok (dk m_Mo_advance 22 rfl) (pc' := 34) rfl (j := mm) (Y2.ar 28 rfl) rfl (show mm < 16 by omega) (by decide) ?_
  refine g_top (w := .int (nI l)) (congrArg Value.int hlf) ?_
  refine g_imul ok (dk m_Mo_advance 23 rfl) (pc' := 35) rfl ?_
  refine g_iadd ok (dk m_Mo_advance 24 rfl) (pc' := 36) rfl ?_
  refine g_ialdI ok (dk m_Mo_advance 25 rfl) (pc' := 37) rfl (j := 31 * e + 2 * l) (Y2.ar 22 rfl) (by rw [ix2, ix31]) (show 31 * e + 2 * l < 1860 by omega) (by decide) ?_
  refine g_iastI ok (dk m_Mo_advance 26 rfl) (pc' := 38) rfl (j := mm) (Y2.ar 29 rfl) rfl (show mm < 16 by omega) (by decide) (fun z3 e3 => ?_)
  have Y3 := Y2.ast 29 rfl e3
  clear e3
  refine g_aload_n ok (dk m_Mo_advance 27 rfl) (pc' := 39) rfl (i := 0) rfl rfl ?_
  refine g_iload_n ok (dk m_Mo_advance 28 rfl) (pc' := 40) rfl (i := 1) rfl rfl ?_
  refine g_iload_n ok (dk m_Mo_advance 29 rfl) (pc' := 41) rfl (i := 2) rfl rfl ?_
  refine g_callV ok (dk m_Mo_advance 30 rfl) (pc' := 44) rfl c_Mo_230 (c_Mo_keep g (mm := mm) (e := e) (l := l) (D := D) 1 (by omega) hm he hl (by exact hlf) (by exact hD) hD4 Y3) Y3.1 rfl rfl (by simp [Value.category]) (by omega) rfl (rc' := 0) (rs' := 0) (by omega) (by omega) (fun rv h' hcc => ?_) (fun i h' hcc => by obtain ⟨e9, -⟩ := hcc; cases e9)
  obtain ⟨e9, Y4⟩ := hcc
  cases e9
  refine g_iload_n ok (dk m_Mo_advance 31 rfl) (pc' := 45) rfl (i := 3) rfl rfl ?_
  refine g_if_eq ok (dk m_Mo_advance 32 rfl) (tgt := 73) (by decide) (pc' := 48) rfl (fun c_45 => ?_) (fun c_45 => ?_)
  · exact g_vret ok (dk m_Mo_advance 48 rfl) rfl ⟨rfl, by rw [ad, if_pos (Or.inl c_45)]; exact Y4⟩
  · refine g_aload_n ok (dk m_Mo_advance 33 rfl) (pc' := 49) rfl (i := 0) rfl rfl ?_
    refine g_get ok (dk m_Mo_advance 34 rfl) (pc' := 52) rfl f_Mo_38 Y4.1 rfl ?_
    refine g_iload_n ok (dk m_Mo_advance 35 rfl) (pc' := 53) rfl (i := 2) rfl rfl ?_
    refine g_ialdI ok (dk m_Mo_advance 36 rfl) (pc' := 54) rfl (j := e) (Y4.ar 13 rfl) rfl (show e < 60 by omega) (by decide) ?_
    refine g_top (w := .int (nI D)) (congrArg Value.int ((congrFun (kp_m_f mm e l D 31 0 _ 13 (by decide)).2 e).trans hD)) ?_
    refine g_if_le ok (dk m_Mo_advance 37 rfl) (tgt := 73) (by decide) (pc' := 57) rfl (fun c_54 => ?_) (fun c_54 => ?_)
    · exact g_vret ok (dk m_Mo_advance 48 rfl) rfl ⟨rfl, by rw [ad, if_pos (Or.inr (by rcases Nat.eq_zero_or_pos D with q | q; exact q; exact absurd c_54 (nI_nle q (by omega))))]; exact Y4⟩
    · refine g_aload_n ok (dk m_Mo_advance 38 rfl) (pc' := 58) rfl (i := 0) rfl rfl ?_
      refine g_iload_n ok (dk m_Mo_advance 39 rfl) (pc' := 59) rfl (i := 1) rfl rfl ?_
      refine g_iload_n ok (dk m_Mo_advance 40 rfl) (pc' := 60) rfl (i := 2) rfl rfl ?_
      refine g_aload_n ok (dk m_Mo_advance 41 rfl) (pc' := 61) rfl (i := 0) rfl rfl ?_
      refine g_get ok (dk m_Mo_advance 42 rfl) (pc' := 64) rfl f_Mo_83 Y4.1 rfl ?_
      refine g_iload_n ok (dk m_Mo_advance 43 rfl) (pc' := 65) rfl (i := 1) rfl rfl ?_
      refine g_ialdI ok (dk m_Mo_advance 44 rfl) (pc' := 66) rfl (j := mm) (Y4.ar 28 rfl) rfl (show mm < 16 by omega) (by decide) ?_
      refine g_top (w := .int (nI l)) (congrArg Value.int ((congrFun (kp_m_f mm e l D 31 0 _ 28 (by decide)).2 mm).trans hlf)) ?_
      refine g_iconst ok (dk m_Mo_advance 45 rfl) (pc' := 67) rfl (v := 1) (by decide) ?_
      refine g_callS ok (dk m_Mo_advance 46 rfl) (pc' := 70) rfl c_Mo_168 (c_Mo_above g (nI l) (nI 1) 0) rfl rfl (by simp [Value.category]) (by omega) rfl (rc' := 0) (rs' := 0) (by omega) (by omega) (fun rv h' hcc => ?_) (fun i h' hcc => by obtain ⟨e9, -⟩ := hcc; cases e9)
      obtain ⟨e9, e2⟩ := hcc
      have e3 := e2.symm
      subst e3
      cases e9
      rw [(abv_ok l hl 1 (by decide)).1]
      refine g_callV ok (dk m_Mo_advance 47 rfl) (pc' := 73) rfl c_Mo_233 (c_Mo_tell g (mm := mm) (e := e) (l := l) (D := D) (f := abv l 1) 1 (by omega) hm he hl (by exact (congrFun (kp_m_f mm e l D 31 0 _ 28 (by decide)).2 mm).trans hlf) (by exact (congrFun (kp_m_f mm e l D 31 0 _ 13 (by decide)).2 e).trans hD) hD4 (abv_ok l hl 1 (by decide)).2 Y4) Y4.1 rfl rfl (by simp [Value.category]) (by omega) rfl (rc' := 0) (rs' := 0) (by omega) (by omega) (fun rv h' hcc => ?_) (fun i h' hcc => by obtain ⟨e9, -⟩ := hcc; cases e9)
      obtain ⟨e9, Y5⟩ := hcc
      cases e9
      exact g_vret ok (dk m_Mo_advance 48 rfl) rfl ⟨rfl, by rw [ad, if_neg (fun z => by rcases z with z | z; exact c_45 z; rw [z] at c_54; exact c_54 (by decide))]; rw [abv1 l hl] at Y5; exact Y5⟩
