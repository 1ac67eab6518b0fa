/-! ===== the reference: nextPackage, join, follow ===== -/
def ov (b : Option Nat) : Int32 := match b with
  | none => -1
  | some q => nI q
def nb_1 (X : x_T) (mm k : Nat) (b : Option Nat) : Prop := X.2 36 k = nI mm ∧ ¬ X.2 39 k = -1 ∧ X.2 41 k = 0 ∧ ∀ q, b = some q → X.2 39 k < X.2 39 q
noncomputable def nb_m (X : x_T) (mm : Nat) : Nat → Nat → Option Nat → Option Nat
  | 0, _, b => b
  | m + 1, k, b => by classical exact nb_m X mm m (k + 1) (if nb_1 X mm k b then some k else b)
theorem mo_nk_f (mm : Nat) : ∀ (m k : Nat) (X : x_T), xfr [33] X (mo_nk mm m k X) := by
  intro m
  induction m with
  | zero => intro k X; exact xfr.rf
  | succ m ih => intro k X; exact (xfr.rf.xs 33 _ _ (by decide)).tr (ih (k + 1) _)
def lv_K : List Nat := [27, 28, 29, 31, 32, 33]
theorem mo_lv_f (X : x_T) (mm : Nat) : xfr lv_K X (mo_lv X mm) := (((((xfr.rf.xs 27 _ _ (by decide)).xs 28 _ _ (by decide)).xs 29 _ _ (by decide)).xs 32 _ _ (by decide)).xs 31 _ _ (by decide)).tr ((mo_nk_f mm 31 0 _).wk (by decide))
abbrev jo_0 (X : x_T) (mm p a l : Nat) : x_T := xs (xs (xs (xs (xs (mo_lv X mm) 41 p 1) 27 mm (nI a)) 28 mm (nI l)) 29 mm ((mo_lv X mm).2 38 p)) 32 mm 1
noncomputable def jo (X : x_T) (mm p a l D : Nat) : x_T := if X.2 21 a = 0 ∨ mo_mt (X.2 16 a) l D 1 = -1 then jo_0 X mm p a l else tl_m mm a l (D + 1 - hgt (ix (mo_mt (X.2 16 a) l D 1))) (hgt (ix (mo_mt (X.2 16 a) l D 1))) (jo_0 X mm p a l)
theorem kp_m_cg {K : List Nat} (h22 : 22 ∉ K) (h33 : 33 ∉ K) (mm e l D : Nat) : ∀ (m v : Nat) {X Y : x_T}, xfr K X Y → xfr K (kp_m mm e l D m v X) (kp_m mm e l D m v Y) := by
  intro m
  induction m with
  | zero => intro v X Y f; exact f
  | succ m ih =>
    intro v X Y f
    rw [kp_m, kp_m]
    have hb : kp_b Y mm e l D v ↔ kp_b X mm e l D v := by
      unfold kp_b
      rw [(f 22 h22).2, (f 33 h33).2]
    by_cases z : kp_b X mm e l D v
    · rw [if_pos z, if_pos (hb.mpr z)]
      exact ih (v + 1) f
    · rw [if_neg z, if_neg (fun y => z (hb.mp y))]
      exact ih (v + 1) (xcs f 33 _ _ h33)
theorem tl_m_cg {K : List Nat} (h16 : 16 ∉ K) (h22 : 22 ∉ K) (h33 : 33 ∉ K) (mm e l : Nat) : ∀ (m v : Nat) {X Y : x_T}, xfr K X Y → xfr K (tl_m mm e l m v X) (tl_m mm e l m v Y) := by
  intro m
  induction m with
  | zero => intro v X Y f; exact f
  | succ m ih =>
    intro v X Y f
    rw [tl_m, tl_m, (f 16 h16).2, (f 22 h22).2]
    split
    · exact ih (v + 1) (xcs f 33 _ _ h33)
    · exact ih (v + 1) f
theorem ad_cg {X Y : x_T} (f : xfr [46, 47] X Y) (mm e l D : Nat) (pa : Int32) : xfr [46, 47] (ad X mm e l D pa) (ad Y mm e l D pa) := by
  have f0 : xfr [46, 47] (ad_0 X mm e l) (ad_0 Y mm e l) := by
    show xfr [46, 47] (xs (xs (xs X 27 mm (nI e)) 31 mm 0) 29 mm (X.2 22 (31 * e + 2 * l))) (xs (xs (xs Y 27 mm (nI e)) 31 mm 0) 29 mm (Y.2 22 (31 * e + 2 * l)))
    rw [(f 22 (by decide)).2]
    exact xcs (xcs (xcs f 27 _ _ (by decide)) 31 _ _ (by decide)) 29 _ _ (by decide)
  have f1 := kp_m_cg (by decide) (by decide) mm e l D 31 0 f0
  unfold ad
  split
  · exact f1
  · exact tl_m_cg (by decide) (by decide) (by decide) mm e l D 1 f1
def fo_v (X : x_T) (e l D : Nat) : Int32 := if X.2 21 e = 0 then -1 else mo_mt (X.2 16 e) l D 1
noncomputable def fo_L (X : x_T) (mm e l : Nat) : List Int32 := if (X.2 18 e >>> (nI l &&& 31)) &&& 1 = 1 then ins (gat X mm) (X.2 22 (31 * e + 2 * l)) else gat X mm
def fo_T (X : x_T) (e : Nat) (v : Int32) (L : List Int32) (c : Nat) : Prop := ∃ k, k < c ∧ X.2 10 k = nI e ∧ X.2 11 k = v ∧ X.2 8 k ∈ L
def fo_t (X : x_T) (mm e l D c : Nat) : Prop := ¬ fo_v X e l D = -1 ∧ fo_T X e (fo_v X e l D) (fo_L X mm e l) c
noncomputable def fo_1 (X : x_T) (mm e l D c : Nat) : x_T := by
  classical exact if fo_t X mm e l D c then tl_m mm e l (D + 1 - hgt (ix (fo_v X e l D))) (hgt (ix (fo_v X e l D))) (ad X mm e l D 0) else ad X mm e l D 0
noncomputable def fo (X : x_T) (mm e l D c : Nat) : x_T := by
  classical exact if (X.2 17 e >>> (nI l &&& 31)) &&& 1 = 1 then mo_lv X mm else if fo_v X e l D = -1 ∨ fo_t X mm e l D c then fo_1 X mm e l D c else xs (xs (fo_1 X mm e l D c) 30 mm ((fo_1 X mm e l D c).2 30 mm + 1)) 32 mm 0
theorem ad_f (X : x_T) (mm e l D : Nat) (pa : Int32) : xfr [27, 29, 31, 33] X (ad X mm e l D pa) := by
  have f0 : xfr [27, 29, 31, 33] X (kp_m mm e l D 31 0 (ad_0 X mm e l)) := (((xfr.rf.xs 27 _ _ (by decide)).xs 31 _ _ (by decide)).xs 29 _ _ (by decide)).tr ((kp_m_f mm e l D 31 0 _).wk (by decide))
  unfold ad
  split
  · exact f0
  · exact f0.tr ((tl_m_f mm e l D 1 _).wk (by decide))
set_option maxHeartbeats 1000000 in
theorem c_Mo_nextPackage (g : q_G) {h : q_H} {o : Nat} {ba : Nat → Nat} {X : x_T} {mm p : Nat} (d : Nat) (hp : X.1 35 = nI p) (hp2 : p ≤ 60) (H : q_mo h o ba X) : MG g y_Mo_nextPackage b_Mo_nextPackage 4 (some .int) d 0 0 [.ref o, .int (nI mm)] h (fun q h' => q = .inl (some (.int (ov (nb_m X mm p 0 none)))) ∧ h' = h) := by
  refine MG.of (by decide +kernel) (by simp [Value.category]) (Nat.le_of_ble_eq_true rfl) ?_
  intro Z A ok
  have loop : ∀ (m k : Nat), k + m = p → ∀ (b : Option Nat), (∀ q, b = some q → q < p) → nb_m X mm m k b = nb_m X mm p 0 none → GW g Z A (fun q h' => q = .inl (some (.int (ov (nb_m X mm p 0 none)))) ∧ h' = h) 0 0 h 4 [some (.ref o), some (.int (nI mm)), some (.int (ov b)), some (.int (nI k))] [] := by
    intro m
    induction m with
    | zero =>
      intro k hk b hb hv
      refine g_iload_n ok (dk m_Mo_nextPackage 4 rfl) (pc' := 5) rfl (i := 3) rfl rfl ?_
      refine g_aload_n ok (dk m_Mo_nextPackage 5 rfl) (pc' := 6) rfl (i := 0) rfl rfl ?_
      refine g_get ok (dk m_Mo_nextPackage 6 rfl) (pc' := 9) rfl f_Mo_189 H.1 rfl ?_
      rw [hp]
      refine g_icmp_ge ok (dk m_Mo_nextPackage 7 rfl) (tgt := 69) (by decide) (pc' := 12) rfl (fun c_9 => ?_) (fun c_9 => absurd (nI_le (a := p) (b := k) (by omega) (by omega)) c_9)
      refine g_iload_n ok (dk m_Mo_nextPackage 41 rfl) (pc' := 70) rfl (i := 2) rfl rfl ?_
      exact g_iret ok (dk m_Mo_nextPackage 42 rfl) rfl rfl ⟨by rw [← hv]; rfl, rfl⟩
    | succ m ih =>
      intro k hk b hb hv
      have hk2 : k < p := by omega
      refine g_iload_n ok (dk m_Mo_nextPackage 4 rfl) (pc' := 5) rfl (i := 3) rfl rfl ?_
      refine g_aload_n ok (dk m_Mo_nextPackage 5 rfl) (pc' := 6) rfl (i := 0) rfl rfl ?_
      refine g_get ok (dk m_Mo_nextPackage 6 rfl) (pc' := 9) rfl f_Mo_189 H.1 rfl ?_
      rw [hp]
      refine g_icmp_ge ok (dk m_Mo_nextPackage 7 rfl) (tgt := 69) (by decide) (pc' := 12) rfl (fun c_9 => absurd c_9 (nI_ge (show k < p by omega) (by omega))) (fun c_9 => ?_)
      refine g_aload_n ok (dk m_Mo_nextPackage 8 rfl) (pc' := 13) rfl (i := 0) rfl rfl ?_
      refine g_get ok (dk m_Mo_nextPackage 9 rfl) (pc' := 16) rfl f_Mo_104 H.1 rfl ?_
      refine g_iload_n ok (dk m_Mo_nextPackage 10 rfl) (pc' := 17) rfl (i := 3) rfl rfl ?_
      refine g_ialdI ok (dk m_Mo_nextPackage 11 rfl) (pc' := 18) rfl (j := k) (H.ar 36 rfl) rfl (show k < 60 by omega) (by decide) ?_
      refine g_iload_n ok (dk m_Mo_nextPackage 12 rfl) (pc' := 19) rfl (i := 1) rfl rfl ?_
      refine g_icmp_ne ok (dk m_Mo_nextPackage 13 rfl) (tgt := 63) (by decide) (pc' := 22) rfl (fun c_19 => ?_) (fun c_19 => ?_)
      · refine g_iinc ok (dk m_Mo_nextPackage 39 rfl) (pc' := 66) rfl rfl (nI_1 k) rfl ?_
        refine g_goto ok (dk m_Mo_nextPackage 40 rfl) (pc' := 4) (by decide) ?_
        exact ih (k + 1) (by omega) b hb (by rw [← hv, nb_m, if_neg (fun z => c_19 z.1)])
      · refine g_aload_n ok (dk m_Mo_nextPackage 14 rfl) (pc' := 23) rfl (i := 0) rfl rfl ?_
        refine g_get ok (dk m_Mo_nextPackage 15 rfl) (pc' := 26) rfl f_Mo_113 H.1 rfl ?_
        refine g_iload_n ok (dk m_Mo_nextPackage 16 rfl) (pc' := 27) rfl (i := 3) rfl rfl ?_
        refine g_ialdI ok (dk m_Mo_nextPackage 17 rfl) (pc' := 28) rfl (j := k) (H.ar 39 rfl) rfl (show k < 60 by omega) (by decide) ?_
        refine g_iconst ok (dk m_Mo_nextPackage 18 rfl) (pc' := 29) rfl (v := (-1)) (by decide) ?_
        refine g_icmp_eq ok (dk m_Mo_nextPackage 19 rfl) (tgt := 63) (by decide) (pc' := 32) rfl (fun c_29 => ?_) (fun c_29 => ?_)
        · refine g_iinc ok (dk m_Mo_nextPackage 39 rfl) (pc' := 66) rfl rfl (nI_1 k) rfl ?_
          refine g_goto ok (dk m_Mo_nextPackage 40 rfl) (pc' := 4) (by decide) ?_
          exact ih (k + 1) (by omega) b hb (by rw [← hv, nb_m, if_neg (fun z => z.2.1 c_29)])
        · refine g_aload_n ok (dk m_Mo_nextPackage 20 rfl) (pc' := 33) rfl (i := 0) rfl rfl ?_
          refine g_get ok (dk m_Mo_nextPackage 21 rfl) (pc' := 36) rfl f_Mo_119 H.1 rfl ?_
          refine g_iload_n ok (dk m_Mo_nextPackage 22 rfl) (pc' := 37) rfl (i := 3) rfl rfl ?_
          refine g_zaldI ok (dk m_Mo_nextPackage 23 rfl) (pc' := 38) rfl (j := k) (H.ar 41 rfl) rfl (show k < 60 by omega) (by decide) ?_
          refine g_if_ne ok (dk m_Mo_nextPackage 24 rfl) (tgt := 63) (by decide) (pc' := 41) rfl (fun c_38 => ?_) (fun c_38 => ?_)
          · refine g_iinc ok (dk m_Mo_nextPackage 39 rfl) (pc' := 66) rfl rfl (nI_1 k) rfl ?_
            refine g_goto ok (dk m_Mo_nextPackage 40 rfl) (pc' := 4) (by decide) ?_
            exact ih (k + 1) (by omega) b hb (by rw [← hv, nb_m, if_neg (fun z => c_38 z.2.2.1)])
          · cases b with
            | none =>
              refine g_iload_n ok (dk m_Mo_nextPackage 25 rfl) (pc' := 42) rfl (i := 2) rfl rfl ?_
              refine g_iconst ok (dk m_Mo_nextPackage 26 rfl) (pc' := 43) rfl (v := (-1)) (by decide) ?_
              refine g_icmp_eq ok (dk m_Mo_nextPackage 27 rfl) (tgt := 61) (by decide) (pc' := 46) rfl (fun c_43 => ?_) (fun c_43 => absurd rfl c_43)
              refine g_iload_n ok (dk m_Mo_nextPackage 37 rfl) (pc' := 62) rfl (i := 3) rfl rfl ?_
              refine g_istore_n ok (dk m_Mo_nextPackage 38 rfl) (pc' := 63) rfl (i := 2) rfl (Nat.le_of_ble_eq_true rfl) rfl ?_
              refine g_iinc ok (dk m_Mo_nextPackage 39 rfl) (pc' := 66) rfl rfl (nI_1 k) rfl ?_
              refine g_goto ok (dk m_Mo_nextPackage 40 rfl) (pc' := 4) (by decide) ?_
              exact ih (k + 1) (by omega) (some k) (fun q e => by cases e; exact hk2) (by rw [← hv, nb_m, if_pos ⟨c_19, c_29, c_38, fun q e => by cases e⟩])
            | some q =>
              refine g_iload_n ok (dk m_Mo_nextPackage 25 rfl) (pc' := 42) rfl (i := 2) rfl rfl ?_
              refine g_iconst ok (dk m_Mo_nextPackage 26 rfl) (pc' := 43) rfl (v := (-1)) (by decide) ?_
              refine g_icmp_eq ok (dk m_Mo_nextPackage 27 rfl) (tgt := 61) (by decide) (pc' := 46) rfl (fun c_43 => absurd c_43 (nI_nm (by have := hb q rfl; omega))) (fun c_43 => ?_)
              refine g_aload_n ok (dk m_Mo_nextPackage 28 rfl) (pc' := 47) rfl (i := 0) rfl rfl ?_
              refine g_get ok (dk m_Mo_nextPackage 29 rfl) (pc' := 50) rfl f_Mo_113 H.1 rfl ?_
              refine g_iload_n ok (dk m_Mo_nextPackage 30 rfl) (pc' := 51) rfl (i := 3) rfl rfl ?_
              refine g_ialdI ok (dk m_Mo_nextPackage 31 rfl) (pc' := 52) rfl (j := k) (H.ar 39 rfl) rfl (show k < 60 by omega) (by decide) ?_
              refine g_aload_n ok (dk m_Mo_nextPackage 32 rfl) (pc' := 53) rfl (i := 0) rfl rfl ?_
              refine g_get ok (dk m_Mo_nextPackage 33 rfl) (pc' := 56) rfl f_Mo_113 H.1 rfl ?_
              refine g_iload_n ok (dk m_Mo_nextPackage 34 rfl) (pc' := 57) rfl (i := 2) rfl rfl ?_
              refine g_ialdI ok (dk m_Mo_nextPackage 35 rfl) (pc' := 58) rfl (j := q) (H.ar 39 rfl) rfl (show q < 60 by have := hb q rfl; omega) (by decide) ?_
              refine g_icmp_ge ok (dk m_Mo_nextPackage 36 rfl) (tgt := 63) (by decide) (pc' := 61) rfl (fun c_58 => ?_) (fun c_58 => ?_)
              · refine g_iinc ok (dk m_Mo_nextPackage 39 rfl) (pc' := 66) rfl rfl (nI_1 k) rfl ?_
                refine g_goto ok (dk m_Mo_nextPackage 40 rfl) (pc' := 4) (by decide) ?_
                exact ih (k + 1) (by omega) (some q) hb (by rw [← hv, nb_m, if_neg (fun z => Int32.lt_irrefl (Int32.lt_of_lt_of_le (z.2.2.2 q rfl) c_58))])
              · refine g_iload_n ok (dk m_Mo_nextPackage 37 rfl) (pc' := 62) rfl (i := 3) rfl rfl ?_
                refine g_istore_n ok (dk m_Mo_nextPackage 38 rfl) (pc' := 63) rfl (i := 2) rfl (Nat.le_of_ble_eq_true rfl) rfl ?_
                refine g_iinc ok (dk m_Mo_nextPackage 39 rfl) (pc' := 66) rfl rfl (nI_1 k) rfl ?_
                refine g_goto ok (dk m_Mo_nextPackage 40 rfl) (pc' := 4) (by decide) ?_
                exact ih (k + 1) (by omega) (some k) (fun q e => by cases e; exact hk2) (by rw [← hv, nb_m, if_pos ⟨c_19, c_29, c_38, fun q2 e => by cases e; exact Int32.not_le.mp c_58⟩])
  refine g_iconst ok (dk m_Mo_nextPackage 0 rfl) (pc' := 1) rfl (v := (-1)) (by decide) ?_
  refine g_istore_n ok (dk m_Mo_nextPackage 1 rfl) (pc' := 2) rfl (i := 2) rfl (Nat.le_of_ble_eq_true rfl) rfl ?_
  refine g_iconst ok (dk m_Mo_nextPackage 2 rfl) (pc' := 3) rfl (v := 0) (by decide) ?_
  refine g_istore_n ok (dk m_Mo_nextPackage 3 rfl) (pc' := 4) rfl (i := 3) rfl (Nat.le_of_ble_eq_true rfl) rfl ?_
  exact loop p 0 (by omega) none (fun q e => by cases e) rfl
set_option maxHeartbeats 1000000 in
theorem c_Mo_join (g : q_G) {h : q_H} {o : Nat} {ba : Nat → Nat} {X : x_T} {mm p a l D : Nat} (d : Nat) (hd : 2 ≤ d) (hm : mm < 16) (hp : p < 60) (ha : X.2 39 p = nI a) (ha2 : a < 60) (hl : X.2 40 p = nI l) (hl2 : l < 16) (hD : X.2 13 a = nI D) (hD4 : D ≤ 4) (H : q_mo h o ba X) : MG g y_Mo_join b_Mo_join 5 none d 0 0 [.ref o, .int (nI mm), .int (nI p)] h (fun q h' => q = .inl none ∧ q_mo h' o ba (jo X mm p a l D)) := by
  refine MG.of (by decide +kernel) (by simp [Value.category]) (Nat.le_of_ble_eq_true rfl) ?_
  intro Z A ok
  refine g_aload_n ok (dk m_Mo_join 0 rfl) (pc' := 1) rfl (i := 0) rfl rfl ?_
  refine g_get ok (dk m_Mo_join 1 rfl) (pc' := 4) rfl f_Mo_113 H.1 rfl ?_
  refine g_iload_n ok (dk m_Mo_join 2 rfl) (pc' := 5) rfl (i := 2) rfl rfl ?_
  refine g_ialdI ok (dk m_Mo_join 3 rfl) (pc' := 6) rfl (j := p) (H.ar 39 rfl) rfl (show p < 60 by omega) (by decide) ?_
  rw [ha]
  refine g_istore_n ok (dk m_Mo_join 4 rfl) (pc' := 7) rfl (i := 3) rfl (Nat.le_of_ble_eq_true rfl) rfl ?_
  refine g_aload_n ok (dk m_Mo_join 5 rfl) (pc' := 8) rfl (i := 0) rfl rfl ?_
  refine g_iload_n ok (dk m_Mo_join 6 rfl) (pc' := 9) rfl (i := 1) rfl rfl ?_
  refine g_callV ok (dk m_Mo_join 7 rfl) (pc' := 12) rfl c_Mo_147 (c_Mo_leave g (mm := mm) 0 hm H) H.1 rfl rfl (by simp [Value.category]) (by omega) rfl (rc' := 0) (rs' := 0) (by omega) (by omega) (fun rv h' hcc => ?_) (fun i h' hcc => by obtain ⟨e9, -⟩ := hcc; cases e9)
  obtain ⟨e9, H2⟩ := hcc
  cases e9
  have fl := mo_lv_f X mm
  obtain ⟨W, hW⟩ : ∃ W, mo_lv X mm = W := ⟨_, rfl⟩
  have hj0 : jo_0 X mm p a l = xs (xs (xs (xs (xs W 41 p 1) 27 mm (nI a)) 28 mm (nI l)) 29 mm (W.2 38 p)) 32 mm 1 := by rw [← hW]
  rw [hW] at H2 fl
  clear hW
  refine g_aload_n ok (dk m_Mo_join 8 rfl) (pc' := 13) rfl (i := 0) rfl rfl ?_
  refine g_get ok (dk m_Mo_join 9 rfl) (pc' := 16) rfl f_Mo_119 H2.1 rfl ?_
  refine g_iload_n ok (dk m_Mo_join 10 rfl) (pc' := 17) rfl (i := 2) rfl rfl ?_
  refine g_iconst ok (dk m_Mo_join 11 rfl) (pc' := 18) rfl (v := 1) (by decide) ?_
  refine g_zastI ok (dk m_Mo_join 12 rfl) (pc' := 19) rfl (j := p) (H2.ar 41 rfl) rfl (show p < 60 by omega) (by decide) rfl (fun z1 e1 => ?_)
  have Y1 := H2.ast 41 rfl e1
  clear e1
  refine g_aload_n ok (dk m_Mo_join 13 rfl) (pc' := 20) rfl (i := 0) rfl rfl ?_
  refine g_get ok (dk m_Mo_join 14 rfl) (pc' := 23) rfl f_Mo_80 Y1.1 rfl ?_
  refine g_iload_n ok (dk m_Mo_join 15 rfl) (pc' := 24) rfl (i := 1) rfl rfl ?_
  refine g_iload_n ok (dk m_Mo_join 16 rfl) (pc' := 25) rfl (i := 3) rfl rfl ?_
  refine g_iastI ok (dk m_Mo_join 17 rfl) (pc' := 26) rfl (j := mm) (Y1.ar 27 rfl) rfl (show mm < 16 by omega) (by decide) (fun z2 e2 => ?_)
  have Y2 := Y1.ast 27 rfl e2
  clear e2
  refine g_aload_n ok (dk m_Mo_join 18 rfl) (pc' := 27) rfl (i := 0) rfl rfl ?_
  refine g_get ok (dk m_Mo_join 19 rfl) (pc' := 30) rfl f_Mo_83 Y2.1 rfl ?_
  refine g_iload_n ok (dk m_Mo_join 20 rfl) (pc' := 31) rfl (i := 1) rfl rfl ?_
  refine g_aload_n ok (dk m_Mo_join 21 rfl) (pc' := 32) rfl (i := 0) rfl rfl ?_
  refine g_get ok (dk m_Mo_join 22 rfl) (pc' := 35) rfl f_Mo_116 Y2.1 rfl ?_
  refine g_iload_n ok (dk m_Mo_join 23 rfl) (pc' := 36) rfl (i := 2) rfl rfl ?_
  refine g_ialdI ok (dk m_Mo_join 24 rfl) (pc' := 37) rfl (j := p) (Y2.ar 40 rfl) rfl (show p < 60 by omega) (by decide) ?_
  refine g_top (w := .int (nI l)) (congrArg Value.int ((congrFun (fl 40 (by decide)).2 p).trans hl)) ?_
  refine g_iastI ok (dk m_Mo_join 25 rfl) (pc' := 38) rfl (j := mm) (Y2.ar 28 rfl) rfl (show mm < 16 by omega) (by decide) (fun z3 e3 => ?_)
  have Y3 := Y2.ast 28 rfl e3
  clear e3
  refine g_aload_n ok (dk m_Mo_join 26 rfl) (pc' := 39) rfl (i := 0) rfl rfl ?_
  refine g_get ok (dk m_Mo_join 27 rfl) (pc' := 42) rfl f_Mo_86 Y3.1 rfl ?_
  refine g_iload_n ok (dk m_Mo_join 28 rfl) (pc' := 43) rfl (i := 1) rfl rfl ?_
  refine g_aload_n ok (dk m_Mo_join 29 rfl) (pc' := 44) rfl (i := 0) rfl rfl ?_
  refine g_get ok (dk m_Mo_join 30 rfl) (pc' := 47) rfl f_Mo_110 Y3.1 rfl ?_
  refine g_iload_n ok (dk m_Mo_join 31 rfl) (pc' := 48) rfl (i := 2) rfl rfl ?_
  refine g_ialdI ok (dk m_Mo_join 32 rfl) (pc' := 49) rfl (j := p) (Y3.ar 38 rfl) rfl (show p < 60 by omega) (by decide) ?_
  refine g_iastI ok (dk m_Mo_join 33 rfl) (pc' := 50) rfl (j := mm) (Y3.ar 29 rfl) rfl (show mm < 16 by omega) (by decide) (fun z4 e4 => ?_)
  have Y4 := Y3.ast 29 rfl e4
  clear e4
  refine g_aload_n ok (dk m_Mo_join 34 rfl) (pc' := 51) rfl (i := 0) rfl rfl ?_
  refine g_get ok (dk m_Mo_join 35 rfl) (pc' := 54) rfl f_Mo_95 Y4.1 rfl ?_
  refine g_iload_n ok (dk m_Mo_join 36 rfl) (pc' := 55) rfl (i := 1) rfl rfl ?_
  refine g_iconst ok (dk m_Mo_join 37 rfl) (pc' := 56) rfl (v := 1) (by decide) ?_
  refine g_zastI ok (dk m_Mo_join 38 rfl) (pc' := 57) rfl (j := mm) (Y4.ar 32 rfl) rfl (show mm < 16 by omega) (by decide) rfl (fun z5 e5 => ?_)
  have Y5 := Y4.ast 32 rfl e5
  clear e5
  refine g_aload_n ok (dk m_Mo_join 39 rfl) (pc' := 58) rfl (i := 0) rfl rfl ?_
  refine g_iload_n ok (dk m_Mo_join 40 rfl) (pc' := 59) rfl (i := 3) rfl rfl ?_
  refine g_aload_n ok (dk m_Mo_join 41 rfl) (pc' := 60) rfl (i := 0) rfl rfl ?_
  refine g_get ok (dk m_Mo_join 42 rfl) (pc' := 63) rfl f_Mo_83 Y5.1 rfl ?_
  refine g_iload_n ok (dk m_Mo_join 43 rfl) (pc' := 64) rfl (i := 1) rfl rfl ?_
  refine g_ialdI ok (dk m_Mo_join 44 rfl) (pc' := 65) rfl (j := mm) (Y5.ar 28 rfl) rfl (show mm < 16 by omega) (by decide) ?_
  refine g_top (w := .int (nI l)) (congrArg Value.int (xs_s (xs (xs W 41 p 1) 27 mm (nI a)) 28 mm (nI l))) ?_
  refine g_callV ok (dk m_Mo_join 45 rfl) (pc' := 68) rfl c_Mo_227 (c_Mo_meeting g (e := a) (l := l) (D := D) 1 (by omega) ha2 hl2 (by exact (congrFun (fl 13 (by decide)).2 a).trans hD) hD4 Y5) Y5.1 rfl rfl (by simp [Value.category]) (by omega) rfl (rc' := 0) (rs' := 0) (by omega) (by omega) (fun rv h' hcc => ?_) (fun i h' hcc => by obtain ⟨e9, -⟩ := hcc; cases e9)
  obtain ⟨e9, e2⟩ := hcc
  have e3 := e2.symm
  subst e3
  cases e9
  refine g_top (w := .int (mo_mt (X.2 16 a) l D 1)) (congrArg (fun z => Value.int (mo_mt z l D 1)) (congrFun (fl 16 (by decide)).2 a)) ?_
  refine g_istore ok (dk m_Mo_join 46 rfl) (pc' := 70) rfl (Nat.le_of_ble_eq_true rfl) rfl ?_
  refine g_aload_n ok (dk m_Mo_join 47 rfl) (pc' := 71) rfl (i := 0) rfl rfl ?_
  refine g_get ok (dk m_Mo_join 48 rfl) (pc' := 74) rfl f_Mo_62 Y5.1 rfl ?_
  refine g_iload_n ok (dk m_Mo_join 49 rfl) (pc' := 75) rfl (i := 3) rfl rfl ?_
  refine g_zaldI ok (dk m_Mo_join 50 rfl) (pc' := 76) rfl (j := a) (Y5.ar 21 rfl) rfl (show a < 60 by omega) (by decide) ?_
  refine g_top (w := .int (X.2 21 a)) (congrArg Value.int (congrFun (fl 21 (by decide)).2 a)) ?_
  refine g_if_eq ok (dk m_Mo_join 51 rfl) (tgt := 93) (by decide) (pc' := 79) rfl (fun c_76 => ?_) (fun c_76 => ?_)
  · exact g_vret ok (dk m_Mo_join 60 rfl) rfl ⟨rfl, by rw [jo, if_pos (Or.inl c_76), hj0]; exact Y5⟩
  · refine g_iload ok (dk m_Mo_join 52 rfl) (pc' := 81) rfl rfl ?_
    refine g_iconst ok (dk m_Mo_join 53 rfl) (pc' := 82) rfl (v := (-1)) (by decide) ?_
    refine g_icmp_eq ok (dk m_Mo_join 54 rfl) (tgt := 93) (by decide) (pc' := 85) rfl (fun c_82 => ?_) (fun c_82 => ?_)
    · exact g_vret ok (dk m_Mo_join 60 rfl) rfl ⟨rfl, by rw [jo, if_pos (Or.inr c_82), hj0]; exact Y5⟩
    · obtain ⟨v, hv31, hvv⟩ := (mo_mt_or (X.2 16 a) hl2 D 1 (by omega)).resolve_left c_82
      have hxv : ix (nI v) = v := ix_nI (by omega)
      have hJ : jo X mm p a l D = tl_m mm a l (D + 1 - hgt v) (hgt v) (jo_0 X mm p a l) := by rw [jo, if_neg (fun z => by rcases z with z | z; exact c_76 z; exact c_82 z), hvv, hxv]
      rw [hvv]
      refine g_aload_n ok (dk m_Mo_join 55 rfl) (pc' := 86) rfl (i := 0) rfl rfl ?_
      refine g_iload_n ok (dk m_Mo_join 56 rfl) (pc' := 87) rfl (i := 1) rfl rfl ?_
      refine g_iload_n ok (dk m_Mo_join 57 rfl) (pc' := 88) rfl (i := 3) rfl rfl ?_
      refine g_iload ok (dk m_Mo_join 58 rfl) (pc' := 90) rfl rfl ?_
      refine g_callV ok (dk m_Mo_join 59 rfl) (pc' := 93) rfl c_Mo_233 (c_Mo_tell g (mm := mm) (e := a) (l := l) (D := D) (f := v) 1 (by omega) hm ha2 hl2 (by exact (xs_s (xs (xs W 41 p 1) 27 mm (nI a)) 28 mm (nI l))) (by exact (congrFun (fl 13 (by decide)).2 a).trans hD) hD4 hv31 Y5) Y5.1 rfl rfl (by simp [Value.category]) (by omega) rfl (rc' := 0) (rs' := 0) (by omega) (by omega) (fun rv h' hcc => ?_) (fun i h' hcc => by obtain ⟨e9, -⟩ := hcc; cases e9)
      obtain ⟨e9, Y6⟩ := hcc
      cases e9
      exact g_vret ok (dk m_Mo_join 60 rfl) rfl ⟨rfl, by rw [hJ, hj0]; exact Y6⟩
set_option maxHeartbeats 1000000 in
theorem c_Mo_follow (g : q_G) {h : q_H} {o : Nat} {ba : Nat → Nat} {X : x_T} {mm a l D c p u : Nat} (d : Nat) (hd : 3 ≤ d) (hm : mm < 16) (ha : X.2 27 mm = nI a) (he : a + 1 < 60) (hl : X.2 28 mm = nI l) (hl2 : l < 16) (hD : X.2 13 (a + 1) = nI D) (hD4 : D ≤ 4) (hc : X.1 7 = nI c) (hc2 : c ≤ 3600) (hp : X.1 35 = nI p) (hp2 : p ≤ 60) (hu : X.2 31 mm = nI u) (hu2 : u ≤ 20) (hA : ¬ X.2 32 mm = 0 → ∃ a, a < 60 ∧ X.2 27 mm = nI a) (H : q_mo h o ba X) : MG g y_Mo_follow b_Mo_follow 6 none d 0 0 [.ref o, .int (nI mm)] h (fun q h' => q = .inl none ∧ ∃ X', q_mo h' o ba X' ∧ xfr [46, 47] (fo X mm (a + 1) l D c) X') := by
  refine MG.of (by decide +kernel) (by simp [Value.category]) (Nat.le_of_ble_eq_true rfl) ?_
  intro Z A ok
  have hgl := gat_len hp hp2 hu hu2
  have hLL : (fo_L X mm (a + 1) l).length ≤ 174 := by
    unfold fo_L
    split
    · have := ins_len (gat X mm) (X.2 22 (31 * (a + 1) + 2 * l))
      omega
    · omega
  have hvo : fo_v X (a + 1) l D = -1 ∨ ∃ v, v < 31 ∧ fo_v X (a + 1) l D = nI v := by
    unfold fo_v
    split
    · exact Or.inl rfl
    · exact mo_mt_or _ hl2 D 1 (by omega)
  have tail : ∀ (h2 : q_H) (X2 : x_T) (x5 : Option Value), q_mo h2 o ba X2 → xfr [46, 47] X X2 → ¬ (X.2 17 (a + 1) >>> (nI l &&& 31)) &&& 1 = 1 → GW g Z A (fun q h' => q = .inl none ∧ ∃ X', q_mo h' o ba X' ∧ xfr [46, 47] (fo X mm (a + 1) l D c) X') 0 0 h2 179 [some (.ref o), some (.int (nI mm)), some (.int (nI (a + 1))), some (.int (fo_v X (a + 1) l D)), some (.int (b2i (fo_t X mm (a + 1) l D c))), x5] [] := by
    intro h2 X2 x5 H2 f2 hrm
    refine g_aload_n ok (dk m_Mo_follow 108 rfl) (pc' := 180) rfl (i := 0) rfl rfl ?_
    refine g_iload_n ok (dk m_Mo_follow 109 rfl) (pc' := 181) rfl (i := 1) rfl rfl ?_
    refine g_iload_n ok (dk m_Mo_follow 110 rfl) (pc' := 182) rfl (i := 2) rfl rfl ?_
    refine g_iconst ok (dk m_Mo_follow 111 rfl) (pc' := 183) rfl (v := 0) (by decide) ?_
    refine g_callV ok (dk m_Mo_follow 112 rfl) (pc' := 186) rfl c_Mo_260 (c_Mo_advance g (mm := mm) (e := a + 1) (l := l) (D := D) 0 2 (by omega) hm he hl2 (by exact (congrFun (f2 28 (by decide)).2 mm).trans hl) (by exact (congrFun (f2 13 (by decide)).2 (a + 1)).trans hD) hD4 H2) H2.1 rfl rfl (by simp [Value.category]) (by omega) rfl (rc' := 0) (rs' := 0) (by omega) (by omega) (fun rv h' hcc => ?_) (fun i h' hcc => by obtain ⟨e9, -⟩ := hcc; cases e9)
    obtain ⟨e9, Y301⟩ := hcc
    cases e9
    have f3 := ad_cg f2 mm (a + 1) l D 0
    refine g_iload ok (dk m_Mo_follow 113 rfl) (pc' := 188) rfl rfl ?_
    by_cases ht : fo_t X mm (a + 1) l D c
    · obtain ⟨v, hv31, hvv⟩ := hvo.resolve_left ht.1
      have hxv : ix (nI v) = v := ix_nI (by omega)
      have hF : fo X mm (a + 1) l D c = tl_m mm (a + 1) l (D + 1 - hgt v) (hgt v) (ad X mm (a + 1) l D 0) := by rw [fo, if_neg hrm, if_pos (Or.inr ht), fo_1, if_pos ht, hvv, hxv]
      rw [b2i_t ht, hvv]
      refine g_if_eq ok (dk m_Mo_follow 114 rfl) (tgt := 198) (by decide) (pc' := 191) rfl (fun c_188 => absurd c_188 (by decide)) (fun c_188 => ?_)
      refine g_aload_n ok (dk m_Mo_follow 115 rfl) (pc' := 192) rfl (i := 0) rfl rfl ?_
      refine g_iload_n ok (dk m_Mo_follow 116 rfl) (pc' := 193) rfl (i := 1) rfl rfl ?_
      refine g_iload_n ok (dk m_Mo_follow 117 rfl) (pc' := 194) rfl (i := 2) rfl rfl ?_
      refine g_iload_n ok (dk m_Mo_follow 118 rfl) (pc' := 195) rfl (i := 3) rfl rfl ?_
      refine g_callV ok (dk m_Mo_follow 119 rfl) (pc' := 198) rfl c_Mo_233 (c_Mo_tell g (mm := mm) (e := a + 1) (l := l) (D := D) (f := v) 1 (by omega) hm he hl2 (by exact ((congrFun (ad_f X2 mm (a + 1) l D 0 28 (by decide)).2 mm).trans (congrFun (f2 28 (by decide)).2 mm)).trans hl) (by exact ((congrFun (ad_f X2 mm (a + 1) l D 0 13 (by decide)).2 (a + 1)).trans (congrFun (f2 13 (by decide)).2 (a + 1))).trans hD) hD4 hv31 Y301) Y301.1 rfl rfl (by simp [Value.category]) (by omega) rfl (rc' := 0) (rs' := 0) (by omega) (by omega) (fun rv h' hcc => ?_) (fun i h' hcc => by obtain ⟨e9, -⟩ := hcc; cases e9)
      obtain ⟨e9, Y321⟩ := hcc
      cases e9
      refine g_iload_n ok (dk m_Mo_follow 120 rfl) (pc' := 199) rfl (i := 3) rfl rfl ?_
      refine g_iconst ok (dk m_Mo_follow 121 rfl) (pc' := 200) rfl (v := (-1)) (by decide) ?_
      refine g_icmp_eq ok (dk m_Mo_follow 122 rfl) (tgt := 208) (by decide) (pc' := 203) rfl (fun c_200 => absurd c_200 (nI_nm (by omega))) (fun c_200 => ?_)
      refine g_iload ok (dk m_Mo_follow 123 rfl) (pc' := 205) rfl rfl ?_
      refine g_if_eq ok (dk m_Mo_follow 124 rfl) (tgt := 209) (by decide) (pc' := 208) rfl (fun c_205 => absurd c_205 (by decide)) (fun c_205 => ?_)
      exact g_vret ok (dk m_Mo_follow 125 rfl) rfl ⟨rfl, _, Y321, by rw [hF]; exact tl_m_cg (by decide) (by decide) (by decide) mm (a + 1) l _ _ f3⟩
    · rw [b2i_f ht]
      have hF1 : fo_1 X mm (a + 1) l D c = ad X mm (a + 1) l D 0 := by rw [fo_1, if_neg ht]
      refine g_if_eq ok (dk m_Mo_follow 114 rfl) (tgt := 198) (by decide) (pc' := 191) rfl (fun c_188 => ?_) (fun c_188 => absurd rfl c_188)
      refine g_iload_n ok (dk m_Mo_follow 120 rfl) (pc' := 199) rfl (i := 3) rfl rfl ?_
      refine g_iconst ok (dk m_Mo_follow 121 rfl) (pc' := 200) rfl (v := (-1)) (by decide) ?_
      refine g_icmp_eq ok (dk m_Mo_follow 122 rfl) (tgt := 208) (by decide) (pc' := 203) rfl (fun c_200 => ?_) (fun c_200 => ?_)
      · exact g_vret ok (dk m_Mo_follow 125 rfl) rfl ⟨rfl, _, Y301, by rw [fo, if_neg hrm, if_pos (Or.inl c_200), hF1]; exact f3⟩
      · refine g_iload ok (dk m_Mo_follow 123 rfl) (pc' := 205) rfl rfl ?_
        refine g_if_eq ok (dk m_Mo_follow 124 rfl) (tgt := 209) (by decide) (pc' := 208) rfl (fun c_205 => ?_) (fun c_205 => absurd rfl c_205)
        refine g_aload_n ok (dk m_Mo_follow 126 rfl) (pc' := 210) rfl (i := 0) rfl rfl ?_
        refine g_get ok (dk m_Mo_follow 127 rfl) (pc' := 213) rfl f_Mo_89 Y301.1 rfl ?_
        refine g_iload_n ok (dk m_Mo_follow 128 rfl) (pc' := 214) rfl (i := 1) rfl rfl ?_
        refine g_dup2 ok (dk m_Mo_follow 129 rfl) (pc' := 215) rfl rfl rfl ?_
        refine g_ialdI ok (dk m_Mo_follow 130 rfl) (pc' := 216) rfl (j := mm) (Y301.ar 30 rfl) rfl (show mm < 16 by omega) (by decide) ?_
        refine g_iconst ok (dk m_Mo_follow 131 rfl) (pc' := 217) rfl (v := 1) (by decide) ?_
        refine g_iadd ok (dk m_Mo_follow 132 rfl) (pc' := 218) rfl ?_
        refine g_iastI ok (dk m_Mo_follow 133 rfl) (pc' := 219) rfl (j := mm) (Y301.ar 30 rfl) rfl (show mm < 16 by omega) (by decide) (fun z341 e341 => ?_)
        have Y341 := Y301.ast 30 rfl e341
        clear e341
        refine g_aload_n ok (dk m_Mo_follow 134 rfl) (pc' := 220) rfl (i := 0) rfl rfl ?_
        refine g_get ok (dk m_Mo_follow 135 rfl) (pc' := 223) rfl f_Mo_95 Y341.1 rfl ?_
        refine g_iload_n ok (dk m_Mo_follow 136 rfl) (pc' := 224) rfl (i := 1) rfl rfl ?_
        refine g_iconst ok (dk m_Mo_follow 137 rfl) (pc' := 225) rfl (v := 0) (by decide) ?_
        refine g_zastI ok (dk m_Mo_follow 138 rfl) (pc' := 226) rfl (j := mm) (Y341.ar 32 rfl) rfl (show mm < 16 by omega) (by decide) rfl (fun z342 e342 => ?_)
        have Y342 := Y341.ast 32 rfl e342
        clear e342
        exact g_vret ok (dk m_Mo_follow 139 rfl) rfl ⟨rfl, _, Y342, by rw [fo, if_neg hrm, if_neg (fun z => by rcases z with z | z; exact c_200 z; exact ht z), hF1]; show xfr [46, 47] (xs (xs (ad X mm (a + 1) l D 0) 30 mm ((ad X mm (a + 1) l D 0).2 30 mm + 1)) 32 mm 0) (xs (xs (ad X2 mm (a + 1) l D 0) 30 mm ((ad X2 mm (a + 1) l D 0).2 30 mm + 1)) 32 mm 0); rw [(f3 30 (by decide)).2]; exact xcs (xcs f3 30 _ _ (by decide)) 32 _ _ (by decide)⟩
  have mid : ∀ (h2 : q_H) (X2 : x_T) (x3 x4 x5 : Option Value), q_mo h2 o ba X2 → xfr [46, 47] X X2 → q_HL X2 (fo_L X mm (a + 1) l) → ¬ (X.2 17 (a + 1) >>> (nI l &&& 31)) &&& 1 = 1 → GW g Z A (fun q h' => q = .inl none ∧ ∃ X', q_mo h' o ba X' ∧ xfr [46, 47] (fo X mm (a + 1) l D c) X') 0 0 h2 80 [some (.ref o), some (.int (nI mm)), some (.int (nI (a + 1))), x3, x4, x5] [] := by
    intro h2 X2 x3 x4 x5 H2 f2 hl2x hrm
    have loop : ¬ fo_v X (a + 1) l D = -1 → ∀ (m k : Nat), k + m = c → GW g Z A (fun q h' => q = .inl none ∧ ∃ X', q_mo h' o ba X' ∧ xfr [46, 47] (fo X mm (a + 1) l D c) X') 0 0 h2 111 [some (.ref o), some (.int (nI mm)), some (.int (nI (a + 1))), some (.int (fo_v X (a + 1) l D)), some (.int (b2i (fo_T X (a + 1) (fo_v X (a + 1) l D) (fo_L X mm (a + 1) l) k))), some (.int (nI k))] [] := by
      intro hv1 m
      induction m with
      | zero =>
        intro k hk
        refine g_iload ok (dk m_Mo_follow 74 rfl) (pc' := 113) rfl rfl ?_
        refine g_aload_n ok (dk m_Mo_follow 75 rfl) (pc' := 114) rfl (i := 0) rfl rfl ?_
        refine g_get ok (dk m_Mo_follow 76 rfl) (pc' := 117) rfl f_Mo_161 H2.1 rfl ?_
        refine g_top (w := .int (nI c)) (congrArg Value.int ((f2 7 (by decide)).1.trans hc)) ?_
        refine g_icmp_ge ok (dk m_Mo_follow 77 rfl) (tgt := 179) (by decide) (pc' := 120) rfl (fun c_117 => ?_) (fun c_117 => absurd (nI_le (a := c) (b := k) (by omega) (by omega)) c_117)
        have hb : b2i (fo_T X (a + 1) (fo_v X (a + 1) l D) (fo_L X mm (a + 1) l) k) = b2i (fo_t X mm (a + 1) l D c) := by
          rw [show k = c by omega]
          congr 1
          exact propext ⟨fun z => ⟨hv1, z⟩, fun z => z.2⟩
        rw [hb]
        exact tail _ X2 _ H2 f2 hrm
      | succ m ih =>
        intro k hk
        refine g_iload ok (dk m_Mo_follow 74 rfl) (pc' := 113) rfl rfl ?_
        refine g_aload_n ok (dk m_Mo_follow 75 rfl) (pc' := 114) rfl (i := 0) rfl rfl ?_
        refine g_get ok (dk m_Mo_follow 76 rfl) (pc' := 117) rfl f_Mo_161 H2.1 rfl ?_
        refine g_top (w := .int (nI c)) (congrArg Value.int ((f2 7 (by decide)).1.trans hc)) ?_
        refine g_icmp_ge ok (dk m_Mo_follow 77 rfl) (tgt := 179) (by decide) (pc' := 120) rfl (fun c_117 => absurd c_117 (nI_ge (show k < c by omega) (by omega))) (fun c_117 => ?_)
        refine g_iload_n ok (dk m_Mo_follow 78 rfl) (pc' := 121) rfl (i := 3) rfl rfl ?_
        refine g_iconst ok (dk m_Mo_follow 79 rfl) (pc' := 122) rfl (v := (-1)) (by decide) ?_
        refine g_icmp_eq ok (dk m_Mo_follow 80 rfl) (tgt := 179) (by decide) (pc' := 125) rfl (fun c_122 => absurd c_122 hv1) (fun c_122 => ?_)
        refine g_iload ok (dk m_Mo_follow 81 rfl) (pc' := 127) rfl rfl ?_
        refine g_if_ne ok (dk m_Mo_follow 82 rfl) (tgt := 166) (by decide) (pc' := 130) rfl (fun c_127 => ?_) (fun c_127 => ?_)
        · refine g_iconst ok (dk m_Mo_follow 102 rfl) (pc' := 167) rfl (v := 1) (by decide) ?_
          refine g_goto ok (dk m_Mo_follow 103 rfl) (pc' := 171) (by decide) ?_
          have hb : b2i (fo_T X (a + 1) (fo_v X (a + 1) l D) (fo_L X mm (a + 1) l) (k + 1)) = 1 := b2i_t (by obtain ⟨j, h1, h2⟩ := b2i_n c_127; exact ⟨j, by omega, h2⟩)
          refine g_istore ok (dk m_Mo_follow 105 rfl) (pc' := 173) rfl (Nat.le_of_ble_eq_true rfl) rfl ?_
          refine g_iinc ok (dk m_Mo_follow 106 rfl) (pc' := 176) rfl rfl (nI_1 k) rfl ?_
          refine g_goto ok (dk m_Mo_follow 107 rfl) (pc' := 111) (by decide) ?_
          have q := ih (k + 1) (by omega)
          rw [hb] at q
          exact q
        · refine g_aload_n ok (dk m_Mo_follow 83 rfl) (pc' := 131) rfl (i := 0) rfl rfl ?_
          refine g_get ok (dk m_Mo_follow 84 rfl) (pc' := 134) rfl f_Mo_32 H2.1 rfl ?_
          refine g_iload ok (dk m_Mo_follow 85 rfl) (pc' := 136) rfl rfl ?_
          refine g_ialdI ok (dk m_Mo_follow 86 rfl) (pc' := 137) rfl (j := k) (H2.ar 10 rfl) rfl (show k < 3600 by omega) (by decide) ?_
          refine g_top (w := .int (X.2 10 k)) (congrArg Value.int (congrFun (f2 10 (by decide)).2 k)) ?_
          refine g_iload_n ok (dk m_Mo_follow 87 rfl) (pc' := 138) rfl (i := 2) rfl rfl ?_
          refine g_icmp_ne ok (dk m_Mo_follow 88 rfl) (tgt := 170) (by decide) (pc' := 141) rfl (fun c_138 => ?_) (fun c_138 => ?_)
          · refine g_iconst ok (dk m_Mo_follow 104 rfl) (pc' := 171) rfl (v := 0) (by decide) ?_
            have hb : b2i (fo_T X (a + 1) (fo_v X (a + 1) l D) (fo_L X mm (a + 1) l) (k + 1)) = 0 := b2i_f (fun ⟨j, h1, h2, h3, h4⟩ => by
    rcases Nat.lt_or_ge j k with q | q
    · exact b2i_0 c_127 ⟨j, q, h2, h3, h4⟩
    · have hj : j = k := by omega
      subst hj
      exact c_138 h2)
            refine g_istore ok (dk m_Mo_follow 105 rfl) (pc' := 173) rfl (Nat.le_of_ble_eq_true rfl) rfl ?_
            refine g_iinc ok (dk m_Mo_follow 106 rfl) (pc' := 176) rfl rfl (nI_1 k) rfl ?_
            refine g_goto ok (dk m_Mo_follow 107 rfl) (pc' := 111) (by decide) ?_
            have q := ih (k + 1) (by omega)
            rw [hb] at q
            exact q
          · refine g_aload_n ok (dk m_Mo_follow 89 rfl) (pc' := 142) rfl (i := 0) rfl rfl ?_
            refine g_get ok (dk m_Mo_follow 90 rfl) (pc' := 145) rfl f_Mo_35 H2.1 rfl ?_
            refine g_iload ok (dk m_Mo_follow 91 rfl) (pc' := 147) rfl rfl ?_
            refine g_ialdI ok (dk m_Mo_follow 92 rfl) (pc' := 148) rfl (j := k) (H2.ar 11 rfl) rfl (show k < 3600 by omega) (by decide) ?_
            refine g_top (w := .int (X.2 11 k)) (congrArg Value.int (congrFun (f2 11 (by decide)).2 k)) ?_
            refine g_iload_n ok (dk m_Mo_follow 93 rfl) (pc' := 149) rfl (i := 3) rfl rfl ?_
            refine g_icmp_ne ok (dk m_Mo_follow 94 rfl) (tgt := 170) (by decide) (pc' := 152) rfl (fun c_149 => ?_) (fun c_149 => ?_)
            · refine g_iconst ok (dk m_Mo_follow 104 rfl) (pc' := 171) rfl (v := 0) (by decide) ?_
              have hb : b2i (fo_T X (a + 1) (fo_v X (a + 1) l D) (fo_L X mm (a + 1) l) (k + 1)) = 0 := b2i_f (fun ⟨j, h1, h2, h3, h4⟩ => by
    rcases Nat.lt_or_ge j k with q | q
    · exact b2i_0 c_127 ⟨j, q, h2, h3, h4⟩
    · have hj : j = k := by omega
      subst hj
      exact c_149 h3)
              refine g_istore ok (dk m_Mo_follow 105 rfl) (pc' := 173) rfl (Nat.le_of_ble_eq_true rfl) rfl ?_
              refine g_iinc ok (dk m_Mo_follow 106 rfl) (pc' := 176) rfl rfl (nI_1 k) rfl ?_
              refine g_goto ok (dk m_Mo_follow 107 rfl) (pc' := 111) (by decide) ?_
              have q := ih (k + 1) (by omega)
              rw [hb] at q
              exact q
            · refine g_aload_n ok (dk m_Mo_follow 95 rfl) (pc' := 153) rfl (i := 0) rfl rfl ?_
              refine g_aload_n ok (dk m_Mo_follow 96 rfl) (pc' := 154) rfl (i := 0) rfl rfl ?_
              refine g_get ok (dk m_Mo_follow 97 rfl) (pc' := 157) rfl f_Mo_26 H2.1 rfl ?_
              refine g_iload ok (dk m_Mo_follow 98 rfl) (pc' := 159) rfl rfl ?_
              refine g_ialdI ok (dk m_Mo_follow 99 rfl) (pc' := 160) rfl (j := k) (H2.ar 8 rfl) rfl (show k < 3600 by omega) (by decide) ?_
              refine g_top (w := .int (X.2 8 k)) (congrArg Value.int (congrFun (f2 8 (by decide)).2 k)) ?_
              refine g_callV ok (dk m_Mo_follow 100 rfl) (pc' := 163) rfl c_Mo_284 (c_Mo_isHeld g (n := (fo_L X mm (a + 1) l).length) (X.2 8 k) 0 hl2x.1 (by omega) H2) H2.1 rfl rfl (by simp [Value.category]) (by omega) rfl (rc' := 0) (rs' := 0) (by omega) (by omega) (fun rv h' hcc => ?_) (fun i h' hcc => by obtain ⟨e9, -⟩ := hcc; cases e9)
              obtain ⟨e9, e2⟩ := hcc
              have e3 := e2.symm
              subst e3
              cases e9
              refine g_if_eq ok (dk m_Mo_follow 101 rfl) (tgt := 170) (by decide) (pc' := 166) rfl (fun c_163 => ?_) (fun c_163 => ?_)
              · refine g_iconst ok (dk m_Mo_follow 104 rfl) (pc' := 171) rfl (v := 0) (by decide) ?_
                have hb : b2i (fo_T X (a + 1) (fo_v X (a + 1) l D) (fo_L X mm (a + 1) l) (k + 1)) = 0 := b2i_f (fun ⟨j, h1, h2, h3, h4⟩ => by
    rcases Nat.lt_or_ge j k with q | q
    · exact b2i_0 c_127 ⟨j, q, h2, h3, h4⟩
    · have hj : j = k := by omega
      subst hj
      exact b2i_0 c_163 ((hl2x.mem _).mpr h4))
                refine g_istore ok (dk m_Mo_follow 105 rfl) (pc' := 173) rfl (Nat.le_of_ble_eq_true rfl) rfl ?_
                refine g_iinc ok (dk m_Mo_follow 106 rfl) (pc' := 176) rfl rfl (nI_1 k) rfl ?_
                refine g_goto ok (dk m_Mo_follow 107 rfl) (pc' := 111) (by decide) ?_
                have q := ih (k + 1) (by omega)
                rw [hb] at q
                exact q
              · refine g_iconst ok (dk m_Mo_follow 102 rfl) (pc' := 167) rfl (v := 1) (by decide) ?_
                refine g_goto ok (dk m_Mo_follow 103 rfl) (pc' := 171) (by decide) ?_
                have hb : b2i (fo_T X (a + 1) (fo_v X (a + 1) l D) (fo_L X mm (a + 1) l) (k + 1)) = 1 := b2i_t ⟨k, by omega, c_138, c_149, (hl2x.mem _).mp (b2i_n c_163)⟩
                refine g_istore ok (dk m_Mo_follow 105 rfl) (pc' := 173) rfl (Nat.le_of_ble_eq_true rfl) rfl ?_
                refine g_iinc ok (dk m_Mo_follow 106 rfl) (pc' := 176) rfl rfl (nI_1 k) rfl ?_
                refine g_goto ok (dk m_Mo_follow 107 rfl) (pc' := 111) (by decide) ?_
                have q := ih (k + 1) (by omega)
                rw [hb] at q
                exact q
    have go111 : GW g Z A (fun q h' => q = .inl none ∧ ∃ X', q_mo h' o ba X' ∧ xfr [46, 47] (fo X mm (a + 1) l D c) X') 0 0 h2 111 [some (.ref o), some (.int (nI mm)), some (.int (nI (a + 1))), some (.int (fo_v X (a + 1) l D)), some (.int 0), some (.int (nI 0))] [] := by
      by_cases hv1 : fo_v X (a + 1) l D = -1
      · skip
        refine g_iload ok (dk m_Mo_follow 74 rfl) (pc' := 113) rfl rfl ?_
        refine g_aload_n ok (dk m_Mo_follow 75 rfl) (pc' := 114) rfl (i := 0) rfl rfl ?_
        refine g_get ok (dk m_Mo_follow 76 rfl) (pc' := 117) rfl f_Mo_161 H2.1 rfl ?_
        refine g_top (w := .int (nI c)) (congrArg Value.int ((f2 7 (by decide)).1.trans hc)) ?_
        refine g_icmp_ge ok (dk m_Mo_follow 77 rfl) (tgt := 179) (by decide) (pc' := 120) rfl (fun c_117 => ?_) (fun c_117 => ?_)
        · have hb : (0 : Int32) = b2i (fo_t X mm (a + 1) l D c) := (b2i_f (fun z => z.1 hv1)).symm
          rw [hb]
          exact tail _ X2 _ H2 f2 hrm
        · refine g_iload_n ok (dk m_Mo_follow 78 rfl) (pc' := 121) rfl (i := 3) rfl rfl ?_
          refine g_iconst ok (dk m_Mo_follow 79 rfl) (pc' := 122) rfl (v := (-1)) (by decide) ?_
          refine g_icmp_eq ok (dk m_Mo_follow 80 rfl) (tgt := 179) (by decide) (pc' := 125) rfl (fun c_122 => ?_) (fun c_122 => absurd hv1 c_122)
          have hb : (0 : Int32) = b2i (fo_t X mm (a + 1) l D c) := (b2i_f (fun z => z.1 hv1)).symm
          rw [hb]
          exact tail _ X2 _ H2 f2 hrm
      · have q := loop hv1 c 0 (Nat.zero_add _)
        rw [b2i_f (fun ⟨j, h1, _⟩ => absurd h1 (Nat.not_lt_zero _))] at q
        exact q
    refine g_aload_n ok (dk m_Mo_follow 55 rfl) (pc' := 81) rfl (i := 0) rfl rfl ?_
    refine g_get ok (dk m_Mo_follow 56 rfl) (pc' := 84) rfl f_Mo_62 H2.1 rfl ?_
    refine g_iload_n ok (dk m_Mo_follow 57 rfl) (pc' := 85) rfl (i := 2) rfl rfl ?_
    refine g_zaldI ok (dk m_Mo_follow 58 rfl) (pc' := 86) rfl (j := (a + 1)) (H2.ar 21 rfl) rfl (show (a + 1) < 60 by omega) (by decide) ?_
    refine g_top (w := .int (X.2 21 (a + 1))) (congrArg Value.int (congrFun (f2 21 (by decide)).2 (a + 1))) ?_
    refine g_if_eq ok (dk m_Mo_follow 59 rfl) (tgt := 103) (by decide) (pc' := 89) rfl (fun c_86 => ?_) (fun c_86 => ?_)
    · refine g_iconst ok (dk m_Mo_follow 68 rfl) (pc' := 104) rfl (v := (-1)) (by decide) ?_
      have hvv : (-1 : Int32) = fo_v X (a + 1) l D := by rw [fo_v, if_pos c_86]
      rw [hvv]
      refine g_istore_n ok (dk m_Mo_follow 69 rfl) (pc' := 105) rfl (i := 3) rfl (Nat.le_of_ble_eq_true rfl) rfl ?_
      refine g_iconst ok (dk m_Mo_follow 70 rfl) (pc' := 106) rfl (v := 0) (by decide) ?_
      refine g_istore ok (dk m_Mo_follow 71 rfl) (pc' := 108) rfl (Nat.le_of_ble_eq_true rfl) rfl ?_
      refine g_iconst ok (dk m_Mo_follow 72 rfl) (pc' := 109) rfl (v := 0) (by decide) ?_
      refine g_istore ok (dk m_Mo_follow 73 rfl) (pc' := 111) rfl (Nat.le_of_ble_eq_true rfl) rfl ?_
      exact go111
    · refine g_aload_n ok (dk m_Mo_follow 60 rfl) (pc' := 90) rfl (i := 0) rfl rfl ?_
      refine g_iload_n ok (dk m_Mo_follow 61 rfl) (pc' := 91) rfl (i := 2) rfl rfl ?_
      refine g_aload_n ok (dk m_Mo_follow 62 rfl) (pc' := 92) rfl (i := 0) rfl rfl ?_
      refine g_get ok (dk m_Mo_follow 63 rfl) (pc' := 95) rfl f_Mo_83 H2.1 rfl ?_
      refine g_iload_n ok (dk m_Mo_follow 64 rfl) (pc' := 96) rfl (i := 1) rfl rfl ?_
      refine g_ialdI ok (dk m_Mo_follow 65 rfl) (pc' := 97) rfl (j := mm) (H2.ar 28 rfl) rfl (show mm < 16 by omega) (by decide) ?_
      refine g_top (w := .int (nI l)) (congrArg Value.int ((congrFun (f2 28 (by decide)).2 mm).trans hl)) ?_
      refine g_callV ok (dk m_Mo_follow 66 rfl) (pc' := 100) rfl c_Mo_227 (c_Mo_meeting g (e := a + 1) (l := l) (D := D) 1 (by omega) he hl2 (by exact (congrFun (f2 13 (by decide)).2 (a + 1)).trans hD) hD4 H2) H2.1 rfl rfl (by simp [Value.category]) (by omega) rfl (rc' := 0) (rs' := 0) (by omega) (by omega) (fun rv h' hcc => ?_) (fun i h' hcc => by obtain ⟨e9, -⟩ := hcc; cases e9)
      obtain ⟨e9, e2⟩ := hcc
      have e3 := e2.symm
      subst e3
      cases e9
      refine g_goto ok (dk m_Mo_follow 67 rfl) (pc' := 104) (by decide) ?_
      have hvv : mo_mt (X2.2 16 (a + 1)) l D 1 = fo_v X (a + 1) l D := by rw [fo_v, if_neg c_86, (f2 16 (by decide)).2]
      rw [hvv]
      refine g_istore_n ok (dk m_Mo_follow 69 rfl) (pc' := 105) rfl (i := 3) rfl (Nat.le_of_ble_eq_true rfl) rfl ?_
      refine g_iconst ok (dk m_Mo_follow 70 rfl) (pc' := 106) rfl (v := 0) (by decide) ?_
      refine g_istore ok (dk m_Mo_follow 71 rfl) (pc' := 108) rfl (Nat.le_of_ble_eq_true rfl) rfl ?_
      refine g_iconst ok (dk m_Mo_follow 72 rfl) (pc' := 109) rfl (v := 0) (by decide) ?_
      refine g_istore ok (dk m_Mo_follow 73 rfl) (pc' := 111) rfl (Nat.le_of_ble_eq_true rfl) rfl ?_
      exact go111
  refine g_aload_n ok (dk m_Mo_follow 0 rfl) (pc' := 1) rfl (i := 0) rfl rfl ?_
  refine g_get ok (dk m_Mo_follow 1 rfl) (pc' := 4) rfl f_Mo_80 H.1 rfl ?_
  refine g_iload_n ok (dk m_Mo_follow 2 rfl) (pc' := 5) rfl (i := 1) rfl rfl ?_
  refine g_ialdI ok (dk m_Mo_follow 3 rfl) (pc' := 6) rfl (j := mm) (H.ar 27 rfl) rfl (show mm < 16 by omega) (by decide) ?_
  rw [ha]
  refine g_iconst ok (dk m_Mo_follow 4 rfl) (pc' := 7) rfl (v := 1) (by decide) ?_
  refine g_iadd ok (dk m_Mo_follow 5 rfl) (pc' := 8) rfl ?_
  rw [nI_1]
  refine g_istore_n ok (dk m_Mo_follow 6 rfl) (pc' := 9) rfl (i := 2) rfl (Nat.le_of_ble_eq_true rfl) rfl ?_
  refine g_aload_n ok (dk m_Mo_follow 7 rfl) (pc' := 10) rfl (i := 0) rfl rfl ?_
  refine g_get ok (dk m_Mo_follow 8 rfl) (pc' := 13) rfl f_Mo_50 H.1 rfl ?_
  refine g_iload_n ok (dk m_Mo_follow 9 rfl) (pc' := 14) rfl (i := 2) rfl rfl ?_
  refine g_ialdI ok (dk m_Mo_follow 10 rfl) (pc' := 15) rfl (j := (a + 1)) (H.ar 17 rfl) rfl (show (a + 1) < 60 by omega) (by decide) ?_
  refine g_aload_n ok (dk m_Mo_follow 11 rfl) (pc' := 16) rfl (i := 0) rfl rfl ?_
  refine g_get ok (dk m_Mo_follow 12 rfl) (pc' := 19) rfl f_Mo_83 H.1 rfl ?_
  refine g_iload_n ok (dk m_Mo_follow 13 rfl) (pc' := 20) rfl (i := 1) rfl rfl ?_
  refine g_ialdI ok (dk m_Mo_follow 14 rfl) (pc' := 21) rfl (j := mm) (H.ar 28 rfl) rfl (show mm < 16 by omega) (by decide) ?_
  rw [hl]
  refine g_ishr ok (dk m_Mo_follow 15 rfl) (pc' := 22) rfl ?_
  refine g_iconst ok (dk m_Mo_follow 16 rfl) (pc' := 23) rfl (v := 1) (by decide) ?_
  refine g_iand ok (dk m_Mo_follow 17 rfl) (pc' := 24) rfl ?_
  refine g_iconst ok (dk m_Mo_follow 18 rfl) (pc' := 25) rfl (v := 1) (by decide) ?_
  refine g_icmp_ne ok (dk m_Mo_follow 19 rfl) (tgt := 34) (by decide) (pc' := 28) rfl (fun c_25 => ?_) (fun c_25 => ?_)
  · refine g_aload_n ok (dk m_Mo_follow 24 rfl) (pc' := 35) rfl (i := 0) rfl rfl ?_
    refine g_iload_n ok (dk m_Mo_follow 25 rfl) (pc' := 36) rfl (i := 1) rfl rfl ?_
    refine g_callV ok (dk m_Mo_follow 26 rfl) (pc' := 39) rfl c_Mo_281 (c_Mo_gather g (mm := mm) (p := p) (u := u) 1 (by omega) hm hp hp2 hu hu2 hA H) H.1 rfl rfl (by simp [Value.category]) (by omega) rfl (rc' := 0) (rs' := 0) (by omega) (by omega) (fun rv h' hcc => ?_) (fun i h' hcc => by obtain ⟨e9, -⟩ := hcc; cases e9)
    obtain ⟨e9, X2, H2, hl2x, f2⟩ := hcc
    cases e9
    refine g_aload_n ok (dk m_Mo_follow 27 rfl) (pc' := 40) rfl (i := 0) rfl rfl ?_
    refine g_get ok (dk m_Mo_follow 28 rfl) (pc' := 43) rfl f_Mo_53 H2.1 rfl ?_
    refine g_iload_n ok (dk m_Mo_follow 29 rfl) (pc' := 44) rfl (i := 2) rfl rfl ?_
    refine g_ialdI ok (dk m_Mo_follow 30 rfl) (pc' := 45) rfl (j := (a + 1)) (H2.ar 18 rfl) rfl (show (a + 1) < 60 by omega) (by decide) ?_
    refine g_top (w := .int (X.2 18 (a + 1))) (congrArg Value.int (congrFun (f2 18 (by decide)).2 (a + 1))) ?_
    refine g_aload_n ok (dk m_Mo_follow 31 rfl) (pc' := 46) rfl (i := 0) rfl rfl ?_
    refine g_get ok (dk m_Mo_follow 32 rfl) (pc' := 49) rfl f_Mo_83 H2.1 rfl ?_
    refine g_iload_n ok (dk m_Mo_follow 33 rfl) (pc' := 50) rfl (i := 1) rfl rfl ?_
    refine g_ialdI ok (dk m_Mo_follow 34 rfl) (pc' := 51) rfl (j := mm) (H2.ar 28 rfl) rfl (show mm < 16 by omega) (by decide) ?_
    refine g_top (w := .int (nI l)) (congrArg Value.int ((congrFun (f2 28 (by decide)).2 mm).trans hl)) ?_
    refine g_ishr ok (dk m_Mo_follow 35 rfl) (pc' := 52) rfl ?_
    refine g_iconst ok (dk m_Mo_follow 36 rfl) (pc' := 53) rfl (v := 1) (by decide) ?_
    refine g_iand ok (dk m_Mo_follow 37 rfl) (pc' := 54) rfl ?_
    refine g_iconst ok (dk m_Mo_follow 38 rfl) (pc' := 55) rfl (v := 1) (by decide) ?_
    refine g_icmp_ne ok (dk m_Mo_follow 39 rfl) (tgt := 80) (by decide) (pc' := 58) rfl (fun c_55 => ?_) (fun c_55 => ?_)
    · exact mid _ X2 _ _ _ H2 f2 (by rw [fo_L, if_neg c_55]; exact hl2x) c_25
    · refine g_aload_n ok (dk m_Mo_follow 40 rfl) (pc' := 59) rfl (i := 0) rfl rfl ?_
      refine g_aload_n ok (dk m_Mo_follow 41 rfl) (pc' := 60) rfl (i := 0) rfl rfl ?_
      refine g_get ok (dk m_Mo_follow 42 rfl) (pc' := 63) rfl f_Mo_65 H2.1 rfl ?_
      refine g_bipush ok (dk m_Mo_follow 43 rfl) (pc' := 65) rfl (v := 31) (by decide) ?_
      refine g_iload_n ok (dk m_Mo_follow 44 rfl) (pc' := 66) rfl (i := 2) rfl rfl ?_
      refine g_imul ok (dk m_Mo_follow 45 rfl) (pc' := 67) rfl ?_
      refine g_iconst ok (dk m_Mo_follow 46 rfl) (pc' := 68) rfl (v := 2) (by decide) ?_
      refine g_aload_n ok (dk m_Mo_follow 47 rfl) (pc' := 69) rfl (i := 0) rfl rfl ?_
      refine g_get ok (dk m_Mo_follow 48 rfl) (pc' := 72) rfl f_Mo_83 H2.1 rfl ?_
      refine g_iload_n ok (dk m_Mo_follow 49 rfl) (pc' := 73) rfl (i := 1) rfl rfl ?_
      refine g_ialdI ok (dk m_Mo_follow 50 rfl) (pc' := 74) rfl (j := mm) (H2.ar 28 rfl) rfl (show mm < 16 by omega) (by decide) ?_
      refine g_top (w := .int (nI l)) (congrArg Value.int ((congrFun (f2 28 (by decide)).2 mm).trans hl)) ?_
      refine g_imul ok (dk m_Mo_follow 51 rfl) (pc' := 75) rfl ?_
      refine g_iadd ok (dk m_Mo_follow 52 rfl) (pc' := 76) rfl ?_
      refine g_ialdI ok (dk m_Mo_follow 53 rfl) (pc' := 77) rfl (j := 31 * (a + 1) + 2 * l) (H2.ar 22 rfl) (by rw [ix2, ix31]) (show 31 * (a + 1) + 2 * l < 1860 by omega) (by decide) ?_
      refine g_top (w := .int (X.2 22 (31 * (a + 1) + 2 * l))) (congrArg Value.int (congrFun (f2 22 (by decide)).2 _)) ?_
      refine g_callV ok (dk m_Mo_follow 54 rfl) (pc' := 80) rfl c_Mo_186 (c_Mo_holdL g (X.2 22 (31 * (a + 1) + 2 * l)) 0 hl2x (by omega) H2) H2.1 rfl rfl (by simp [Value.category]) (by omega) rfl (rc' := 0) (rs' := 0) (by omega) (by omega) (fun rv h' hcc => ?_) (fun i h' hcc => by obtain ⟨e9, -⟩ := hcc; cases e9)
      obtain ⟨e9, X3, H3, hl3, f3⟩ := hcc
      cases e9
      exact mid _ X3 _ _ _ H3 (f2.tr f3) (by rw [fo_L, if_pos c_55]; exact hl3) c_25
  · refine g_aload_n ok (dk m_Mo_follow 20 rfl) (pc' := 29) rfl (i := 0) rfl rfl ?_
    refine g_iload_n ok (dk m_Mo_follow 21 rfl) (pc' := 30) rfl (i := 1) rfl rfl ?_
    refine g_callV ok (dk m_Mo_follow 22 rfl) (pc' := 33) rfl c_Mo_147 (c_Mo_leave g (mm := mm) 0 hm H) H.1 rfl rfl (by simp [Value.category]) (by omega) rfl (rc' := 0) (rs' := 0) (by omega) (by omega) (fun rv h' hcc => ?_) (fun i h' hcc => by obtain ⟨e9, -⟩ := hcc; cases e9)
    obtain ⟨e9, Y1⟩ := hcc
    cases e9
    exact g_vret ok (dk m_Mo_follow 23 rfl) rfl ⟨rfl, _, Y1, by rw [fo, if_pos c_25]; exact xfr.rf⟩
