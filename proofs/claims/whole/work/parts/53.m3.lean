/-! ===== the reference: what a member holds ===== -/
def xfr (K : List Nat) (X X' : x_T) : Prop := ∀ k, k ∉ K → X'.1 k = X.1 k ∧ X'.2 k = X.2 k
theorem xfr.rf {K : List Nat} {X : x_T} : xfr K X X := fun _ _ => ⟨rfl, rfl⟩
theorem xfr.tr {K : List Nat} {X Y W : x_T} (a : xfr K X Y) (b : xfr K Y W) : xfr K X W := fun k hk => ⟨(b k hk).1.trans (a k hk).1, (b k hk).2.trans (a k hk).2⟩
theorem xfr.wk {K K' : List Nat} {X Y : x_T} (a : xfr K X Y) (h : ∀ k, k ∈ K → k ∈ K') : xfr K' X Y := fun k hk => a k (fun z => hk (h k z))
theorem xfr.xs {K : List Nat} {X Y : x_T} (a : xfr K X Y) (k j : Nat) (v : Int32) (hk : k ∈ K) : xfr K X (xs Y k j v) := fun i hi => ⟨(a i hi).1, (if_neg (fun z => hi (by rw [z]; exact hk))).trans (a i hi).2⟩
theorem xfr.xi {K : List Nat} {X Y : x_T} (a : xfr K X Y) (k : Nat) (v : Int32) (hk : k ∈ K) : xfr K X (xi Y k v) := fun i hi => ⟨(if_neg (fun z => hi (by rw [z]; exact hk))).trans (a i hi).1, (a i hi).2⟩
theorem xs_s (X : x_T) (k j : Nat) (v : Int32) : (xs X k j v).2 k j = v := by
  show va_up X.2 k (upd (X.2 k) j v) k j = v
  rw [show va_up X.2 k (upd (X.2 k) j v) k = upd (X.2 k) j v from if_pos rfl]
  exact if_pos rfl
theorem xs_j {X : x_T} {k j i : Nat} {v : Int32} (h : i ≠ j) : (xs X k j v).2 k i = X.2 k i := by
  show va_up X.2 k (upd (X.2 k) j v) k i = _
  rw [show va_up X.2 k (upd (X.2 k) j v) k = upd (X.2 k) j v from if_pos rfl]
  exact if_neg h
theorem xs_k {X : x_T} {k j i : Nat} {v : Int32} (h : i ≠ k) : (xs X k j v).2 i = X.2 i := if_neg h
def ins (L : List Int32) (x : Int32) : List Int32 := if x ∈ L then L else L ++ [x]
theorem ins_len (L : List Int32) (x : Int32) : (ins L x).length ≤ L.length + 1 := by
  unfold ins
  split
  · omega
  · rw [List.length_append]
    exact Nat.le_refl _
def q_HL (X : x_T) (L : List Int32) : Prop := X.1 46 = nI L.length ∧ ∀ i, i < L.length → L[i]? = some (X.2 47 i)
theorem q_HL.mem {X : x_T} {L : List Int32} (h : q_HL X L) (x : Int32) : (∃ k, k < L.length ∧ X.2 47 k = x) ↔ x ∈ L := by
  constructor
  · rintro ⟨k, hk, e⟩
    have q := h.2 k hk
    rw [e] at q
    exact List.mem_of_getElem? q
  · intro hx
    obtain ⟨k, hk⟩ := List.mem_iff_getElem?.mp hx
    have hl : k < L.length := by
      rcases Nat.lt_or_ge k L.length with z | z
      · exact z
      · rw [List.getElem?_eq_none z] at hk
        cases hk
    refine ⟨k, hl, ?_⟩
    have q := h.2 k hl
    rw [hk] at q
    exact (Option.some.inj q).symm
theorem q_HL.add {X : x_T} {L : List Int32} (h : q_HL X L) (x : Int32) : q_HL (mo_hd X L.length x) (ins L x) ∧ xfr [46, 47] X (mo_hd X L.length x) := by
  unfold mo_hd
  split
  · rename_i hx
    rw [show ins L x = L from if_pos ((h.mem x).mp hx)]
    exact ⟨h, xfr.rf⟩
  · rename_i hx
    have hL : ins L x = L ++ [x] := if_neg (fun z => hx ((h.mem x).mpr z))
    rw [hL]
    refine ⟨⟨?_, fun i hi => ?_⟩, (xfr.rf.xs 47 _ _ (by decide)).xi 46 _ (by decide)⟩
    · rw [List.length_append]
      show upd X.1 46 (nI (L.length + 1)) 46 = nI (L.length + 1)
      exact if_pos rfl
    · rw [List.length_append] at hi
      have hi2 : i < L.length + 1 := hi
      by_cases e : i = L.length
      · subst e
        rw [List.getElem?_append_right (Nat.le_refl _), Nat.sub_self]
        show some x = some ((xs X 47 L.length x).2 47 L.length)
        rw [xs_s]
      · rw [List.getElem?_append_left (by omega)]
        show _ = some ((xs X 47 L.length x).2 47 i)
        rw [xs_j e]
        exact h.2 i (by omega)
theorem c_Mo_holdL (g : q_G) {h : q_H} {o : Nat} {ba : Nat → Nat} {X : x_T} {L : List Int32} (x : Int32) (d : Nat) (hl : q_HL X L) (hn : L.length < 256) (H : q_mo h o ba X) : MG g y_Mo_hold b_Mo_hold 3 none d 0 0 [.ref o, .int x] h (fun q h' => q = .inl none ∧ ∃ X', q_mo h' o ba X' ∧ q_HL X' (ins L x) ∧ xfr [46, 47] X X') :=
  (c_Mo_hold g x d hl.1 hn H).mono (fun q h' z => ⟨z.1, _, z.2, hl.add x⟩)
noncomputable def gt_1 (X : x_T) (mm : Nat) : List Int32 := if X.2 32 mm = 0 then [] else ins [] (X.2 14 (ix (X.2 27 mm)))
noncomputable def gt_2 (X : x_T) (mm : Nat) (L : List Int32) : List Int32 := if X.2 29 mm = -1 then L else ins L (X.2 29 mm)
noncomputable def gt_3 (X : x_T) (mm : Nat) : Nat → Nat → List Int32 → List Int32
  | 0, _, L => L
  | m + 1, k, L => gt_3 X mm m (k + 1) (if X.2 33 (31 * mm + k) = -1 then L else ins L (X.2 33 (31 * mm + k)))
noncomputable def gt_4 (X : x_T) (mm : Nat) : Nat → Nat → List Int32 → List Int32
  | 0, _, L => L
  | m + 1, k, L => gt_4 X mm m (k + 1) (ins L (X.2 34 (20 * mm + k)))
noncomputable def gt_5 (X : x_T) (mm : Nat) : Nat → Nat → List Int32 → List Int32
  | 0, _, L => L
  | m + 1, k, L => gt_5 X mm m (k + 1) (if X.2 36 k = nI mm ∧ X.2 41 k = 0 then ins (ins L (X.2 37 k)) (X.2 38 k) else L)
noncomputable def gat (X : x_T) (mm : Nat) : List Int32 := gt_5 X mm (ix (X.1 35)) 0 (gt_4 X mm (ix (X.2 31 mm)) 0 (gt_3 X mm 31 0 (gt_2 X mm (gt_1 X mm))))
set_option maxHeartbeats 1000000 in
theorem c_Mo_gather (g : q_G) {h : q_H} {o : Nat} {ba : Nat → Nat} {X : x_T} {mm p u : Nat} (d : Nat) (hd : 1 ≤ d) (hm : mm < 16) (hp : X.1 35 = nI p) (hp2 : p ≤ 60) (hu : X.2 31 mm = nI u) (hu2 : u ≤ 20) (hA : ¬ X.2 32 mm = 0 → ∃ a, a < 60 ∧ X.2 27 mm = nI a) (H : q_mo h o ba X) : MG g y_Mo_gather b_Mo_gather 3 none d 0 0 [.ref o, .int (nI mm)] h (fun q h' => q = .inl none ∧ ∃ X', q_mo h' o ba X' ∧ q_HL X' (gat X mm) ∧ xfr [46, 47] X X') := by
  refine MG.of (by decide +kernel) (by simp [Value.category]) (Nat.le_of_ble_eq_true rfl) ?_
  intro Z A ok
  have loop5 : ∀ (m k : Nat), k + m = p → ∀ (h1 : q_H) (X1 : x_T) (L : List Int32), q_mo h1 o ba X1 → xfr [46, 47] X X1 → q_HL X1 L → L.length ≤ 53 + 2 * k → gt_5 X mm m k L = gat X mm → GW g Z A (fun q h' => q = .inl none ∧ ∃ X', q_mo h' o ba X' ∧ q_HL X' (gat X mm) ∧ xfr [46, 47] X X') 0 0 h1 128 [some (.ref o), some (.int (nI mm)), some (.int (nI k))] [] := by
    intro m
    induction m with
    | zero =>
      intro k hk h1 X1 L H1 f1 hl hb hv
      have e35 : X1.1 35 = X.1 35 := (f1 35 (by decide)).1
      have e36 : X1.2 36 = X.2 36 := (f1 36 (by decide)).2
      have e41 : X1.2 41 = X.2 41 := (f1 41 (by decide)).2
      have e37 : X1.2 37 = X.2 37 := (f1 37 (by decide)).2
      refine g_iload_n ok (dk m_Mo_gather 78 rfl) (pc' := 129) rfl (i := 2) rfl rfl ?_
      refine g_aload_n ok (dk m_Mo_gather 79 rfl) (pc' := 130) rfl (i := 0) rfl rfl ?_
      refine g_get ok (dk m_Mo_gather 80 rfl) (pc' := 133) rfl f_Mo_189 H1.1 rfl ?_
      refine g_top (w := .int (nI p)) (congrArg Value.int (e35.trans hp)) ?_
      refine g_icmp_ge ok (dk m_Mo_gather 81 rfl) (tgt := 184) (by decide) (pc' := 136) rfl (fun c_133 => ?_) (fun c_133 => absurd (nI_le (a := p) (b := k) (by omega) (by omega)) c_133)
      exact g_vret ok (dk m_Mo_gather 108 rfl) rfl ⟨rfl, X1, H1, by rw [← hv]; exact hl, f1⟩
    | succ m ih =>
      intro k hk h1 X1 L H1 f1 hl hb hv
      have e35 : X1.1 35 = X.1 35 := (f1 35 (by decide)).1
      have e36 : X1.2 36 = X.2 36 := (f1 36 (by decide)).2
      have e41 : X1.2 41 = X.2 41 := (f1 41 (by decide)).2
      have e37 : X1.2 37 = X.2 37 := (f1 37 (by decide)).2
      refine g_iload_n ok (dk m_Mo_gather 78 rfl) (pc' := 129) rfl (i := 2) rfl rfl ?_
      refine g_aload_n ok (dk m_Mo_gather 79 rfl) (pc' := 130) rfl (i := 0) rfl rfl ?_
      refine g_get ok (dk m_Mo_gather 80 rfl) (pc' := 133) rfl f_Mo_189 H1.1 rfl ?_
      refine g_top (w := .int (nI p)) (congrArg Value.int (e35.trans hp)) ?_
      refine g_icmp_ge ok (dk m_Mo_gather 81 rfl) (tgt := 184) (by decide) (pc' := 136) rfl (fun c_133 => absurd c_133 (nI_ge (show k < p by omega) (by omega))) (fun c_133 => ?_)
      refine g_aload_n ok (dk m_Mo_gather 82 rfl) (pc' := 137) rfl (i := 0) rfl rfl ?_
      refine g_get ok (dk m_Mo_gather 83 rfl) (pc' := 140) rfl f_Mo_104 H1.1 rfl ?_
      refine g_iload_n ok (dk m_Mo_gather 84 rfl) (pc' := 141) rfl (i := 2) rfl rfl ?_
      refine g_ialdI ok (dk m_Mo_gather 85 rfl) (pc' := 142) rfl (j := k) (H1.ar 36 rfl) rfl (show k < 60 by omega) (by decide) ?_
      rw [e36]
      refine g_iload_n ok (dk m_Mo_gather 86 rfl) (pc' := 143) rfl (i := 1) rfl rfl ?_
      refine g_icmp_ne ok (dk m_Mo_gather 87 rfl) (tgt := 178) (by decide) (pc' := 146) rfl (fun c_143 => ?_) (fun c_143 => ?_)
      · refine g_iinc ok (dk m_Mo_gather 106 rfl) (pc' := 181) rfl rfl (nI_1 k) rfl ?_
        refine g_goto ok (dk m_Mo_gather 107 rfl) (pc' := 128) (by decide) ?_
        exact ih (k + 1) (by omega) _ _ L H1 f1 hl (by omega) (by rw [← hv, gt_5, if_neg (fun z => c_143 z.1)])
      · refine g_aload_n ok (dk m_Mo_gather 88 rfl) (pc' := 147) rfl (i := 0) rfl rfl ?_
        refine g_get ok (dk m_Mo_gather 89 rfl) (pc' := 150) rfl f_Mo_119 H1.1 rfl ?_
        refine g_iload_n ok (dk m_Mo_gather 90 rfl) (pc' := 151) rfl (i := 2) rfl rfl ?_
        refine g_zaldI ok (dk m_Mo_gather 91 rfl) (pc' := 152) rfl (j := k) (H1.ar 41 rfl) rfl (show k < 60 by omega) (by decide) ?_
        rw [e41]
        refine g_if_eq ok (dk m_Mo_gather 92 rfl) (tgt := 158) (by decide) (pc' := 155) rfl (fun c_152 => ?_) (fun c_152 => ?_)
        · refine g_aload_n ok (dk m_Mo_gather 94 rfl) (pc' := 159) rfl (i := 0) rfl rfl ?_
          refine g_aload_n ok (dk m_Mo_gather 95 rfl) (pc' := 160) rfl (i := 0) rfl rfl ?_
          refine g_get ok (dk m_Mo_gather 96 rfl) (pc' := 163) rfl f_Mo_107 H1.1 rfl ?_
          refine g_iload_n ok (dk m_Mo_gather 97 rfl) (pc' := 164) rfl (i := 2) rfl rfl ?_
          refine g_ialdI ok (dk m_Mo_gather 98 rfl) (pc' := 165) rfl (j := k) (H1.ar 37 rfl) rfl (show k < 60 by omega) (by decide) ?_
          rw [e37]
          refine g_callV ok (dk m_Mo_gather 99 rfl) (pc' := 168) rfl c_Mo_186 (c_Mo_holdL g (X.2 37 k) 0 hl (by omega) H1) H1.1 rfl rfl (by simp [Value.category]) (by omega) rfl (rc' := 0) (rs' := 0) (by omega) (by omega) (fun rv h' hcc => ?_) (fun i h' hcc => by obtain ⟨e9, -⟩ := hcc; cases e9)
          obtain ⟨e9, X2, H2, hl2, f2⟩ := hcc
          cases e9
          have f1 := f1.tr f2
          refine g_aload_n ok (dk m_Mo_gather 100 rfl) (pc' := 169) rfl (i := 0) rfl rfl ?_
          refine g_aload_n ok (dk m_Mo_gather 101 rfl) (pc' := 170) rfl (i := 0) rfl rfl ?_
          refine g_get ok (dk m_Mo_gather 102 rfl) (pc' := 173) rfl f_Mo_110 H2.1 rfl ?_
          refine g_iload_n ok (dk m_Mo_gather 103 rfl) (pc' := 174) rfl (i := 2) rfl rfl ?_
          refine g_ialdI ok (dk m_Mo_gather 104 rfl) (pc' := 175) rfl (j := k) (H2.ar 38 rfl) rfl (show k < 60 by omega) (by decide) ?_
          refine g_top (w := .int (X.2 38 k)) (congrArg Value.int (congrFun (f1 38 (by decide)).2 k)) ?_
          refine g_callV ok (dk m_Mo_gather 105 rfl) (pc' := 178) rfl c_Mo_186 (c_Mo_holdL g (X.2 38 k) 0 hl2 (by have := ins_len L (X.2 37 k); omega) H2) H2.1 rfl rfl (by simp [Value.category]) (by omega) rfl (rc' := 0) (rs' := 0) (by omega) (by omega) (fun rv h' hcc => ?_) (fun i h' hcc => by obtain ⟨e9, -⟩ := hcc; cases e9)
          obtain ⟨e9, X3, H3, hl3, f3⟩ := hcc
          cases e9
          have f1 := f1.tr f3
          refine g_iinc ok (dk m_Mo_gather 106 rfl) (pc' := 181) rfl rfl (nI_1 k) rfl ?_
          refine g_goto ok (dk m_Mo_gather 107 rfl) (pc' := 128) (by decide) ?_
          exact ih (k + 1) (by omega) _ _ _ H3 f1 hl3 (by have := ins_len L (X.2 37 k); have := ins_len (ins L (X.2 37 k)) (X.2 38 k); omega) (by rw [← hv, gt_5, if_pos ⟨c_143, c_152⟩])
        · refine g_goto ok (dk m_Mo_gather 93 rfl) (pc' := 178) (by decide) ?_
          refine g_iinc ok (dk m_Mo_gather 106 rfl) (pc' := 181) rfl rfl (nI_1 k) rfl ?_
          refine g_goto ok (dk m_Mo_gather 107 rfl) (pc' := 128) (by decide) ?_
          exact ih (k + 1) (by omega) _ _ L H1 f1 hl (by omega) (by rw [← hv, gt_5, if_neg (fun z => c_152 z.2)])
  have loop4 : ∀ (m k : Nat), k + m = u → ∀ (h1 : q_H) (X1 : x_T) (L : List Int32), q_mo h1 o ba X1 → xfr [46, 47] X X1 → q_HL X1 L → L.length ≤ 33 + k → gt_5 X mm p 0 (gt_4 X mm m k L) = gat X mm → GW g Z A (fun q h' => q = .inl none ∧ ∃ X', q_mo h' o ba X' ∧ q_HL X' (gat X mm) ∧ xfr [46, 47] X X') 0 0 h1 95 [some (.ref o), some (.int (nI mm)), some (.int (nI k))] [] := by
    intro m
    induction m with
    | zero =>
      intro k hk h1 X1 L H1 f1 hl hb hv
      have e31 : X1.2 31 = X.2 31 := (f1 31 (by decide)).2
      have e34 : X1.2 34 = X.2 34 := (f1 34 (by decide)).2
      refine g_iload_n ok (dk m_Mo_gather 58 rfl) (pc' := 96) rfl (i := 2) rfl rfl ?_
      refine g_aload_n ok (dk m_Mo_gather 59 rfl) (pc' := 97) rfl (i := 0) rfl rfl ?_
      refine g_get ok (dk m_Mo_gather 60 rfl) (pc' := 100) rfl f_Mo_92 H1.1 rfl ?_
      refine g_iload_n ok (dk m_Mo_gather 61 rfl) (pc' := 101) rfl (i := 1) rfl rfl ?_
      refine g_ialdI ok (dk m_Mo_gather 62 rfl) (pc' := 102) rfl (j := mm) (H1.ar 31 rfl) rfl (show mm < 16 by omega) (by decide) ?_
      refine g_top (w := .int (nI u)) (congrArg Value.int ((congrFun e31 mm).trans hu)) ?_
      refine g_icmp_ge ok (dk m_Mo_gather 63 rfl) (tgt := 126) (by decide) (pc' := 105) rfl (fun c_102 => ?_) (fun c_102 => absurd (nI_le (a := u) (b := k) (by omega) (by omega)) c_102)
      refine g_iconst ok (dk m_Mo_gather 76 rfl) (pc' := 127) rfl (v := 0) (by decide) ?_
      refine g_istore_n ok (dk m_Mo_gather 77 rfl) (pc' := 128) rfl (i := 2) rfl (Nat.le_of_ble_eq_true rfl) rfl ?_
      exact loop5 p 0 (by omega) _ _ L H1 f1 hl (by omega) hv
    | succ m ih =>
      intro k hk h1 X1 L H1 f1 hl hb hv
      have e31 : X1.2 31 = X.2 31 := (f1 31 (by decide)).2
      have e34 : X1.2 34 = X.2 34 := (f1 34 (by decide)).2
      refine g_iload_n ok (dk m_Mo_gather 58 rfl) (pc' := 96) rfl (i := 2) rfl rfl ?_
      refine g_aload_n ok (dk m_Mo_gather 59 rfl) (pc' := 97) rfl (i := 0) rfl rfl ?_
      refine g_get ok (dk m_Mo_gather 60 rfl) (pc' := 100) rfl f_Mo_92 H1.1 rfl ?_
      refine g_iload_n ok (dk m_Mo_gather 61 rfl) (pc' := 101) rfl (i := 1) rfl rfl ?_
      refine g_ialdI ok (dk m_Mo_gather 62 rfl) (pc' := 102) rfl (j := mm) (H1.ar 31 rfl) rfl (show mm < 16 by omega) (by decide) ?_
      refine g_top (w := .int (nI u)) (congrArg Value.int ((congrFun e31 mm).trans hu)) ?_
      refine g_icmp_ge ok (dk m_Mo_gather 63 rfl) (tgt := 126) (by decide) (pc' := 105) rfl (fun c_102 => absurd c_102 (nI_ge (show k < u by omega) (by omega))) (fun c_102 => ?_)
      refine g_aload_n ok (dk m_Mo_gather 64 rfl) (pc' := 106) rfl (i := 0) rfl rfl ?_
      refine g_aload_n ok (dk m_Mo_gather 65 rfl) (pc' := 107) rfl (i := 0) rfl rfl ?_
      refine g_get ok (dk m_Mo_gather 66 rfl) (pc' := 110) rfl f_Mo_101 H1.1 rfl ?_
      refine g_bipush ok (dk m_Mo_gather 67 rfl) (pc' := 112) rfl (v := 20) (by decide) ?_
      refine g_iload_n ok (dk m_Mo_gather 68 rfl) (pc' := 113) rfl (i := 1) rfl rfl ?_
      refine g_imul ok (dk m_Mo_gather 69 rfl) (pc' := 114) rfl ?_
      refine g_iload_n ok (dk m_Mo_gather 70 rfl) (pc' := 115) rfl (i := 2) rfl rfl ?_
      refine g_iadd ok (dk m_Mo_gather 71 rfl) (pc' := 116) rfl ?_
      refine g_ialdI ok (dk m_Mo_gather 72 rfl) (pc' := 117) rfl (j := 20 * mm + k) (H1.ar 34 rfl) (ix20 mm k) (show 20 * mm + k < 320 by omega) (by decide) ?_
      rw [e34]
      refine g_callV ok (dk m_Mo_gather 73 rfl) (pc' := 120) rfl c_Mo_186 (c_Mo_holdL g (X.2 34 (20 * mm + k)) 0 hl (by omega) H1) H1.1 rfl rfl (by simp [Value.category]) (by omega) rfl (rc' := 0) (rs' := 0) (by omega) (by omega) (fun rv h' hcc => ?_) (fun i h' hcc => by obtain ⟨e9, -⟩ := hcc; cases e9)
      obtain ⟨e9, X2, H2, hl2, f2⟩ := hcc
      cases e9
      have f1 := f1.tr f2
      refine g_iinc ok (dk m_Mo_gather 74 rfl) (pc' := 123) rfl rfl (nI_1 k) rfl ?_
      refine g_goto ok (dk m_Mo_gather 75 rfl) (pc' := 95) (by decide) ?_
      exact ih (k + 1) (by omega) _ _ _ H2 f1 hl2 (by have := ins_len L (X.2 34 (20 * mm + k)); omega) (by rw [← hv]; rfl)
  have loop3 : ∀ (m k : Nat), k + m = 31 → ∀ (h1 : q_H) (X1 : x_T) (L : List Int32), q_mo h1 o ba X1 → xfr [46, 47] X X1 → q_HL X1 L → L.length ≤ 2 + k → gt_5 X mm p 0 (gt_4 X mm u 0 (gt_3 X mm m k L)) = gat X mm → GW g Z A (fun q h' => q = .inl none ∧ ∃ X', q_mo h' o ba X' ∧ q_HL X' (gat X mm) ∧ xfr [46, 47] X X') 0 0 h1 51 [some (.ref o), some (.int (nI mm)), some (.int (nI k))] [] := by
    intro m
    induction m with
    | zero =>
      intro k hk h1 X1 L H1 f1 hl hb hv
      have e33 : X1.2 33 = X.2 33 := (f1 33 (by decide)).2
      refine g_iload_n ok (dk m_Mo_gather 31 rfl) (pc' := 52) rfl (i := 2) rfl rfl ?_
      refine g_bipush ok (dk m_Mo_gather 32 rfl) (pc' := 54) rfl (v := 31) (by decide) ?_
      refine g_icmp_ge ok (dk m_Mo_gather 33 rfl) (tgt := 93) (by decide) (pc' := 57) rfl (fun c_54 => ?_) (fun c_54 => absurd (show nI 31 ≤ nI k from by rw [show k = 31 by omega]; exact Int32.le_refl _) c_54)
      refine g_iconst ok (dk m_Mo_gather 56 rfl) (pc' := 94) rfl (v := 0) (by decide) ?_
      refine g_istore_n ok (dk m_Mo_gather 57 rfl) (pc' := 95) rfl (i := 2) rfl (Nat.le_of_ble_eq_true rfl) rfl ?_
      exact loop4 u 0 (by omega) _ _ L H1 f1 hl (by omega) hv
    | succ m ih =>
      intro k hk h1 X1 L H1 f1 hl hb hv
      have e33 : X1.2 33 = X.2 33 := (f1 33 (by decide)).2
      refine g_iload_n ok (dk m_Mo_gather 31 rfl) (pc' := 52) rfl (i := 2) rfl rfl ?_
      refine g_bipush ok (dk m_Mo_gather 32 rfl) (pc' := 54) rfl (v := 31) (by decide) ?_
      refine g_icmp_ge ok (dk m_Mo_gather 33 rfl) (tgt := 93) (by decide) (pc' := 57) rfl (fun c_54 => absurd c_54 (show ¬ nI 31 ≤ nI k from nI_ge (by omega) (by decide))) (fun c_54 => ?_)
      refine g_aload_n ok (dk m_Mo_gather 34 rfl) (pc' := 58) rfl (i := 0) rfl rfl ?_
      refine g_get ok (dk m_Mo_gather 35 rfl) (pc' := 61) rfl f_Mo_98 H1.1 rfl ?_
      refine g_bipush ok (dk m_Mo_gather 36 rfl) (pc' := 63) rfl (v := 31) (by decide) ?_
      refine g_iload_n ok (dk m_Mo_gather 37 rfl) (pc' := 64) rfl (i := 1) rfl rfl ?_
      refine g_imul ok (dk m_Mo_gather 38 rfl) (pc' := 65) rfl ?_
      refine g_iload_n ok (dk m_Mo_gather 39 rfl) (pc' := 66) rfl (i := 2) rfl rfl ?_
      refine g_iadd ok (dk m_Mo_gather 40 rfl) (pc' := 67) rfl ?_
      refine g_ialdI ok (dk m_Mo_gather 41 rfl) (pc' := 68) rfl (j := 31 * mm + k) (H1.ar 33 rfl) (ix31 mm k) (show 31 * mm + k < 496 by omega) (by decide) ?_
      rw [e33]
      refine g_iconst ok (dk m_Mo_gather 42 rfl) (pc' := 69) rfl (v := (-1)) (by decide) ?_
      refine g_icmp_eq ok (dk m_Mo_gather 43 rfl) (tgt := 87) (by decide) (pc' := 72) rfl (fun c_69 => ?_) (fun c_69 => ?_)
      · refine g_iinc ok (dk m_Mo_gather 54 rfl) (pc' := 90) rfl rfl (nI_1 k) rfl ?_
        refine g_goto ok (dk m_Mo_gather 55 rfl) (pc' := 51) (by decide) ?_
        exact ih (k + 1) (by omega) _ _ L H1 f1 hl (by omega) (by rw [← hv, gt_3, if_pos c_69])
      · refine g_aload_n ok (dk m_Mo_gather 44 rfl) (pc' := 73) rfl (i := 0) rfl rfl ?_
        refine g_aload_n ok (dk m_Mo_gather 45 rfl) (pc' := 74) rfl (i := 0) rfl rfl ?_
        refine g_get ok (dk m_Mo_gather 46 rfl) (pc' := 77) rfl f_Mo_98 H1.1 rfl ?_
        refine g_bipush ok (dk m_Mo_gather 47 rfl) (pc' := 79) rfl (v := 31) (by decide) ?_
        refine g_iload_n ok (dk m_Mo_gather 48 rfl) (pc' := 80) rfl (i := 1) rfl rfl ?_
        refine g_imul ok (dk m_Mo_gather 49 rfl) (pc' := 81) rfl ?_
        refine g_iload_n ok (dk m_Mo_gather 50 rfl) (pc' := 82) rfl (i := 2) rfl rfl ?_
        refine g_iadd ok (dk m_Mo_gather 51 rfl) (pc' := 83) rfl ?_
        refine g_ialdI ok (dk m_Mo_gather 52 rfl) (pc' := 84) rfl (j := 31 * mm + k) (H1.ar 33 rfl) (ix31 mm k) (show 31 * mm + k < 496 by omega) (by decide) ?_
        rw [e33]
        refine g_callV ok (dk m_Mo_gather 53 rfl) (pc' := 87) rfl c_Mo_186 (c_Mo_holdL g (X.2 33 (31 * mm + k)) 0 hl (by omega) H1) H1.1 rfl rfl (by simp [Value.category]) (by omega) rfl (rc' := 0) (rs' := 0) (by omega) (by omega) (fun rv h' hcc => ?_) (fun i h' hcc => by obtain ⟨e9, -⟩ := hcc; cases e9)
        obtain ⟨e9, X2, H2, hl2, f2⟩ := hcc
        cases e9
        have f1 := f1.tr f2
        refine g_iinc ok (dk m_Mo_gather 54 rfl) (pc' := 90) rfl rfl (nI_1 k) rfl ?_
        refine g_goto ok (dk m_Mo_gather 55 rfl) (pc' := 51) (by decide) ?_
        exact ih (k + 1) (by omega) _ _ _ H2 f1 hl2 (by have := ins_len L (X.2 33 (31 * mm + k)); omega) (by rw [← hv, gt_3, if_neg c_69])
  have step2 : ∀ (h1 : q_H) (X1 : x_T) (L : List Int32), q_mo h1 o ba X1 → xfr [46, 47] X X1 → q_HL X1 L → L.length ≤ 1 → gt_5 X mm p 0 (gt_4 X mm u 0 (gt_3 X mm 31 0 (gt_2 X mm L))) = gat X mm → GW g Z A (fun q h' => q = .inl none ∧ ∃ X', q_mo h' o ba X' ∧ q_HL X' (gat X mm) ∧ xfr [46, 47] X X') 0 0 h1 29 [some (.ref o), some (.int (nI mm)), none] [] := by
    intro h1 X1 L H1 f1 hl hb hv
    have e29 : X1.2 29 = X.2 29 := (f1 29 (by decide)).2
    refine g_aload_n ok (dk m_Mo_gather 17 rfl) (pc' := 30) rfl (i := 0) rfl rfl ?_
    refine g_get ok (dk m_Mo_gather 18 rfl) (pc' := 33) rfl f_Mo_86 H1.1 rfl ?_
    refine g_iload_n ok (dk m_Mo_gather 19 rfl) (pc' := 34) rfl (i := 1) rfl rfl ?_
    refine g_ialdI ok (dk m_Mo_gather 20 rfl) (pc' := 35) rfl (j := mm) (H1.ar 29 rfl) rfl (show mm < 16 by omega) (by decide) ?_
    rw [e29]
    refine g_iconst ok (dk m_Mo_gather 21 rfl) (pc' := 36) rfl (v := (-1)) (by decide) ?_
    refine g_icmp_eq ok (dk m_Mo_gather 22 rfl) (tgt := 49) (by decide) (pc' := 39) rfl (fun c_36 => ?_) (fun c_36 => ?_)
    · refine g_iconst ok (dk m_Mo_gather 29 rfl) (pc' := 50) rfl (v := 0) (by decide) ?_
      refine g_istore_n ok (dk m_Mo_gather 30 rfl) (pc' := 51) rfl (i := 2) rfl (Nat.le_of_ble_eq_true rfl) rfl ?_
      exact loop3 31 0 (by omega) _ _ L H1 f1 hl (by omega) (by rw [← hv, gt_2, if_pos c_36])
    · refine g_aload_n ok (dk m_Mo_gather 23 rfl) (pc' := 40) rfl (i := 0) rfl rfl ?_
      refine g_aload_n ok (dk m_Mo_gather 24 rfl) (pc' := 41) rfl (i := 0) rfl rfl ?_
      refine g_get ok (dk m_Mo_gather 25 rfl) (pc' := 44) rfl f_Mo_86 H1.1 rfl ?_
      refine g_iload_n ok (dk m_Mo_gather 26 rfl) (pc' := 45) rfl (i := 1) rfl rfl ?_
      refine g_ialdI ok (dk m_Mo_gather 27 rfl) (pc' := 46) rfl (j := mm) (H1.ar 29 rfl) rfl (show mm < 16 by omega) (by decide) ?_
      rw [e29]
      refine g_callV ok (dk m_Mo_gather 28 rfl) (pc' := 49) rfl c_Mo_186 (c_Mo_holdL g (X.2 29 mm) 0 hl (by omega) H1) H1.1 rfl rfl (by simp [Value.category]) (by omega) rfl (rc' := 0) (rs' := 0) (by omega) (by omega) (fun rv h' hcc => ?_) (fun i h' hcc => by obtain ⟨e9, -⟩ := hcc; cases e9)
      obtain ⟨e9, X2, H2, hl2, f2⟩ := hcc
      cases e9
      have f1 := f1.tr f2
      refine g_iconst ok (dk m_Mo_gather 29 rfl) (pc' := 50) rfl (v := 0) (by decide) ?_
      refine g_istore_n ok (dk m_Mo_gather 30 rfl) (pc' := 51) rfl (i := 2) rfl (Nat.le_of_ble_eq_true rfl) rfl ?_
      exact loop3 31 0 (by omega) _ _ _ H2 f1 hl2 (by have := ins_len L (X.2 29 mm); omega) (by rw [← hv, gt_2, if_neg c_36])
  refine g_aload_n ok (dk m_Mo_gather 0 rfl) (pc' := 1) rfl (i := 0) rfl rfl ?_
  refine g_iconst ok (dk m_Mo_gather 1 rfl) (pc' := 2) rfl (v := 0) (by decide) ?_
  refine g_put ok (dk m_Mo_gather 2 rfl) (pc' := 5) rfl f_Mo_183 (Or.inl rfl) H.1 (Nat.le_of_ble_eq_true rfl) rfl rfl ?_
  refine g_gen (fun z1 e1 => ?_)
  have Y1 := H.ipt 46 (by decide) e1
  clear e1
  refine g_aload_n ok (dk m_Mo_gather 3 rfl) (pc' := 6) rfl (i := 0) rfl rfl ?_
  refine g_get ok (dk m_Mo_gather 4 rfl) (pc' := 9) rfl f_Mo_95 Y1.1 rfl ?_
  refine g_iload_n ok (dk m_Mo_gather 5 rfl) (pc' := 10) rfl (i := 1) rfl rfl ?_
  refine g_zaldI ok (dk m_Mo_gather 6 rfl) (pc' := 11) rfl (j := mm) (Y1.ar 32 rfl) rfl (show mm < 16 by omega) (by decide) ?_
  refine g_if_eq ok (dk m_Mo_gather 7 rfl) (tgt := 29) (by decide) (pc' := 14) rfl (fun c_11 => ?_) (fun c_11 => ?_)
  · exact step2 _ _ [] Y1 (xfr.rf.xi 46 0 (by decide)) ⟨rfl, fun i hi => absurd hi (Nat.not_lt_zero _)⟩ (Nat.zero_le _) (by rw [gat, gt_1, if_pos c_11, hp, hu, ix_nI (by omega), ix_nI (by omega)])
  · obtain ⟨a, ha, hat⟩ := hA c_11
    have hl : q_HL (xi X 46 0) [] := ⟨rfl, fun i hi => absurd hi (Nat.not_lt_zero _)⟩
    have f1 : xfr [46, 47] X (xi X 46 0) := xfr.rf.xi 46 0 (by decide)
    refine g_aload_n ok (dk m_Mo_gather 8 rfl) (pc' := 15) rfl (i := 0) rfl rfl ?_
    refine g_aload_n ok (dk m_Mo_gather 9 rfl) (pc' := 16) rfl (i := 0) rfl rfl ?_
    refine g_get ok (dk m_Mo_gather 10 rfl) (pc' := 19) rfl f_Mo_41 Y1.1 rfl ?_
    refine g_aload_n ok (dk m_Mo_gather 11 rfl) (pc' := 20) rfl (i := 0) rfl rfl ?_
    refine g_get ok (dk m_Mo_gather 12 rfl) (pc' := 23) rfl f_Mo_80 Y1.1 rfl ?_
    refine g_iload_n ok (dk m_Mo_gather 13 rfl) (pc' := 24) rfl (i := 1) rfl rfl ?_
    refine g_ialdI ok (dk m_Mo_gather 14 rfl) (pc' := 25) rfl (j := mm) (Y1.ar 27 rfl) rfl (show mm < 16 by omega) (by decide) ?_
    refine g_top (w := .int (nI a)) (congrArg Value.int hat) ?_
    refine g_ialdI ok (dk m_Mo_gather 15 rfl) (pc' := 26) rfl (j := a) (Y1.ar 14 rfl) rfl (show a < 60 by omega) (by decide) ?_
    refine g_callV ok (dk m_Mo_gather 16 rfl) (pc' := 29) rfl c_Mo_186 (c_Mo_holdL g (X.2 14 a) 0 hl (show (0 : Nat) < 256 by decide) Y1) Y1.1 rfl rfl (by simp [Value.category]) (by omega) rfl (rc' := 0) (rs' := 0) (by omega) (by omega) (fun rv h' hcc => ?_) (fun i h' hcc => by obtain ⟨e9, -⟩ := hcc; cases e9)
    obtain ⟨e9, X2, H2, hl2, f2⟩ := hcc
    cases e9
    have f1 := f1.tr f2
    exact step2 _ _ _ H2 f1 hl2 (ins_len [] (X.2 14 a)) (by rw [gat, gt_1, if_neg c_11, hp, hu, ix_nI (by omega), ix_nI (by omega), hat, ix_nI (by omega)])
