/-! ===== the reference: copyTree, findRemoves, findUpdates, doRemoves, doUpdates ===== -/
def cpF (f w : Nat → Int32) (b k : Nat) : Nat → Int32 := fun i => if b ≤ i ∧ i < b + k then w (i - b) else f i
theorem cpF_0 (f w : Nat → Int32) (b : Nat) : cpF f w b 0 = f := by
  funext i
  exact if_neg (fun z => by omega)
theorem cpF_s (f w : Nat → Int32) (b k : Nat) {x : Int32} (hx : x = w k) : upd (cpF f w b k) (b + k) x = cpF f w b (k + 1) := by
  funext i
  show (if i = b + k then x else cpF f w b k i) = if b ≤ i ∧ i < b + (k + 1) then w (i - b) else f i
  by_cases e : i = b + k
  · rw [if_pos e, if_pos (by omega), hx, show i - b = k by omega]
  · rw [if_neg e]
    show (if b ≤ i ∧ i < b + k then w (i - b) else f i) = _
    by_cases z : b ≤ i ∧ i < b + k
    · rw [if_pos z, if_pos (by omega)]
    · rw [if_neg z, if_neg (by omega)]
theorem cpF_i {f w : Nat → Int32} {b k v : Nat} (hv : v < k) : cpF f w b k (b + v) = w v := by
  show (if b ≤ b + v ∧ b + v < b + k then w (b + v - b) else f (b + v)) = w v
  rw [if_pos (by omega), show b + v - b = v by omega]
theorem cpF_o {f w : Nat → Int32} {b k i : Nat} (hi : i < b ∨ b + k ≤ i) : cpF f w b k i = f i := if_neg (by omega)
theorem upd_self (f : Nat → Int32) (i : Nat) : upd f i (f i) = f := by
  funext k
  show (if k = i then f i else f k) = f k
  by_cases e : k = i
  · rw [if_pos e, e]
  · rw [if_neg e]
theorem upd_upd (f : Nat → Int32) (i : Nat) (a b : Int32) : upd (upd f i a) i b = upd f i b := by
  funext k
  show (if k = i then b else (if k = i then a else f k)) = if k = i then b else f k
  by_cases e : k = i
  · rw [if_pos e, if_pos e]
  · rw [if_neg e, if_neg e, if_neg e]
theorem upd_s (f : Nat → Int32) (i : Nat) (a : Int32) : upd f i a i = a := if_pos rfl
theorem upd_n {f : Nat → Int32} {i k : Nat} {a : Int32} (h : k ≠ i) : upd f i a k = f k := if_neg h
def cp_k (X : x_T) (f D : Nat) : Nat → Int32 := fun v => if v < 2 ^ (D + 1) - 1 then X.2 22 (31 * f + v) else -1
def cp_u (X : x_T) (f D : Nat) : Nat → Int32 := fun v => if v < 2 ^ (D + 1) - 1 then X.2 23 (31 * f + v) else 0
def cp_s (X : x_T) (f : Nat) : Nat → Int32 := fun v => X.2 24 (31 * f + v)
def cp_o (X : x_T) (f : Nat) : Nat → Int32 := fun v => X.2 26 (16 * f + v)
def q_cp (X : x_T) (f t D k n : Nat) (X1 : x_T) : Prop := xfr [13, 22, 23, 24, 25, 26] X X1 ∧ X1.2 13 = upd (X.2 13) t (nI D) ∧ X1.2 22 = cpF (X.2 22) (cp_k X f D) (31 * t) k ∧ X1.2 23 = cpF (X.2 23) (cp_u X f D) (31 * t) k ∧ X1.2 24 = cpF (X.2 24) (cp_s X f) (31 * t) k ∧ X1.2 25 = cpF (X.2 25) (fun _ => -1) (31 * t) k ∧ X1.2 26 = cpF (X.2 26) (cp_o X f) (16 * t) n
noncomputable def fr_b (X : x_T) (e D : Nat) (mine : Int32) (k : Nat) : Prop := X.2 43 k = 1 ∧ X.2 45 k < nI (2 ^ D) ∧ ¬ X.2 22 (31 * e + 2 * ix (X.2 45 k)) = -1 ∧ ¬ X.2 45 k = mine
noncomputable def fr_m (X : x_T) (e D : Nat) (mine : Int32) : Nat → Nat → Int32 → Int32
  | 0, _, r => r
  | m + 1, k, r => by classical exact fr_m X e D mine m (k + 1) (if fr_b X e D mine k then r ||| ((1 : Int32) <<< (X.2 45 k &&& 31)) else r)
def fu_l (X : x_T) (k : Nat) : Int32 := X.2 28 (ix (X.2 44 k))
def fu_b (X : x_T) (e : Nat) (mine : Int32) (k : Nat) : Prop := X.2 43 k = 2 ∧ ¬ fu_l X k = mine ∧ ¬ (X.2 17 e >>> (fu_l X k &&& 31)) &&& 1 = 1
noncomputable def fu_m (X : x_T) (e : Nat) (mine : Int32) : Nat → Nat → Int32 × (Nat → Int32) → Int32 × (Nat → Int32)
  | 0, _, p => p
  | m + 1, k, p => by classical exact fu_m X e mine m (k + 1) (if fu_b X e mine k then (p.1 ||| ((1 : Int32) <<< (fu_l X k &&& 31)), upd p.2 (ix (fu_l X k)) (X.2 45 k)) else p)
def bit (b : Int32) (l : Nat) : Int32 := (b >>> (nI l &&& 31)) &&& 1
def dr_m (e D : Nat) (b : Int32) : Nat → Nat → x_T → x_T
  | 0, _, X => X
  | m + 1, l, X => dr_m e D b m (l + 1) (if bit b l = 0 then X else xs (mo_bp e l D 1 (mo_bl X e (2 * l))) 26 (16 * e + l) (-1))
def dr_v (e : Nat) : Nat → Nat → x_T → x_T
  | 0, _, X => X
  | m + 1, v, X => dr_v e m (v + 1) (mo_bl X e v)
def dr_r (X : x_T) (e D : Nat) : Prop := ∀ l, 2 ^ (D - 1) ≤ l → l < 2 ^ D → X.2 22 (31 * e + 2 * l) = -1
noncomputable def dr_s (e : Nat) : Nat → x_T → x_T
  | 0, X => X
  | D + 1, X => by classical exact if dr_r X e (D + 1) then dr_s e D (dr_v e (31 - (2 ^ (D + 1) - 1)) (2 ^ (D + 1) - 1) (xs X 13 e (nI D))) else X
def du_m (e D : Nat) (b : Int32) (nk : Nat → Int32) : Nat → Nat → x_T → x_T
  | 0, _, X => X
  | m + 1, l, X => du_m e D b nk m (l + 1) (if bit b l = 0 then X else mo_bp e l D 1 (mo_set X e (2 * l) (nk l)))
theorem mo_bp_13 (e l : Nat) : ∀ (m k : Nat) (X : x_T), (mo_bp e l m k X).2 13 = X.2 13 ∧ (mo_bp e l m k X).2 17 = X.2 17 ∧ (mo_bp e l m k X).2 18 = X.2 18 ∧ (mo_bp e l m k X).2 51 = X.2 51 := by
  intro m
  induction m with
  | zero => intro k X; exact ⟨rfl, rfl, rfl, rfl⟩
  | succ m ih => intro k X; exact ih (k + 1) (mo_bl X e (abv l k))
theorem dr_v_13 (e : Nat) : ∀ (m v : Nat) (X : x_T), (dr_v e m v X).2 13 = X.2 13 := by
  intro m
  induction m with
  | zero => intro k X; rfl
  | succ m ih => intro k X; exact ih (k + 1) (mo_bl X e k)
set_option maxHeartbeats 1000000 in
theorem c_Mo_copyTree (g : q_G) {h : q_H} {o : Nat} {ba : Nat → Nat} {X : x_T} {f t D : Nat} (d : Nat) (hd : 1 ≤ d) (hf : f < 60) (ht : t < 60) (hft : f ≠ t) (hD : X.2 13 f = nI D) (hD4 : D ≤ 4) (H : q_mo h o ba X) : MG g y_Mo_copyTree b_Mo_copyTree 4 none d 0 0 [.ref o, .int (nI f), .int (nI t)] h (fun q h' => q = .inl none ∧ ∃ X', q_mo h' o ba X' ∧ q_cp X f t D 31 16 X') := by
  refine MG.of (by decide +kernel) (by simp [Value.category]) (Nat.le_of_ble_eq_true rfl) ?_
  intro Z A ok
  have hDd : 2 ^ (D + 1) ≤ 32 := by
    rcases (show D = 0 ∨ D = 1 ∨ D = 2 ∨ D = 3 ∨ D = 4 by omega) with rfl | rfl | rfl | rfl | rfl <;> decide
  have loop2 : ∀ (m k : Nat), k + m = 16 → ∀ (h1 : q_H) (X1 : x_T), q_mo h1 o ba X1 → q_cp X f t D 31 k X1 → GW g Z A (fun q h' => q = .inl none ∧ ∃ X', q_mo h' o ba X' ∧ q_cp X f t D 31 16 X') 0 0 h1 132 [some (.ref o), some (.int (nI f)), some (.int (nI t)), some (.int (nI k))] [] := by
    intro m
    induction m with
    | zero =>
      intro k hk h1 X1 H1 hc
      refine g_iload_n ok (dk m_Mo_copyTree 88 rfl) (pc' := 133) rfl (i := 3) rfl rfl ?_
      refine g_bipush ok (dk m_Mo_copyTree 89 rfl) (pc' := 135) rfl (v := 16) (by decide) ?_
      refine g_icmp_ge ok (dk m_Mo_copyTree 90 rfl) (tgt := 166) (by decide) (pc' := 138) rfl (fun c_135 => ?_) (fun c_135 => absurd (show nI 16 ≤ nI k from by rw [show k = 16 by omega]; exact Int32.le_refl _) c_135)
      exact g_vret ok (dk m_Mo_copyTree 109 rfl) rfl ⟨rfl, X1, H1, by rw [show (16 : Nat) = k by omega]; exact hc⟩
    | succ m ih =>
      intro k hk h1 X1 H1 hc
      refine g_iload_n ok (dk m_Mo_copyTree 88 rfl) (pc' := 133) rfl (i := 3) rfl rfl ?_
      refine g_bipush ok (dk m_Mo_copyTree 89 rfl) (pc' := 135) rfl (v := 16) (by decide) ?_
      refine g_icmp_ge ok (dk m_Mo_copyTree 90 rfl) (tgt := 166) (by decide) (pc' := 138) rfl (fun c_135 => absurd c_135 (show ¬ nI 16 ≤ nI k from nI_ge (by omega) (by decide))) (fun c_135 => ?_)
      refine g_aload_n ok (dk m_Mo_copyTree 91 rfl) (pc' := 139) rfl (i := 0) rfl rfl ?_
      refine g_get ok (dk m_Mo_copyTree 92 rfl) (pc' := 142) rfl f_Mo_77 H1.1 rfl ?_
      refine g_bipush ok (dk m_Mo_copyTree 93 rfl) (pc' := 144) rfl (v := 16) (by decide) ?_
      refine g_iload_n ok (dk m_Mo_copyTree 94 rfl) (pc' := 145) rfl (i := 2) rfl rfl ?_
      refine g_imul ok (dk m_Mo_copyTree 95 rfl) (pc' := 146) rfl ?_
      refine g_iload_n ok (dk m_Mo_copyTree 96 rfl) (pc' := 147) rfl (i := 3) rfl rfl ?_
      refine g_iadd ok (dk m_Mo_copyTree 97 rfl) (pc' := 148) rfl ?_
      refine g_aload_n ok (dk m_Mo_copyTree 98 rfl) (pc' := 149) rfl (i := 0) rfl rfl ?_
      refine g_get ok (dk m_Mo_copyTree 99 rfl) (pc' := 152) rfl f_Mo_77 H1.1 rfl ?_
      refine g_bipush ok (dk m_Mo_copyTree 100 rfl) (pc' := 154) rfl (v := 16) (by decide) ?_
      refine g_iload_n ok (dk m_Mo_copyTree 101 rfl) (pc' := 155) rfl (i := 1) rfl rfl ?_
      refine g_imul ok (dk m_Mo_copyTree 102 rfl) (pc' := 156) rfl ?_
      refine g_iload_n ok (dk m_Mo_copyTree 103 rfl) (pc' := 157) rfl (i := 3) rfl rfl ?_
      refine g_iadd ok (dk m_Mo_copyTree 104 rfl) (pc' := 158) rfl ?_
      refine g_ialdI ok (dk m_Mo_copyTree 105 rfl) (pc' := 159) rfl (j := 16 * f + k) (H1.ar 26 rfl) (ix16 f k) (show 16 * f + k < 960 by omega) (by decide) ?_
      refine g_iastI ok (dk m_Mo_copyTree 106 rfl) (pc' := 160) rfl (j := 16 * t + k) (H1.ar 26 rfl) (ix16 t k) (show 16 * t + k < 960 by omega) (by decide) (fun z1 e1 => ?_)
      have Y1 := H1.ast 26 rfl e1
      clear e1
      refine g_iinc ok (dk m_Mo_copyTree 107 rfl) (pc' := 163) rfl rfl (nI_1 k) rfl ?_
      refine g_goto ok (dk m_Mo_copyTree 108 rfl) (pc' := 132) (by decide) ?_
      exact ih (k + 1) (by omega) _ _ Y1 ⟨hc.1.xs 26 _ _ (by decide), hc.2.1, hc.2.2.1, hc.2.2.2.1, hc.2.2.2.2.1, hc.2.2.2.2.2.1, by
        show upd (X1.2 26) (16 * t + k) (X1.2 26 (16 * f + k)) = _
        rw [hc.2.2.2.2.2.2]
        exact cpF_s _ _ _ _ (cpF_o (by omega))⟩
  have loop1 : ∀ (m k : Nat), k + m = 31 → ∀ (h1 : q_H) (X1 : x_T), q_mo h1 o ba X1 → q_cp X f t D k 0 X1 → GW g Z A (fun q h' => q = .inl none ∧ ∃ X', q_mo h' o ba X' ∧ q_cp X f t D 31 16 X') 0 0 h1 14 [some (.ref o), some (.int (nI f)), some (.int (nI t)), some (.int (nI k))] [] := by
    intro m
    induction m with
    | zero =>
      intro k hk h1 X1 H1 hc
      refine g_iload_n ok (dk m_Mo_copyTree 10 rfl) (pc' := 15) rfl (i := 3) rfl rfl ?_
      refine g_bipush ok (dk m_Mo_copyTree 11 rfl) (pc' := 17) rfl (v := 31) (by decide) ?_
      refine g_icmp_ge ok (dk m_Mo_copyTree 12 rfl) (tgt := 130) (by decide) (pc' := 20) rfl (fun c_17 => ?_) (fun c_17 => absurd (show nI 31 ≤ nI k from by rw [show k = 31 by omega]; exact Int32.le_refl _) c_17)
      refine g_iconst ok (dk m_Mo_copyTree 86 rfl) (pc' := 131) rfl (v := 0) (by decide) ?_
      refine g_istore_n ok (dk m_Mo_copyTree 87 rfl) (pc' := 132) rfl (i := 3) rfl (Nat.le_of_ble_eq_true rfl) rfl ?_
      exact loop2 16 0 (by omega) _ _ H1 (by rw [show (31 : Nat) = k by omega]; exact hc)
    | succ m ih =>
      intro k hk h1 X1 H1 hc
      have hD1 : X1.2 13 f = nI D := by rw [hc.2.1, upd_n hft]; exact hD
      have mid2 : ∀ (h2 : q_H) (x y : Int32), q_mo h2 o ba (xs X1 22 (31 * t + k) x) → x = cp_k X f D k → y = cp_u X f D k → GW g Z A (fun q h' => q = .inl none ∧ ∃ X', q_mo h' o ba X' ∧ q_cp X f t D 31 16 X') 0 0 h2 89 [some (.ref o), some (.int (nI f)), some (.int (nI t)), some (.int (nI k))] [.int y, .int ((31 : Int32) * nI t + nI k), .ref (ba 23)] := by
        intro h2 x y H2 hx hy
        refine g_iastI ok (dk m_Mo_copyTree 58 rfl) (pc' := 90) rfl (j := 31 * t + k) (H2.ar 23 rfl) (ix31 t k) (show 31 * t + k < 1860 by omega) (by decide) (fun z21 e21 => ?_)
        have Y21 := H2.ast 23 rfl e21
        clear e21
        refine g_aload_n ok (dk m_Mo_copyTree 59 rfl) (pc' := 91) rfl (i := 0) rfl rfl ?_
        refine g_get ok (dk m_Mo_copyTree 60 rfl) (pc' := 94) rfl f_Mo_71 Y21.1 rfl ?_
        refine g_bipush ok (dk m_Mo_copyTree 61 rfl) (pc' := 96) rfl (v := 31) (by decide) ?_
        refine g_iload_n ok (dk m_Mo_copyTree 62 rfl) (pc' := 97) rfl (i := 2) rfl rfl ?_
        refine g_imul ok (dk m_Mo_copyTree 63 rfl) (pc' := 98) rfl ?_
        refine g_iload_n ok (dk m_Mo_copyTree 64 rfl) (pc' := 99) rfl (i := 3) rfl rfl ?_
        refine g_iadd ok (dk m_Mo_copyTree 65 rfl) (pc' := 100) rfl ?_
        refine g_aload_n ok (dk m_Mo_copyTree 66 rfl) (pc' := 101) rfl (i := 0) rfl rfl ?_
        refine g_get ok (dk m_Mo_copyTree 67 rfl) (pc' := 104) rfl f_Mo_71 Y21.1 rfl ?_
        refine g_bipush ok (dk m_Mo_copyTree 68 rfl) (pc' := 106) rfl (v := 31) (by decide) ?_
        refine g_iload_n ok (dk m_Mo_copyTree 69 rfl) (pc' := 107) rfl (i := 1) rfl rfl ?_
        refine g_imul ok (dk m_Mo_copyTree 70 rfl) (pc' := 108) rfl ?_
        refine g_iload_n ok (dk m_Mo_copyTree 71 rfl) (pc' := 109) rfl (i := 3) rfl rfl ?_
        refine g_iadd ok (dk m_Mo_copyTree 72 rfl) (pc' := 110) rfl ?_
        refine g_ialdI ok (dk m_Mo_copyTree 73 rfl) (pc' := 111) rfl (j := 31 * f + k) (Y21.ar 24 rfl) (ix31 f k) (show 31 * f + k < 1860 by omega) (by decide) ?_
        refine g_iastI ok (dk m_Mo_copyTree 74 rfl) (pc' := 112) rfl (j := 31 * t + k) (Y21.ar 24 rfl) (ix31 t k) (show 31 * t + k < 1860 by omega) (by decide) (fun z22 e22 => ?_)
        have Y22 := Y21.ast 24 rfl e22
        clear e22
        refine g_aload_n ok (dk m_Mo_copyTree 75 rfl) (pc' := 113) rfl (i := 0) rfl rfl ?_
        refine g_get ok (dk m_Mo_copyTree 76 rfl) (pc' := 116) rfl f_Mo_74 Y22.1 rfl ?_
        refine g_bipush ok (dk m_Mo_copyTree 77 rfl) (pc' := 118) rfl (v := 31) (by decide) ?_
        refine g_iload_n ok (dk m_Mo_copyTree 78 rfl) (pc' := 119) rfl (i := 2) rfl rfl ?_
        refine g_imul ok (dk m_Mo_copyTree 79 rfl) (pc' := 120) rfl ?_
        refine g_iload_n ok (dk m_Mo_copyTree 80 rfl) (pc' := 121) rfl (i := 3) rfl rfl ?_
        refine g_iadd ok (dk m_Mo_copyTree 81 rfl) (pc' := 122) rfl ?_
        refine g_iconst ok (dk m_Mo_copyTree 82 rfl) (pc' := 123) rfl (v := (-1)) (by decide) ?_
        refine g_iastI ok (dk m_Mo_copyTree 83 rfl) (pc' := 124) rfl (j := 31 * t + k) (Y22.ar 25 rfl) (ix31 t k) (show 31 * t + k < 1860 by omega) (by decide) (fun z23 e23 => ?_)
        have Y23 := Y22.ast 25 rfl e23
        clear e23
        refine g_iinc ok (dk m_Mo_copyTree 84 rfl) (pc' := 127) rfl rfl (nI_1 k) rfl ?_
        refine g_goto ok (dk m_Mo_copyTree 85 rfl) (pc' := 14) (by decide) ?_
        exact ih (k + 1) (by omega) _ _ Y23 ⟨(((hc.1.xs 22 _ _ (by decide)).xs 23 _ _ (by decide)).xs 24 _ _ (by decide)).xs 25 _ _ (by decide), hc.2.1, by
          show upd (X1.2 22) (31 * t + k) _ = _
          rw [hc.2.2.1, cpF_s _ _ _ _ hx], by
          show upd (X1.2 23) (31 * t + k) _ = _
          rw [hc.2.2.2.1, cpF_s _ _ _ _ hy], by
          show upd (X1.2 24) (31 * t + k) (X1.2 24 (31 * f + k)) = _
          rw [hc.2.2.2.2.1]
          exact cpF_s _ _ _ _ (cpF_o (by omega)), by
          show upd (X1.2 25) (31 * t + k) (-1) = _
          rw [hc.2.2.2.2.2.1, cpF_s _ _ _ _ rfl], hc.2.2.2.2.2.2⟩
      have mid1 : ∀ (x : Int32), x = cp_k X f D k → GW g Z A (fun q h' => q = .inl none ∧ ∃ X', q_mo h' o ba X' ∧ q_cp X f t D 31 16 X') 0 0 h1 54 [some (.ref o), some (.int (nI f)), some (.int (nI t)), some (.int (nI k))] [.int x, .int ((31 : Int32) * nI t + nI k), .ref (ba 22)] := by
        intro x hx
        refine g_iastI ok (dk m_Mo_copyTree 35 rfl) (pc' := 55) rfl (j := 31 * t + k) (H1.ar 22 rfl) (ix31 t k) (show 31 * t + k < 1860 by omega) (by decide) (fun z41 e41 => ?_)
        have Y41 := H1.ast 22 rfl e41
        clear e41
        refine g_aload_n ok (dk m_Mo_copyTree 36 rfl) (pc' := 56) rfl (i := 0) rfl rfl ?_
        refine g_get ok (dk m_Mo_copyTree 37 rfl) (pc' := 59) rfl f_Mo_68 Y41.1 rfl ?_
        refine g_bipush ok (dk m_Mo_copyTree 38 rfl) (pc' := 61) rfl (v := 31) (by decide) ?_
        refine g_iload_n ok (dk m_Mo_copyTree 39 rfl) (pc' := 62) rfl (i := 2) rfl rfl ?_
        refine g_imul ok (dk m_Mo_copyTree 40 rfl) (pc' := 63) rfl ?_
        refine g_iload_n ok (dk m_Mo_copyTree 41 rfl) (pc' := 64) rfl (i := 3) rfl rfl ?_
        refine g_iadd ok (dk m_Mo_copyTree 42 rfl) (pc' := 65) rfl ?_
        refine g_iload_n ok (dk m_Mo_copyTree 43 rfl) (pc' := 66) rfl (i := 3) rfl rfl ?_
        refine g_aload_n ok (dk m_Mo_copyTree 44 rfl) (pc' := 67) rfl (i := 0) rfl rfl ?_
        refine g_iload_n ok (dk m_Mo_copyTree 45 rfl) (pc' := 68) rfl (i := 1) rfl rfl ?_
        refine g_callV ok (dk m_Mo_copyTree 46 rfl) (pc' := 71) rfl c_Mo_192 (c_Mo_width g (e := f) (D := D) 0 hf (by exact hD1) hD4 Y41) Y41.1 rfl rfl (by simp [Value.category]) (by omega) rfl (rc' := 0) (rs' := 0) (by omega) (by omega) (fun rv h' hcc => ?_) (fun i h' hcc => by obtain ⟨e9, -⟩ := hcc; cases e9)
        obtain ⟨e9, e2⟩ := hcc
        have e3 := e2.symm
        subst e3
        cases e9
        refine g_icmp_ge ok (dk m_Mo_copyTree 47 rfl) (tgt := 88) (by decide) (pc' := 74) rfl (fun c_71 => ?_) (fun c_71 => ?_)
        · refine g_iconst ok (dk m_Mo_copyTree 57 rfl) (pc' := 89) rfl (v := 0) (by decide) ?_
          exact mid2 _ x _ Y41 hx (if_neg (fun z => nI_ge z (by omega) c_71)).symm
        · refine g_aload_n ok (dk m_Mo_copyTree 48 rfl) (pc' := 75) rfl (i := 0) rfl rfl ?_
          refine g_get ok (dk m_Mo_copyTree 49 rfl) (pc' := 78) rfl f_Mo_68 Y41.1 rfl ?_
          refine g_bipush ok (dk m_Mo_copyTree 50 rfl) (pc' := 80) rfl (v := 31) (by decide) ?_
          refine g_iload_n ok (dk m_Mo_copyTree 51 rfl) (pc' := 81) rfl (i := 1) rfl rfl ?_
          refine g_imul ok (dk m_Mo_copyTree 52 rfl) (pc' := 82) rfl ?_
          refine g_iload_n ok (dk m_Mo_copyTree 53 rfl) (pc' := 83) rfl (i := 3) rfl rfl ?_
          refine g_iadd ok (dk m_Mo_copyTree 54 rfl) (pc' := 84) rfl ?_
          refine g_ialdI ok (dk m_Mo_copyTree 55 rfl) (pc' := 85) rfl (j := 31 * f + k) (Y41.ar 23 rfl) (ix31 f k) (show 31 * f + k < 1860 by omega) (by decide) ?_
          refine g_goto ok (dk m_Mo_copyTree 56 rfl) (pc' := 89) (by decide) ?_
          exact mid2 _ x _ Y41 hx (by
            show X1.2 23 (31 * f + k) = _
            rw [hc.2.2.2.1, cpF_o (by omega)]
            exact (if_pos (by
              rcases Nat.lt_or_ge k (2 ^ (D + 1) - 1) with q | q
              · exact q
              · exact absurd (nI_le q (by omega)) c_71)).symm)
      refine g_iload_n ok (dk m_Mo_copyTree 10 rfl) (pc' := 15) rfl (i := 3) rfl rfl ?_
      refine g_bipush ok (dk m_Mo_copyTree 11 rfl) (pc' := 17) rfl (v := 31) (by decide) ?_
      refine g_icmp_ge ok (dk m_Mo_copyTree 12 rfl) (tgt := 130) (by decide) (pc' := 20) rfl (fun c_17 => absurd c_17 (show ¬ nI 31 ≤ nI k from nI_ge (by omega) (by decide))) (fun c_17 => ?_)
      refine g_aload_n ok (dk m_Mo_copyTree 13 rfl) (pc' := 21) rfl (i := 0) rfl rfl ?_
      refine g_get ok (dk m_Mo_copyTree 14 rfl) (pc' := 24) rfl f_Mo_65 H1.1 rfl ?_
      refine g_bipush ok (dk m_Mo_copyTree 15 rfl) (pc' := 26) rfl (v := 31) (by decide) ?_
      refine g_iload_n ok (dk m_Mo_copyTree 16 rfl) (pc' := 27) rfl (i := 2) rfl rfl ?_
      refine g_imul ok (dk m_Mo_copyTree 17 rfl) (pc' := 28) rfl ?_
      refine g_iload_n ok (dk m_Mo_copyTree 18 rfl) (pc' := 29) rfl (i := 3) rfl rfl ?_
      refine g_iadd ok (dk m_Mo_copyTree 19 rfl) (pc' := 30) rfl ?_
      refine g_iload_n ok (dk m_Mo_copyTree 20 rfl) (pc' := 31) rfl (i := 3) rfl rfl ?_
      refine g_aload_n ok (dk m_Mo_copyTree 21 rfl) (pc' := 32) rfl (i := 0) rfl rfl ?_
      refine g_iload_n ok (dk m_Mo_copyTree 22 rfl) (pc' := 33) rfl (i := 1) rfl rfl ?_
      refine g_callV ok (dk m_Mo_copyTree 23 rfl) (pc' := 36) rfl c_Mo_192 (c_Mo_width g (e := f) (D := D) 0 hf (by exact hD1) hD4 H1) H1.1 rfl rfl (by simp [Value.category]) (by omega) rfl (rc' := 0) (rs' := 0) (by omega) (by omega) (fun rv h' hcc => ?_) (fun i h' hcc => by obtain ⟨e9, -⟩ := hcc; cases e9)
      obtain ⟨e9, e2⟩ := hcc
      have e3 := e2.symm
      subst e3
      cases e9
      refine g_icmp_ge ok (dk m_Mo_copyTree 24 rfl) (tgt := 53) (by decide) (pc' := 39) rfl (fun c_36 => ?_) (fun c_36 => ?_)
      · refine g_iconst ok (dk m_Mo_copyTree 34 rfl) (pc' := 54) rfl (v := (-1)) (by decide) ?_
        exact mid1 _ (if_neg (fun z => nI_ge z (by omega) c_36)).symm
      · refine g_aload_n ok (dk m_Mo_copyTree 25 rfl) (pc' := 40) rfl (i := 0) rfl rfl ?_
        refine g_get ok (dk m_Mo_copyTree 26 rfl) (pc' := 43) rfl f_Mo_65 H1.1 rfl ?_
        refine g_bipush ok (dk m_Mo_copyTree 27 rfl) (pc' := 45) rfl (v := 31) (by decide) ?_
        refine g_iload_n ok (dk m_Mo_copyTree 28 rfl) (pc' := 46) rfl (i := 1) rfl rfl ?_
        refine g_imul ok (dk m_Mo_copyTree 29 rfl) (pc' := 47) rfl ?_
        refine g_iload_n ok (dk m_Mo_copyTree 30 rfl) (pc' := 48) rfl (i := 3) rfl rfl ?_
        refine g_iadd ok (dk m_Mo_copyTree 31 rfl) (pc' := 49) rfl ?_
        refine g_ialdI ok (dk m_Mo_copyTree 32 rfl) (pc' := 50) rfl (j := 31 * f + k) (H1.ar 22 rfl) (ix31 f k) (show 31 * f + k < 1860 by omega) (by decide) ?_
        refine g_goto ok (dk m_Mo_copyTree 33 rfl) (pc' := 54) (by decide) ?_
        exact mid1 _ (by
          show X1.2 22 (31 * f + k) = _
          rw [hc.2.2.1, cpF_o (by omega)]
          exact (if_pos (by
            rcases Nat.lt_or_ge k (2 ^ (D + 1) - 1) with q | q
            · exact q
            · exact absurd (nI_le q (by omega)) c_36)).symm)
  refine g_aload_n ok (dk m_Mo_copyTree 0 rfl) (pc' := 1) rfl (i := 0) rfl rfl ?_
  refine g_get ok (dk m_Mo_copyTree 1 rfl) (pc' := 4) rfl f_Mo_38 H.1 rfl ?_
  refine g_iload_n ok (dk m_Mo_copyTree 2 rfl) (pc' := 5) rfl (i := 2) rfl rfl ?_
  refine g_aload_n ok (dk m_Mo_copyTree 3 rfl) (pc' := 6) rfl (i := 0) rfl rfl ?_
  refine g_get ok (dk m_Mo_copyTree 4 rfl) (pc' := 9) rfl f_Mo_38 H.1 rfl ?_
  refine g_iload_n ok (dk m_Mo_copyTree 5 rfl) (pc' := 10) rfl (i := 1) rfl rfl ?_
  refine g_ialdI ok (dk m_Mo_copyTree 6 rfl) (pc' := 11) rfl (j := f) (H.ar 13 rfl) rfl (show f < 60 by omega) (by decide) ?_
  refine g_iastI ok (dk m_Mo_copyTree 7 rfl) (pc' := 12) rfl (j := t) (H.ar 13 rfl) rfl (show t < 60 by omega) (by decide) (fun z1 e1 => ?_)
  have Y1 := H.ast 13 rfl e1
  clear e1
  refine g_iconst ok (dk m_Mo_copyTree 8 rfl) (pc' := 13) rfl (v := 0) (by decide) ?_
  refine g_istore_n ok (dk m_Mo_copyTree 9 rfl) (pc' := 14) rfl (i := 3) rfl (Nat.le_of_ble_eq_true rfl) rfl ?_
  exact loop1 31 0 (by omega) _ _ Y1 ⟨xfr.rf.xs 13 _ _ (by decide), by
    show upd (X.2 13) t (X.2 13 f) = _
    rw [hD], (cpF_0 _ _ _).symm, (cpF_0 _ _ _).symm, (cpF_0 _ _ _).symm, (cpF_0 _ _ _).symm, (cpF_0 _ _ _).symm⟩
