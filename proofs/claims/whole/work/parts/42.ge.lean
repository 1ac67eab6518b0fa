/-! ===== the group and the epoch that a commit makes, side by side ===== -/
abbrev q_ex (h : q_H) (x : Nat → Nat) (E : e_T) : Prop := q_ep h (x 0) (x 1) (x 2) (x 3) (fun j => x (4 + j)) (fun j => x (8 + j)) E
abbrev A_ex (x : Nat → Nat) : Nat → Prop := ep_A (x 0) (x 1) (x 2) (x 3) (fun j => x (4 + j)) (fun j => x (8 + j))
abbrev P_ex (x : Nat → Nat) : Nat → Prop := ep_P (x 0) (x 1) (x 3) (fun j => x (8 + j))
theorem ex_of {h : q_H} {e t pr pb : Nat} {ra rb : Nat → Nat} {E : e_T} (hx : q_ep h e t pr pb ra rb E) : ∃ x : Nat → Nat, x 0 = e ∧ q_ex h x E ∧ ∀ y, A_ex x y → ep_A e t pr pb ra rb y := by
  have hra : ∀ j, j < 4 → (fun k => if k = 0 then e else if k = 1 then t else if k = 2 then pr else if k = 3 then pb else if k < 8 then ra (k - 4) else rb (k - 8)) (4 + j) = ra j := by
    intro j z
    show (if 4 + j = 0 then e else if 4 + j = 1 then t else if 4 + j = 2 then pr else if 4 + j = 3 then pb else if 4 + j < 8 then ra (4 + j - 4) else rb (4 + j - 8)) = _
    rw [if_neg (by omega), if_neg (by omega), if_neg (by omega), if_neg (by omega), if_pos (by omega), show 4 + j - 4 = j by omega]
  have hrb : (fun j => (fun k => if k = 0 then e else if k = 1 then t else if k = 2 then pr else if k = 3 then pb else if k < 8 then ra (k - 4) else rb (k - 8)) (8 + j)) = rb := by
    funext j
    show (if 8 + j = 0 then e else if 8 + j = 1 then t else if 8 + j = 2 then pr else if 8 + j = 3 then pb else if 8 + j < 8 then ra (8 + j - 4) else rb (8 + j - 8)) = _
    rw [if_neg (by omega), if_neg (by omega), if_neg (by omega), if_neg (by omega), if_neg (by omega), show 8 + j - 8 = j by omega]
  refine ⟨fun k => if k = 0 then e else if k = 1 then t else if k = 2 then pr else if k = 3 then pb else if k < 8 then ra (k - 4) else rb (k - 8), rfl, ?_⟩
  have x0 : (fun k => if k = 0 then e else if k = 1 then t else if k = 2 then pr else if k = 3 then pb else if k < 8 then ra (k - 4) else rb (k - 8)) 0 = e := rfl
  have x1 : (fun k => if k = 0 then e else if k = 1 then t else if k = 2 then pr else if k = 3 then pb else if k < 8 then ra (k - 4) else rb (k - 8)) 1 = t := rfl
  have x2 : (fun k => if k = 0 then e else if k = 1 then t else if k = 2 then pr else if k = 3 then pb else if k < 8 then ra (k - 4) else rb (k - 8)) 2 = pr := rfl
  have x3 : (fun k => if k = 0 then e else if k = 1 then t else if k = 2 then pr else if k = 3 then pb else if k < 8 then ra (k - 4) else rb (k - 8)) 3 = pb := rfl
  generalize (fun k => if k = 0 then e else if k = 1 then t else if k = 2 then pr else if k = 3 then pb else if k < 8 then ra (k - 4) else rb (k - 8)) = x at hra hrb x0 x1 x2 x3
  refine ⟨?_, ?_⟩
  · show q_ep h (x 0) (x 1) (x 2) (x 3) (fun j => x (4 + j)) (fun j => x (8 + j)) E
    rw [x0, x1, x2, x3, hrb]
    have ht := hx.2.1.1
    refine ⟨hx.1, ⟨?_, fun i hi => ?_, hx.2.1.2.2⟩, hx.2.2⟩
    · show h t = some (.inl (6, [.ref (x (4 + 0)), .ref (x (4 + 1)), .ref (x (4 + 2)), .ref (x (4 + 3)), .int (nI E.2.1.2)]))
      rw [hra 0 (by decide), hra 1 (by decide), hra 2 (by decide), hra 3 (by decide)]
      exact ht
    · rw [show (fun j => x (4 + j)) i = ra i from hra i hi]
      exact hx.2.1.2.1 i hi
  · show ∀ y, ep_A (x 0) (x 1) (x 2) (x 3) (fun j => x (4 + j)) (fun j => x (8 + j)) y → ep_A e t pr pb ra rb y
    rw [x0, x1, x2, x3, hrb]
    intro y hy
    rcases hy with z | z | z | z | ⟨i, hi, z⟩
    · exact Or.inl z
    · exact Or.inr (Or.inl z)
    · exact Or.inr (Or.inr (Or.inl z))
    · exact Or.inr (Or.inr (Or.inr (Or.inl z)))
    · rw [show (fun j => x (4 + j)) i = ra i from hra i hi] at z
      exact Or.inr (Or.inr (Or.inr (Or.inr ⟨i, hi, z⟩)))
def q_GE (g : q_G) (h : q_H) (r : Nat) (w : Nat → Nat) (D : a_T) (ob : Nat → Option Nat) (x : Nat → Nat) (p : G_T × e_T) : Prop := q_RG g h r w D ob p.1 ∧ q_ex h x p.2 ∧ (∀ y, A_ex x y → w y = 7) ∧ p.2.2.1.2 ≤ 4
section
variable {g : q_G} {h h' : q_H} {r : Nat} {w : Nat → Nat} {D : a_T} {ob : Nat → Option Nat} {x : Nat → Nat} {p : G_T × e_T}
theorem q_GE.tT (H : q_GE g h r w D ob x p) {T : tr_T} (ht : q_tree h' (x 1) (fun j => x (4 + j)) (fun j => x (8 + j)) T) (ho : q_off h h' (tr_P (x 1) (fun j => x (8 + j)))) (hT : T.2 ≤ 4) : q_GE g h' r w D ob x (p.1, p.2.1, T, p.2.2.2) :=
  ⟨H.1.keep (ho.kp.wk (fun y hy => Or.inl (H.2.2.1 y (ep_P_A (Or.inr (Or.inr hy)))))), H.2.1.treeE ht ho, H.2.2.1, hT⟩
theorem q_GE.tI (H : q_GE g h r w D ob x p) (k q : Nat) (hk : (k = 2 ∧ q = 4) ∨ (k = 3 ∧ q = 5) ∨ (k = 4 ∧ q = 6) ∨ (k = 5 ∧ q = 7) ∨ (k = 6 ∧ q = 8) ∨ (k = 7 ∧ q = 9)) {v : Int32} (e1 : h' = q_up h (x 0) (.inl (5, (e_fs (x 1) (x 2) p.2.1).set q (.int v)))) : q_GE g h' r w D ob x (p.1, upd p.2.1 k v, p.2.2) :=
  ⟨H.1.keep ((q_kp.up (q_kp.rf (X := fun y => y = x 0)) rfl e1).wk (fun y hy => Or.inl (by rw [hy]; exact H.2.2.1 _ (Or.inl rfl)))), H.2.1.intE k q hk e1, H.2.2.1, H.2.2.2⟩
theorem q_GE.tS (H : q_GE g h r w D ob x p) {S : s_T} (hs : q_sec h' (D.1 0 0) (D.1 1) (D.1 2) S) (ho : q_off h h' (s_P (D.1 0 0) (D.1 2))) : q_GE g h' r w D ob x (sS p.1 S, p.2) :=
  ⟨H.1.tS hs ho, H.2.1.kp ho.kp (fun y hy z => by have q := H.2.2.1 y hy; have q2 := H.1.secT y (s_P_A z); omega), H.2.2⟩
theorem q_GE.tM (H : q_GE g h r w D ob x p) {i : Nat} (hi : i < 16) {M : m_T} (hm : q_me h' D i M) (ho : q_off h h' (m_P (mA D i) (fun j => D.1 (6 + j) i))) : q_GE g h' r w D ob x (sM p.1 i M, p.2) :=
  ⟨H.1.tM hi hm ho, H.2.1.kp ho.kp (fun y hy z => by have q := H.2.2.1 y hy; have q2 := H.1.memT hi y (m_P_A z); omega), H.2.2⟩
theorem q_GE.tK (H : q_GE g h r w D ob x p) {i : Nat} (hi : i < np p.1) (hn : np p.1 ≤ 60) {K : Nat → Int32} (hm : h' (pA D i) = some (.inl (7, k_fs (mA D (gK p.1 i).1) K))) (hk : q_kp h h' (fun y => y = pA D i)) : q_GE g h' r w D ob x (sK p.1 i ((gK p.1 i).1, K), p.2) :=
  ⟨H.1.upK hi hn hm (hk.wk (fun y hy => by rw [hy]; exact H.1.pkT hi)), H.2.1.kp hk (fun y hy z => by have q := H.2.2.1 y hy; have q2 : w (pA D i) = 200 + i := H.1.pkT hi; rw [z] at q; omega), H.2.2⟩
theorem q_GE.es (H : q_GE g h r w D ob x p) : q_es (x 0) (x 1) (x 2) (x 3) (fun j => x (4 + j)) (fun j => x (8 + j)) (D.1 0 0) (D.1 1) (D.1 2) :=
  ⟨fun y hy z => by have q := H.2.2.1 y hy; have q2 := H.1.secT y (s_P_A z); omega, fun y hy z => by have q := H.2.2.1 y (ep_P_A z); have q2 := H.1.secT y hy; omega⟩
theorem q_GE.tES (H : q_GE g h r w D ob x p) {S : s_T} {E : e_T} (he : q_ex h' x E) (hs : q_sec h' (D.1 0 0) (D.1 1) (D.1 2) S) (ho : q_off h h' (q_EP (x 0) (x 1) (x 3) (fun j => x (8 + j)) (D.1 0 0) (D.1 2))) (hT : E.2.1.2 ≤ 4) : q_GE g h' r w D ob x (sS p.1 S, E) := by
  have hs1 : q_sec (fun y => if w y = 1 then h' y else h y) (D.1 0 0) (D.1 1) (D.1 2) S := hs.kp (X := fun y => ¬ w y = 1) (fun y o hy hn => by
    show (if w y = 1 then h' y else h y) = _
    rw [if_pos (Classical.not_not.mp hn)]
    exact hy) (fun y hy z => z (H.1.secT y hy))
  have H1 := H.1.upS (h' := fun y => if w y = 1 then h' y else h y) hs1 (fun y o hy hn => by
    show (if w y = 1 then h' y else h y) = _
    rw [if_neg hn]
    exact hy)
  refine ⟨H1.keep (fun y o hy hn => ?_), he, H.2.2.1, hT⟩
  have hy2 : (if w y = 1 then h' y else h y) = some o := hy
  by_cases e : w y = 1
  · rw [if_pos e] at hy2
    exact hy2
  · rw [if_neg e] at hy2
    rw [ho y (fun z => by
      rcases z with z | z
      · exact hn (Or.inl (H.2.2.1 y (ep_P_A z)))
      · exact e (H.1.secT y (s_P_A z)))]
    exact hy2
theorem q_GE.lat (H : q_GE g h r w D ob x p) : ne p.1 - 1 < ne p.1 := H.1.lat
end
theorem T_path_2 (T : tr_T) (l : Int32) : (T_path T l).2 = T.2 := T_bp_2 l _ _ T
theorem T_vac_2 (T : tr_T) (l : Int32) : (T_vac T l).2 = T.2 := T_path_2 _ l
theorem T_ren_2 (T : tr_T) (l k e : Int32) : (T_ren T l k e).2 = T.2 := T_path_2 T l
theorem T_shr_2 : ∀ (m : Nat) (T : tr_T), (T_shr m T).2 ≤ T.2 := by
  intro m
  induction m with
  | zero => intro T; exact Nat.le_refl _
  | succ m ih =>
    intro T
    rw [T_shr]
    split
    · refine Nat.le_trans (ih _) ?_
      show T.2 - 1 ≤ T.2
      omega
    · exact Nat.le_refl _
theorem T_um_2 (l : Int32) : ∀ (m k : Nat) (T : tr_T), (T_um l m k T).2 = T.2 := by
  intro m
  induction m with
  | zero => intro k T; rfl
  | succ m ih =>
    intro k T
    rw [T_um, ih, T_um1_2]
theorem T_seat_2 {T : tr_T} (hT : T.2 ≤ 4) (l : Nat) (m k e : Int32) : (T_seat T l m k e).2 ≤ 4 := by
  rw [T_seat, T_um_2]
  exact T_gr_le l _ _ hT
theorem T_low_or (T : tr_T) : ∀ (m k : Nat), k + m ≤ 16 → T_low T m k = -1 ∨ ∃ l, l < 16 ∧ T_low T m k = nI l := by
  intro m
  induction m with
  | zero => intro k hk; exact Or.inl rfl
  | succ m ih =>
    intro k hk
    rw [T_low]
    split
    · exact Or.inr ⟨k, by omega, rfl⟩
    · exact ih (k + 1) (by omega)
