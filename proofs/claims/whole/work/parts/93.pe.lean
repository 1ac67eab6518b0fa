/-! ===== the pure part: a height of the path, both sides ===== -/
theorem res_0 {T : tr_T} (hI : TI T) {s : Nat} (hs : s < 31) : T_reso T (nI s) = 0 ↔ ¬ ∃ w, inR T (hgt s) s w := by
  constructor
  · rintro z ⟨w, hw⟩
    have := (T_reso_bt hs w (by have := (inR_blw hI _ s w hs rfl hw).2; omega)).mpr hw
    rw [z, bt_0] at this
    cases this
  · intro z
    apply bt_ext
    intro i hi
    rw [bt_0]
    cases c : bt (T_reso T (nI s)) i with
    | false => rfl
    | true => exact absurd ⟨i, (T_reso_bt hs i hi).mp c⟩ z
theorem rdr_bt {E : e_T} {cl t w : Nat} (hcl : cl < 16) (ht : t < 5) (ht1 : 1 ≤ t) (h1 : E.1 1 = nI cl) (hw : w < 31) : bt (E_rdr E (nI t)) w = true ↔ inR E.2.1 (t - 1) (sib cl t) w ∧ ¬ (w % 2 = 0 ∧ bt (E.1 6) (w / 2) = true) := by
  obtain ⟨a1, a2, a3, a4, a5, a6⟩ := abv_sib cl hcl t ht ht1
  unfold E_rdr E_bes
  rw [h1, bes_ok cl hcl t ht ht1, bt_and, bt_xor, bt_m1 w (by omega), Bool.and_eq_true, T_reso_bt a3 w (by omega), a4]
  have hj := j_nl_bt (E.1 6) 16 0 0 (by omega) w (by omega)
  rw [bt_0] at hj
  have hj2 : bt (j_nl (E.1 6) 16 0 0) w = true ↔ (w % 2 = 0 ∧ bt (E.1 6) (w / 2) = true) := by
    rw [hj]
    constructor
    · rintro (z | ⟨l, b1, b2, b3, b4⟩)
      · cases z
      · subst b4
        exact ⟨by omega, by rw [show 2 * l / 2 = l by omega]; exact b3⟩
    · rintro ⟨b1, b2⟩
      exact Or.inr ⟨w / 2, by omega, by omega, b2, by omega⟩
  refine and_congr_right fun _ => ?_
  rw [← hj2]
  cases bt (j_nl (E.1 6) 16 0 0) w <;> simp
theorem PS.step {E7 : e_T} {e cl k : Nat} {T0 : List Nat} {X0 : x_T} {n0 c0 l0 t : Nat} {q : (e_T × s_T) × Int32} {p : x_T × Int32} {N c : Nat} {L : w_L} {TT : List Nat} (h : PS E7 e cl k T0 X0 n0 c0 l0 t q p N c L TT) (hcl : cl < 16) (ht1 : 1 ≤ t) (htD : t ≤ E7.2.1.2) (hD : E7.2.1.2 ≤ 4) (hclD : cl < 2 ^ E7.2.1.2) (h0 : E7.1 0 = nI e) (h1 : E7.1 1 = nI cl) (h6 : E7.1 6 = X0.2 19 e) (hn3 : 3 ≤ n0) (hn0 : n0 + 20 ≤ 2200) (hl0 : l0 + 40 ≤ 2600) (hc0 : c0 + 40 ≤ 3600) : ∃ N' c' L' TT', PS E7 e cl k T0 X0 n0 c0 l0 (t + 1) (ES_lay1 t q) (rn_1 e cl t p) N' c' L' TT' := by
  classical
  obtain ⟨⟨a1, a2, a3, a4⟩, ⟨b1, b2, b3, b4, b5⟩, ⟨c1, c2, c3, c4⟩, ⟨d1, d2, d3⟩, e1, ⟨f1, f2, f3⟩, g1, g2, g3, g4, g5⟩ := h
  obtain ⟨⟨⟨Ei, T, ps⟩, S⟩, last⟩ := q
  obtain ⟨Y, la⟩ := p
  dsimp only at a1 a2 a3 a4 b1 b2 b3 b4 b5 d1 d2 d3 e1 f1 f2 f3 g1 g2 g3 g4 g5
  have ht5 : t < 5 := by omega
  obtain ⟨v1, v2, v3, v4, v5, v6⟩ := abv_sib cl hcl t ht5 ht1
  have hE1 : Ei 1 = nI cl := (d1 1 (by decide) (by decide)).trans h1
  have hE0 : Ei 0 = nI e := (d1 0 (by decide) (by decide)).trans h0
  have hE6 : Ei 6 = E7.1 6 := d1 6 (by decide) (by decide)
  have hbes : E_bes (Ei, T, ps) (nI t) = nI (sib cl t) := by
    unfold E_bes
    rw [show ((Ei, T, ps) : e_T).1 1 = nI cl from hE1]
    exact bes_ok cl hcl t ht5 ht1
  have hnode : j_node (Ei 1) (nI t) = nI (abv cl t) := by rw [hE1]; exact (abv_ok cl hcl t ht5).1
  have off : ∀ u, u < 31 → blw (t - 1) (sib cl t) u → ¬ ab cl u := fun u hu hb => sib_off cl hcl t ht5 u hu ⟨ht1, hb.1, hb.2⟩
  have hcg : ∀ w, inR T (t - 1) (sib cl t) w ↔ inR E7.2.1 (t - 1) (sib cl t) w := fun w => inR_cg (t - 1) (sib cl t) w v3 v4 (fun u hu hb => f1 u hu (fun z => off u hu hb z.1))
  have hres : T_reso T (nI (sib cl t)) = 0 ↔ ¬ ∃ w, inR T (t - 1) (sib cl t) w := by
    have := res_0 a2 v3
    rw [v4] at this
    exact this
  obtain ⟨s1, s2⟩ := rsl_sim a1 a2 (t - 1) (sib cl t) v3 v4
  have hrsl : rsl Y e (t - 1) (sib cl t) = [] ↔ ¬ ∃ w, inR T (t - 1) (sib cl t) w := by
    constructor
    · rintro z ⟨w, hw⟩
      have := (s2 w).mpr hw
      rw [z] at this
      cases this
    · intro z
      cases hh : rsl Y e (t - 1) (sib cl t) with
      | nil => rfl
      | cons x l => exact absurd ⟨x, (s2 x).mp (by rw [hh]; exact List.mem_cons_self)⟩ z
  have hlb := lB_s t ht5 ht1
  have hle := lB_le (t + 1) (by omega)
  have hclT : cl < 2 ^ T.2 := by rw [a3]; exact hclD
  have hgD : hgt (abv cl t) ≤ T.2 := by rw [v2, a3]; exact htD
  have leafnb : ¬ T.1 0 (2 * cl) = -1 := by rw [f3]; exact nI_nm (by omega)
  have oth : ∀ u, 1 ≤ u → u < t → abv cl u < 31 ∧ ¬ abv cl u = abv cl t := fun u h1 h2 => ⟨(abv_sib cl hcl u (by omega) h1).1, fun z => by have := abv_ne cl hcl u (by omega) t ht5 z; omega⟩
  have hvt : ∀ v, v < 31 → ¬ (ab cl v ∧ hgt v < t + 1) → ¬ (ab cl v ∧ hgt v < t) ∧ ¬ v = abv cl t := fun v hv z => ⟨fun y => z ⟨y.1, by omega⟩, fun y => z ⟨by rw [y]; exact v5, by rw [y, v2]; omega⟩⟩
  unfold ES_lay1 rn_1
  dsimp only
  rw [hbes, hnode]
  by_cases cc : ∃ w, inR T (t - 1) (sib cl t) w
  · have q1 : ¬ T_reso T (nI (sib cl t)) = 0 := fun z => (hres.mp z) cc
    have q2 : ¬ rsl Y e (t - 1) (sib cl t) = [] := fun z => (hrsl.mp z) cc
    rw [if_neg q1, if_neg q2]
    -- the ids
    obtain ⟨i1, L1, TT1, i2, i3, i4, i5, i6⟩ := nxt_r (last := last) b1 (by omega) (by omega) (by
      rcases e1 with z | ⟨a, z1, z2, z3, z4⟩
      · exact Or.inl z.1
      · exact Or.inr ⟨a, z2, z3⟩)
    rw [i1]
    obtain ⟨j1, TT2, j2⟩ := i2.der (x := N) (by omega) (by omega) (by omega)
    rw [j1]
    have hpsp : r_put 5 ps (nI t) (nI N) = upd ps t (nI N) := r_put_in (by omega) (by decide)
    rw [hpsp]
    have hx : ix (Y.1 1) = N := by rw [b4]; exact ix_nI (by omega)
    rw [hx, b4]
    have rl : ∀ r, r ∈ rsl Y e (t - 1) (sib cl t) → r < 31 := fun r hr => (inR_blw a2 _ _ r v3 v4 ((s2 r).mp hr)).2
    have hrlen := rsl_len (uk_of a1 a2) (t - 1) (sib cl t) (by omega) v3 v4
    obtain ⟨W, w0, w1, w2, w3, w4, w5, w6, w7, w8, w9, w10, w11, w12⟩ := rn_r (la := la) (v := abv cl t) (e := e) b4 (by omega) b5 (by omega) rl
    rw [w0]
    -- the tree
    have t0 := fun w => T_give_0 (T := T) (k := nI (N + 1)) (e := Ei 0) v1 w
    have t1 := fun w => T_give_1 (T := T) (k := nI (N + 1)) (e := Ei 0) v1 w
    have t3 : (T_give T (nI (abv cl t)) (nI (N + 1)) (Ei 0)).1 3 = T.1 3 := rfl
    have t4 : (T_give T (nI (abv cl t)) (nI (N + 1)) (Ei 0)).2 = T.2 := rfl
    have tTI : TI (T_give T (nI (abv cl t)) (nI (N + 1)) (Ei 0)) := TI_give a2 v1 hcl v5 hgD (Or.inr leafnb) (fun z => absurd z (nI_nm (by omega))) hclT
    have tTR : TR (T_give T (nI (abv cl t)) (nI (N + 1)) (Ei 0)) (mo_set W e (abv cl t) (nI (N + 1))) e := by
      have := set_TR (k := nI (N + 1)) (a1.fr w12 (by decide)) v1 (nI_nm (by omega))
      rw [← sg_nI (by omega), sg_big (by omega), ← hE0] at this
      exact this
    generalize T_give T (nI (abv cl t)) (nI (N + 1)) (Ei 0) = T' at t0 t1 t3 t4 tTI tTR ⊢
    have z22 : ∀ i, i ≠ 22 → i ≠ 23 → i ≠ 24 → (mo_set W e (abv cl t) (nI (N + 1))).2 i = W.2 i := fun i h1 h2 h3 => ((mo_set_f W e (abv cl t) (nI (N + 1))) i (by simp [h1, h2, h3])).2
    have z1 : ∀ i, (mo_set W e (abv cl t) (nI (N + 1))).1 i = W.1 i := fun i => rfl
    have zf : xfr rn_K X0 (mo_set W e (abv cl t) (nI (N + 1))) := (g4.tr (w12.wk (by decide))).tr ((mo_set_f W e (abv cl t) (nI (N + 1))).wk (by decide))
    have zE : EO e X0 (mo_set W e (abv cl t) (nI (N + 1))) := by
      refine EO.set (g5.tr ⟨fun k' h1 h2 i hi => ?_, fun k' h1 h2 i hi => ?_, fun i hi => ?_⟩) (abv cl t) _ v1
      · by_cases y : k' = 16
        · rw [y, w10, if_neg hi]
        · by_cases y2 : k' = 20
          · rw [y2, w7 i hi]
          · rw [(w12 k' (by simp; omega)).2]
      · by_cases y : k' = 25
        · rw [y, w11, if_neg (by omega)]
        · rw [(w12 k' (by simp; omega)).2]
      · rw [(w12 26 (by decide)).2]
    generalize mo_set W e (abv cl t) (nI (N + 1)) = Z at tTR z22 z1 zf zE ⊢
    have hcg' : ∀ w, inR T' (t - 1) (sib cl t) w ↔ inR T (t - 1) (sib cl t) w := fun w => inR_cg (t - 1) (sib cl t) w v3 v4 (fun u hu hb => by
      have : ¬ u = abv cl t := fun z => off u hu hb (by rw [z]; exact v5)
      rw [t0, t1, if_neg this, if_neg this]
      exact ⟨rfl, rfl⟩)
    have hrd : ∀ w, w < 31 → (bt (E_rdr (upd Ei 3 (Ei 3 ||| ((1 : Int32) <<< (nI (abv cl t) &&& 31))), T', upd ps t (nI N)) (nI t)) w = true ↔ inR T (t - 1) (sib cl t) w ∧ ¬ (w % 2 = 0 ∧ bt (E7.1 6) (w / 2) = true)) := fun w hw => by
      have r1 : ((upd Ei 3 (Ei 3 ||| ((1 : Int32) <<< (nI (abv cl t) &&& 31))), T', upd ps t (nI N)) : e_T).1 1 = nI cl := (upd_n (f := Ei) (i := 3) (k := 1) (a := (Ei 3 ||| ((1 : Int32) <<< (nI (abv cl t) &&& 31)))) (by decide)).trans hE1
      have r6 : ((upd Ei 3 (Ei 3 ||| ((1 : Int32) <<< (nI (abv cl t) &&& 31))), T', upd ps t (nI N)) : e_T).1 6 = E7.1 6 := (upd_n (f := Ei) (i := 3) (k := 6) (a := (Ei 3 ||| ((1 : Int32) <<< (nI (abv cl t) &&& 31)))) (by decide)).trans hE6
      rw [rdr_bt hcl ht5 ht1 r1 hw, ← hcg' w, r6]
    generalize E_rdr (upd Ei 3 (Ei 3 ||| ((1 : Int32) <<< (nI (abv cl t) &&& 31))), T', upd ps t (nI N)) (nI t) = rd at hrd ⊢
    have id' : IDT T' (N + 2) := fun u hu z => by
      rw [t0] at z ⊢
      by_cases y : u = abv cl t
      · rw [if_pos y]
        exact ⟨N + 1, by omega, by omega, rfl⟩
      · rw [if_neg y] at z ⊢
        obtain ⟨i, y1, y2, y3⟩ := a4 u hu z
        exact ⟨i, y1, by omega, y3⟩
    have h619 : Y.2 19 e = E7.1 6 := by rw [h6, (g4 19 (by decide)).2]
    rw [h619] at w2 w6 w9
    have hfl : (bl rd 31 0).length = (flt (E7.1 6) (rsl Y e (t - 1) (sib cl t))).length := by
      refine len_eq (bl_nd rd 31 0) (List.Sublist.nodup List.filter_sublist s1) (fun w => ?_)
      rw [bl_mem, flt_mem, s2]
      constructor
      · rintro ⟨-, y1, y2⟩
        exact (hrd w (by omega)).mp y2
      · intro y
        have := (inR_blw a2 _ _ w v3 v4 y.1).2
        exact ⟨by omega, by omega, (hrd w this).mpr y⟩
    have hfle : (flt (E7.1 6) (rsl Y e (t - 1) (sib cl t))).length ≤ (rsl Y e (t - 1) (sib cl t)).length := List.length_filter_le _ _
    have rdT : ∀ w, w < 31 → bt rd w = true → T'.1 0 w = T.1 0 w ∧ ¬ T.1 0 w = -1 := fun w hw y => by
      have y1 := ((hrd w hw).mp y).1
      refine ⟨?_, inR_nb a2 _ _ w v3 v4 y1⟩
      have : ¬ w = abv cl t := fun z => off w hw (inR_blw a2 _ _ w v3 v4 y1).1 (by rw [z]; exact v5)
      rw [t0, if_neg this]
    obtain ⟨TT3, k1, k2, k3, k4⟩ := ES_enc_r (a := N) (h := t) (rd := rd) (N := N + 1 + 1) (by omega) 31 0 ((upd Ei 3 (Ei 3 ||| ((1 : Int32) <<< (nI (abv cl t) &&& 31))), T', upd ps t (nI N)), (S_der (S_nxt S last).2 (nI N)).2) _ TT2 (by omega) (fun w hw y => by
      obtain ⟨i, y1, y2, y3⟩ := id' w hw (by rw [(rdT w hw y).1]; exact (rdT w hw y).2)
      exact ⟨i, by omega, y3⟩) (by
      show r_get 5 (upd ps t (nI N)) (nI t) = _
      rw [r_get_in (by omega) (by decide), upd_s]) j2 (by
      rw [List.length_append, hfl]
      simp only [List.length_singleton]
      omega)
    dsimp only at k1 k2 k3 k4
    generalize ES_enc rd (nI t) 31 0 ((upd Ei 3 (Ei 3 ||| ((1 : Int32) <<< (nI (abv cl t) &&& 31))), T', upd ps t (nI N)), (S_der (S_nxt S last).2 (nI N)).2) = F at k1 k2 k3 k4 ⊢
    have F3 : F.1.1 3 = Ei 3 ||| ((1 : Int32) <<< (nI (abv cl t) &&& 31)) := (k3 3 (by decide)).trans (upd_s Ei 3 _)
    have F21 : F.1.2.1 = T' := by rw [k2]
    have F22 : F.1.2.2 = upd ps t (nI N) := by rw [k2]
    have bt3 : ∀ w, w < 31 → (bt (F.1.1 3) w = true ↔ bt (Ei 3) w = true ∨ w = abv cl t) := fun w hw => by
      rw [F3, bt_or, bt_1 (abv cl t) (by omega) w (by omega)]
      simp
    -- the ways
    have sgN : sg N = N := sg_big (by omega)
    have sgN1 : sg (N + 1) = N + 1 := sg_big (by omega)
    have XE1 : XE Y N c Z (N + 2) (c + (flt (E7.1 6) (rsl Y e (t - 1) (sib cl t))).length) := by
      refine ⟨by omega, by omega, fun k hk => ?_, fun j hj => ?_⟩
      · rw [z22 2 (by decide) (by decide) (by decide), z22 3 (by decide) (by decide) (by decide), z22 4 (by decide) (by decide) (by decide), w3, w4, w5, if_neg (by omega), if_neg (by omega), if_neg (by omega), if_neg (by omega), if_neg (by omega), if_neg (by omega)]
        exact ⟨rfl, rfl, rfl⟩
      · rw [z22 8 (by decide) (by decide) (by decide), z22 9 (by decide) (by decide) (by decide), z22 10 (by decide) (by decide) (by decide), z22 11 (by decide) (by decide) (by decide)]
        exact w8 j hj
    have kid : ∀ w, w < 31 → bt rd w = true → ∃ i, 1 ≤ i ∧ i < N ∧ T.1 0 w = nI i ∧ ix (T'.1 0 w) = i ∧ Y.2 22 (31 * e + w) = nI (sg i) := fun w hw y => by
      obtain ⟨i, y1, y2, y3⟩ := a4 w hw (rdT w hw y).2
      refine ⟨i, y1, y2, y3, by rw [(rdT w hw y).1, y3]; exact ix_nI (by omega), ?_⟩
      have := (a1.2.1 w hw).1
      rw [y3] at this
      rw [sg_nI (by omega), this, sw_sw]
    have encs : ∀ w, w < 31 → bt rd w = true → ∃ j, c ≤ j ∧ j < c + (flt (E7.1 6) (rsl Y e (t - 1) (sib cl t))).length ∧ Z.2 8 j = Y.2 22 (31 * e + w) ∧ Z.2 9 j = nI N ∧ Z.2 10 j = nI e ∧ Z.2 11 j = nI (abv cl t) := fun w hw y => by
      have hm : w ∈ flt (E7.1 6) (rsl Y e (t - 1) (sib cl t)) := by
        rw [flt_mem, s2]
        exact (hrd w hw).mp y
      obtain ⟨i, hi⟩ := List.mem_iff_getElem?.mp hm
      have hil := (List.getElem?_eq_some_iff.mp hi).1
      refine ⟨c + i, by omega, by omega, ?_⟩
      rw [z22 8 (by decide) (by decide) (by decide), z22 9 (by decide) (by decide) (by decide), z22 10 (by decide) (by decide) (by decide), z22 11 (by decide) (by decide) (by decide)]
      exact w9 i w hi
    have hla : la = last := by
      rcases e1 with z | ⟨a, -, -, z3, z4⟩
      · rw [z.1, z.2]
      · rw [z3, z4]
    have hlast : ∀ a, a < N → last = nI a → n0 < a := fun a ha y => by
      rcases e1 with z | ⟨a', z1, z2, z3, -⟩
      · exact absurd (y.symm.trans z.1) (nI_nm (by omega))
      · rw [z3] at y
        have := (nI_eq (by omega) (by omega)).mp y
        omega
    have IX1 : IX Z (N + 2) (c + (flt (E7.1 6) (rsl Y e (t - 1) (sib cl t))).length) ((L1 ++ [(N, 0, N + 1)]) ++ (bl rd 31 0).map (fun w => (ix (T'.1 0 w), 0, N))) := by
      refine b2.grow XE1 (by omega) (fun x hx => List.mem_append_left _ (List.mem_append_left _ (i4 x hx))) (fun k hk hk2 => ?_) (fun j hj hj2 => ?_) (fun f w t' hm => ?_)
      · unfold IK
        rw [z22 2 (by decide) (by decide) (by decide), z22 3 (by decide) (by decide) (by decide), z22 4 (by decide) (by decide) (by decide), w3, w4, w5]
        by_cases y : k = N + 1
        · rw [if_pos y, if_pos y, if_pos y]
          refine ⟨fun z => absurd z (by decide), N, 0, by omega, by omega, rfl, rfl, by omega, fun _ _ _ => ?_, fun z => absurd z (by decide)⟩
          rw [sgN, y, sgN1]
          exact List.mem_append_left _ (List.mem_append_right _ List.mem_cons_self)
        · have y2 : k = N := by omega
          rw [if_neg y, if_neg y, if_neg y, if_pos y2, if_pos y2, if_pos y2]
          by_cases y3 : la = -1
          · rw [if_pos y3, if_pos y3]
            exact ⟨fun z => absurd z (by decide), 0, 0, by omega, by omega, rfl, rfl, Or.inr rfl, fun _ z _ => absurd rfl z, fun z => absurd z (by decide)⟩
          · rw [if_neg y3, if_neg y3]
            rcases e1 with z | ⟨a, z1, z2, z3, z4⟩
            · exact absurd z.2 y3
            · refine ⟨fun z => absurd z (by decide), a, 0, by omega, by omega, z4, rfl, by omega, fun _ _ _ => ?_, fun z => absurd z (by decide)⟩
              rw [y2, sgN, sg_big (by omega)]
              exact List.mem_append_left _ (List.mem_append_left _ (i6 a z2 z3))
      · obtain ⟨i, rfl⟩ : ∃ i, j = c + i := ⟨j - c, by omega⟩
        obtain ⟨r, hr⟩ : ∃ r, (flt (E7.1 6) (rsl Y e (t - 1) (sib cl t)))[i]? = some r := ⟨_, List.getElem?_eq_getElem (by omega)⟩
        have hm := List.mem_of_getElem? hr
        rw [flt_mem, s2] at hm
        have hr31 := (inR_blw a2 _ _ r v3 v4 hm.1).2
        have hbr := (hrd r hr31).mpr hm
        obtain ⟨id, y1, y2, y3, y4, y5⟩ := kid r hr31 hbr
        have := w9 i r hr
        refine ⟨sg id, N, by have := sg_lt (n := N) (by omega) y2; omega, by omega, ?_, ?_, ?_⟩
        · rw [z22 8 (by decide) (by decide) (by decide), this.1, y5]
        · rw [z22 9 (by decide) (by decide) (by decide), this.2.1]
        · rw [sg_sg, sgN]
          refine List.mem_append_right _ (List.mem_map.mpr ⟨r, (bl_mem rd r 31 0).mpr ⟨by omega, by omega, hbr⟩, by rw [y4]⟩)
      · rcases List.mem_append.mp hm with hm | hm
        · rcases List.mem_append.mp hm with hm | hm
          · rcases i5 _ hm with z | ⟨a, z1, z2, z3⟩
            · exact Or.inl z
            · cases z3
              refine Or.inr (Or.inr ⟨by rw [sgN]; omega, Or.inl ⟨rfl, ?_⟩⟩)
              have y3 : ¬ la = -1 := by rw [hla, z2]; exact nI_nm (by omega)
              have n1 : ¬ N = N + 1 := by omega
              rw [sgN, z22 2 (by decide) (by decide) (by decide), z22 3 (by decide) (by decide) (by decide), w3, w4, if_neg n1, if_neg n1, if_pos rfl, if_pos rfl, if_neg y3, if_neg y3, hla, z2, sg_big (by have := hlast f z1 z2; omega)]
              exact ⟨by decide, by decide, by decide, rfl⟩
          · cases List.mem_singleton.mp hm
            refine Or.inr (Or.inr ⟨by rw [sgN1]; omega, Or.inl ⟨rfl, ?_⟩⟩)
            rw [sgN1, sgN, z22 2 (by decide) (by decide) (by decide), z22 3 (by decide) (by decide) (by decide), w3, w4, if_pos rfl, if_pos rfl]
            exact ⟨by decide, by decide, by decide, rfl⟩
        · obtain ⟨r, hr, y⟩ := List.mem_map.mp hm
          obtain ⟨-, r2, r3⟩ := (bl_mem rd r 31 0).mp hr
          cases y
          obtain ⟨id, y1, y2, y3, y4, y5⟩ := kid r (by omega) r3
          obtain ⟨j, j1, j2, j3, j4, -⟩ := encs r (by omega) r3
          exact Or.inr (Or.inl ⟨rfl, j, j2, by rw [j3, y5, y4], by rw [j4, sgN]⟩)
    refine ⟨N + 2, c + (flt (E7.1 6) (rsl Y e (t - 1) (sib cl t))).length, _, TT3, ⟨by rw [F21]; exact tTR, by rw [F21]; exact tTI, by rw [F21, t4]; exact a3, by rw [F21]; exact id'⟩, ⟨k1, IX1, b3.tr XE1, by rw [z1]; exact w1, by rw [z1]; exact w2⟩, ⟨by omega, by omega, ?_, by omega⟩, ⟨fun i h3 h7 => ?_, ?_, ?_⟩, Or.inr ⟨N, c1, by omega, rfl, rfl⟩, ⟨fun u hu z => ?_, ?_, ?_⟩, fun u hu1 hu2 => ?_, fun u u' hu1 hu2 hu3 z => ?_, fun w hw z => ?_, zf, zE⟩
    · rw [List.length_append, List.length_append, List.length_map, hfl]
      simp only [List.length_singleton]
      omega
    · show F.1.1 i = _
      rw [k3 i h7, upd_n h3]
      exact d1 i h3 h7
    · show F.1.1 3 = Z.2 16 e
      rw [F3, z22 16 (by decide) (by decide) (by decide), w10, if_pos rfl, d2]
    · show F.1.1 7 = Z.2 20 e
      rw [k4, upd_n (by decide), hfl, z22 20 (by decide) (by decide) (by decide), w6, d3]
    · show F.1.2.1.1 0 u = _ ∧ F.1.2.1.1 1 u = _
      obtain ⟨y1, y2⟩ := hvt u hu z
      rw [F21, t0, t1, if_neg y2, if_neg y2]
      exact f1 u hu y1
    · show F.1.2.1.1 3 = _
      rw [F21, t3, f2]
    · show F.1.2.1.1 0 (2 * cl) = _
      rw [F21, t0, if_neg (fun z => v6 z.symm)]
      exact f3
    · show PH E7.2.1 F.1.2.1 (E7.1 6) (F.1.1 3) F.1.2.2 Z e cl n0 (N + 2) _ u
      rw [F21, F22]
      by_cases y : u = t
      · subst y
        refine ⟨fun _ => ⟨(bt3 _ v1).mpr (Or.inr rfl), ⟨N + 1, by omega, by omega, by rw [t0, if_pos rfl]⟩, by rw [t1, if_pos rfl], ⟨N, by omega, by omega, upd_s ps u _, by rw [z22 25 (by decide) (by decide) (by decide), w11, if_pos rfl]⟩, fun w hw y1 y2 => ?_⟩, fun z => absurd ⟨_, (hcg _).mp cc.choose_spec⟩ z⟩
        have hb := (hrd w hw).mpr ⟨(hcg w).mpr y1, y2⟩
        obtain ⟨j, j1, j2, j3, j4, j5, j6⟩ := encs w hw hb
        refine ⟨j, j2, j5, j6, ?_⟩
        rw [j3]
        have h7 := (f1 w hw (fun z => off w hw (inR_blw a2 _ _ w v3 v4 ((hcg w).mpr y1)).1 z.1)).1
        rw [← h7, (a1.2.1 w hw).1, sw_sw]
      · obtain ⟨o1, o2⟩ := oth u hu1 (by omega)
        refine (g1 u hu1 (by omega)).mono (N' := N + 2) (by omega) (by rw [t0, if_neg o2]) (by rw [t1, if_neg o2]) ?_ (upd_n y) (by rw [z22 25 (by decide) (by decide) (by decide), w11, if_neg (by omega)]) XE1
        cases hb : bt (Ei 3) (abv cl u) with
        | true => exact (bt3 _ o1).mpr (Or.inl hb)
        | false =>
          cases hb2 : bt (F.1.1 3) (abv cl u) with
          | false => rfl
          | true =>
            rcases (bt3 _ o1).mp hb2 with z | z
            · rw [hb] at z; cases z
            · exact absurd z o2
    · show ¬ F.1.2.1.1 0 (abv cl u) = F.1.2.1.1 0 (abv cl u')
      have z : ¬ F.1.2.1.1 0 (abv cl u) = -1 := z
      rw [F21] at z ⊢
      obtain ⟨o1, o2⟩ := oth u' hu1 (by omega)
      rw [t0, t0, if_neg o2]
      by_cases y : u = t
      · subst y
        rw [if_pos rfl]
        intro y1
        obtain ⟨i, i1, i2, i3⟩ := a4 (abv cl u') o1 (by rw [← y1]; exact nI_nm (by omega))
        rw [i3] at y1
        have := (nI_eq (by omega) (by omega)).mp y1
        omega
      · obtain ⟨o3, o4⟩ := oth u (by omega) (by omega)
        rw [t0, if_neg o4] at z
        rw [if_neg o4]
        exact g2 u u' hu1 hu2 (by omega) z
    · have z : bt (F.1.1 3) w = true := z
      rcases (bt3 w hw).mp z with y | y
      · obtain ⟨u, u1, u2, u3⟩ := g3 w hw y
        exact ⟨u, u1, by omega, u3⟩
      · exact ⟨t, ht1, by omega, y⟩
  · have q1 : T_reso T (nI (sib cl t)) = 0 := hres.mpr cc
    have q2 : rsl Y e (t - 1) (sib cl t) = [] := hrsl.mpr cc
    rw [if_pos q1, if_pos q2]
    have t0 := fun w => T_give_0 (T := T) (k := -1) (e := -1) v1 w
    have t1 := fun w => T_give_1 (T := T) (k := -1) (e := -1) v1 w
    have t3 : (T_give T (nI (abv cl t)) (-1) (-1)).1 3 = T.1 3 := rfl
    have t4 : (T_give T (nI (abv cl t)) (-1) (-1)).2 = T.2 := rfl
    have tTI : TI (T_give T (nI (abv cl t)) (-1) (-1)) := TI_give a2 v1 hcl v5 hgD (Or.inr leafnb) (fun _ => by rw [v2]; omega) hclT
    have tTR : TR (T_give T (nI (abv cl t)) (-1) (-1)) (mo_bl Y e (abv cl t)) e := bl_TR a1 v1
    have hbl : T_blank T (nI (abv cl t)) = T_give T (nI (abv cl t)) (-1) (-1) := rfl
    rw [hbl]
    generalize T_give T (nI (abv cl t)) (-1) (-1) = T' at t0 t1 t3 t4 tTI tTR ⊢
    have zf := mo_bl_f Y e (abv cl t)
    have zE : EO e X0 (mo_bl Y e (abv cl t)) := g5.bl (abv cl t) v1
    have z1 : ∀ i, (mo_bl Y e (abv cl t)).1 i = Y.1 i := fun i => rfl
    generalize mo_bl Y e (abv cl t) = Z at tTR zf zE z1 ⊢
    have XE1 : XE Y N c Z N c := XE.of zf (by decide)
    have IX1 : IX Z N c L := b2.grow XE1 (by omega) (fun x hx => hx) (fun k h1 h2 => by omega) (fun j h1 h2 => by omega) (fun f w t' hm => Or.inl hm)
    refine ⟨N, c, L, TT, ⟨tTR, tTI, t4.trans a3, fun u hu z => ?_⟩, ⟨b1, IX1, b3.tr XE1, by rw [z1]; exact b4, by rw [z1]; exact b5⟩, ⟨by omega, by omega, by omega, by omega⟩, ⟨d1, by rw [(zf 16 (by decide)).2]; exact d2, by rw [(zf 20 (by decide)).2]; exact d3⟩, e1, ⟨fun u hu z => ?_, t3.trans f2, ?_⟩, fun u hu1 hu2 => ?_, fun u u' hu1 hu2 hu3 z => ?_, fun w hw z => ?_, g4.tr (zf.wk (by decide)), zE⟩
    · have z : ¬ T'.1 0 u = -1 := z
      show ∃ i, 1 ≤ i ∧ i < N ∧ T'.1 0 u = nI i
      rw [t0] at z ⊢
      by_cases y : u = abv cl t
      · rw [if_pos y] at z
        exact absurd rfl z
      · rw [if_neg y] at z ⊢
        exact a4 u hu z
    · show T'.1 0 u = _ ∧ T'.1 1 u = _
      obtain ⟨y1, y2⟩ := hvt u hu z
      rw [t0, t1, if_neg y2, if_neg y2]
      exact f1 u hu y1
    · show T'.1 0 (2 * cl) = _
      rw [t0, if_neg (fun z => v6 z.symm)]
      exact f3
    · show PH E7.2.1 T' (E7.1 6) (Ei 3) ps Z e cl n0 N c u
      by_cases y : u = t
      · subst y
        refine ⟨fun z => absurd ⟨_, (hcg _).mpr z.choose_spec⟩ cc, fun _ => ⟨?_, by rw [t0, if_pos rfl]⟩⟩
        cases hb : bt (Ei 3) (abv cl u) with
        | false => rfl
        | true =>
          obtain ⟨u', u1, u2, u3⟩ := g3 _ v1 hb
          exact absurd u3.symm (oth u' u1 u2).2
      · obtain ⟨o1, o2⟩ := oth u hu1 (by omega)
        exact (g1 u hu1 (by omega)).mono (Nat.le_refl _) (by rw [t0, if_neg o2]) (by rw [t1, if_neg o2]) rfl rfl (by rw [(zf 25 (by decide)).2]) XE1
    · have z : ¬ T'.1 0 (abv cl u) = -1 := z
      show ¬ T'.1 0 (abv cl u) = T'.1 0 (abv cl u')
      obtain ⟨o1, o2⟩ := oth u' hu1 (by omega)
      by_cases y : u = t
      · subst y
        rw [t0, if_pos rfl] at z
        exact absurd rfl z
      · obtain ⟨o3, o4⟩ := oth u (by omega) (by omega)
        rw [t0, if_neg o4] at z
        rw [t0, t0, if_neg o4, if_neg o2]
        exact g2 u u' hu1 hu2 (by omega) z
    · obtain ⟨u, u1, u2, u3⟩ := g3 w hw z
      exact ⟨u, u1, by omega, u3⟩
