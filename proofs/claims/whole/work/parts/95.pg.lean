/-! ===== the pure part: from one epoch's tree to the next's ===== -/
/-- the tree before the path: T0 was the epoch before -/
def MID (T0 : tr_T) (K1 : Nat → k_T) (M : Nat → m_T) (n e : Nat) (b4 b5 : Int32) (nk : Nat → Int32) (K : Nat → k_T) (b6 : Int32) (T7 : tr_T) : Prop := ∃ Ta Tb Tc, RM T0 b4 Ta ∧ SH Ta Tb ∧ UM Tb b5 nk (nI e) Tc ∧ AF Tc K1 M n e K b6 T7
section MIDS
variable {T0 T7 : tr_T} {K1 K : Nat → k_T} {M : Nat → m_T} {n e : Nat} {b4 b5 b6 : Int32} {nk : Nat → Int32}
theorem bt_tf {b : Int32} {i : Nat} (h : ¬ bt b i = true) : bt b i = false := by
  cases c : bt b i with
  | true => exact absurd c h
  | false => rfl
theorem MID.lf (h : MID T0 K1 M n e b4 b5 nk K b6 T7) (hb5 : ∀ l, l < 16 → bt b5 l = true → ¬ T0.1 0 (2 * l) = -1 ∧ bt b4 l = false ∧ ¬ nk l = -1) {l : Nat} (hl : l < 16) (hn : ¬ T7.1 0 (2 * l) = -1) : (bt b6 l = true ∧ ∃ k, k < n ∧ (K k).2 2 = nI e ∧ (K k).2 3 = nI l ∧ T7.1 0 (2 * l) = (K k).2 1 ∧ T7.1 3 l = nI (K k).1) ∨ (bt b6 l = false ∧ bt b4 l = false ∧ ¬ T0.1 0 (2 * l) = -1 ∧ T7.1 3 l = T0.1 3 l ∧ ((bt b5 l = true ∧ T7.1 0 (2 * l) = nk l) ∨ (bt b5 l = false ∧ T7.1 0 (2 * l) = T0.1 0 (2 * l)))) := by
  obtain ⟨Ta, Tb, Tc, hR, hS, hU, hA⟩ := h
  by_cases c6 : bt b6 l = true
  · exact Or.inl ⟨c6, (hA.2.2.1 l hl c6).2.2⟩
  · have c6 := bt_tf c6
    refine Or.inr ⟨c6, ?_⟩
    obtain ⟨q1, q2⟩ := hA.2.1 l hl c6
    rw [q1] at hn ⊢
    rw [q2, hU.2.1, hS.2.2]
    by_cases c5 : bt b5 l = true
    · obtain ⟨p1, p2, p3⟩ := hb5 l hl c5
      exact ⟨p2, p1, (hR.2.2 l hl).2 p2, Or.inl ⟨c5, (hU.2.2.1 l hl c5).1⟩⟩
    · have c5' := bt_tf c5
      have u1 := ((hU.2.2.2 (2 * l) (by omega)).2 (fun z => c5 ((rb_leaf hl).mp z))).1
      rw [u1, hS.2.1 l hl] at hn ⊢
      by_cases c4 : bt b4 l = true
      · exact absurd ((hR.2.1 (2 * l) (by omega)).1 ((rb_leaf hl).mpr c4)).1 hn
      · have c4' := bt_tf c4
        have r1 := ((hR.2.1 (2 * l) (by omega)).2 (fun z => c4 ((rb_leaf hl).mp z))).1
        rw [r1] at hn ⊢
        exact ⟨c4', hn, (hR.2.2 l hl).2 c4', Or.inr ⟨c5', rfl⟩⟩
theorem MID.st (h : MID T0 K1 M n e b4 b5 nk K b6 T7) (hb5 : ∀ l, l < 16 → bt b5 l = true → ¬ T0.1 0 (2 * l) = -1 ∧ bt b4 l = false ∧ ¬ nk l = -1) {l : Nat} (hl : l < 16) (hn : ¬ T0.1 0 (2 * l) = -1) (h4 : bt b4 l = false) : ¬ T7.1 0 (2 * l) = -1 ∧ bt b6 l = false := by
  obtain ⟨Ta, Tb, Tc, hR, hS, hU, hA⟩ := h
  have hc : ¬ Tc.1 0 (2 * l) = -1 := by
    by_cases c5 : bt b5 l = true
    · rw [(hU.2.2.1 l hl c5).1]
      exact (hb5 l hl c5).2.2
    · rw [((hU.2.2.2 (2 * l) (by omega)).2 (fun z => c5 ((rb_leaf hl).mp z))).1, hS.2.1 l hl, ((hR.2.1 (2 * l) (by omega)).2 (fun z => by rw [(rb_leaf hl).mp z] at h4; cases h4)).1]
      exact hn
  by_cases c6 : bt b6 l = true
  · exact absurd (hA.2.2.1 l hl c6).1 hc
  · have c6 := bt_tf c6
    exact ⟨by rw [(hA.2.1 l hl c6).1]; exact hc, c6⟩
theorem MID.inn (h : MID T0 K1 M n e b4 b5 nk K b6 T7) {v : Nat} (hv : v < 31) (hg : 0 < hgt v) (hn : ¬ T7.1 0 v = -1) : T7.1 0 v = T0.1 0 v ∧ ∀ i, i < 16 → bt b6 i = false → bt (T7.1 1 v) i = bt (T0.1 1 v) i := by
  obtain ⟨Ta, Tb, Tc, hR, hS, hU, hA⟩ := h
  obtain ⟨a1, a2⟩ := hA.1 v hv hg
  rw [a1] at hn ⊢
  have u1 : ¬ rb b5 Tb.2 v := fun z => hn ((hU.2.2.2 v hv).1 hg z).1
  obtain ⟨u2, u3, -⟩ := (hU.2.2.2 v hv).2 u1
  rw [u2] at hn ⊢
  rcases hS.1 v hv with z | ⟨s1, s2⟩
  · exact absurd z hn
  rw [s1] at hn ⊢
  have r1 : ¬ rb b4 T0.2 v := fun z => hn ((hR.2.1 v hv).1 z).1
  obtain ⟨r2, r3, -⟩ := (hR.2.1 v hv).2 r1
  refine ⟨r2, fun i hi z => ?_⟩
  rw [u3, s2, r3] at a2
  cases c : bt (T0.1 1 v) i with
  | true => exact (a2 i hi).1 c
  | false =>
    cases d : bt (T7.1 1 v) i with
    | false => rfl
    | true =>
      rcases (a2 i hi).2 d with y | y
      · rw [c] at y; cases y
      · rw [z] at y; cases y
theorem MID.dj (h : MID T0 K1 M n e b4 b5 nk K b6 T7) (hd : DJ T0) : DJ T7 := by
  obtain ⟨Ta, Tb, Tc, hR, hS, hU, hA⟩ := h
  refine hA.2.2.2.2.2.2 (fun l hl l' hl' n1 n2 => ?_)
  rw [hU.2.1, hS.2.2] at n1 n2
  have q : ∀ l, l < 16 → ¬ Ta.1 3 l = -1 → Ta.1 3 l = T0.1 3 l := fun l hl z => (hR.2.2 l hl).2 (bt_tf (fun y => z ((hR.2.2 l hl).1 y)))
  have q1 := q l hl n1
  have q2 := q l' hl' (by rw [← n2]; exact n1)
  exact hd l hl l' hl' (by rw [← q1]; exact n1) (by rw [← q1, ← q2]; exact n2)
theorem MID.add (h : MID T0 K1 M n e b4 b5 nk K b6 T7) {l : Nat} (hl : l < 16) (hb : bt b6 l = true) : (∀ v, v < 31 → 0 < hgt v → ab l v → ¬ T7.1 0 v = -1 → bt (T7.1 1 v) l = true) ∧ ∃ k, k < n ∧ (K k).2 2 = nI e ∧ (K k).2 3 = nI l ∧ T7.1 0 (2 * l) = (K k).2 1 ∧ T7.1 3 l = nI (K k).1 := by
  obtain ⟨Ta, Tb, Tc, hR, hS, hU, hA⟩ := h
  exact (hA.2.2.1 l hl hb).2
theorem MID.pk (h : MID T0 K1 M n e b4 b5 nk K b6 T7) : (∀ k, k < n → (K k).1 = (K1 k).1 ∧ (K k).2 0 = (K1 k).2 0 ∧ (K k).2 1 = (K1 k).2 1 ∧ (K k).2 4 = (K1 k).2 4 ∧ (((K k).2 2 = (K1 k).2 2 ∧ (K k).2 3 = (K1 k).2 3) ∨ ((K1 k).2 2 = -1 ∧ (K k).2 2 = nI e ∧ (M (K k).1).1 2 = -1 ∧ ∃ l, l < 16 ∧ bt b6 l = true ∧ (K k).2 3 = nI l ∧ T7.1 3 l = nI (K k).1 ∧ T7.1 0 (2 * l) = (K k).2 1))) ∧
  (∀ k, k < n → ∀ k', k' < n → (K k).2 2 = nI e → (K k').2 2 = nI e → (K k).1 = (K k').1 → k = k') := by
  obtain ⟨Ta, Tb, Tc, hR, hS, hU, hA⟩ := h
  exact ⟨hA.2.2.2.1, hA.2.2.2.2.1⟩
end MIDS
/-- how an epoch's tree U comes from the one before -/
def TS (T U : tr_T) (cl : Nat) (cnt rem upt add : Int32) : Prop :=
  (∀ l, l < 16 → ¬ T.1 0 (2 * l) = -1 → bt rem l = false → ¬ U.1 0 (2 * l) = -1 ∧ U.1 3 l = T.1 3 l ∧ bt add l = false ∧ (bt upt l = false → l ≠ cl → U.1 0 (2 * l) = T.1 0 (2 * l))) ∧
  (∀ v, v < 31 → 0 < hgt v → ¬ U.1 0 v = -1 → bt cnt v = false → U.1 0 v = T.1 0 v ∧ ∀ l, l < 16 → bt add l = false → bt (U.1 1 v) l = bt (T.1 1 v) l) ∧
  (∀ v, v < 31 → bt cnt v = true → 0 < hgt v ∧ ab cl v ∧ hgt v ≤ U.2 ∧ ¬ U.1 0 v = -1 ∧ U.1 1 v = 0) ∧
  ((∀ v, v < 31 → bt cnt v = false) ∨ ∀ u, 1 ≤ u → u ≤ U.2 → (∃ w, inR U (u - 1) (sib cl u) w) → bt cnt (abv cl u) = true) ∧
  (∀ l, l < 16 → bt add l = true → ∀ v, v < 31 → 0 < hgt v → ab l v → ¬ U.1 0 v = -1 → bt cnt v = false → bt (U.1 1 v) l = true) ∧
  (cl < 16 ∧ ¬ T.1 0 (2 * cl) = -1 ∧ bt rem cl = false ∧ bt upt cl = false)
/-- every reader of a counting node has its encryption -/
def ENC (U : tr_T) (cl e : Nat) (cnt add : Int32) (X : x_T) (c : Nat) : Prop := ∀ u, 1 ≤ u → u ≤ U.2 → bt cnt (abv cl u) = true → ∀ w, w < 31 → inR U (u - 1) (sib cl u) w → ¬ (w % 2 = 0 ∧ bt add (w / 2) = true) → ∃ j, j < c ∧ X.2 10 j = nI e ∧ X.2 11 j = nI (abv cl u) ∧ X.2 8 j = sw (U.1 0 w)
section TSS
variable {T0 : tr_T} {K1 K : Nat → k_T} {M : Nat → m_T} {n e : Nat} {nk : Nat → Int32} {E7 : e_T} {cl : Nat}
theorem TS.no (h : MID T0 K1 M n e (E7.1 4) (E7.1 5) nk K (E7.1 6) E7.2.1) (hb5 : ∀ l, l < 16 → bt (E7.1 5) l = true → ¬ T0.1 0 (2 * l) = -1 ∧ bt (E7.1 4) l = false ∧ ¬ nk l = -1) (h3 : E7.1 3 = 0) (hcl : cl < 16) (hc0 : ¬ T0.1 0 (2 * cl) = -1) (hc4 : bt (E7.1 4) cl = false) (hc5 : bt (E7.1 5) cl = false) (X : x_T) (c : Nat) : TS T0 E7.2.1 cl (E7.1 3) (E7.1 4) (E7.1 5) (E7.1 6) ∧ ENC E7.2.1 cl e (E7.1 3) (E7.1 6) X c := by
  rw [h3]
  refine ⟨⟨fun l hl z1 z2 => ?_, fun v hv hg z _ => h.inn hv hg z, fun v hv z => ?_, Or.inl (fun v _ => bt_0 v), fun l hl z v hv hg ha hn _ => (h.add hl z).1 v hv hg ha hn, hcl, hc0, hc4, hc5⟩, fun u _ _ z => ?_⟩
  · obtain ⟨a1, a2⟩ := h.st hb5 hl z1 z2
    rcases h.lf hb5 hl a1 with ⟨y, -⟩ | ⟨-, -, -, y3, y4⟩
    · rw [a2] at y; cases y
    · refine ⟨a1, y3, a2, fun y5 _ => ?_⟩
      rcases y4 with ⟨q, -⟩ | ⟨-, q⟩
      · rw [y5] at q; cases q
      · exact q
  · rw [bt_0] at z; cases z
  · rw [bt_0] at z; cases z
theorem TS.path {k n0 c0 l0 : Nat} {T9 TT : List Nat} {X0 : x_T} {q : (e_T × s_T) × Int32} {p : x_T × Int32} {N c : Nat} {L : w_L} (h : MID T0 K1 M n e (E7.1 4) (E7.1 5) nk K (E7.1 6) E7.2.1) (hP : PS E7 e cl k T9 X0 n0 c0 l0 (E7.2.1.2 + 1) q p N c L TT) (hn0 : n0 < 2200) (hb5 : ∀ l, l < 16 → bt (E7.1 5) l = true → ¬ T0.1 0 (2 * l) = -1 ∧ bt (E7.1 4) l = false ∧ ¬ nk l = -1) (hcl : cl < 16) (hc0 : ¬ T0.1 0 (2 * cl) = -1) (hc4 : bt (E7.1 4) cl = false) (hc5 : bt (E7.1 5) cl = false) (hD : E7.2.1.2 ≤ 4) : TS T0 q.1.1.2.1 cl (q.1.1.1 3) (E7.1 4) (E7.1 5) (E7.1 6) ∧ ENC q.1.1.2.1 cl e (q.1.1.1 3) (E7.1 6) p.1 c := by
  obtain ⟨⟨a1, a2, a3, a4⟩, ⟨b1, b2, b3, b4, b5⟩, ⟨c1, c2, c3, c4⟩, ⟨d1, d2, d3⟩, e1, ⟨f1, f2, f3⟩, g1, g2, g3, g4, g5⟩ := hP
  have hcg : ∀ u, 1 ≤ u → u < E7.2.1.2 + 1 → ∀ w, inR q.1.1.2.1 (u - 1) (sib cl u) w ↔ inR E7.2.1 (u - 1) (sib cl u) w := fun u h1 h2 w => by
    obtain ⟨v1, v2, v3, v4, v5, v6⟩ := abv_sib cl hcl u (by omega) h1
    exact inR_cg (u - 1) (sib cl u) w v3 v4 (fun x hx hb => f1 x hx (fun z => sib_off cl hcl u (by omega) x hx ⟨h1, hb.1, hb.2⟩ z.1))
  have same : ∀ v, v < 31 → 0 < hgt v → ¬ q.1.1.2.1.1 0 v = -1 → bt (q.1.1.1 3) v = false → q.1.1.2.1.1 0 v = E7.2.1.1 0 v ∧ q.1.1.2.1.1 1 v = E7.2.1.1 1 v := fun v hv hg z1 z2 => by
    refine f1 v hv (fun z => ?_)
    have hab : abv cl (hgt v) = v := z.1
    have hp := g1 (hgt v) hg z.2
    unfold PH at hp
    rw [hab] at hp
    by_cases y : ∃ w, inR E7.2.1 (hgt v - 1) (sib cl (hgt v)) w
    · rw [(hp.1 y).1] at z2; cases z2
    · exact z1 (hp.2 y).2
  refine ⟨⟨fun l hl z1 z2 => ?_, fun v hv hg z1 z2 => ?_, fun v hv z => ?_, Or.inr (fun u h1 h2 y => ?_), fun l hl z v hv hg ha hn hc => ?_, hcl, hc0, hc4, hc5⟩, fun u h1 h2 z w hw y1 y2 => ?_⟩
  · obtain ⟨a1', a2'⟩ := h.st hb5 hl z1 z2
    rw [f2]
    by_cases y : l = cl
    · subst y
      rw [f3]
      rcases h.lf hb5 hl a1' with ⟨y, -⟩ | ⟨-, -, -, y3, -⟩
      · rw [a2'] at y; cases y
      · exact ⟨nI_nm (by omega), y3, a2', fun _ y => absurd rfl y⟩
    · have := (f1 (2 * l) (by omega) (fun z => y ((ab_leaf cl hcl l hl).mp z.1).symm)).1
      rw [this]
      rcases h.lf hb5 hl a1' with ⟨y, -⟩ | ⟨-, -, -, y3, y4⟩
      · rw [a2'] at y; cases y
      · refine ⟨a1', y3, a2', fun y5 _ => ?_⟩
        rcases y4 with ⟨q, -⟩ | ⟨-, q⟩
        · rw [y5] at q; cases q
        · exact q
  · obtain ⟨s1, s2⟩ := same v hv hg z1 z2
    rw [s1] at z1
    rw [s1, s2]
    exact h.inn hv hg z1
  · obtain ⟨u, u1, u2, u3⟩ := g3 v hv z
    obtain ⟨v1, v2, v3, v4, v5, v6⟩ := abv_sib cl hcl u (by omega) u1
    subst u3
    have hp := g1 u u1 u2
    by_cases y : ∃ w, inR E7.2.1 (u - 1) (sib cl u) w
    · obtain ⟨-, ⟨i, i1, i2, i3⟩, i4, -⟩ := hp.1 y
      have hN := b1.1.2.1.2.1
      exact ⟨by rw [v2]; omega, v5, by rw [v2, a3]; omega, by rw [i3]; exact nI_nm (by omega), i4⟩
    · rw [(hp.2 y).1] at z; cases z
  · rw [a3] at h2
    obtain ⟨w, hw⟩ := y
    exact ((g1 u h1 (by omega)).1 ⟨w, (hcg u h1 (by omega) w).mp hw⟩).1
  · obtain ⟨s1, s2⟩ := same v hv hg hn hc
    rw [s1] at hn
    rw [s2]
    exact (h.add hl z).1 v hv hg ha hn
  · rw [a3] at h2
    have y1' := (hcg u h1 (by omega) w).mp y1
    obtain ⟨-, -, -, -, i5⟩ := (g1 u h1 (by omega)).1 ⟨w, y1'⟩
    obtain ⟨v1, v2, v3, v4, v5, v6⟩ := abv_sib cl hcl u (by omega) h1
    obtain ⟨j, j1, j2, j3, j4⟩ := i5 w hw y1' y2
    have hb := (inR_blw a2 _ _ w v3 v4 y1).1
    rw [(f1 w hw (fun z => sib_off cl hcl u (by omega) w hw ⟨h1, hb.1, hb.2⟩ z.1)).1]
    exact ⟨j, j1, j2, j3, j4⟩
end TSS
