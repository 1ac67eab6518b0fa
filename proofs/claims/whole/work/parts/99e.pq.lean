/-! ===== the pure part: updates and compromises ===== -/
theorem R.update {n : Nat} {G : G_T} {X : x_T} (h : R n G X) (hn : n < 512) (hq : nq G < 20) {j : Nat} (hj : j < 16) (hat : X.2 27 j = nI (ne G - 1)) : ∃ N u, X.1 1 = nI N ∧ N + 1 ≤ 2600 ∧ u ≤ nq G ∧ X.2 31 j = nI u ∧ R (n + 1) (G_upd G j) (mo_upd X (nq G) N j u (nI j)) := by
  obtain ⟨h5, N, c, L, T, ro, cn, hA, hT, hM, hP, hQ, hI, hS⟩ := h
  have h60 := hA.1.2.2.1
  have h61 := hA.1.2.1
  obtain ⟨s0, t0, ⟨b1, b2, b3, b4⟩, b5⟩ := hS
  have hS0 : RS0 (gS G) X N c L T := ⟨s0, t0, b1⟩
  have hN2 : N + 2 < 2200 := by omega
  obtain ⟨u, hu, hu31⟩ := hM.2 j hj hat
  obtain ⟨ro', ro1, roN⟩ : ∃ ro' : Nat → Nat, (∀ x, x < N → ro' x = ro x) ∧ ro' N = 3 := ⟨fun x => if x = N then 3 else ro x, fun x hx => by
    show (if x = N then 3 else ro x) = ro x
    rw [if_neg (by omega)], if_pos rfl⟩
  refine ⟨N, u, s0.2.2.2.2.1, by omega, hu, hu31, by omega, N + 1, c, L, T, ro', cn, ?_⟩
  obtain ⟨f1, f2⟩ := hS0.fresh (by omega)
  obtain ⟨⟨m1, m2, m3, m4, m5, m6⟩, ⟨u0, v1, v2, v3, v4⟩, mc⟩ := hM.1 j hj
  have eu : u0 = u := nI_j (by omega) (by omega) (v3.symm.trans hu31)
  subst eu
  have swN : sw (nI N) = nI N := by rw [← sg_nI (by omega), sg_big b1]
  have mk : M_keep (gM G j) (nI N) = (upd (gM G j).1 1 (nI (u0 + 1)), va_up (gM G j).2 1 (upd ((gM G j).2 1) u0 (nI N))) := by
    unfold M_keep
    rw [v2, if_pos (show nI u0 < 20 from nI_lt (a := u0) (b := 20) (by omega) (by decide)), nI_1, show r_put (m_len 1) ((gM G j).2 1) (nI u0) (nI N) = upd ((gM G j).2 1) u0 (nI N) from r_put_in (by show u0 < 20; omega) (by decide)]
  have hG : G_upd G j = G_prop (sM (sS G (S_fresh (gS G)).2) j (upd (gM G j).1 1 (nI (u0 + 1)), va_up (gM G j).2 1 (upd ((gM G j).2 1) u0 (nI N)))) (2, 0, (gM G j).1 3, nI N) := by
    unfold G_upd
    rw [f1, mk]
    rfl
  rw [hG]
  have gm : ∀ i, gM (G_prop (sM (sS G (S_fresh (gS G)).2) j (upd (gM G j).1 1 (nI (u0 + 1)), va_up (gM G j).2 1 (upd ((gM G j).2 1) u0 (nI N)))) (2, 0, (gM G j).1 3, nI N)) i = if i = j then (upd (gM G j).1 1 (nI (u0 + 1)), va_up (gM G j).2 1 (upd ((gM G j).2 1) u0 (nI N))) else gM G i := fun i => rfl
  have gmo : ∀ i, i ≠ j → gM (G_prop (sM (sS G (S_fresh (gS G)).2) j (upd (gM G j).1 1 (nI (u0 + 1)), va_up (gM G j).2 1 (upd ((gM G j).2 1) u0 (nI N)))) (2, 0, (gM G j).1 3, nI N)) i = gM G i := fun i hi => by rw [gm, if_neg hi]
  have gms : gM (G_prop (sM (sS G (S_fresh (gS G)).2) j (upd (gM G j).1 1 (nI (u0 + 1)), va_up (gM G j).2 1 (upd ((gM G j).2 1) u0 (nI N)))) (2, 0, (gM G j).1 3, nI N)) j = (upd (gM G j).1 1 (nI (u0 + 1)), va_up (gM G j).2 1 (upd ((gM G j).2 1) u0 (nI N))) := by rw [gm, if_pos rfl]
  have gq : ∀ k, gQ (G_prop (sM (sS G (S_fresh (gS G)).2) j (upd (gM G j).1 1 (nI (u0 + 1)), va_up (gM G j).2 1 (upd ((gM G j).2 1) u0 (nI N)))) (2, 0, (gM G j).1 3, nI N)) k = if k = nq G then (2, 0, (gM G j).1 3, nI N) else gQ G k := fun k => rfl
  have gqo : ∀ k, k < nq G → gQ (G_prop (sM (sS G (S_fresh (gS G)).2) j (upd (gM G j).1 1 (nI (u0 + 1)), va_up (gM G j).2 1 (upd ((gM G j).2 1) u0 (nI N)))) (2, 0, (gM G j).1 3, nI N)) k = gQ G k := fun k hk => by rw [gq, if_neg (by omega)]
  have gqs : gQ (G_prop (sM (sS G (S_fresh (gS G)).2) j (upd (gM G j).1 1 (nI (u0 + 1)), va_up (gM G j).2 1 (upd ((gM G j).2 1) u0 (nI N)))) (2, 0, (gM G j).1 3, nI N)) (nq G) = (2, 0, (gM G j).1 3, nI N) := by rw [gq, if_pos rfl]
  have gk : gK (G_prop (sM (sS G (S_fresh (gS G)).2) j (upd (gM G j).1 1 (nI (u0 + 1)), va_up (gM G j).2 1 (upd ((gM G j).2 1) u0 (nI N)))) (2, 0, (gM G j).1 3, nI N)) = gK G := rfl
  have ge : gE (G_prop (sM (sS G (S_fresh (gS G)).2) j (upd (gM G j).1 1 (nI (u0 + 1)), va_up (gM G j).2 1 (upd ((gM G j).2 1) u0 (nI N)))) (2, 0, (gM G j).1 3, nI N)) = gE G := rfl
  have gne : ne (G_prop (sM (sS G (S_fresh (gS G)).2) j (upd (gM G j).1 1 (nI (u0 + 1)), va_up (gM G j).2 1 (upd ((gM G j).2 1) u0 (nI N)))) (2, 0, (gM G j).1 3, nI N)) = ne G := rfl
  have gnp : np (G_prop (sM (sS G (S_fresh (gS G)).2) j (upd (gM G j).1 1 (nI (u0 + 1)), va_up (gM G j).2 1 (upd ((gM G j).2 1) u0 (nI N)))) (2, 0, (gM G j).1 3, nI N)) = np G := rfl
  have gnq : nq (G_prop (sM (sS G (S_fresh (gS G)).2) j (upd (gM G j).1 1 (nI (u0 + 1)), va_up (gM G j).2 1 (upd ((gM G j).2 1) u0 (nI N)))) (2, 0, (gM G j).1 3, nI N)) = nq G + 1 := rfl
  have gs : gS (G_prop (sM (sS G (S_fresh (gS G)).2) j (upd (gM G j).1 1 (nI (u0 + 1)), va_up (gM G j).2 1 (upd ((gM G j).2 1) u0 (nI N)))) (2, 0, (gM G j).1 3, nI N)) = (S_fresh (gS G)).2 := rfl
  clear hG mk
  have r43 : ∀ k, (mo_upd X (nq G) N j u0 (nI j)).2 43 k = if k = nq G then 2 else X.2 43 k := fun k => rfl
  have r44 : ∀ k, (mo_upd X (nq G) N j u0 (nI j)).2 44 k = if k = nq G then nI j else X.2 44 k := fun k => rfl
  have r45 : ∀ k, (mo_upd X (nq G) N j u0 (nI j)).2 45 k = if k = nq G then nI N else X.2 45 k := fun k => rfl
  have r34 : ∀ k, (mo_upd X (nq G) N j u0 (nI j)).2 34 k = if k = 20 * j + u0 then nI N else X.2 34 k := fun k => rfl
  have r31 : ∀ k, (mo_upd X (nq G) N j u0 (nI j)).2 31 k = if k = j then nI (u0 + 1) else X.2 31 k := fun k => rfl
  have r2 : ∀ k, (mo_upd X (nq G) N j u0 (nI j)).2 2 k = if k = N then 1 else X.2 2 k := fun k => rfl
  have r3 : ∀ k, (mo_upd X (nq G) N j u0 (nI j)).2 3 k = if k = N then 0 else X.2 3 k := fun k => rfl
  refine ⟨⟨⟨by rw [gne]; exact hA.1.1, by rw [gne]; exact h61, by rw [gne]; exact h60, by rw [gnp]; exact hA.1.2.2.2.1, by rw [gnp]; exact hA.1.2.2.2.2.1, by rw [gnq]; rfl, by rw [gnq]; omega⟩, hA.2.1, hA.2.2⟩, hT, ⟨fun i hi => ?_, fun i hi z => ?_⟩, hP, fun k hk => ?_, ⟨fun a ha => ?_, fun k hk => ?_, fun i hi u hu' z1 k hk => ?_, fun k hk z => ?_⟩, ?_⟩
  · by_cases y : i = j
    · subst y
      rw [gms]
      have o : ∀ q, q ≠ 1 → upd (gM G i).1 1 (nI (u0 + 1)) q = (gM G i).1 q := fun q hq => upd_n hq
      refine ⟨⟨(o 0 (by decide)).trans m1, (o 2 (by decide)).trans m2, (o 3 (by decide)).trans m3, (o 4 (by decide)).trans m4, (o 5 (by decide)).trans m5, m6⟩, ⟨u0 + 1, by omega, upd_s (gM G i).1 1 (nI (u0 + 1)), by rw [r31, if_pos rfl], fun k hk => ?_⟩, ?_⟩
      · rw [r34]
        show upd ((gM G i).2 1) u0 (nI N) k = _
        by_cases y : k = u0
        · rw [y, upd_s, if_pos rfl, swN]
        · rw [upd_n y, if_neg (by omega)]
          exact v4 k (by omega)
      · rcases mc with ⟨c1, -⟩ | z
        · exact absurd (hat.symm.trans c1) (nI_nm (by omega))
        · obtain ⟨a, l, c1, c2, c3, c4, c5, c6⟩ := z
          exact Or.inr ⟨a, l, c1, c2, c3, c4, (o 4 (by decide)).trans c5, c6⟩
    · rw [gmo i y]
      obtain ⟨p1, ⟨w, w1, w2, w3, w4⟩, p3⟩ := hM.1 i hi
      refine ⟨p1, ⟨w, w1, w2, by rw [r31, if_neg y]; exact w3, fun k hk => ?_⟩, p3⟩
      rw [r34, if_neg (by omega)]
      exact w4 k hk
  · rw [r31, gnq]
    rw [gne] at z
    by_cases y : i = j
    · rw [if_pos y]
      exact ⟨u0 + 1, by omega, rfl⟩
    · rw [if_neg y]
      obtain ⟨w, w1, w2⟩ := hM.2 i hi z
      exact ⟨w, by omega, w2⟩
  · rw [gnq] at hk
    have hfu : fu_l (mo_upd X (nq G) N j u0 (nI j)) k = X.2 28 (ix (if k = nq G then nI j else X.2 44 k)) := by
      show (mo_upd X (nq G) N j u0 (nI j)).2 28 (ix ((mo_upd X (nq G) N j u0 (nI j)).2 44 k)) = _
      rw [r44]
      rfl
    rw [r43, r44, r45, hfu, gne, gnp]
    by_cases y : k = nq G
    · rw [if_pos y, if_pos y, if_pos y, y, gqs, ix_nI (by omega)]
      exact ⟨rfl, (by decide : 2 < 3), ⟨j, hj, rfl, hat⟩, fun z => absurd z (by decide : ¬ 2 = 0), fun z => absurd z (by decide : ¬ 2 = 1), fun _ => ⟨m3, swN.symm⟩⟩
    · rw [if_neg y, if_neg y, if_neg y, gqo k (by omega)]
      exact hQ k (by omega)
  · obtain ⟨k1, k2, k3, ⟨s, e1, e2, e3, e4⟩, k5, k6⟩ := hI.1 a ha
    refine ⟨by omega, k2, k3, ⟨s, e1, e2, e3, by rw [ro1 s (by omega)]; exact e4⟩, k5, fun v hv z => ?_⟩
    obtain ⟨i, i1, i2, i3, i4, i5⟩ := k6 v hv z
    exact ⟨i, i1, i2, i3, by rw [ro1 i (by omega)]; exact i4, by rw [ro1 i (by omega)]; exact i5⟩
  · have hk : k < np G := hk
    obtain ⟨f, w1, w2, w3, w4, w5, w6, w7⟩ := hI.2.1 k hk
    refine ⟨f, w1, by omega, w3, w4, by rw [ro1 f (by omega)]; exact w5, by rw [ro1 _ (by omega)]; exact w6, fun k' hk' f' hf' z => ?_⟩
    obtain ⟨x, x1, x2, x3, -⟩ := hI.2.1 k' (by omega)
    have z : (gK G k').2 0 = nI f' := z
    rw [x3] at z
    have := nI_j (by omega) (by omega) z
    exact w7 k' hk' f' (by omega) (by rw [x3, this])
  · by_cases y : i = j
    · subst y
      rw [gms] at z1 ⊢
      have z1 : upd (gM G i).1 1 (nI (u0 + 1)) 1 = nI u := z1
      rw [upd_s] at z1
      have eu := nI_j (by omega) (by omega) z1
      subst eu
      show ∃ x, 3 ≤ x ∧ x < N + 1 ∧ upd ((gM G i).2 1) u0 (nI N) k = nI x ∧ ro' x = 3 ∧ (∀ a, a < ne G → upd (gM G i).1 1 (nI (u0 + 1)) 2 = nI a → cn a ≤ x) ∧ ∀ k', k' < k → ∀ i', i' < N + 1 → upd ((gM G i).2 1) u0 (nI N) k' = nI i' → i' < x
      rw [upd_n (show (2 : Nat) ≠ 1 by decide)]
      by_cases y : k = u0
      · subst y
        rw [upd_s]
        refine ⟨N, b1, by omega, rfl, roN, fun a ha _ => (hI.1 a ha).1, fun k' hk' i' hi' z => ?_⟩
        rw [upd_n (by omega)] at z
        obtain ⟨x, x1, x2, x3, -⟩ := hI.2.2.1 i hi k v1 v2 k' hk'
        rw [x3] at z
        have := nI_j (by omega) (by omega) z
        omega
      · rw [upd_n y]
        obtain ⟨x, x1, x2, x3, x4, x5, x6⟩ := hI.2.2.1 i hi u0 v1 v2 k (by omega)
        refine ⟨x, x1, by omega, x3, by rw [ro1 x x2]; exact x4, x5, fun k' hk' i' hi' z => ?_⟩
        rw [upd_n (by omega)] at z
        obtain ⟨x', y1, y2, y3, -⟩ := hI.2.2.1 i hi u0 v1 v2 k' (by omega)
        have e := z
        rw [y3] at e
        have := nI_j (by omega) (by omega) e
        exact x6 k' hk' i' (by omega) z
    · rw [gmo i y] at z1 ⊢
      obtain ⟨x, x1, x2, x3, x4, x5, x6⟩ := hI.2.2.1 i hi u hu' z1 k hk
      refine ⟨x, x1, by omega, x3, by rw [ro1 x x2]; exact x4, x5, fun k' hk' i' hi' z => ?_⟩
      obtain ⟨x', y1, y2, y3, -⟩ := hI.2.2.1 i hi u hu' z1 k' (by omega)
      have e := z
      rw [y3] at e
      have := nI_j (by omega) (by omega) e
      exact x6 k' hk' i' (by omega) z
  · rw [gnq] at hk
    have old : ∀ k', k' < nq G → (gQ G k').1 = 2 → ∀ i', i' < N + 1 → (gQ G k').2.2.2 = nI i' → i' < N := fun k' hk' q i' hi' z' => by
      obtain ⟨x', y1, y2, -⟩ := hI.2.2.2 k' hk' q
      rw [y2] at z'
      have := nI_j (by omega) (by omega) z'
      omega
    by_cases y : k = nq G
    · subst y
      rw [gqs]
      refine ⟨N, by omega, rfl, roN, (hI.1 (ne G - 1) (by omega)).1, fun k' hk' q i' hi' z' => ?_⟩
      rw [gqo k' hk'] at q z'
      exact old k' hk' q i' hi' z'
    · rw [gqo k (by omega)] at z ⊢
      obtain ⟨x, w1, w2, w3, w4, w5⟩ := hI.2.2.2 k (by omega) z
      refine ⟨x, by omega, w2, by rw [ro1 x w1]; exact w3, w4, fun k' hk' q i' hi' z' => ?_⟩
      rw [gqo k' (by omega)] at q z'
      exact w5 k' hk' q i' (old k' (by omega) q i' hi' z') z'
  · refine ⟨f2.1, f2.2.1, ⟨by omega, by omega, b3, b4⟩, fun k hk z => ?_⟩
    rw [r2] at z
    rw [r3]
    by_cases y' : k = N
    · rw [if_pos y'] at z
      exact absurd z (by decide)
    · rw [if_neg y'] at z ⊢
      obtain ⟨f, s, w1, w2, w3, w4⟩ := b5 k (by omega) z
      exact ⟨f, s, w1, by omega, w3, w4⟩
theorem S_tl_r {N k0 : Nat} {L : w_L} {f : Nat → Int32} {B : List Int32} (hB : ∀ i x, B[i]? = some x → f i = x) (hb : B.length ≤ 172) (hid : ∀ x, x ∈ B → ∃ i, i < N ∧ x = nI i) : ∀ (m k : Nat) (S : s_T) (T : List Nat), k + m = B.length → SV S N L T k0 → PI L T k0 → ∃ T', SV (S_tl f m k S) N L T' k0 ∧ PI L T' k0 ∧ T <+: T' ∧ (∀ x, tld T' x → tld T x ∨ nI x ∈ B) ∧ ∀ i x, k ≤ i → B[i]? = some (nI x) → x < N → tld T' x := by
  intro m
  induction m with
  | zero =>
    intro k S T hk h hp
    refine ⟨T, h, hp, List.prefix_refl _, fun x => Or.inl, fun i x hi hx _ => ?_⟩
    have := (List.getElem?_eq_some_iff.mp hx).1
    omega
  | succ m ih =>
    intro k S T hk h hp
    have hk2 : k < B.length := by omega
    have hN := h.2.1.2.1
    obtain ⟨y, hy⟩ : ∃ y, B[k]? = some y := ⟨_, List.getElem?_eq_getElem hk2⟩
    obtain ⟨i, hi, rfl⟩ := hid y (List.mem_of_getElem? hy)
    have hg : r_get 172 f (nI k) = nI i := by
      rw [r_get_in (by omega) (by decide)]
      exact hB k _ hy
    unfold S_tl
    rw [hg]
    have h1 := h.tell hi
    have hp1 : PI L (tl1 T i) k0 := fun f' w' t' hm p1 p2 => pre_tld (tl1_pre T i) (hp f' w' t' hm ((prc_pre (tl1_pre T i) h.2.1.2.2.2.1).mp p1) ((prc_pre (tl1_pre T i) h.2.1.2.2.2.1).mp p2))
    obtain ⟨T', r1, r2, r3, r4, r5⟩ := ih (k + 1) _ (tl1 T i) (by omega) h1 hp1
    refine ⟨T', r1, r2, (tl1_pre T i).trans r3, fun x hx => ?_, fun i' x hi' hx hxN => ?_⟩
    · rcases r4 x hx with z | z
      · rcases tl1_or z with w | w
        · exact Or.inl w
        · rw [w]
          exact Or.inr (List.mem_of_getElem? hy)
      · exact Or.inr z
    · by_cases e : i' = k
      · rw [e, hy] at hx
        have := nI_j (by omega) (by omega) (Option.some.inj hx)
        subst this
        exact pre_tld r3 (tl1_s T i)
      · exact r5 i' x (by omega) hx hxN
theorem R.comp {n : Nat} {G : G_T} {X X' : x_T} (h : R n G X) (hn : n < 512) {j : Nat} (hj : j < 16) (hf : xfr [0, 5, 46, 47] X X') (hx : ∀ i, i < 2600 → X'.2 5 i = if nI i ∈ gat X j then 1 else X.2 5 i) : ∃ nn k0, S_n (gS G) nn k0 ∧ (G_gat G j).1 = (gat X j).length ∧ R (n + 1) (G_comp G j nn k0) X' := by
  classical
  obtain ⟨h5, N, c, L, T, ro, cn, hA, hT, hM, hP, hQ, hI, hS⟩ := h
  obtain ⟨u, u1, u2, u3, u4, u5, u6⟩ := CL_r hA hM hP hI hS hj
  have hbl := G_gat_r u1 u2 hA.1.2.2.2.2.1
  have hlen := gat_leq u4 u5 u3 u1 hA.1.2.2.2.1 hA.1.2.2.2.2.1
  have hXe : X' = srb (fun k => if k = 5 then X'.1 5 else X.1 k, va_up X.2 5 (X'.2 5)) X' := by
    refine srb_eq (K := [0, 46, 47]) (fun k hk => ⟨?_, ?_⟩) (by decide)
    · show X'.1 k = if k = 5 then X'.1 5 else X.1 k
      by_cases z : k = 5
      · rw [if_pos z, z]
      · rw [if_neg z]
        exact (hf k (by simp at hk ⊢; omega)).1
    · show X'.2 k = va_up X.2 5 (X'.2 5) k
      unfold va_up
      by_cases z : k = 5
      · rw [if_pos z, z]
      · rw [if_neg z]
        exact (hf k (by simp at hk ⊢; omega)).2
  have h60 := hA.1.2.2.1
  have h61 := hA.1.2.1
  obtain ⟨⟨s1, s2, s3, s4, s5, s6⟩, ⟨t1, t2, t3, t4⟩, ⟨b1, b2, b3, b4⟩, b5⟩ := hS
  have hN := s1.2.1.2.1
  have hTl := s1.T_len
  refine ⟨L.length, T.length, ⟨s1.1.2.1, s1.2.1.2.2.1, s1.1.2.2.2, by omega⟩, by rw [hbl.1]; exact hlen, ?_⟩
  rw [hXe]
  refine R.scr ?_ X'
  generalize hF : X'.2 5 = F at hx
  clear hXe hf
  have h172 : (CL G j u).length ≤ 172 := by
    have l1 : (lc1 G j).length ≤ 1 := by
      unfold lc1
      by_cases c : ¬ (gM G j).1 4 = 0 ∧ r_in (ne G) ((gM G j).1 2)
      · rw [if_pos c]; exact Nat.le_refl _
      · rw [if_neg c]; exact Nat.zero_le _
    have l2 := (lm_r ((gM G j).2 0) 31 0).1
    have l3 := (lf_r ((gM G j).2 1) u 0).1
    have l4 := (lp_r (gK G) j (np G) 0).1
    have l5 := hA.1.2.2.2.2.1
    unfold CL
    rw [List.length_append, List.length_append, List.length_append]
    omega
  obtain ⟨T1, p1, p2, p3, p4, p5⟩ := S_tl_r (f := (G_gat G j).2) (B := CL G j u) hbl.2 h172 (fun x hx => by
    obtain ⟨i, i1, i2, i3⟩ := u6 x hx
    exact ⟨i, i2, i3⟩) (CL G j u).length 0 (gS G) T (by omega) s1 s2
  rw [← hbl.1] at p1
  obtain ⟨T2, q1, q2, q3, q4⟩ := SV.set s3 (2201 - T.length) _ T1 T.length (by omega) p1 p2
  have hways : ∀ f w t, (f, w, t) ∈ L → f < N ∧ w < N ∧ t < N := fun f w t hm => by
    obtain ⟨i, hi⟩ := List.mem_iff_getElem?.mp hm
    obtain ⟨-, -, -, d4, d5, d6⟩ := s1.2.2.2.2.1 i f w t hi
    exact ⟨d4, d5, d6⟩
  have hgat : ∀ k, k < N → (nI k ∈ gat X j ↔ nI (sg k) ∈ CL G j u) := fun k hk => by
    rw [u5, sg_nI (by omega), sw_sw]
  have hgat2 : ∀ x, x < N → (nI x ∈ CL G j u ↔ nI (sg x) ∈ gat X j) := fun x hx => by
    rw [u5, sg_nI (by omega)]
  refine ⟨by omega, N, c, L, T2, ro, cn, hA, hT, hM, hP, hQ, hI, ⟨q1, q4, s3, s4, s5, s6⟩, ⟨fun k hk z => ?_, fun x hx2 => ?_, fun k hk => ?_, fun k hk hk2 => ?_⟩, ⟨b1, by show N ≤ 3 + 13 * (ne G - 1) + 2 * (n + 1); omega, b3, b4⟩, b5⟩
  · have z : ¬ F k = 0 := z
    rw [hx k (by omega)] at z
    by_cases y : nI k ∈ gat X j
    · obtain ⟨i, hi⟩ := List.mem_iff_getElem?.mp ((hgat k hk).mp y)
      exact pre_tld q2 (p5 i (sg k) (Nat.zero_le _) hi (sg_lt b1 hk))
    · rw [if_neg y] at z
      exact pre_tld q2 (pre_tld p3 (t1 k hk z))
  · have hIXs : wcl L (fun x => Kn (fun k => if k = 5 then X'.1 5 else X.1 k, va_up X.2 5 F) N c (sg x)) := IX.snd (X := (fun k => if k = 5 then X'.1 5 else X.1 k, va_up X.2 5 F)) s4 (by omega) hways b1
    refine q3 _ hIXs (fun y hy => ?_) x hx2
    rcases p4 y hy with w | w
    · refine Kn_mono (X := X) (X' := (fun k => if k = 5 then X'.1 5 else X.1 k, va_up X.2 5 F)) (n := N) (c := c) (n' := N) (c' := c) ⟨Nat.le_refl _, Nat.le_refl _, fun _ _ => ⟨rfl, rfl, rfl⟩, fun _ _ => ⟨rfl, rfl, rfl, rfl⟩⟩ (fun k hk z => ?_) (t2 y w)
      show ¬ F k = 0
      rw [hx k (by omega)]
      by_cases y' : nI k ∈ gat X j
      · rw [if_pos y']; decide
      · rw [if_neg y']; exact z
    · have hyN : y < N := by
        rcases hy with e | e
        · omega
        · exact (p1.T_lt y e).2
      intro Q hQ2
      refine hQ2.1 (sg y) (sg_lt b1 hyN) ?_
      show ¬ F (sg y) = 0
      have := sg_lt b1 hyN
      rw [hx (sg y) (by omega), if_pos ((hgat2 y hyN).mp w)]
      decide
  · show F k = 0 ∨ F k = 1
    rw [hx k (by omega)]
    by_cases y : nI k ∈ gat X j
    · rw [if_pos y]; exact Or.inr rfl
    · rw [if_neg y]; exact t3 k hk
  · show F k = 0
    rw [hx k hk2]
    have y : ¬ nI k ∈ gat X j := fun y => by
      have y2 : sw (nI k) ∈ CL G j u := by rw [u5, sw_sw]; exact y
      obtain ⟨i, i1, i2, i3⟩ := u6 _ y2
      rw [← sg_nI (by omega), sg_big (by omega)] at i3
      have := nI_j (by omega) (by omega) i3
      omega
    rw [if_neg y]
    exact t4 k hk hk2
