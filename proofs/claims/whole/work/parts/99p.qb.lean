/-! ===== the calls, one by one: class and reference stay together ===== -/
/-- class at r, reference at o, n calls done; t = what the reference says was thrown -/
def q_J (g : q_G) (r o n : Nat) (t : Int32) (h1 h2 : q_H) : Prop := ∃ w D ob G ba X, q_RG g h1 r w D ob G ∧ q_mo h2 o ba X ∧ (n ≤ 512 → R n G X) ∧ X.1 0 = t
theorem R.rows {n : Nat} {G : G_T} {X : x_T} (h : R n G X) : (X.1 12 = nI (ne G) ∧ 1 ≤ ne G ∧ ne G ≤ 60 ∧ X.1 35 = nI (np G) ∧ np G ≤ 60 ∧ X.1 42 = nI (nq G) ∧ nq G ≤ 20) ∧ (∀ j, j < 16 → ∃ u, u ≤ 20 ∧ (gM G j).1 1 = nI u ∧ X.2 31 j = nI u) ∧ (∀ j, j < 16 → ¬ X.2 32 j = 0 → ∃ a, a < 60 ∧ X.2 27 j = nI a) ∧ (∀ j, j < 16 → ¬ X.2 27 j = -1 → ∃ a l, a < ne G ∧ l < 16 ∧ X.2 27 j = nI a ∧ X.2 28 j = nI l) ∧ (∀ a, a < 60 → ∃ D, D ≤ 4 ∧ X.2 13 a = nI D) ∧ (∀ a, a < ne G → (gE G a).2.1.2 ≤ 4 ∧ (gE G a).1 0 = nI a) ∧ (∀ j, j < 16 → (gM G j).1 2 = X.2 27 j ∧ (gM G j).1 3 = X.2 28 j) ∧ ∃ N c, X.1 1 = nI N ∧ N + 13 ≤ 2200 ∧ X.1 7 = nI c ∧ c + 48 + 2 * np G ≤ 3600 := by
  obtain ⟨h5, N, c, L, T, ro, cn, hA, hT, hM, hP, hQ, hI, hS⟩ := h
  refine ⟨hA.1, fun j hj => ?_, fun j hj z => ?_, fun j hj z => ?_, fun a ha => ?_, fun a ha => ⟨(hA.2.1 a ha).1.2.1.1, (hA.2.1 a ha).2.1.1⟩, fun j hj => ⟨(hM.1 j hj).1.2.1, (hM.1 j hj).1.2.2.1⟩, N, c, hS.1.2.2.2.2.1, ?_, hS.1.2.2.2.2.2, ?_⟩
  · obtain ⟨u, u1, u2, u3, -⟩ := (hM.1 j hj).2.1
    exact ⟨u, u1, u2, u3⟩
  · obtain ⟨⟨-, -, -, m4, -, -⟩, -, mc⟩ := hM.1 j hj
    rcases mc with ⟨c1, c2, c3, -⟩ | ⟨a, l, c1, c2, c3, -⟩
    · exact absurd (m4.symm.trans c3) z
    · exact ⟨a, by have := hA.1.2.2.1; omega, c3⟩
  · rcases (hM.1 j hj).2.2 with ⟨c1, -⟩ | ⟨a, l, c1, c2, c3, c4, -⟩
    · exact absurd c1 z
    · exact ⟨a, l, c1, c2, c3, c4⟩
  · rcases Nat.lt_or_ge a (ne G) with z | z
    · exact ⟨(gE G a).2.1.2, (hA.2.1 a z).1.2.1.1, (hA.2.1 a z).1.1.1⟩
    · exact ⟨0, by omega, (hA.2.2 a z (by omega)).1⟩
  · have := hS.2.2.1.2.1
    have := hA.1.2.2.1
    have := hA.1.2.1
    omega
  · have := hS.2.2.1.2.2.2
    have := cU_le (gK G) (np G)
    have := hA.1.2.2.1
    have := hA.1.2.2.2.2.1
    omega
section QSW
variable {g : q_G} {r o : Nat}
theorem J_up (n : Nat) (t : Int32) (h1 h2 : q_H) (h : q_J g r o n t h1 h2) : q_J g r o (n + 1) t h1 h2 := by
  obtain ⟨w, D, ob, G, ba, X, a1, a2, a3, a4⟩ := h
  exact ⟨w, D, ob, G, ba, X, a1, a2, fun hn => (a3 (by omega)).up (by omega), a4⟩
theorem J_offer (a : Int32) : q_SW (q_J g r o) g r o true y_RG_offer b_RG_offer 4 y_Mo_offer b_Mo_offer 2 [.int a] := by
  classical
  intro n t h1 h2 hJ hn
  obtain ⟨w, D, ob, G, ba, X, HG, HX, hR, ht⟩ := hJ
  have hR := hR (by omega)
  obtain ⟨⟨r1, r2, r3, r4, r5, r6, r7⟩, -, -, -, -, -, -, N, c, n1, n2, -⟩ := hR.rows
  refine ⟨_, c_RG_offer g a 20 14 250 (by omega) (by omega) (by omega) r5 HG, fun q h' hq => ?_, fun q h1' hq => ?_⟩
  · obtain ⟨w', D', ob', e, -⟩ := hq
    rw [e]
    unfold O_offer
    by_cases c1 : r_in 16 a
    · rw [if_pos c1]
      by_cases c2 : 60 ≤ np G
      · rw [if_pos c2]; exact Or.inr (Or.inr ⟨rfl, rfl⟩)
      · rw [if_neg c2]; exact Or.inl ⟨_, rfl⟩
    · rw [if_neg c1]; exact Or.inr (Or.inl rfl)
  · obtain ⟨w', D', ob', e, HG'⟩ := hq
    refine (c_Mo_offer g a 20 (by omega) r4 r5 n1 (by omega) HX).mono (fun q2 h2' hq2 => ?_)
    obtain ⟨e2, HX'⟩ := hq2
    refine ⟨_, _, e2, ⟨w', D', ob', _, ba, _, HG', HX', fun _ => ?_, rfl⟩, ?_⟩
    · unfold O_offer N_offer
      by_cases c1 : r_in 16 a
      · have c1n : ¬ ¬ r_in 16 a := fun z => z c1
        rw [if_pos c1, if_neg c1n]
        by_cases c2 : 60 ≤ np G
        · rw [if_pos c2, if_pos (show np G = 60 by omega)]
          exact (hR.up hn).t0 2
        · rw [if_neg c2, if_neg (show ¬ np G = 60 by omega)]
          obtain ⟨j, hj, rfl⟩ := (r_in_iff (by decide)).mp c1
          obtain ⟨N', m1, m2, m3⟩ := hR.offer hn (by omega) hj
          have e3 : N' = N := nI_j (by omega) (by omega) (m1.symm.trans n1)
          subst e3
          rw [ix_nI (by omega)]
          exact m3
      · rw [if_neg c1, if_pos c1]
        exact (hR.up hn).t0 1
    · rw [e]
      unfold O_offer N_offer
      by_cases c1 : r_in 16 a
      · have c1n : ¬ ¬ r_in 16 a := fun z => z c1
        rw [if_pos c1, if_neg c1n]
        by_cases c2 : 60 ≤ np G
        · rw [if_pos c2, if_pos (show np G = 60 by omega)]
          exact Or.inr (Or.inr ⟨rfl, rfl⟩)
        · rw [if_neg c2, if_neg (show ¬ np G = 60 by omega)]
          exact Or.inl ⟨rfl, rfl⟩
      · rw [if_neg c1, if_pos c1]
        exact Or.inr (Or.inl ⟨rfl, rfl⟩)
/-- who may propose, on both sides -/
theorem may_iff {n : Nat} {G : G_T} {X : x_T} (h : R n G X) {j : Nat} (hj : j < 16) (more : Int32) (hm : ¬ more = 0) : (P_may G j ↔ A_ask X (nI j) more = 0) ∧ (¬ P_may G j → A_ask X (nI j) more = 2) ∧ (P_may G j → X.2 27 j = nI (ne G - 1) ∧ nq G < 20) := by
  classical
  obtain ⟨⟨r1, r2, r3, r4, r5, r6, r7⟩, -, -, -, -, hE, hMj, -⟩ := h.rows
  have e0 := (hE (ne G - 1) (by omega)).2
  have hp : X.1 12 - 1 = nI (ne G - 1) := by
    rw [r1, show nI (ne G) = nI (ne G - 1 + 1) by rw [show ne G - 1 + 1 = ne G by omega]]
    exact nI_pred _
  have hi : P_may G j ↔ X.2 27 j = nI (ne G - 1) ∧ nq G < 20 := by
    unfold P_may
    rw [(hMj j hj).1, e0]
  have h20 : X.1 42 = 20 ↔ nq G = 20 := by
    rw [r6, show (20 : Int32) = nI 20 from rfl]
    exact nI_eq (by omega) (by omega)
  have ha : A_ask X (nI j) more = if ¬ X.2 27 j = nI (ne G - 1) ∨ nq G = 20 then 2 else 0 := by
    unfold A_ask
    have c1 : ¬ (¬ r_in 16 (nI j) ∨ more = 0) := fun z => z.elim (fun y => y (r_in_nI hj (by decide))) hm
    rw [if_neg c1, ix_nI (by omega), hp]
    by_cases c : ¬ X.2 27 j = nI (ne G - 1) ∨ nq G = 20
    · rw [if_pos c, if_pos (c.imp id h20.mpr)]
    · rw [if_neg c, if_neg (fun z => c (z.imp id h20.mp))]
  refine ⟨?_, fun z => ?_, hi.mp⟩
  · rw [hi, ha]
    by_cases c : ¬ X.2 27 j = nI (ne G - 1) ∨ nq G = 20
    · rw [if_pos c]
      exact ⟨fun z => c.elim (fun y => absurd z.1 y) (fun y => by omega), fun z => absurd z (by decide)⟩
    · rw [if_neg c]
      exact ⟨fun _ => rfl, fun _ => ⟨Classical.byContradiction fun y => c (Or.inl y), by
        have : ¬ nq G = 20 := fun y => c (Or.inr y)
        omega⟩⟩
  · rw [ha, if_pos]
    rw [hi] at z
    by_cases y : X.2 27 j = nI (ne G - 1)
    · right
      have : ¬ nq G < 20 := fun w => z ⟨y, w⟩
      omega
    · exact Or.inl y
theorem ask_out {X : x_T} {m more : Int32} (h : ¬ r_in 16 m ∨ more = 0) : A_ask X m more = 1 := by
  classical
  unfold A_ask
  rw [if_pos h]
theorem J_add (a b : Int32) : q_SW (q_J g r o) g r o true y_RG_add b_RG_add 4 y_Mo_add b_Mo_add 3 [.int a, .int b] := by
  classical
  intro n t h1 h2 hJ hn
  obtain ⟨w, D, ob, G, ba, X, HG, HX, hR, ht⟩ := hJ
  have hR := hR (by omega)
  obtain ⟨⟨r1, r2, r3, r4, r5, r6, r7⟩, -⟩ := hR.rows
  refine ⟨_, c_RG_add g a b 20 14 250 (by omega) (by omega) (by omega) r5 r7 HG, fun q h' hq => ?_, fun q h1' hq => ?_⟩
  · obtain ⟨w', D', ob', e, -⟩ := hq
    rw [e]
    unfold O_add
    by_cases c1 : r_in 16 a
    · rw [if_pos c1]
      by_cases c2 : r_in (np G) b
      · rw [if_pos c2]
        by_cases c3 : P_may G (ix a)
        · rw [if_pos c3]; exact Or.inl ⟨_, rfl⟩
        · rw [if_neg c3]; exact Or.inr (Or.inr ⟨rfl, rfl⟩)
      · rw [if_neg c2]; exact Or.inr (Or.inl rfl)
    · rw [if_neg c1]; exact Or.inr (Or.inl rfl)
  · obtain ⟨w', D', ob', e, HG'⟩ := hq
    refine (c_Mo_add g a b 20 (by omega) r4 r6 r7 HX).mono (fun q2 h2' hq2 => ?_)
    obtain ⟨e2, HX'⟩ := hq2
    have key : R (n + 1) (O_add G a b).2 (N_prop X (nq G) a (b2i (r_in (np G) b)) 0 b).2 ∧ q_rel (O_add G a b).1 (N_prop X (nq G) a (b2i (r_in (np G) b)) 0 b).1 ((N_prop X (nq G) a (b2i (r_in (np G) b)) 0 b).2.1 0) := by
      have out : (¬ r_in 16 a ∨ ¬ r_in (np G) b) → N_prop X (nq G) a (b2i (r_in (np G) b)) 0 b = (0, xi X 0 1) := fun z => by
        unfold N_prop
        have := ask_out (X := X) (m := a) (more := b2i (r_in (np G) b)) (z.imp id (fun y => by unfold b2i; rw [if_neg y]))
        rw [this, if_neg (by decide)]
      unfold O_add
      by_cases c1 : r_in 16 a
      · rw [if_pos c1]
        by_cases c2 : r_in (np G) b
        · rw [if_pos c2]
          obtain ⟨j, hj, rfl⟩ := (r_in_iff (by decide)).mp c1
          obtain ⟨pk, hpk, rfl⟩ := (r_in_iff (by omega)).mp c2
          obtain ⟨m1, m2, m3⟩ := may_iff hR hj (b2i (r_in (np G) (nI pk))) (by unfold b2i; rw [if_pos c2]; decide)
          rw [ix_nI (by omega), ix_nI (by omega)]
          unfold N_prop
          by_cases c3 : P_may G j
          · rw [if_pos c3, if_pos (m1.mp c3)]
            exact ⟨hR.prop (kd := 0) (pk := pk) hn (m3 c3).2 hj (m3 c3).1 0 (nI pk) (Or.inl ⟨rfl, hpk, rfl⟩), Or.inl ⟨rfl, rfl⟩⟩
          · rw [if_neg c3, m2 c3, if_neg (by decide)]
            exact ⟨(hR.up hn).t0 2, Or.inr (Or.inr ⟨rfl, rfl⟩)⟩
        · rw [if_neg c2, out (Or.inr c2)]
          exact ⟨(hR.up hn).t0 1, Or.inr (Or.inl ⟨rfl, rfl⟩)⟩
      · rw [if_neg c1, out (Or.inl c1)]
        exact ⟨(hR.up hn).t0 1, Or.inr (Or.inl ⟨rfl, rfl⟩)⟩
    rw [e]
    exact ⟨_, _, e2, ⟨w', D', ob', _, ba, _, HG', HX', fun _ => key.1, rfl⟩, key.2⟩
theorem J_remove (a b : Int32) : q_SW (q_J g r o) g r o true y_RG_remove b_RG_remove 4 y_Mo_remove b_Mo_remove 3 [.int a, .int b] := by
  classical
  intro n t h1 h2 hJ hn
  obtain ⟨w, D, ob, G, ba, X, HG, HX, hR, ht⟩ := hJ
  have hR := hR (by omega)
  obtain ⟨⟨r1, r2, r3, r4, r5, r6, r7⟩, -⟩ := hR.rows
  refine ⟨_, c_RG_remove g a b 20 14 250 (by omega) (by omega) (by omega) r7 HG, fun q h' hq => ?_, fun q h1' hq => ?_⟩
  · obtain ⟨w', D', ob', e, -⟩ := hq
    rw [e]
    unfold O_remove
    by_cases c1 : r_in 16 a
    · rw [if_pos c1]
      by_cases c2 : r_in 16 b
      · rw [if_pos c2]
        by_cases c3 : P_may G (ix a)
        · rw [if_pos c3]; exact Or.inl ⟨_, rfl⟩
        · rw [if_neg c3]; exact Or.inr (Or.inr ⟨rfl, rfl⟩)
      · rw [if_neg c2]; exact Or.inr (Or.inl rfl)
    · rw [if_neg c1]; exact Or.inr (Or.inl rfl)
  · obtain ⟨w', D', ob', e, HG'⟩ := hq
    refine (c_Mo_remove g a b 20 (by omega) r6 r7 HX).mono (fun q2 h2' hq2 => ?_)
    obtain ⟨e2, HX'⟩ := hq2
    have key : R (n + 1) (O_remove G a b).2 (N_prop X (nq G) a (b2i (r_in 16 b)) 1 b).2 ∧ q_rel (O_remove G a b).1 (N_prop X (nq G) a (b2i (r_in 16 b)) 1 b).1 ((N_prop X (nq G) a (b2i (r_in 16 b)) 1 b).2.1 0) := by
      have out : (¬ r_in 16 a ∨ ¬ r_in 16 b) → N_prop X (nq G) a (b2i (r_in 16 b)) 1 b = (0, xi X 0 1) := fun z => by
        unfold N_prop
        have := ask_out (X := X) (m := a) (more := b2i (r_in 16 b)) (z.imp id (fun y => by unfold b2i; rw [if_neg y]))
        rw [this, if_neg (by decide)]
      unfold O_remove
      by_cases c1 : r_in 16 a
      · rw [if_pos c1]
        by_cases c2 : r_in 16 b
        · rw [if_pos c2]
          obtain ⟨j, hj, rfl⟩ := (r_in_iff (by decide)).mp c1
          obtain ⟨lf, hlf, e5⟩ := (r_in_iff (by decide)).mp c2
          obtain ⟨m1, m2, m3⟩ := may_iff hR hj (b2i (r_in 16 b)) (by unfold b2i; rw [if_pos c2]; decide)
          rw [ix_nI (by omega)]
          unfold N_prop
          by_cases c3 : P_may G j
          · rw [if_pos c3, if_pos (m1.mp c3)]
            exact ⟨hR.prop (kd := 1) (pk := 0) hn (m3 c3).2 hj (m3 c3).1 b b (Or.inr ⟨rfl, rfl, lf, hlf, e5⟩), Or.inl ⟨rfl, rfl⟩⟩
          · rw [if_neg c3, m2 c3, if_neg (by decide)]
            exact ⟨(hR.up hn).t0 2, Or.inr (Or.inr ⟨rfl, rfl⟩)⟩
        · rw [if_neg c2, out (Or.inr c2)]
          exact ⟨(hR.up hn).t0 1, Or.inr (Or.inl ⟨rfl, rfl⟩)⟩
      · rw [if_neg c1, out (Or.inl c1)]
        exact ⟨(hR.up hn).t0 1, Or.inr (Or.inl ⟨rfl, rfl⟩)⟩
    rw [e]
    exact ⟨_, _, e2, ⟨w', D', ob', _, ba, _, HG', HX', fun _ => key.1, rfl⟩, key.2⟩
theorem R.late {n : Nat} {G : G_T} {X : x_T} (h : R n G X) : ∀ j, j < 16 → X.2 27 j = X.1 12 - 1 → ∃ u, u ≤ nq G ∧ X.2 31 j = nI u := by
  obtain ⟨h5, N, c, L, T, ro, cn, hA, hT, hM, hP, hQ, hI, hS⟩ := h
  intro j hj z
  refine hM.2 j hj ?_
  rw [z, hA.1.1, show nI (ne G) = nI (ne G - 1 + 1) by rw [show ne G - 1 + 1 = ne G by have := hA.1.2.1; omega]]
  exact nI_pred _
theorem J_update (a : Int32) : q_SW (q_J g r o) g r o true y_RG_update b_RG_update 4 y_Mo_update b_Mo_update 3 [.int a] := by
  classical
  intro n t h1 h2 hJ hn
  obtain ⟨w, D, ob, G, ba, X, HG, HX, hR, ht⟩ := hJ
  have hR := hR (by omega)
  obtain ⟨⟨r1, r2, r3, r4, r5, r6, r7⟩, -, -, -, -, -, -, N, c, n1, n2, -⟩ := hR.rows
  refine ⟨_, c_RG_update g a 20 14 250 (by omega) (by omega) (by omega) r7 HG, fun q h' hq => ?_, fun q h1' hq => ?_⟩
  · obtain ⟨w', D', ob', e, -⟩ := hq
    rw [e]
    unfold O_update
    by_cases c1 : r_in 16 a
    · rw [if_pos c1]
      by_cases c3 : P_may G (ix a)
      · rw [if_pos c3]; exact Or.inl ⟨_, rfl⟩
      · rw [if_neg c3]; exact Or.inr (Or.inr ⟨rfl, rfl⟩)
    · rw [if_neg c1]; exact Or.inr (Or.inl rfl)
  · obtain ⟨w', D', ob', e, HG'⟩ := hq
    refine (c_Mo_update g a 20 (by omega) r6 r7 n1 (by omega) hR.late HX).mono (fun q2 h2' hq2 => ?_)
    obtain ⟨e2, HX'⟩ := hq2
    have key : R (n + 1) (O_update G a).2 (N_update X (nq G) N a).2 ∧ q_rel (O_update G a).1 (N_update X (nq G) N a).1 ((N_update X (nq G) N a).2.1 0) := by
      unfold O_update N_update
      by_cases c1 : r_in 16 a
      · rw [if_pos c1]
        obtain ⟨j, hj, rfl⟩ := (r_in_iff (by decide)).mp c1
        obtain ⟨m1, m2, m3⟩ := may_iff hR hj 1 (by decide)
        rw [ix_nI (by omega)]
        by_cases c3 : P_may G j
        · rw [if_pos c3, if_pos (m1.mp c3)]
          obtain ⟨N', u, q1, q2', q3, q4, q5⟩ := hR.update hn (m3 c3).2 hj (m3 c3).1
          have e3 : N' = N := nI_j (by omega) (by omega) (q1.symm.trans n1)
          subst e3
          have e4 : ix (X.2 31 j) = u := by rw [q4]; exact ix_nI (by omega)
          rw [e4]
          exact ⟨q5, Or.inl ⟨rfl, rfl⟩⟩
        · rw [if_neg c3, m2 c3, if_neg (by decide)]
          exact ⟨(hR.up hn).t0 2, Or.inr (Or.inr ⟨rfl, rfl⟩)⟩
      · rw [if_neg c1, ask_out (Or.inl c1), if_neg (by decide)]
        exact ⟨(hR.up hn).t0 1, Or.inr (Or.inl ⟨rfl, rfl⟩)⟩
    rw [e]
    exact ⟨_, _, e2, ⟨w', D', ob', _, ba, _, HG', HX', fun _ => key.1, rfl⟩, key.2⟩
end QSW
