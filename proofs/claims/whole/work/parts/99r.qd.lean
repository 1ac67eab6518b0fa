/-! ===== the calls, one by one: commit, come, compromise, and the reads ===== -/
section QSR
variable {g : q_G} {r o : Nat}
theorem J_commit (a pa : Int32) : q_SW (q_J g r o) g r o true y_RG_commit b_RG_commit 7 y_Mo_commit b_Mo_commit 3 [.int a, .int pa] := by
  classical
  intro n t h1 h2 hJ hn
  obtain ⟨w, D, ob, G, ba, X, HG, HX, hR, ht⟩ := hJ
  have hR := hR (by omega)
  obtain ⟨⟨r1, r2, r3, r4, r5, r6, r7⟩, -, -, -, -, hE, hMj, -⟩ := hR.rows
  obtain ⟨e, DD, N, c, s14, he, p1, p2, p3, p4, p5, p6, p7, p8, p9, p10, p11, p12, p13, p14, p15, p16, p17, p18, p19, p20⟩ := hR.pre
  obtain ⟨nn, k0, hSn⟩ := hR.sn.c5 (ix a) pa
  refine ⟨_, c_RG_commit g a pa 20 14 250 (by omega) (by omega) (by omega) r5 r7 r3 (hE (ne G - 1) (by omega)).1 hSn HG, fun q h' hq => ?_, fun q h1' hq => ?_⟩
  · obtain ⟨w', D', ob', e1, -⟩ := hq
    rw [e1]
    unfold O_commit
    by_cases c1 : r_in 16 a
    · rw [if_pos c1]
      by_cases c2 : (gM G (ix a)).1 2 = (gE G (ne G - 1)).1 0
      · rw [if_pos c2]
        by_cases c3 : 60 ≤ ne G
        · rw [if_pos c3]; exact Or.inr (Or.inr ⟨rfl, rfl⟩)
        · rw [if_neg c3]; exact Or.inl ⟨_, rfl⟩
      · rw [if_neg c2]; exact Or.inr (Or.inr ⟨rfl, rfl⟩)
    · rw [if_neg c1]; exact Or.inr (Or.inl rfl)
  · obtain ⟨w', D', ob', e1, HG'⟩ := hq
    refine (c_Mo_commit g a pa 20 (by omega) p1 p2 p3 p4 p5 r6 r7 p6 p7 p8 p9 p10 p11 p12 p13 p14 r4 r5 p15 p16 p17 p18 p19 p20 HX).mono (fun q2 h2' hq2 => ?_)
    obtain ⟨X', z, e2, HX', hCC⟩ := hq2
    have key : R (n + 1) (O_commit G a pa).2 X' ∧ q_rel (O_commit G a pa).1 z (X'.1 0) := by
      have e0 : (gE G (ne G - 1)).1 0 = nI e := by rw [(hE (ne G - 1) (by omega)).2, he]; rfl
      rcases hCC with ⟨c1, c2, c3⟩ | ⟨j, hj, ej, hc⟩
      · unfold O_commit
        rw [if_neg c1, c3]
        exact ⟨(hR.up hn).t0 1, Or.inr (Or.inl ⟨rfl, rfl⟩)⟩
      · subst ej
        unfold O_commit
        rw [if_pos (r_in_nI hj (by decide)), ix_nI (by omega), (hMj j hj).1, e0]
        rcases hc with ⟨c1, c2, c3⟩ | ⟨c1, c2, c3, l, D2, d1, d2, d3, d4, d5⟩
        · rw [c3]
          by_cases y : X.2 27 j = nI e
          · have y2 : 60 ≤ ne G := by
              rcases c1 with v | v
              · exact absurd y v
              · omega
            rw [if_pos y, if_pos y2]
            exact ⟨(hR.up hn).t0 2, Or.inr (Or.inr ⟨rfl, rfl⟩)⟩
          · rw [if_neg y]
            exact ⟨(hR.up hn).t0 2, Or.inr (Or.inr ⟨rfl, rfl⟩)⟩
        · have y2 : ¬ 60 ≤ ne G := by omega
          rw [if_pos c1, if_neg y2]
          obtain ⟨-, u1, u2, u3, u4⟩ := R.commit (X := xi X 0 0) (hR.t0 0) hn hj he c2 c1 d1 d3 d4 d2 d5
          refine ⟨u4, Or.inl ⟨?_, u3⟩⟩
          rw [u1, c3, u2, show e + 2 = e + 1 + 1 from rfl, nI_pred]
    rw [e1]
    exact ⟨_, _, e2, ⟨w', D', ob', _, ba, _, HG', HX', fun _ => key.1, rfl⟩, key.2⟩
theorem J_come (a : Int32) : q_SW (q_J g r o) g r o true y_RG_come b_RG_come 3 y_Mo_come b_Mo_come 4 [.int a] := by
  classical
  intro n t h1 h2 hJ hn
  obtain ⟨w, D, ob, G, ba, X, HG, HX, hR, ht⟩ := hJ
  have hR := hR (by omega)
  obtain ⟨⟨r1, r2, r3, r4, r5, r6, r7⟩, hU, hA, hAt, hDp, hE, hMj, N, c, n1, n2, c1, c2⟩ := hR.rows
  obtain ⟨hJp, -, -⟩ := hR.jpre
  refine ⟨_, c_RG_come g a 20 14 250 (by omega) (by omega) (by omega) r5 (by omega) (fun e he => (hE e he).1) HG, fun q h' hq => ?_, fun q h1' hq => ?_⟩
  · obtain ⟨w', D', ob', e1, -⟩ := hq
    rw [e1]
    unfold O_come
    have hres : ∀ (i : Nat) (x : Option G_T), (∃ z, (O_res G i x).1 = .inl (some (.int z))) ∨ (O_res G i x).1 = .inr 0 ∨ (true = true ∧ (O_res G i x).1 = .inr 1) := fun i x => by
      cases x with
      | none => exact Or.inr (Or.inr ⟨rfl, rfl⟩)
      | some G2 => exact Or.inl ⟨_, rfl⟩
    by_cases y1 : r_in 16 a
    · rw [if_pos y1]
      by_cases y2 : (gM G (ix a)).1 2 = -1
      · rw [if_pos y2]; exact hres _ _
      · rw [if_neg y2]; exact hres _ _
    · rw [if_neg y1]; exact Or.inr (Or.inl rfl)
  · obtain ⟨w', D', ob', e1, HG'⟩ := hq
    refine (c_Mo_come g a 20 (by omega) r1 r3 c1 (by omega) r4 r5 (fun j hj => by obtain ⟨u, u1, -, u3⟩ := hU j hj; exact ⟨u, u1, u3⟩) hA hAt hJp hDp HX).mono (fun q2 h2' hq2 => ?_)
    obtain ⟨X', z, e2, HX', hCM⟩ := hq2
    have key : R (n + 1) (O_come G a).2 X' ∧ q_rel (O_come G a).1 z (X'.1 0) := by
      rcases hCM with ⟨y1, y2, y3⟩ | ⟨j, hj, ej, hc⟩
      · unfold O_come
        rw [if_neg y1, y3]
        exact ⟨(hR.up hn).t0 1, Or.inr (Or.inl ⟨rfl, rfl⟩)⟩
      · subst ej
        have hpr : nI (ne G) - 1 = nI (ne G - 1) := by
          have := nI_pred (ne G - 1)
          rw [show ne G - 1 + 1 = ne G by omega] at this
          exact this
        unfold O_come
        rw [if_pos (r_in_nI hj (by decide)), ix_nI (by omega), (hMj j hj).1]
        rcases hc with ⟨y1, y2, y3⟩ | ⟨y1, y2, y3, qq, a', l, D2, d1, d2, d3, d4, d5, d6, d7, d8⟩ | ⟨y1, y2, y3, a', l, D2, d1, d2, d3, d4, d5, d6, d7⟩
        · rw [y3]
          have hno : (if X.2 27 j = -1 then O_res G j (O_join G j) else O_res G j (O_move G j)) = (.inr 1, G) := by
            rcases y1 with v | ⟨v1, v2⟩
            · rw [hpr] at v
              have nv : ¬ X.2 27 j = -1 := by rw [v]; exact nI_nm (by omega)
              rw [if_neg nv]
              have hm : O_move G j = none := by
                unfold O_move
                rw [if_neg]
                rw [(hMj j hj).1, v, nI_1, show ne G - 1 + 1 = ne G by omega]
                intro y
                exact y.2 (Int32.le_refl _)
              rw [hm]
              rfl
            · rw [if_pos v1]
              have hm : O_join G j = none := by
                unfold O_join
                rw [(hR.joinN hj).1, v2]
              rw [hm]
              rfl
          rw [hno]
          exact ⟨(hR.up hn).t0 2, Or.inr (Or.inr ⟨rfl, rfl⟩)⟩
        · rw [if_pos y2]
          obtain ⟨G', g1, g2, g3⟩ := R.join hR hn hj y2 d1 d5 d6 d2 d3 d7 d4
          rw [g1, d8]
          rw [d8] at y3
          refine ⟨g2, Or.inl ⟨?_, jo_00 _ _ _ _ _ _⟩⟩
          show (Sum.inl (some (Value.int ((gM G' j).1 2))) : q_R) = _
          rw [g3, y3]
        · rw [if_neg y2]
          obtain ⟨G', g1, g2, g3⟩ := R.move hR hn hj d4 d5 d2 d1 d6 d3 c1 (by omega) d7
          rw [g1]
          refine ⟨g2, Or.inl ⟨?_, ?_⟩⟩
          · show (Sum.inl (some (Value.int ((gM G' j).1 2))) : q_R) = _
            rw [g3, y3]
          · rw [(d7 0 (by decide)).1]
            exact fo_00 _ _ _ _ _ _
    rw [e1]
    exact ⟨_, _, e2, ⟨w', D', ob', _, ba, _, HG', HX', fun _ => key.1, rfl⟩, key.2⟩
theorem J_comp (a : Int32) : q_SW (q_J g r o) g r o false y_RG_compromise b_RG_compromise 4 y_Mo_compromise b_Mo_compromise 3 [.int a] := by
  classical
  intro n t h1 h2 hJ hn
  obtain ⟨w, D, ob, G, ba, X, HG, HX, hR, ht⟩ := hJ
  have hR := hR (by omega)
  obtain ⟨⟨r1, r2, r3, r4, r5, r6, r7⟩, hU, hA, -⟩ := hR.rows
  obtain ⟨-, hV, -⟩ := hR.jpre
  obtain ⟨nn, k0, hSn⟩ := hR.sn
  have hGu : G_u G := fun i hi => by
    obtain ⟨u, u1, u2, -⟩ := hU i hi
    exact ⟨u, u1, u2⟩
  refine ⟨_, c_RG_compromise g a 20 14 250 (by omega) (by omega) (by omega) hGu (by omega) r5 hSn HG, fun q h' hq => ?_, fun q h1' hq => ?_⟩
  · rcases hq with ⟨-, e1, -⟩ | ⟨-, e1, -⟩
    · rw [e1]; exact Or.inl ⟨_, rfl⟩
    · rw [e1]; exact Or.inr (Or.inl rfl)
  · refine (c_Mo_compromise g a 20 (by omega) r4 r5 (fun j hj => by obtain ⟨u, u1, -, u3⟩ := hU j hj; exact ⟨u, u1, u3⟩) hA hV HX).mono (fun q2 h2' hq2 => ?_)
    rcases hq with ⟨i1, e1, HG'⟩ | ⟨i1, e1, e1'⟩
    · rcases hq2 with ⟨i2, -⟩ | ⟨-, e2, X', HX', f1, f2, f3⟩
      · exact absurd i1 i2
      · obtain ⟨j, hj, rfl⟩ := (r_in_iff (by decide)).mp i1
        rw [ix_nI (by omega)] at e1 e2 f3 HG'
        obtain ⟨nn', k0', m1, m2, m3⟩ := hR.comp hn hj f1 f3
        obtain ⟨u1, u2⟩ := S_n_u hSn m1
        subst u1
        subst u2
        refine ⟨_, _, e2, ⟨w, D, ob, _, ba, X', HG', HX', fun _ => m3, rfl⟩, Or.inl ⟨?_, f2⟩⟩
        rw [e1, m2]
    · rcases hq2 with ⟨-, e2, HX'⟩ | ⟨i2, -⟩
      · rw [e1']
        exact ⟨_, _, e2, ⟨w, D, ob, G, ba, _, HG, HX', fun _ => (hR.up hn).t0 1, rfl⟩, Or.inr (Or.inl ⟨e1, rfl⟩)⟩
      · exact absurd i2 i1
theorem J_member (a b : Int32) : q_SR (q_J g r o) g r o .int y_RG_member b_RG_member 4 y_Mo_member b_Mo_member 3 [.int a, .int b] := by
  intro n t h1 h2 hJ hn
  obtain ⟨w, D, ob, G, ba, X, HG, HX, hR, ht⟩ := hJ
  have hR := hR (by omega)
  obtain ⟨⟨r1, r2, r3, r4, r5, r6, r7⟩, hU, hA, -⟩ := hR.rows
  have hGu : G_u G := fun i hi => by
    obtain ⟨u, u1, u2, -⟩ := hU i hi
    exact ⟨u, u1, u2⟩
  refine ⟨_, c_RG_member g a b 20 (by omega) hGu (by omega) (by omega) HG, fun q h1' hq => ?_⟩
  obtain ⟨e1, f, HG'⟩ := hq
  refine ⟨_, e1, (c_Mo_member g a b 20 (by omega) r4 r5 (fun j hj => by obtain ⟨u, u1, -, u3⟩ := hU j hj; exact ⟨u, u1, u3⟩) hA HX).mono (fun q2 h2' hq2 => ?_)⟩
  obtain ⟨e2, X', HX', f1, f2⟩ := hq2
  refine ⟨by rw [e2, hR.memb a b], 0, w, D, ob, _, ba, X', HG', HX', fun _ => ((hR.up hn).fr f1 (by decide)).sH f, f2⟩
theorem J_holds (a b : Int32) : q_SR (q_J g r o) g r o .boolean y_RG_holds b_RG_holds 4 y_Mo_holds b_Mo_holds 4 [.int a, .int b] := by
  intro n t h1 h2 hJ hn
  obtain ⟨w, D, ob, G, ba, X, HG, HX, hR, ht⟩ := hJ
  have hR := hR (by omega)
  obtain ⟨⟨r1, r2, r3, r4, r5, r6, r7⟩, hU, hA, hAt, hDp, -⟩ := hR.rows
  refine ⟨_, c_RG_holds g a b 20 (by omega) HG (by omega), fun q h1' hq => ?_⟩
  obtain ⟨e1, e1'⟩ := hq
  subst e1'
  refine ⟨_, e1, (c_Mo_holds g a b 20 (by omega) r4 r5 (fun j hj => by obtain ⟨u, u1, -, u3⟩ := hU j hj; exact ⟨u, u1, u3⟩) hA (fun j hj z => by
    obtain ⟨x, l, x1, -, x3, -⟩ := hAt j hj z
    exact ⟨x, by omega, x3⟩) hDp HX).mono (fun q2 h2' hq2 => ?_)⟩
  obtain ⟨e2, X', HX', f1, f2⟩ := hq2
  exact ⟨by rw [e2, propext (hR.holds a b)], 0, w, D, ob, _, ba, X', HG, HX', fun _ => (hR.up hn).fr f1 (by decide), f2⟩
theorem J_has (a : Int32) : q_SR (q_J g r o) g r o .boolean y_RG_has b_RG_has 2 y_Mo_has b_Mo_has 2 [.int a] := by
  intro n t h1 h2 hJ hn
  obtain ⟨w, D, ob, G, ba, X, HG, HX, hR, ht⟩ := hJ
  have hR := hR (by omega)
  refine ⟨_, c_RG_has g a 20 (by omega) HG, fun q h1' hq => ?_⟩
  obtain ⟨e1, e1'⟩ := hq
  subst e1'
  refine ⟨_, e1, (c_Mo_has g a 20 (by omega) HX).mono (fun q2 h2' hq2 => ?_)⟩
  obtain ⟨e2, HX'⟩ := hq2
  exact ⟨by rw [e2, propext (hR.has a)], 0, w, D, ob, _, ba, _, HG, HX', fun _ => (hR.up hn).t0 0, rfl⟩
theorem J_node (a b c : Int32) : q_SR (q_J g r o) g r o .int y_RG_node b_RG_node 5 y_Mo_node b_Mo_node 5 [.int a, .int b, .int c] := by
  intro n t h1 h2 hJ hn
  obtain ⟨w, D, ob, G, ba, X, HG, HX, hR, ht⟩ := hJ
  have hR := hR (by omega)
  obtain ⟨⟨r1, r2, r3, r4, r5, r6, r7⟩, -, -, -, hDp, -⟩ := hR.rows
  obtain ⟨-, -, hL⟩ := hR.jpre
  refine ⟨_, c_RG_node g a b c 20 (by omega) HG (by omega), fun q h1' hq => ?_⟩
  obtain ⟨e1, e1'⟩ := hq
  subst e1'
  refine ⟨_, e1, (c_Mo_node g a b c 20 (by omega) r1 r3 (fun x hx => hDp x (by omega)) hL HX).mono (fun q2 h2' hq2 => ?_)⟩
  obtain ⟨e2, X', HX', ⟨K, k1, f1⟩, f2⟩ := hq2
  exact ⟨by rw [e2, hR.nd a b c], 0, w, D, ob, _, ba, X', HG, HX', fun _ => (hR.up hn).fr f1 (fun k hk => by have := k1 k hk; omega), f2⟩
theorem J_epoch (a b : Int32) : q_SR (q_J g r o) g r o .int y_RG_epoch b_RG_epoch 4 y_Mo_epoch b_Mo_epoch 3 [.int a, .int b] := by
  intro n t h1 h2 hJ hn
  obtain ⟨w, D, ob, G, ba, X, HG, HX, hR, ht⟩ := hJ
  have hR := hR (by omega)
  obtain ⟨⟨r1, r2, r3, r4, r5, r6, r7⟩, -⟩ := hR.rows
  refine ⟨_, c_RG_epoch g a b 20 (by omega) HG (by omega), fun q h1' hq => ?_⟩
  obtain ⟨e1, e1'⟩ := hq
  subst e1'
  refine ⟨_, e1, (c_Mo_epoch g a b 20 (by omega) r1 r3 HX).mono (fun q2 h2' hq2 => ?_)⟩
  obtain ⟨e2, HX'⟩ := hq2
  exact ⟨by rw [e2, hR.ep a b], 0, w, D, ob, _, ba, _, HG, HX', fun _ => (hR.up hn).t0 0, rfl⟩
theorem J_epochs : q_SR (q_J g r o) g r o .int y_RG_epochs b_RG_epochs 1 y_Mo_epochs b_Mo_epochs 1 [] := by
  intro n t h1 h2 hJ hn
  obtain ⟨w, D, ob, G, ba, X, HG, HX, hR, ht⟩ := hJ
  have hR := hR (by omega)
  obtain ⟨⟨r1, r2, r3, r4, r5, r6, r7⟩, -⟩ := hR.rows
  refine ⟨_, c_RG_epochs g 20 (by omega) HG, fun q h1' hq => ?_⟩
  obtain ⟨e1, e1'⟩ := hq
  subst e1'
  refine ⟨_, e1, (c_Mo_epochs g 20 HX).mono (fun q2 h2' hq2 => ?_)⟩
  obtain ⟨e2, HX'⟩ := hq2
  exact ⟨by rw [e2, r1], 0, w, D, ob, _, ba, _, HG, HX', fun _ => (hR.up hn).t0 0, rfl⟩
theorem J_waiting : q_SR (q_J g r o) g r o .int y_RG_waiting b_RG_waiting 1 y_Mo_waiting b_Mo_waiting 1 [] := by
  intro n t h1 h2 hJ hn
  obtain ⟨w, D, ob, G, ba, X, HG, HX, hR, ht⟩ := hJ
  have hR := hR (by omega)
  obtain ⟨⟨r1, r2, r3, r4, r5, r6, r7⟩, -⟩ := hR.rows
  refine ⟨_, c_RG_waiting g 20 (by omega) HG, fun q h1' hq => ?_⟩
  obtain ⟨e1, e1'⟩ := hq
  subst e1'
  refine ⟨_, e1, (c_Mo_waiting g 20 HX).mono (fun q2 h2' hq2 => ?_)⟩
  obtain ⟨e2, HX'⟩ := hq2
  exact ⟨by rw [e2, r6], 0, w, D, ob, _, ba, _, HG, HX', fun _ => (hR.up hn).t0 0, rfl⟩
theorem J_isKnown (a : Int32) : q_SR (q_J g r o) g r o .boolean y_RG_isKnown b_RG_isKnown 2 y_Mo_isKnown b_Mo_isKnown 2 [.int a] := by
  intro n t h1 h2 hJ hn
  obtain ⟨w, D, ob, G, ba, X, HG, HX, hR, ht⟩ := hJ
  have hR := hR (by omega)
  obtain ⟨⟨r1, r2, r3, r4, r5, r6, r7⟩, -⟩ := hR.rows
  obtain ⟨N, c, k1, k2, k3, k4, k5, k6⟩ := hR.isK
  refine ⟨_, c_RG_isKnown g a 20 (by omega) HG (by omega), fun q h1' hq => ?_⟩
  obtain ⟨e1, e1'⟩ := hq
  subst e1'
  refine ⟨_, e1, (c_Mo_isKnown g a 20 (by omega) k1 r1 r3 k2 HX).mono (fun q2 h2' hq2 => ?_)⟩
  obtain ⟨e2, X', HX', f1, f2⟩ := hq2
  exact ⟨by rw [e2, propext (k4 a)], 0, w, D, ob, _, ba, X', HG, HX', fun _ => (hR.up hn).fr f1 (by decide), f2⟩
theorem J_isOpen (a b : Int32) : q_SR (q_J g r o) g r o .boolean y_RG_isOpen b_RG_isOpen 3 y_Mo_isOpen b_Mo_isOpen 3 [.int a, .int b] := by
  intro n t h1 h2 hJ hn
  obtain ⟨w, D, ob, G, ba, X, HG, HX, hR, ht⟩ := hJ
  have hR := hR (by omega)
  obtain ⟨⟨r1, r2, r3, r4, r5, r6, r7⟩, -, -, -, hDp, -⟩ := hR.rows
  obtain ⟨N, c, k1, k2, k3, k4, k5, k6⟩ := hR.isK
  refine ⟨_, c_RG_isOpen g a b 20 (by omega) HG (by omega), fun q h1' hq => ?_⟩
  obtain ⟨e1, e1'⟩ := hq
  subst e1'
  refine ⟨_, e1, (c_Mo_isOpen g a b 20 (by omega) k1 r1 r3 (fun x hx => hDp x (by omega)) k3 HX).mono (fun q2 h2' hq2 => ?_)⟩
  obtain ⟨e2, X', HX', f1, f2⟩ := hq2
  exact ⟨by rw [e2, propext (k5 a b)], 0, w, D, ob, _, ba, X', HG, HX', fun _ => (hR.up hn).fr f1 (by decide), f2⟩
theorem J_known : q_SR (q_J g r o) g r o .int y_RG_known b_RG_known 3 y_Mo_known b_Mo_known 3 [] := by
  intro n t h1 h2 hJ hn
  obtain ⟨w, D, ob, G, ba, X, HG, HX, hR, ht⟩ := hJ
  have hR := hR (by omega)
  obtain ⟨⟨r1, r2, r3, r4, r5, r6, r7⟩, -⟩ := hR.rows
  obtain ⟨N, c, k1, k2, k3, k4, k5, k6⟩ := hR.isK
  refine ⟨_, c_RG_known g 20 (by omega) HG (by omega), fun q h1' hq => ?_⟩
  obtain ⟨e1, e1'⟩ := hq
  subst e1'
  refine ⟨_, e1, (c_Mo_known g 20 (by omega) k1 r1 r3 k2 HX).mono (fun q2 h2' hq2 => ?_)⟩
  obtain ⟨e2, X', HX', f1, f2⟩ := hq2
  exact ⟨by rw [e2, k6], 0, w, D, ob, _, ba, X', HG, HX', fun _ => (hR.up hn).fr f1 (by decide), f2⟩
/-- all the calls -/
theorem J_all (a b c : Int32) : lw_S (q_J g r o) g r o a b c := ⟨J_up, J_offer a, J_add a b, J_remove a b, J_update a, J_commit a _, J_come a, J_comp a, J_member a b, J_holds a b, J_has a, J_node a b c, J_epoch a b, J_epochs, J_waiting, J_isKnown a, J_isOpen a b, J_known⟩
end QSR
theorem J_0 (g : q_G) (r o : Nat) (h1 h2 : q_H) (w : Nat → Nat) (D : a_T) (ob : Nat → Option Nat) (ba : Nat → Nat) (HG : q_RG g h1 r w D ob G_new) (HX : q_mo h2 o ba (X_i2 X_i1)) : ∃ t, q_J g r o 0 t h1 h2 := ⟨_, w, D, ob, G_new, ba, _, HG, HX, fun _ => R_new, rfl⟩
