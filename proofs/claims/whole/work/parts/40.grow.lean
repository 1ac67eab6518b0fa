/-! ===== the group grows: tags anew, a package, a proposal, an epoch more ===== -/
theorem q_sec.som {h : q_H} {s : Nat} {ra rb : Nat → Nat} {S : s_T} (hs : q_sec h s ra rb S) {y : Nat} (hy : s_A s ra rb y) : ∃ o, h y = some o := by
  rcases hy with rfl | ⟨i, hi, rfl | rfl⟩
  · exact ⟨_, hs.1⟩
  · exact ⟨_, (hs.2.1 i hi).1⟩
  · exact ⟨_, (hs.2.1 i hi).2⟩
theorem q_mem.som {h : q_H} {s : Nat} {ra rb : Nat → Nat} {S : m_T} (hs : q_mem h s ra rb S) {y : Nat} (hy : m_A s ra rb y) : ∃ o, h y = some o := by
  rcases hy with rfl | ⟨i, hi, rfl | rfl⟩
  · exact ⟨_, hs.1⟩
  · exact ⟨_, (hs.2.1 i hi).1⟩
  · exact ⟨_, (hs.2.1 i hi).2⟩
theorem q_ep.som {h : q_H} {e t pr pb : Nat} {ra rb : Nat → Nat} {E : e_T} (he : q_ep h e t pr pb ra rb E) {y : Nat} (hy : ep_A e t pr pb ra rb y) : ∃ o, h y = some o := by
  rcases hy with rfl | rfl | rfl | rfl | ⟨i, hi, rfl | rfl⟩
  · exact ⟨_, he.1⟩
  · exact ⟨_, he.2.1.1⟩
  · exact ⟨_, he.2.2.1⟩
  · exact ⟨_, he.2.2.2.1⟩
  · exact ⟨_, (he.2.1.2.1 i hi).1⟩
  · exact ⟨_, (he.2.1.2.1 i hi).2⟩
theorem q_lst.somb {g : q_G} {h : q_H} {a : Nat} {ob : Option Nat} {cnt : Nat} {el : Nat → Nat} (hl : q_lst g h a ob cnt el) {b : Nat} (hb : ob = some b) : ∃ o, h b = some o := by
  subst hb
  obtain ⟨n, f, mv, h1, h2, -⟩ := hl
  exact ⟨_, h2⟩
theorem q_pr.som {h : q_H} {a : Nat} {pk : Nat → Nat} {n : Nat} {p : p_T} (hp : q_pr h a pk n p) : ∃ o, h a = some o := by
  rcases hp with ⟨-, -, h3⟩ | ⟨-, h3⟩ | ⟨-, h3⟩ <;> exact ⟨_, h3⟩
section
variable {g : q_G} {h h' : q_H} {r : Nat} {w : Nat → Nat} {D : a_T} {ob : Nat → Option Nat} {G : G_T}
theorem q_RG.lz (H : q_RG g h r w D ob G) {k : Nat} (h1 : 1 ≤ k) (h4 : k ≤ 4) : (∃ o, h (D.1 0 k) = some o) ∧ ∀ b, ob k = some b → ∃ o, h b = some o := by
  rcases (show k = 1 ∨ k = 2 ∨ k = 3 ∨ k = 4 by omega) with rfl | rfl | rfl | rfl
  · obtain ⟨e, mv, hz⟩ := H.lm.size
    exact ⟨⟨_, hz⟩, fun b hb => H.lm.somb hb⟩
  · obtain ⟨e, mv, hz⟩ := H.lp.size
    exact ⟨⟨_, hz⟩, fun b hb => H.lp.somb hb⟩
  · obtain ⟨e, mv, hz⟩ := H.lq.size
    exact ⟨⟨_, hz⟩, fun b hb => H.lq.somb hb⟩
  · obtain ⟨e, mv, hz⟩ := H.le.size
    exact ⟨⟨_, hz⟩, fun b hb => H.le.somb hb⟩
theorem q_RG.retag (H : q_RG g h r w D ob G) {w' : Nat → Nat} (hw : ∀ y o, h y = some o → w y ≠ 7 → w' y = w y) : q_RG g h r w' D ob G := by
  have T : ∀ {y : Nat} {n : Nat}, w y = n → n ≠ 7 → (∃ o, h y = some o) → w' y = n := fun {y n} a b c => by
    obtain ⟨o, c⟩ := c
    rw [hw y o c (by omega)]
    exact a
  refine ⟨⟨H.fr, T H.1.2 (by decide) ⟨_, H.fr⟩⟩, ⟨H.sec, fun y hy => T (H.secT y hy) (by decide) (H.sec.som hy)⟩, ⟨⟨H.hr, H.hc⟩, T H.2.2.1.2.1 (by decide) ⟨_, H.hr⟩, T H.2.2.1.2.2 (by decide) ⟨_, H.hc⟩⟩, ⟨H.lm, H.lp, H.lq, H.le⟩,
    fun k h1 h4 => ⟨T (H.ls h1 h4).1 (by omega) (H.lz h1 h4).1, fun b hb => T ((H.ls h1 h4).2 b hb) (by omega) ((H.lz h1 h4).2 b hb)⟩,
    fun i hi => ⟨H.mem hi, fun y hy => T (H.memT hi y hy) (by omega) ((H.mem hi).som hy)⟩, fun i hi => ⟨H.pk hi, H.own hi, T (H.pkT hi) (by omega) ⟨_, H.pk hi⟩⟩,
    fun i hi => ⟨H.pr hi, T (H.prT hi) (by decide) (H.pr hi).som⟩, fun i hi => ⟨H.ep hi, fun y hy => T (H.epT hi y hy) (by omega) ((H.ep hi).som hy)⟩, H.n1⟩
/-- a cell more, that is nobody's yet -/
theorem q_RG.newX (H : q_RG g h r w D ob G) {x : Nat} {ox : q_O} (hx : h x = none) (e : h' = q_up h x ox) : q_RG g h' r (va_up w x 7) D ob G ∧ va_up w x 7 x = 7 ∧ q_kp h h' (fun _ => False) := by
  have hk : q_kp h h' (fun _ => False) := q_kp.nw q_kp.rf hx e
  exact ⟨(H.retag (w' := va_up w x 7) (fun y o hy _ => if_neg (q_on hy hx))).keep (hk.wk (fun _ z => z.elim)), if_pos rfl, hk⟩
theorem q_RG.addP (H : q_RG g h r w D ob G) {x o : Nat} {K : Nat → Int32} {ob' : Option Nat} (hx : h x = some (.inl (7, k_fs (mA D o) K))) (ho : o < 16) (hwx : w x = 7) (hl : q_lst g h' (D.1 0 2) ob' (np G + 1) (va_up (pA D) (np G) x)) (hk0 : ∀ y o, h y = some o → y ≠ D.1 0 2 → (∀ b, ob 2 = some b → y ≠ b) → h' y = some o) (hob : ob' = ob 2 ∨ ∃ c, ob' = some c ∧ h c = none ∧ q_bs g ≤ c) : ∃ w', q_RG g h' r w' (D.1, va_up (pA D) (np G) x, D.2.2) (va_up ob 2 ob') (sN (sK G (np G) (o, K)) 0 (np G + 1)) := by
  have hcl : ∀ y, Decidable (h y = none) := fun y => Classical.propDecidable _
  refine ⟨fun y => if h y = none then 12 else if w y = 7 then 200 + np G else w y, ?_⟩
  have H1 : q_RG g h r (fun y => if h y = none then 12 else if w y = 7 then 200 + np G else w y) D ob G := H.retag (fun y o hy h7 => by
    show (if h y = none then _ else _) = _
    rw [if_neg (fun z => by rw [hy] at z; cases z), if_neg h7])
  have hcT : ∀ c, h c = none → (fun y => if h y = none then 12 else if w y = 7 then 200 + np G else w y) c = 12 := fun c hc => if_pos hc
  have hxT : ∀ y o, h y = some o → w y = 7 → (fun y => if h y = none then 12 else if w y = 7 then 200 + np G else w y) y = 200 + np G := fun y o hy h7 => by
    show (if h y = none then _ else _) = _
    rw [if_neg (fun z => by rw [hy] at z; cases z), if_pos h7]
  generalize (fun y => if h y = none then 12 else if w y = 7 then 200 + np G else w y) = w1 at H1 hcT hxT
  have hk : q_kp h h' (fun y => w1 y = 12) := fun y o hy hn => hk0 y o hy (fun z => hn (by rw [z]; exact (H1.ls (k := 2) (by decide) (by decide)).1)) (fun b hb z => hn (by rw [z]; exact (H1.ls (k := 2) (by decide) (by decide)).2 b hb))
  have hx1 := hxT x _ hx hwx
  have hnn : np (sN (sK G (np G) (o, K)) 0 (np G + 1)) = np G + 1 := rfl
  exact ⟨⟨hk _ _ H1.fr (fun z => by have q := H1.1.2; omega), H1.1.2⟩,
   ⟨H1.sec.kp hk (fun y hy z => by have q := H1.secT y hy; omega), H1.secT⟩,
   ⟨⟨hk (D.1 0 5) _ H1.hr (fun z => by have q : w1 (D.1 0 5) = 2 := H1.2.2.1.2.1; have z2 : w1 (D.1 0 5) = 12 := z; omega), hk (D.1 0 6) _ H1.hc (fun z => by have q : w1 (D.1 0 6) = 2 := H1.2.2.1.2.2; have z2 : w1 (D.1 0 6) = 12 := z; omega)⟩, H1.2.2.1.2⟩,
   ⟨H1.lm.kp hk (fun z => by have q := (H1.ls (k := 1) (by decide) (by decide)).1; omega) (fun b hb z => by have q := (H1.ls (k := 1) (by decide) (by decide)).2 b hb; omega), hl, H1.lq.kp hk (fun z => by have q := (H1.ls (k := 3) (by decide) (by decide)).1; omega) (fun b hb z => by have q := (H1.ls (k := 3) (by decide) (by decide)).2 b hb; omega), H1.le.kp hk (fun z => by have q := (H1.ls (k := 4) (by decide) (by decide)).1; omega) (fun b hb z => by have q := (H1.ls (k := 4) (by decide) (by decide)).2 b hb; omega)⟩,
   fun k h1 h4 => ⟨(H1.ls h1 h4).1, fun b hb => by
      by_cases e : k = 2
      · subst e
        rw [show va_up ob 2 ob' 2 = ob' from if_pos rfl] at hb
        rcases hob with z | ⟨c, z, hc, -⟩
        · exact (H1.ls (k := 2) (by decide) (by decide)).2 b (z.symm.trans hb)
        · rw [← Option.some.inj (z.symm.trans hb)]
          exact hcT c hc
      · rw [show va_up ob 2 ob' k = ob k from if_neg e] at hb
        exact (H1.ls h1 h4).2 b hb⟩,
   fun j hj => ⟨(H1.mem hj).kp hk (fun y hy z => by have q := H1.memT hj y hy; omega), H1.memT hj⟩,
   fun j hj => by
    by_cases e : j = np G
    · subst e
      rw [show gK (sN (sK G (np G) (o, K)) 0 (np G + 1)) (np G) = (o, K) from if_pos rfl, show pA (D.1, va_up (pA D) (np G) x, D.2.2) (np G) = x from if_pos rfl]
      exact ⟨hk _ _ hx (fun z => by omega), ho, hx1⟩
    · have hj2 : j < np G := by rw [hnn] at hj; omega
      rw [show gK (sN (sK G (np G) (o, K)) 0 (np G + 1)) j = gK G j from if_neg e, show pA (D.1, va_up (pA D) (np G) x, D.2.2) j = pA D j from if_neg e]
      exact ⟨hk _ _ (H1.pk hj2) (fun z => by have q := H1.pkT hj2; omega), H1.own hj2, H1.pkT hj2⟩,
   fun j hj => by
    refine ⟨?_, H1.prT hj⟩
    have hp := (H1.pr hj).kp hk (fun z => by have q := H1.prT hj; omega)
    rcases hp with ⟨a, b, c⟩ | c
    · refine Or.inl ⟨a, by rw [hnn]; exact Nat.lt_succ_of_lt b, ?_⟩
      rw [show pA (D.1, va_up (pA D) (np G) x, D.2.2) (gQ (sN (sK G (np G) (o, K)) 0 (np G + 1)) j).2.1 = pA D (gQ G j).2.1 from if_neg (Nat.ne_of_lt b)]
      exact c
    · exact Or.inr c,
   ⟨fun j hj => ⟨(H1.ep hj).kp hk (fun y hy z => by have q := H1.epT hj y hy; omega), H1.epT hj⟩, H1.n1⟩⟩
theorem q_RG.addQ (H : q_RG g h r w D ob G) {x : Nat} {p : p_T} {ob' : Option Nat} (hx : q_pr h x (pA D) (np G) p) (hwx : w x = 7) (hl : q_lst g h' (D.1 0 3) ob' (nq G + 1) (va_up (qA D) (nq G) x)) (hk0 : ∀ y o, h y = some o → y ≠ D.1 0 3 → (∀ b, ob 3 = some b → y ≠ b) → h' y = some o) (hob : ob' = ob 3 ∨ ∃ c, ob' = some c ∧ h c = none ∧ q_bs g ≤ c) : ∃ w', q_RG g h' r w' (D.1, D.2.1, va_up (qA D) (nq G) x, D.2.2.2) (va_up ob 3 ob') (sN (sQ G (nq G) p) 1 (nq G + 1)) := by
  have hcl : ∀ y, Decidable (h y = none) := fun y => Classical.propDecidable _
  refine ⟨fun y => if h y = none then 13 else if w y = 7 then 5 else w y, ?_⟩
  have H1 : q_RG g h r (fun y => if h y = none then 13 else if w y = 7 then 5 else w y) D ob G := H.retag (fun y o hy h7 => by
    show (if h y = none then _ else _) = _
    rw [if_neg (fun z => by rw [hy] at z; cases z), if_neg h7])
  have hcT : ∀ c, h c = none → (fun y => if h y = none then 13 else if w y = 7 then 5 else w y) c = 13 := fun c hc => if_pos hc
  have hxT : ∀ y o, h y = some o → w y = 7 → (fun y => if h y = none then 13 else if w y = 7 then 5 else w y) y = 5 := fun y o hy h7 => by
    show (if h y = none then _ else _) = _
    rw [if_neg (fun z => by rw [hy] at z; cases z), if_pos h7]
  generalize (fun y => if h y = none then 13 else if w y = 7 then 5 else w y) = w1 at H1 hcT hxT
  have hk : q_kp h h' (fun y => w1 y = 13) := fun y o hy hn => hk0 y o hy (fun z => hn (by rw [z]; exact (H1.ls (k := 3) (by decide) (by decide)).1)) (fun b hb z => hn (by rw [z]; exact (H1.ls (k := 3) (by decide) (by decide)).2 b hb))
  obtain ⟨ox, hox⟩ := hx.som
  have hx1 := hxT x _ hox hwx
  have hnn : nq (sN (sQ G (nq G) p) 1 (nq G + 1)) = nq G + 1 := rfl
  exact ⟨⟨hk _ _ H1.fr (fun z => by have q := H1.1.2; omega), H1.1.2⟩,
   ⟨H1.sec.kp hk (fun y hy z => by have q := H1.secT y hy; omega), H1.secT⟩,
   ⟨⟨hk (D.1 0 5) _ H1.hr (fun z => by have q : w1 (D.1 0 5) = 2 := H1.2.2.1.2.1; have z2 : w1 (D.1 0 5) = 13 := z; omega), hk (D.1 0 6) _ H1.hc (fun z => by have q : w1 (D.1 0 6) = 2 := H1.2.2.1.2.2; have z2 : w1 (D.1 0 6) = 13 := z; omega)⟩, H1.2.2.1.2⟩,
   ⟨H1.lm.kp hk (fun z => by have q := (H1.ls (k := 1) (by decide) (by decide)).1; omega) (fun b hb z => by have q := (H1.ls (k := 1) (by decide) (by decide)).2 b hb; omega), H1.lp.kp hk (fun z => by have q := (H1.ls (k := 2) (by decide) (by decide)).1; omega) (fun b hb z => by have q := (H1.ls (k := 2) (by decide) (by decide)).2 b hb; omega), hl, H1.le.kp hk (fun z => by have q := (H1.ls (k := 4) (by decide) (by decide)).1; omega) (fun b hb z => by have q := (H1.ls (k := 4) (by decide) (by decide)).2 b hb; omega)⟩,
   fun k h1 h4 => ⟨(H1.ls h1 h4).1, fun b hb => by
      by_cases e : k = 3
      · subst e
        rw [show va_up ob 3 ob' 3 = ob' from if_pos rfl] at hb
        rcases hob with z | ⟨c, z, hc, -⟩
        · exact (H1.ls (k := 3) (by decide) (by decide)).2 b (z.symm.trans hb)
        · rw [← Option.some.inj (z.symm.trans hb)]
          exact hcT c hc
      · rw [show va_up ob 3 ob' k = ob k from if_neg e] at hb
        exact (H1.ls h1 h4).2 b hb⟩,
   fun j hj => ⟨(H1.mem hj).kp hk (fun y hy z => by have q := H1.memT hj y hy; omega), H1.memT hj⟩,
   fun j hj => ⟨hk (pA D j) _ (H1.pk hj) (fun z => by have q : w1 (pA D j) = 200 + j := H1.pkT hj; have z2 : w1 (pA D j) = 13 := z; omega), H1.own hj, H1.pkT hj⟩,
   fun j hj => by
    by_cases e : j = nq G
    · subst e
      rw [show gQ (sN (sQ G (nq G) p) 1 (nq G + 1)) (nq G) = p from if_pos rfl, show qA (D.1, D.2.1, va_up (qA D) (nq G) x, D.2.2.2) (nq G) = x from if_pos rfl]
      exact ⟨hx.kp hk (fun z => by omega), hx1⟩
    · have hj2 : j < nq G := by rw [hnn] at hj; omega
      rw [show gQ (sN (sQ G (nq G) p) 1 (nq G + 1)) j = gQ G j from if_neg e, show qA (D.1, D.2.1, va_up (qA D) (nq G) x, D.2.2.2) j = qA D j from if_neg e]
      exact ⟨(H1.pr hj2).kp hk (fun z => by have q := H1.prT hj2; omega), H1.prT hj2⟩,
   ⟨fun j hj => ⟨(H1.ep hj).kp hk (fun y hy z => by have q := H1.epT hj y hy; omega), H1.epT hj⟩, H1.n1⟩⟩
theorem q_RG.addE (H : q_RG g h r w D ob G) {e t pr pb : Nat} {ra rb : Nat → Nat} {E : e_T} {ob' : Option Nat} (hx : q_ep h e t pr pb ra rb E) (hwx : ∀ y, ep_A e t pr pb ra rb y → w y = 7) (hl : q_lst g h' (D.1 0 4) ob' (ne G + 1) (va_up (eA D) (ne G) e))
    (hk0 : ∀ y o, h y = some o → y ≠ r → y ≠ D.1 0 4 → (∀ b, ob 4 = some b → y ≠ b) → h' y = some o) (hob : ob' = ob 4 ∨ ∃ c, ob' = some c ∧ h c = none ∧ q_bs g ≤ c) (hr : h' r = some (.inl (0, r_fs D e))) : ∃ w' D', q_RG g h' r w' D' (va_up ob 4 ob') (sN (sE G (ne G) E) 2 (ne G + 1)) ∧ D'.1 = D.1 ∧ eA D' (ne G) = e := by
  have hcl : ∀ y, Decidable (h y = none) := fun y => Classical.propDecidable _
  refine ⟨fun y => if h y = none then 14 else if w y = 7 then 1000 + ne G else w y, (D.1, D.2.1, D.2.2.1, va_up D.2.2.2 (ne G) (fun k => if k = 0 then e else if k = 1 then t else if k = 2 then pr else if k = 3 then pb else if k < 8 then ra (k - 4) else rb (k - 8))), ?_, rfl, ?_⟩
  rotate_left
  · show va_up D.2.2.2 (ne G) _ (ne G) 0 = e
    rw [show ∀ q, va_up D.2.2.2 (ne G) q (ne G) = q from fun q => if_pos rfl]
    rfl
  have H1 : q_RG g h r (fun y => if h y = none then 14 else if w y = 7 then 1000 + ne G else w y) D ob G := H.retag (fun y o hy h7 => by
    show (if h y = none then _ else _) = _
    rw [if_neg (fun z => by rw [hy] at z; cases z), if_neg h7])
  have hcT : ∀ c, h c = none → (fun y => if h y = none then 14 else if w y = 7 then 1000 + ne G else w y) c = 14 := fun c hc => if_pos hc
  have hxT : ∀ y o, h y = some o → w y = 7 → (fun y => if h y = none then 14 else if w y = 7 then 1000 + ne G else w y) y = 1000 + ne G := fun y o hy h7 => by
    show (if h y = none then _ else _) = _
    rw [if_neg (fun z => by rw [hy] at z; cases z), if_pos h7]
  generalize (fun y => if h y = none then 14 else if w y = 7 then 1000 + ne G else w y) = w1 at H1 hcT hxT
  have hk : q_kp h h' (fun y => w1 y = 14 ∨ w1 y = 6) := fun y o hy hn => hk0 y o hy (fun z => hn (Or.inr (by rw [z]; exact H1.1.2))) (fun z => hn (Or.inl (by rw [z]; exact (H1.ls (k := 4) (by decide) (by decide)).1))) (fun b hb z => hn (Or.inl (by rw [z]; exact (H1.ls (k := 4) (by decide) (by decide)).2 b hb)))
  have hnn : ne (sN (sE G (ne G) E) 2 (ne G + 1)) = ne G + 1 := rfl
  have hl2 : (fun i => va_up D.2.2.2 (ne G) (fun k => if k = 0 then e else if k = 1 then t else if k = 2 then pr else if k = 3 then pb else if k < 8 then ra (k - 4) else rb (k - 8)) i 0) = va_up (eA D) (ne G) e := by
    funext i
    by_cases z : i = ne G
    · subst z
      rw [show ∀ q, va_up D.2.2.2 (ne G) q (ne G) = q from fun q => if_pos rfl, show va_up (eA D) (ne G) e (ne G) = e from if_pos rfl]
      rfl
    · rw [show ∀ q, va_up D.2.2.2 (ne G) q i = D.2.2.2 i from fun q => if_neg z, show va_up (eA D) (ne G) e i = eA D i from if_neg z]
  have hra : (fun j => (fun k => if k = 0 then e else if k = 1 then t else if k = 2 then pr else if k = 3 then pb else if k < 8 then ra (k - 4) else rb (k - 8)) (4 + j)) = fun j => if j < 4 then ra j else rb (j - 4) := by
    funext j
    show (if 4 + j = 0 then e else if 4 + j = 1 then t else if 4 + j = 2 then pr else if 4 + j = 3 then pb else if 4 + j < 8 then ra (4 + j - 4) else rb (4 + j - 8)) = _
    rw [if_neg (by omega), if_neg (by omega), if_neg (by omega), if_neg (by omega)]
    by_cases z : j < 4
    · rw [if_pos (by omega), if_pos z, show 4 + j - 4 = j by omega]
    · rw [if_neg (by omega), if_neg z, show 4 + j - 8 = j - 4 by omega]
  have hrb : (fun j => (fun k => if k = 0 then e else if k = 1 then t else if k = 2 then pr else if k = 3 then pb else if k < 8 then ra (k - 4) else rb (k - 8)) (8 + j)) = rb := by
    funext j
    show (if 8 + j = 0 then e else if 8 + j = 1 then t else if 8 + j = 2 then pr else if 8 + j = 3 then pb else if 8 + j < 8 then ra (8 + j - 4) else rb (8 + j - 8)) = _
    rw [if_neg (by omega), if_neg (by omega), if_neg (by omega), if_neg (by omega), if_neg (by omega), show 8 + j - 8 = j by omega]
  have hA : ∀ y, ep_A e t pr pb (fun j => if j < 4 then ra j else rb (j - 4)) rb y → ep_A e t pr pb ra rb y := by
    rintro y (z | z | z | z | ⟨i, hi, z⟩)
    · exact Or.inl z
    · exact Or.inr (Or.inl z)
    · exact Or.inr (Or.inr (Or.inl z))
    · exact Or.inr (Or.inr (Or.inr (Or.inl z)))
    · rw [show (fun j => if j < 4 then ra j else rb (j - 4)) i = ra i from if_pos hi] at z
      exact Or.inr (Or.inr (Or.inr (Or.inr ⟨i, hi, z⟩)))
  have hx2 : q_ep h' e t pr pb (fun j => if j < 4 then ra j else rb (j - 4)) rb E := by
    have q := hx.kp hk (fun y hy z => by
      obtain ⟨oo, ho⟩ := hx.som hy
      have q := hxT y oo ho (hwx y hy)
      omega)
    refine ⟨q.1, ⟨?_, fun i hi => ?_, q.2.1.2.2⟩, q.2.2⟩
    · exact q.2.1.1
    · rw [show (fun j => if j < 4 then ra j else rb (j - 4)) i = ra i from if_pos hi]
      exact q.2.1.2.1 i hi
  exact ⟨⟨by
    rw [hnn, show ne G + 1 - 1 = ne G from rfl, show eA (D.1, D.2.1, D.2.2.1, va_up D.2.2.2 (ne G) (fun k => if k = 0 then e else if k = 1 then t else if k = 2 then pr else if k = 3 then pb else if k < 8 then ra (k - 4) else rb (k - 8))) (ne G) = e from by
      show va_up D.2.2.2 (ne G) _ (ne G) 0 = e
      rw [show ∀ q, va_up D.2.2.2 (ne G) q (ne G) = q from fun q => if_pos rfl]
      rfl]
    exact hr, H1.1.2⟩,
   ⟨H1.sec.kp hk (fun y hy z => by have q := H1.secT y hy; omega), H1.secT⟩,
   ⟨⟨hk (D.1 0 5) _ H1.hr (fun z => by have q : w1 (D.1 0 5) = 2 := H1.2.2.1.2.1; have z2 : w1 (D.1 0 5) = 14 ∨ w1 (D.1 0 5) = 6 := z; omega), hk (D.1 0 6) _ H1.hc (fun z => by have q : w1 (D.1 0 6) = 2 := H1.2.2.1.2.2; have z2 : w1 (D.1 0 6) = 14 ∨ w1 (D.1 0 6) = 6 := z; omega)⟩, H1.2.2.1.2⟩,
   ⟨H1.lm.kp hk (fun z => by have q := (H1.ls (k := 1) (by decide) (by decide)).1; omega) (fun b hb z => by have q := (H1.ls (k := 1) (by decide) (by decide)).2 b hb; omega), H1.lp.kp hk (fun z => by have q := (H1.ls (k := 2) (by decide) (by decide)).1; omega) (fun b hb z => by have q := (H1.ls (k := 2) (by decide) (by decide)).2 b hb; omega), H1.lq.kp hk (fun z => by have q := (H1.ls (k := 3) (by decide) (by decide)).1; omega) (fun b hb z => by have q := (H1.ls (k := 3) (by decide) (by decide)).2 b hb; omega), by rw [hnn]; exact (by rw [← hl2] at hl; exact hl)⟩,
   fun k h1 h4 => ⟨(H1.ls h1 h4).1, fun b hb => by
      by_cases e : k = 4
      · subst e
        rw [show va_up ob 4 ob' 4 = ob' from if_pos rfl] at hb
        rcases hob with z | ⟨c, z, hc, -⟩
        · exact (H1.ls (k := 4) (by decide) (by decide)).2 b (z.symm.trans hb)
        · rw [← Option.some.inj (z.symm.trans hb)]
          exact hcT c hc
      · rw [show va_up ob 4 ob' k = ob k from if_neg e] at hb
        exact (H1.ls h1 h4).2 b hb⟩,
   fun j hj => ⟨(H1.mem hj).kp hk (fun y hy z => by have q := H1.memT hj y hy; omega), H1.memT hj⟩,
   fun j hj => ⟨hk (pA D j) _ (H1.pk hj) (fun z => by have q : w1 (pA D j) = 200 + j := H1.pkT hj; have z2 : w1 (pA D j) = 14 ∨ w1 (pA D j) = 6 := z; omega), H1.own hj, H1.pkT hj⟩,
   fun j hj => ⟨(H1.pr hj).kp hk (fun z => by have q := H1.prT hj; omega), H1.prT hj⟩,
   ⟨fun j hj => by
    by_cases z : j = ne G
    · subst z
      rw [show gE (sN (sE G (ne G) E) 2 (ne G + 1)) (ne G) = E from if_pos rfl]
      show q_ep h' (va_up D.2.2.2 (ne G) _ (ne G) 0) (va_up D.2.2.2 (ne G) _ (ne G) 1) (va_up D.2.2.2 (ne G) _ (ne G) 2) (va_up D.2.2.2 (ne G) _ (ne G) 3) (fun j => va_up D.2.2.2 (ne G) _ (ne G) (4 + j)) (fun j => va_up D.2.2.2 (ne G) _ (ne G) (8 + j)) E ∧ ∀ y, ep_A (va_up D.2.2.2 (ne G) _ (ne G) 0) (va_up D.2.2.2 (ne G) _ (ne G) 1) (va_up D.2.2.2 (ne G) _ (ne G) 2) (va_up D.2.2.2 (ne G) _ (ne G) 3) (fun j => va_up D.2.2.2 (ne G) _ (ne G) (4 + j)) (fun j => va_up D.2.2.2 (ne G) _ (ne G) (8 + j)) y → w1 y = 1000 + ne G
      rw [show ∀ q, va_up D.2.2.2 (ne G) q (ne G) = q from fun q => if_pos rfl, hra, hrb]
      exact ⟨hx2, fun y hy => by
        obtain ⟨oo, ho⟩ := hx.som (hA y hy)
        exact hxT y oo ho (hwx y (hA y hy))⟩
    · have hj2 : j < ne G := by rw [hnn] at hj; omega
      rw [show gE (sN (sE G (ne G) E) 2 (ne G + 1)) j = gE G j from if_neg z]
      show q_ep h' (va_up D.2.2.2 (ne G) _ j 0) (va_up D.2.2.2 (ne G) _ j 1) (va_up D.2.2.2 (ne G) _ j 2) (va_up D.2.2.2 (ne G) _ j 3) (fun i => va_up D.2.2.2 (ne G) _ j (4 + i)) (fun i => va_up D.2.2.2 (ne G) _ j (8 + i)) _ ∧ ∀ y, ep_A (va_up D.2.2.2 (ne G) _ j 0) (va_up D.2.2.2 (ne G) _ j 1) (va_up D.2.2.2 (ne G) _ j 2) (va_up D.2.2.2 (ne G) _ j 3) (fun i => va_up D.2.2.2 (ne G) _ j (4 + i)) (fun i => va_up D.2.2.2 (ne G) _ j (8 + i)) y → w1 y = 1000 + j
      rw [show ∀ q, va_up D.2.2.2 (ne G) q j = D.2.2.2 j from fun q => if_neg z]
      exact ⟨(H1.ep hj2).kp hk (fun y hy z => by have q := H1.epT hj2 y hy; omega), H1.epT hj2⟩, by rw [hnn]; omega⟩⟩
end
