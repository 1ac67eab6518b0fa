/-! ===== the pure part: the class's secrets as lists of ways and of what was told ===== -/
abbrev w_L : Type := List (Nat × Nat × Nat)
/-- the latest way from f among the first j -/
def lx (L : w_L) (f : Nat) : Nat → Int32
  | 0 => -1
  | j + 1 => if (L[j]?).map (fun q => q.1) = some f then nI j else lx L f j
abbrev tld (T : List Nat) (x : Nat) : Prop := x = 0 ∨ x ∈ T
def tl1 (T : List Nat) (x : Nat) : List Nat := if tld T x then T else T ++ [x]
def SV (S : s_T) (N : Nat) (L : w_L) (T : List Nat) (k : Nat) : Prop :=
  (S.2 0 = nI N ∧ S.2 1 = nI L.length ∧ S.2 2 = nI T.length ∧ S.2 3 = nI k) ∧ (1 ≤ N ∧ N ≤ 2200 ∧ L.length ≤ 2600 ∧ k ≤ T.length ∧ T.Nodup) ∧
  (∀ x, x < 2200 → S.1 0 x = if tld T x then 1 else 0) ∧ (∀ i x, T[i]? = some x → S.1 5 i = nI x ∧ 0 < x ∧ x < N) ∧
  (∀ j f w t, L[j]? = some (f, w, t) → S.1 3 j = nI t ∧ S.1 4 j = nI w ∧ S.1 2 j = lx L f j ∧ f < N ∧ w < N ∧ t < N) ∧ ∀ f, f < 2200 → S.1 1 f = lx L f L.length
theorem pigeon : ∀ (N : Nat) (L : List Nat), L.Nodup → (∀ x ∈ L, x < N) → L.length ≤ N := by
  intro N
  induction N with
  | zero =>
    intro L _ h
    cases L with
    | nil => exact Nat.le_refl _
    | cons a L => exact absurd (h a List.mem_cons_self) (Nat.not_lt_zero _)
  | succ N ih =>
    intro L hn h
    by_cases hm : N ∈ L
    · have h1 := ih (L.erase N) (hn.erase N) (fun x hx => by
        have h2 := (hn.mem_erase_iff).mp hx
        have h3 := h x h2.2
        have h4 := h2.1
        omega)
      rw [List.length_erase_of_mem hm] at h1
      omega
    · have h1 := ih L hn (fun x hx => by
        have h3 := h x hx
        have h4 : x ≠ N := fun e => hm (e ▸ hx)
        omega)
      omega
theorem SV.T_lt {S : s_T} {N : Nat} {L : w_L} {T : List Nat} {k : Nat} (h : SV S N L T k) : ∀ x ∈ T, 0 < x ∧ x < N := fun x hx => by
  obtain ⟨i, hi⟩ := List.mem_iff_getElem?.mp hx
  exact (h.2.2.2.1 i x hi).2
theorem SV.T_len {S : s_T} {N : Nat} {L : w_L} {T : List Nat} {k : Nat} (h : SV S N L T k) : T.length + 1 ≤ N := by
  have h1 := pigeon N (0 :: T) (List.nodup_cons.mpr ⟨fun z => by have := (h.T_lt 0 z).1; omega, h.2.1.2.2.2.2⟩) (fun x hx => by
    rcases List.mem_cons.mp hx with e | e
    · have := h.2.1.1
      omega
    · exact (h.T_lt x e).2)
  simpa using h1
theorem SV.told {S : s_T} {N : Nat} {L : w_L} {T : List Nat} {k x : Nat} (h : SV S N L T k) (hx : x < 2200) : S_told S (nI x) ↔ tld T x := by
  unfold S_told
  rw [show s_len 0 = 2200 from rfl, r_get_in hx (by decide), h.2.2.1 x hx]
  by_cases q : tld T x
  · simp [q]
  · simp [q]
theorem SV.fresh {S : s_T} {N : Nat} {L : w_L} {T : List Nat} {k : Nat} (h : SV S N L T k) (hN : N < 2200) : (S_fresh S).1 = nI N ∧ SV (S_fresh S).2 (N + 1) L T k := by
  obtain ⟨⟨a1, a2, a3, a4⟩, ⟨b1, b2, b3, b4, b5⟩, c1, c2, c3, c4⟩ := h
  have hlt : S.2 0 < 2200 := by
    rw [a1]
    exact nI_lt hN (by decide)
  unfold S_fresh
  rw [if_pos hlt]
  refine ⟨a1, ⟨?_, a2, a3, a4⟩, ⟨by omega, by omega, b3, b4, b5⟩, c1, fun i x hi => ?_, fun j f w t hj => ?_, c4⟩
  · exact (upd_s S.2 0 (S.2 0 + 1)).trans (by rw [a1, nI_1])
  · have := c2 i x hi
    exact ⟨this.1, this.2.1, by omega⟩
  · obtain ⟨d1, d2, d3, d4, d5, d6⟩ := c3 j f w t hj
    exact ⟨d1, d2, d3, by omega, by omega, by omega⟩
theorem tl1_mem {T : List Nat} {x y : Nat} (h : tld T y) : tld (tl1 T x) y := by
  unfold tl1
  by_cases q : tld T x
  · rw [if_pos q]
    exact h
  · rw [if_neg q]
    rcases h with h | h
    · exact Or.inl h
    · exact Or.inr (List.mem_append_left _ h)
theorem tl1_s (T : List Nat) (x : Nat) : tld (tl1 T x) x := by
  unfold tl1
  by_cases q : tld T x
  · rw [if_pos q]
    exact q
  · rw [if_neg q]
    exact Or.inr (List.mem_append_right _ List.mem_cons_self)
theorem tl1_or {T : List Nat} {x y : Nat} (h : tld (tl1 T x) y) : tld T y ∨ y = x := by
  unfold tl1 at h
  by_cases q : tld T x
  · rw [if_pos q] at h
    exact Or.inl h
  · rw [if_neg q] at h
    rcases h with h | h
    · exact Or.inl (Or.inl h)
    · rcases List.mem_append.mp h with z | z
      · exact Or.inl (Or.inr z)
      · exact Or.inr (List.mem_singleton.mp z)
theorem tl1_pre (T : List Nat) (x : Nat) : T <+: tl1 T x := by
  unfold tl1
  by_cases q : tld T x
  · rw [if_pos q]
    exact List.prefix_refl _
  · rw [if_neg q]
    exact List.prefix_append _ _
theorem SV.tell {S : s_T} {N : Nat} {L : w_L} {T : List Nat} {k x : Nat} (h : SV S N L T k) (hx : x < N) : SV (S_tell S (nI x)) N L (tl1 T x) k := by
  have hlen := h.T_len
  obtain ⟨⟨a1, a2, a3, a4⟩, ⟨b1, b2, b3, b4, b5⟩, c1, c2, c3, c4⟩ := h
  unfold S_tell tl1
  have e1 : r_get (s_len 0) (S.1 0) (nI x) = if tld T x then 1 else 0 := by
    rw [show s_len 0 = 2200 from rfl, r_get_in (by omega) (by decide), c1 x (by omega)]
  by_cases q : tld T x
  · rw [if_pos q, if_neg (fun z => by rw [e1, if_pos q] at z; exact absurd z.2.2 (by decide))]
    exact ⟨⟨a1, a2, a3, a4⟩, ⟨b1, b2, b3, b4, b5⟩, c1, c2, c3, c4⟩
  · rw [if_neg q, if_pos ⟨nI_pos (by omega), by rw [a1]; exact nI_ge hx (by omega), by rw [e1, if_neg q]⟩]
    have hp0 : r_put (s_len 0) (S.1 0) (nI x) 1 = upd (S.1 0) x 1 := r_put_in (by show x < 2200; omega) (by decide)
    have hp5 : r_put (s_len 5) (S.1 5) (S.2 2) (nI x) = upd (S.1 5) T.length (nI x) := by
      rw [a3]
      exact r_put_in (by show T.length < 2200; omega) (by decide)
    rw [hp0, hp5]
    refine ⟨⟨a1, a2, ?_, a4⟩, ⟨b1, b2, b3, ?_, ?_⟩, fun y hy => ?_, fun i y hi => ?_, c3, c4⟩
    · show upd S.2 2 _ 2 = _
      rw [upd_s, a3, nI_1, List.length_append]
      rfl
    · rw [List.length_append]
      omega
    · rw [List.nodup_append]
      refine ⟨b5, by simp, fun a ha b hb e => ?_⟩
      rw [List.mem_singleton.mp hb] at e
      exact q (Or.inr (e ▸ ha))
    · show upd (S.1 0) x 1 y = _
      by_cases e : y = x
      · subst e
        rw [upd_s, if_pos (Or.inr (List.mem_append_right _ List.mem_cons_self))]
      · rw [upd_n e, c1 y hy]
        have : tld T y ↔ tld (T ++ [x]) y := by
          unfold tld
          simp [e]
        by_cases z : tld T y
        · rw [if_pos z, if_pos (this.mp z)]
        · rw [if_neg z, if_neg (fun w => z (this.mpr w))]
    · show upd (S.1 5) T.length (nI x) i = _ ∧ _
      rcases Nat.lt_or_ge i T.length with hl | hl
      · rw [List.getElem?_append_left hl] at hi
        rw [upd_n (by omega)]
        exact c2 i y hi
      · rw [List.getElem?_append_right hl] at hi
        have hi0 : i = T.length := by
          rcases Nat.lt_or_ge (i - T.length) 1 with z | z
          · omega
          · rw [List.getElem?_eq_none (by simpa using z)] at hi
            cases hi
        subst hi0
        simp at hi
        subst hi
        rw [upd_s]
        exact ⟨rfl, Nat.pos_of_ne_zero (fun z => q (Or.inl z)), hx⟩
theorem lx_app (L : w_L) (q : Nat × Nat × Nat) (f : Nat) : ∀ j, j ≤ L.length → lx (L ++ [q]) f j = lx L f j := by
  intro j
  induction j with
  | zero => intro _; rfl
  | succ j ih =>
    intro hj
    unfold lx
    rw [List.getElem?_append_left (by omega), ih (by omega)]
theorem SV.opn {S : s_T} {N : Nat} {L : w_L} {T : List Nat} {k f w t : Nat} (h : SV S N L T k) (hL : L.length < 2600) (hf : f < N) (hw : w < N) (ht : t < N) : SV (S_open S (nI f) (nI w) (nI t)) N (L ++ [(f, w, t)]) (if tld T f ∧ tld T w then tl1 T t else T) k := by
  have hN := h.2.1.2.1
  have hl : S.2 1 < 2600 := by
    rw [h.1.2.1]
    exact nI_lt hL (by decide)
  have h1 : SV (S_way S (nI f) (nI w) (nI t)) N (L ++ [(f, w, t)]) T k := by
    obtain ⟨⟨a1, a2, a3, a4⟩, ⟨b1, b2, b3, b4, b5⟩, c1, c2, c3, c4⟩ := h
    unfold S_way
    have e3 : r_put (s_len 3) (S.1 3) (S.2 1) (nI t) = upd (S.1 3) L.length (nI t) := by rw [a2]; exact r_put_in (by show _ < 2600; omega) (by decide)
    have e4 : r_put (s_len 4) (S.1 4) (S.2 1) (nI w) = upd (S.1 4) L.length (nI w) := by rw [a2]; exact r_put_in (by show _ < 2600; omega) (by decide)
    have e2 : r_put (s_len 2) (S.1 2) (S.2 1) (r_get (s_len 1) (S.1 1) (nI f)) = upd (S.1 2) L.length (lx L f L.length) := by
      rw [a2, show r_get (s_len 1) (S.1 1) (nI f) = lx L f L.length from (r_get_in (by show _ < 2200; omega) (by decide)).trans (c4 f (by omega))]
      exact r_put_in (by show _ < 2600; omega) (by decide)
    have e1 : r_put (s_len 1) (S.1 1) (nI f) (S.2 1) = upd (S.1 1) f (nI L.length) := by rw [a2]; exact r_put_in (by show _ < 2200; omega) (by decide)
    rw [e3, e4, e2, e1]
    have hlen : (L ++ [(f, w, t)]).length = L.length + 1 := by simp
    refine ⟨⟨a1, ?_, a3, a4⟩, ⟨b1, b2, by omega, b4, b5⟩, c1, c2, fun j f' w' t' hj => ?_, fun f' hf' => ?_⟩
    · exact (upd_s S.2 1 (S.2 1 + 1)).trans (by rw [a2, nI_1, hlen])
    · show upd (S.1 3) L.length (nI t) j = _ ∧ upd (S.1 4) L.length (nI w) j = _ ∧ upd (S.1 2) L.length (lx L f L.length) j = _ ∧ _
      rcases Nat.lt_or_ge j L.length with z | z
      · rw [List.getElem?_append_left z] at hj
        rw [upd_n (by omega), upd_n (by omega), upd_n (by omega), lx_app _ _ _ _ (by omega)]
        exact c3 j f' w' t' hj
      · rw [List.getElem?_append_right z] at hj
        have hj0 : j = L.length := by
          rcases Nat.lt_or_ge (j - L.length) 1 with y | y
          · omega
          · rw [List.getElem?_eq_none (by simpa using y)] at hj
            cases hj
        subst hj0
        simp at hj
        obtain ⟨rfl, rfl, rfl⟩ := hj
        rw [upd_s, upd_s, upd_s, lx_app _ _ _ _ (by omega)]
        exact ⟨rfl, rfl, rfl, hf, hw, ht⟩
    · show upd (S.1 1) f (nI L.length) f' = _
      rw [hlen]
      unfold lx
      rw [List.getElem?_append_right (Nat.le_refl _), Nat.sub_self]
      by_cases e : f' = f
      · subst e
        rw [upd_s]
        simp
      · rw [upd_n e, lx_app _ _ _ _ (by omega), c4 f' hf', if_neg (by simp; exact fun z => e z.symm)]
  unfold S_open
  rw [if_pos hl]
  have t1 := h1.told (x := f) (by omega)
  have t2 := h1.told (x := w) (by omega)
  by_cases q : tld T f ∧ tld T w
  · rw [if_pos q, if_pos ⟨t1.mpr q.1, t2.mpr q.2⟩]
    exact h1.tell ht
  · rw [if_neg q, if_neg (fun z => q ⟨t1.mp z.1, t2.mp z.2⟩)]
    exact h1
/-- closed under the ways -/
def wcl (L : w_L) (Q : Nat → Prop) : Prop := ∀ f w t, (f, w, t) ∈ L → Q f → Q w → Q t
def snd (L : w_L) (T T' : List Nat) : Prop := ∀ Q : Nat → Prop, wcl L Q → (∀ x, tld T x → Q x) → ∀ x, tld T' x → Q x
theorem lx_or (L : w_L) (f : Nat) : ∀ j, (lx L f j = -1 ∧ ∀ i, i < j → ∀ w t, L[i]? ≠ some (f, w, t)) ∨ ∃ i w t, i < j ∧ lx L f j = nI i ∧ L[i]? = some (f, w, t) ∧ ∀ i', i < i' → i' < j → ∀ w t, L[i']? ≠ some (f, w, t) := by
  intro j
  induction j with
  | zero => exact Or.inl ⟨rfl, fun i hi => by omega⟩
  | succ j ih =>
    unfold lx
    by_cases q : (L[j]?).map (fun q => q.1) = some f
    · rw [if_pos q]
      refine Or.inr ?_
      cases e : L[j]? with
      | none => rw [e] at q; cases q
      | some z =>
        rw [e] at q
        have q2 : z.1 = f := Option.some.inj q
        subst q2
        exact ⟨j, z.2.1, z.2.2, by omega, rfl, e, fun i' h1 h2 => by omega⟩
    · rw [if_neg q]
      have hno : ∀ w t, L[j]? ≠ some (f, w, t) := fun w t e => q (by rw [e]; rfl)
      rcases ih with ⟨h1, h2⟩ | ⟨i, w, t, h1, h2, h3, h4⟩
      · refine Or.inl ⟨h1, fun i hi => ?_⟩
        rcases Nat.lt_or_ge i j with z | z
        · exact h2 i z
        · rw [show i = j by omega]
          exact hno
      · refine Or.inr ⟨i, w, t, by omega, h2, h3, fun i' g1 g2 => ?_⟩
        rcases Nat.lt_or_ge i' j with z | z
        · exact h4 i' g1 z
        · rw [show i' = j by omega]
          exact hno
theorem snd.rf (L : w_L) (T : List Nat) : snd L T T := fun _ _ h => h
theorem snd.tr {L : w_L} {T T1 T2 : List Nat} (a : snd L T T1) (b : snd L T1 T2) : snd L T T2 := fun Q hQ h => b Q hQ (a Q hQ h)
theorem pre_tld {T T' : List Nat} (h : T <+: T') {x : Nat} (hx : tld T x) : tld T' x := by
  rcases hx with e | e
  · exact Or.inl e
  · exact Or.inr (h.subset e)
/-- the ways from x, gone -/
theorem SV.fol {N : Nat} {L : w_L} {k x : Nat} : ∀ (n j : Nat) (S : s_T) (T : List Nat), j ≤ n → j ≤ L.length → SV S N L T k → tld T x → ∃ T', SV (S_fol n S (lx L x j)) N L T' k ∧ T <+: T' ∧ snd L T T' ∧ ∀ i, i < j → ∀ w t, L[i]? = some (x, w, t) → tld T w → tld T' t := by
  intro n
  induction n with
  | zero =>
    intro j S T hj _ h _
    exact ⟨T, h, List.prefix_refl _, snd.rf L T, fun i hi => by omega⟩
  | succ n ih =>
    intro j S T hj hjL h hx
    have hL := h.2.1.2.2.1
    have hN := h.2.1.2.1
    rcases lx_or L x j with ⟨h1, h2⟩ | ⟨i, w, t, h1, h2, h3, h4⟩
    · unfold S_fol
      rw [if_pos h1]
      exact ⟨T, h, List.prefix_refl _, snd.rf L T, fun i hi w t e => absurd e (h2 i hi w t)⟩
    · obtain ⟨d1, d2, d3, d4, d5, d6⟩ := h.2.2.2.2.1 i x w t h3
      have hne : ¬ nI i = -1 := nI_nm (by omega)
      unfold S_fol
      rw [h2, if_neg hne]
      have g4 : r_get (s_len 4) (S.1 4) (nI i) = nI w := (r_get_in (by show i < 2600; omega) (by decide)).trans d2
      have g3 : r_get (s_len 3) (S.1 3) (nI i) = nI t := (r_get_in (by show i < 2600; omega) (by decide)).trans d1
      have g2 : r_get (s_len 2) (S.1 2) (nI i) = lx L x i := (r_get_in (by show i < 2600; omega) (by decide)).trans d3
      rw [g2]
      have hone : ∃ T1, SV (S_one S (nI i)) N L T1 k ∧ T <+: T1 ∧ snd L T T1 ∧ (tld T w → tld T1 t) := by
        unfold S_one
        rw [g4, g3]
        have tw := h.told (x := w) (by omega)
        by_cases q : tld T w
        · rw [if_pos (tw.mpr q)]
          refine ⟨tl1 T t, h.tell d6, tl1_pre T t, fun Q hQ hT y hy => ?_, fun _ => tl1_s T t⟩
          rcases tl1_or hy with z | z
          · exact hT y z
          · subst z
            exact hQ x w y (List.mem_of_getElem? h3) (hT x hx) (hT w q)
        · rw [if_neg (fun z => q (tw.mp z))]
          exact ⟨T, h, List.prefix_refl _, snd.rf L T, fun z => absurd z q⟩
      obtain ⟨T1, e1, e2, e3, e4⟩ := hone
      obtain ⟨T2, f1, f2, f3, f4⟩ := ih i (S_one S (nI i)) T1 (by omega) (by omega) e1 (pre_tld e2 hx)
      refine ⟨T2, f1, e2.trans f2, e3.tr f3, fun i' hi' w' t' hi2 hw' => ?_⟩
      rcases Nat.lt_trichotomy i' i with z | z | z
      · exact f4 i' z w' t' hi2 (pre_tld e2 hw')
      · subst z
        rw [h3] at hi2
        cases hi2
        exact pre_tld f2 (e4 hw')
      · exact absurd hi2 (h4 i' z hi' w' t')
def prc (T : List Nat) (k x : Nat) : Prop := x = 0 ∨ x ∈ T.take k
def PI (L : w_L) (T : List Nat) (k : Nat) : Prop := ∀ f w t, (f, w, t) ∈ L → prc T k f → prc T k w → tld T t
def MI (L : w_L) : Prop := ∀ f w t, (f, w, t) ∈ L → w ≠ 0 → (w, f, t) ∈ L
theorem prc_tld {T : List Nat} {k x : Nat} (h : prc T k x) : tld T x := by
  rcases h with e | e
  · exact Or.inl e
  · exact Or.inr (List.mem_of_mem_take e)
theorem prc_pre {T T' : List Nat} {k x : Nat} (hp : T <+: T') (hk : k ≤ T.length) : prc T' k x ↔ prc T k x := by
  unfold prc
  obtain ⟨U, rfl⟩ := hp
  rw [List.take_append_of_le_length hk]
theorem prc_s {T : List Nat} {k x y : Nat} (hx : T[k]? = some x) (h : prc T (k + 1) y) : prc T k y ∨ y = x := by
  rcases h with e | e
  · exact Or.inl (Or.inl e)
  · rw [List.take_add_one, hx] at e
    rcases List.mem_append.mp e with z | z
    · exact Or.inl (Or.inr z)
    · exact Or.inr (List.mem_singleton.mp z)
theorem SV.nx {S : s_T} {N : Nat} {L : w_L} {T : List Nat} {k : Nat} (h : SV S N L T k) (hk : k < T.length) (hM : MI L) (hP : PI L T k) : ∃ T', SV (S_nx L.length S) N L T' (k + 1) ∧ T <+: T' ∧ snd L T T' ∧ PI L T' (k + 1) := by
  have hlen := h.T_len
  have hN := h.2.1.2.1
  obtain ⟨x, hx⟩ : ∃ x, T[k]? = some x := ⟨T[k], List.getElem?_eq_getElem hk⟩
  obtain ⟨c5, x0, xN⟩ := h.2.2.2.1 k x hx
  have hxT : tld T x := Or.inr (List.mem_of_getElem? hx)
  have g5 : r_get (s_len 5) (S.1 5) (S.2 3) = nI x := by
    rw [h.1.2.2.2]
    exact (r_get_in (by show k < 2200; omega) (by decide)).trans c5
  have g1 : r_get (s_len 1) (S.1 1) (nI x) = lx L x L.length := (r_get_in (by show x < 2200; omega) (by decide)).trans (h.2.2.2.2.2 x (by omega))
  obtain ⟨T', f1, f2, f3, f4⟩ := SV.fol L.length L.length S T (Nat.le_refl _) (Nat.le_refl _) h hxT
  refine ⟨T', ?_, f2, f3, fun f w t hL hf hw => ?_⟩
  · unfold S_nx
    rw [g5, g1]
    obtain ⟨⟨a1, a2, a3, a4⟩, ⟨b1, b2, b3, b4, b5⟩, c1, c2, c3, c4⟩ := f1
    refine ⟨⟨a1, a2, a3, ?_⟩, ⟨b1, b2, b3, ?_, b5⟩, c1, c2, c3, c4⟩
    · exact (upd_s (S_fol L.length S (lx L x L.length)).2 3 (S.2 3 + 1)).trans (by rw [h.1.2.2.2, nI_1])
    · have := f2.length_le
      omega
  · have hx' : T'[k]? = some x := by
      obtain ⟨U, rfl⟩ := f2
      rw [List.getElem?_append_left hk]
      exact hx
    have hmem : ∀ w t, (x, w, t) ∈ L → tld T w → tld T' t := fun w t hm hw => by
      obtain ⟨i, hi⟩ := List.mem_iff_getElem?.mp hm
      exact f4 i (List.getElem?_eq_some_iff.mp hi).1 w t hi hw
    have old : ∀ y, prc T' k y → prc T k y := fun y hy => (prc_pre f2 (by omega)).mp hy
    rcases prc_s hx' hf with hf1 | hf1
    · rcases prc_s hx' hw with hw1 | hw1
      · exact pre_tld f2 (hP f w t hL (old f hf1) (old w hw1))
      · subst hw1
        exact hmem f t (hM f w t hL (by omega)) (prc_tld (old f hf1))
    · subst hf1
      rcases prc_s hx' hw with hw1 | hw1
      · exact hmem w t hL (prc_tld (old w hw1))
      · subst hw1
        exact hmem w t hL hxT
theorem SV.set {N : Nat} {L : w_L} (hM : MI L) : ∀ (m : Nat) (S : s_T) (T : List Nat) (k : Nat), k + m = 2201 → SV S N L T k → PI L T k → ∃ T', SV (S_set L.length m S) N L T' T'.length ∧ T <+: T' ∧ snd L T T' ∧ PI L T' T'.length := by
  intro m
  induction m with
  | zero =>
    intro S T k hk h _
    have := h.T_len
    have := h.2.1
    omega
  | succ m ih =>
    intro S T k hk h hP
    have hlen := h.T_len
    have hN := h.2.1.2.1
    have hkl := h.2.1.2.2.2.1
    unfold S_set
    by_cases q : k < T.length
    · rw [if_pos ⟨by rw [h.1.2.2.2, h.1.2.2.1]; exact nI_lt q (by omega), by rw [h.1.2.2.2]; exact (show nI k < nI 2200 from nI_lt (by omega) (by decide))⟩]
      obtain ⟨T1, e1, e2, e3, e4⟩ := h.nx q hM hP
      obtain ⟨T2, f1, f2, f3, f4⟩ := ih _ T1 (k + 1) (by omega) e1 e4
      exact ⟨T2, f1, e2.trans f2, e3.tr f3, f4⟩
    · rw [if_neg (fun z => by
        have z1 := z.1
        rw [h.1.2.2.2, h.1.2.2.1] at z1
        have := nI_tl (by omega) z1
        omega)]
      have : k = T.length := by omega
      subst this
      exact ⟨T, h, List.prefix_refl _, snd.rf L T, hP⟩
theorem PI.full {L : w_L} {T : List Nat} (h : PI L T T.length) : wcl L (tld T) := fun f w t hm hf hw => by
  have q : ∀ x, tld T x → prc T T.length x := fun x hx => by
    unfold prc
    rw [List.take_length]
    exact hx
  exact h f w t hm (q f hf) (q w hw)
