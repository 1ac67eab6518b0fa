/-! ===== the pure part: what the intruder knows, on both sides ===== -/
def sg (x : Nat) : Nat := if x = 1 then 2 else if x = 2 then 1 else x
theorem sg_sg (x : Nat) : sg (sg x) = x := by
  unfold sg
  by_cases h1 : x = 1
  · subst h1; rfl
  · by_cases h2 : x = 2
    · subst h2; rfl
    · rw [if_neg h1, if_neg h2, if_neg h1, if_neg h2]
theorem sg_inj {x y : Nat} (h : sg x = sg y) : x = y := by rw [← sg_sg x, h, sg_sg]
theorem sg_0 : sg 0 = 0 := rfl
theorem sg_big {x : Nat} (h : 3 ≤ x) : sg x = x := by
  unfold sg
  rw [if_neg (by omega), if_neg (by omega)]
theorem sg_lt {x n : Nat} (hn : 3 ≤ n) (h : x < n) : sg x < n := by
  unfold sg
  by_cases h1 : x = 1
  · rw [if_pos h1]; omega
  · by_cases h2 : x = 2
    · rw [if_neg h1, if_pos h2]; omega
    · rw [if_neg h1, if_neg h2]; exact h
theorem sg_nI {x : Nat} (h : x < 2 ^ 31) : nI (sg x) = sw (nI x) := by
  unfold sg sw
  have e1 : nI x = 1 ↔ x = 1 := nI_eq (a := x) (b := 1) h (by decide)
  have e2 : nI x = 2 ↔ x = 2 := nI_eq (a := x) (b := 2) h (by decide)
  by_cases h1 : x = 1
  · rw [if_pos h1, if_pos (e1.mpr h1)]; rfl
  · by_cases h2 : x = 2
    · rw [if_neg h1, if_pos h2, if_neg (fun z => h1 (e1.mp z)), if_pos (e2.mpr h2)]; rfl
    · rw [if_neg h1, if_neg h2, if_neg (fun z => h1 (e1.mp z)), if_neg (fun z => h2 (e2.mp z))]
/-- the class's secrets since a call began: T0 was told then -/
def SQ (k : Nat) (T0 : List Nat) (S : s_T) (N : Nat) (L : w_L) (T : List Nat) : Prop := SV S N L T k ∧ T0 <+: T ∧ snd L T0 T ∧ PI L T k
theorem SQ.fresh {k N : Nat} {T0 T : List Nat} {S : s_T} {L : w_L} (h : SQ k T0 S N L T) (hN : N < 2200) : (S_fresh S).1 = nI N ∧ SQ k T0 (S_fresh S).2 (N + 1) L T :=
  ⟨(h.1.fresh hN).1, (h.1.fresh hN).2, h.2⟩
theorem SQ.opn {k N f w t : Nat} {T0 T : List Nat} {S : s_T} {L : w_L} (h : SQ k T0 S N L T) (hL : L.length < 2600) (hf : f < N) (hw : w < N) (ht : t < N) : ∃ T', SQ k T0 (S_open S (nI f) (nI w) (nI t)) N (L ++ [(f, w, t)]) T' := by
  obtain ⟨h1, h2, h3, h4⟩ := h
  have hk := h1.2.1.2.2.2.1
  have hs := h1.opn hL hf hw ht
  have hpre : T <+: (if tld T f ∧ tld T w then tl1 T t else T) := by
    by_cases q : tld T f ∧ tld T w
    · rw [if_pos q]; exact tl1_pre T t
    · rw [if_neg q]; exact List.prefix_refl _
  refine ⟨_, hs, h2.trans hpre, fun Q hQ h0 x hx => ?_, fun f' w' t' hm p1 p2 => ?_⟩
  · have hT : ∀ y, tld T y → Q y := h3 Q (fun a b c hm => hQ a b c (List.mem_append_left _ hm)) h0
    by_cases q : tld T f ∧ tld T w
    · rw [if_pos q] at hx
      rcases tl1_or hx with z | z
      · exact hT x z
      · subst z
        exact hQ f w x (List.mem_append_right _ List.mem_cons_self) (hT f q.1) (hT w q.2)
    · rw [if_neg q] at hx
      exact hT x hx
  · have p1' := (prc_pre hpre hk).mp p1
    have p2' := (prc_pre hpre hk).mp p2
    rcases List.mem_append.mp hm with z | z
    · exact pre_tld hpre (h4 f' w' t' z p1' p2')
    · cases List.mem_singleton.mp z
      rw [if_pos ⟨prc_tld p1', prc_tld p2'⟩]
      exact tl1_s T t
theorem SQ.der {k N x : Nat} {T0 T : List Nat} {S : s_T} {L : w_L} (h : SQ k T0 S N L T) (hN : N < 2200) (hL : L.length < 2600) (hx : x < N) : (S_der S (nI x)).1 = nI N ∧ ∃ T', SQ k T0 (S_der S (nI x)).2 (N + 1) (L ++ [(x, 0, N)]) T' := by
  obtain ⟨e, h1⟩ := h.fresh hN
  unfold S_der
  rw [e]
  exact ⟨rfl, h1.opn (f := x) (w := 0) (t := N) hL (by omega) (by omega) (by omega)⟩
theorem SQ.joi {k N i l : Nat} {T0 T : List Nat} {S : s_T} {L : w_L} (h : SQ k T0 S N L T) (hN : N < 2200) (hL : L.length + 1 < 2600) (hi : i < N) (hl : l < N) : (S_joi S (nI i) (nI l)).1 = nI N ∧ ∃ T', SQ k T0 (S_joi S (nI i) (nI l)).2 (N + 1) ((L ++ [(i, l, N)]) ++ [(l, i, N)]) T' := by
  obtain ⟨e, h1⟩ := h.fresh hN
  unfold S_joi
  rw [e]
  obtain ⟨T1, h2⟩ := h1.opn (f := i) (w := l) (t := N) (by omega) (by omega) (by omega) (by omega)
  exact ⟨rfl, h2.opn (by rw [List.length_append]; exact hL) (by omega) (by omega) (by omega)⟩
/-- a way that the reference has too -/
def JW (X : x_T) (n c f w t : Nat) : Prop :=
  (w = 0 ∧ ∃ j, j < c ∧ X.2 8 j = nI (sg f) ∧ X.2 9 j = nI (sg t)) ∨ (sg t < n ∧ ((w = 0 ∧ ¬ X.2 2 (sg t) = 0 ∧ ¬ X.2 2 (sg t) = 1 ∧ ¬ X.2 2 (sg t) = 4 ∧ X.2 3 (sg t) = nI (sg f)) ∨ (X.2 2 (sg t) = 4 ∧ ((X.2 3 (sg t) = nI (sg f) ∧ X.2 4 (sg t) = nI (sg w)) ∨ (X.2 3 (sg t) = nI (sg w) ∧ X.2 4 (sg t) = nI (sg f))))))
/-- the ways of a secret of the reference are the class's -/
def IK (X : x_T) (n : Nat) (L : w_L) (k : Nat) : Prop := (X.2 2 k = 0 → k = 0) ∧ (∃ f s, f < n ∧ s < n ∧ X.2 3 k = nI f ∧ X.2 4 k = nI s ∧ (f < k ∨ f = 0) ∧ (¬ X.2 2 k = 0 → ¬ X.2 2 k = 1 → ¬ X.2 2 k = 4 → (sg f, 0, sg k) ∈ L) ∧ (X.2 2 k = 4 → (sg f, sg s, sg k) ∈ L ∧ (sg s, sg f, sg k) ∈ L))
def IJ (X : x_T) (n : Nat) (L : w_L) (j : Nat) : Prop := ∃ a b, a < n ∧ b < n ∧ X.2 8 j = nI a ∧ X.2 9 j = nI b ∧ (sg a, 0, sg b) ∈ L
def IX (X : x_T) (n c : Nat) (L : w_L) : Prop := (∀ k, k < n → IK X n L k) ∧ (∀ j, j < c → IJ X n L j) ∧ (∀ f w t, (f, w, t) ∈ L → JW X n c f w t) ∧ X.2 2 0 = 0
/-- nothing is lost -/
def XE (X : x_T) (n c : Nat) (X' : x_T) (n' c' : Nat) : Prop := n ≤ n' ∧ c ≤ c' ∧ (∀ k, k < n → X'.2 2 k = X.2 2 k ∧ X'.2 3 k = X.2 3 k ∧ X'.2 4 k = X.2 4 k) ∧ ∀ j, j < c → X'.2 8 j = X.2 8 j ∧ X'.2 9 j = X.2 9 j ∧ X'.2 10 j = X.2 10 j ∧ X'.2 11 j = X.2 11 j
theorem XE.rf (X : x_T) (n c : Nat) : XE X n c X n c := ⟨Nat.le_refl _, Nat.le_refl _, fun _ _ => ⟨rfl, rfl, rfl⟩, fun _ _ => ⟨rfl, rfl, rfl, rfl⟩⟩
theorem XE.tr {X Y W : x_T} {n c n1 c1 n2 c2 : Nat} (a : XE X n c Y n1 c1) (b : XE Y n1 c1 W n2 c2) : XE X n c W n2 c2 := by
  obtain ⟨a1, a2, a3, a4⟩ := a
  obtain ⟨b1, b2, b3, b4⟩ := b
  refine ⟨by omega, by omega, fun k hk => ?_, fun j hj => ?_⟩
  · rw [(b3 k (by omega)).1, (b3 k (by omega)).2.1, (b3 k (by omega)).2.2]
    exact a3 k hk
  · rw [(b4 j (by omega)).1, (b4 j (by omega)).2.1, (b4 j (by omega)).2.2.1, (b4 j (by omega)).2.2.2]
    exact a4 j hj
theorem XE.of {X Y : x_T} {K : List Nat} {n c : Nat} (f : xfr K X Y) (hK : ∀ k, k ∈ K → ¬ (2 ≤ k ∧ k ≤ 4) ∧ ¬ (8 ≤ k ∧ k ≤ 11)) : XE X n c Y n c := by
  have q : ∀ k, (2 ≤ k ∧ k ≤ 4) ∨ (8 ≤ k ∧ k ≤ 11) → Y.2 k = X.2 k := fun k hk => (f k (fun z => by have := hK k z; omega)).2
  refine ⟨Nat.le_refl _, Nat.le_refl _, fun k _ => ?_, fun j _ => ?_⟩
  · rw [q 2 (by omega), q 3 (by omega), q 4 (by omega)]
    exact ⟨rfl, rfl, rfl⟩
  · rw [q 8 (by omega), q 9 (by omega), q 10 (by omega), q 11 (by omega)]
    exact ⟨rfl, rfl, rfl, rfl⟩
theorem JW.mono {X X' : x_T} {n c n' c' f w t : Nat} (h : JW X n c f w t) (x : XE X n c X' n' c') : JW X' n' c' f w t := by
  obtain ⟨x1, x2, x3, x4⟩ := x
  rcases h with ⟨a, j, hj, b1, b2⟩ | ⟨a, b⟩
  · exact Or.inl ⟨a, j, by omega, by rw [(x4 j hj).1]; exact b1, by rw [(x4 j hj).2.1]; exact b2⟩
  · refine Or.inr ⟨by omega, ?_⟩
    rw [(x3 _ a).1, (x3 _ a).2.1, (x3 _ a).2.2]
    exact b
theorem IK.mono {X X' : x_T} {n c n' c' k : Nat} {L L' : w_L} (h : IK X n L k) (hk : k < n) (x : XE X n c X' n' c') (hL : ∀ q, q ∈ L → q ∈ L') : IK X' n' L' k := by
  obtain ⟨x1, x2, x3, x4⟩ := x
  unfold IK at h ⊢
  rw [(x3 _ hk).1, (x3 _ hk).2.1, (x3 _ hk).2.2]
  obtain ⟨h1, f, s, a1, a2, a3, a4, a5, a6, a7⟩ := h
  exact ⟨h1, f, s, by omega, by omega, a3, a4, a5, fun p q r => hL _ (a6 p q r), fun p => ⟨hL _ (a7 p).1, hL _ (a7 p).2⟩⟩
theorem IX.grow {X X' : x_T} {n c n' c' : Nat} {L L' : w_L} (h : IX X n c L) (x : XE X n c X' n' c') (hn : 0 < n) (hL : ∀ q, q ∈ L → q ∈ L') (hk : ∀ k, n ≤ k → k < n' → IK X' n' L' k) (hj : ∀ j, c ≤ j → j < c' → IJ X' n' L' j) (hw : ∀ f w t, (f, w, t) ∈ L' → (f, w, t) ∈ L ∨ JW X' n' c' f w t) : IX X' n' c' L' := by
  have x' := x
  obtain ⟨x1, x2, x3, x4⟩ := x
  obtain ⟨h1, h2, h3, h4⟩ := h
  refine ⟨fun k hk' => ?_, fun j hj' => ?_, fun f w t hm => ?_, by rw [(x3 0 hn).1]; exact h4⟩
  · rcases Nat.lt_or_ge k n with c | c
    · exact (h1 k c).mono c x' hL
    · exact hk k c hk'
  · rcases Nat.lt_or_ge j c with q | q
    · obtain ⟨a, b, a1, a2, a3, a4, a5⟩ := h2 j q
      exact ⟨a, b, by omega, by omega, by rw [(x4 j q).1]; exact a3, by rw [(x4 j q).2.1]; exact a4, hL _ a5⟩
    · exact hj j q hj'
  · rcases hw f w t hm with z | z
    · exact (h3 f w t z).mono x'
    · exact z
/-- what may be known is the reference's -/
theorem IX.snd {X : x_T} {n c : Nat} {L : w_L} (h : IX X n c L) (hn : n < 2 ^ 31) (hL : ∀ f w t, (f, w, t) ∈ L → f < n ∧ w < n ∧ t < n) (hn3 : 3 ≤ n) : wcl L (fun x => Kn X n c (sg x)) := by
  intro f w t hm hf hw Q hQ
  obtain ⟨b1, b2, b3⟩ := hL f w t hm
  have hf := hf Q hQ
  have hw := hw Q hQ
  have i : ∀ x, x < n → ix (nI (sg x)) = sg x := fun x hx => ix_nI (by have := sg_lt hn3 hx; omega)
  rcases h.2.2.1 f w t hm with ⟨-, j, hj, a1, a2⟩ | ⟨a, ⟨a0, a1, a2, a3, a4⟩ | ⟨a1, ⟨a2, a3⟩ | ⟨a2, a3⟩⟩⟩
  · have := hQ.2.2 j hj
    rw [a1, a2, i f b1, i t b3] at this
    exact this hf
  · refine hQ.2.1 _ a (Or.inr ⟨a2, ?_, fun z => absurd z a3⟩)
    rw [a4, i f b1]
    exact hf
  · refine hQ.2.1 _ a (Or.inr ⟨by rw [a1]; decide, ?_, fun _ => ?_⟩)
    · rw [a2, i f b1]; exact hf
    · rw [a3, i w b2]; exact hw
  · refine hQ.2.1 _ a (Or.inr ⟨by rw [a1]; decide, ?_, fun _ => ?_⟩)
    · rw [a2, i w b2]; exact hw
    · rw [a3, i f b1]; exact hf
theorem Kn_mono {X X' : x_T} {n c n' c' : Nat} (x : XE X n c X' n' c') (ht : ∀ k, k < n → ¬ X.2 5 k = 0 → ¬ X'.2 5 k = 0) {k : Nat} (h : Kn X n c k) : Kn X' n' c' k := by
  obtain ⟨x1, x2, x3, x4⟩ := x
  intro Q hQ
  refine h Q ⟨fun k hk z => hQ.1 k (by omega) (ht k hk z), fun k hk z => ?_, fun j hj z => ?_⟩
  · refine hQ.2.1 k (by omega) ?_
    rw [(x3 k hk).1, (x3 k hk).2.1, (x3 k hk).2.2]
    exact z
  · have := hQ.2.2 j (by omega)
    rw [(x4 j hj).1, (x4 j hj).2.1] at this
    exact this z
theorem IX.kn {X : x_T} {n c : Nat} {L : w_L} {T : List Nat} (h : IX X n c L) (hn : n < 2 ^ 31) (hw : wcl L (tld T)) (ht : ∀ k, k < n → ¬ X.2 5 k = 0 → tld T (sg k)) (hk : ∀ x, tld T x → Kn X n c (sg x)) (k : Nat) : Kn X n c k ↔ tld T (sg k) := by
  constructor
  · intro z
    refine z (fun k => tld T (sg k)) ⟨ht, fun k hk' z => ?_, fun j hj z => ?_⟩
    · obtain ⟨h1, f, s, a1, a2, a3, a4, a5, a6, a7⟩ := h.1 k hk'
      rcases z with z | ⟨z1, z2, z3⟩
      · rw [h1 z]
        exact Or.inl rfl
      · by_cases q0 : X.2 2 k = 0
        · rw [h1 q0]
          exact Or.inl rfl
        · rw [a3, ix_nI (by omega)] at z2
          by_cases q4 : X.2 2 k = 4
          · have z3 := z3 q4
            rw [a4, ix_nI (by omega)] at z3
            exact hw _ _ _ (a7 q4).1 z2 z3
          · exact hw _ _ _ (a6 q0 z1 q4) z2 (Or.inl rfl)
    · obtain ⟨a, b, a1, a2, a3, a4, a5⟩ := h.2.1 j hj
      rw [a3, ix_nI (by omega)] at z
      rw [a4, ix_nI (by omega)]
      exact hw _ _ _ a5 z (Or.inl rfl)
  · intro z
    have := hk _ z
    rw [sg_sg] at this
    exact this
