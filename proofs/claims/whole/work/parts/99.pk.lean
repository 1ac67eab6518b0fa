/-! ===== the pure part: what a member holds, gathered by both ===== -/
def BL (b : b_T) (L : List Int32) : Prop := b.1 = L.length ∧ ∀ i x, L[i]? = some x → b.2 i = x
theorem BL.add {b : b_T} {L : List Int32} (h : BL b L) (hl : L.length < 172) (x : Int32) : BL (b_add b x) (L ++ [x]) := by
  obtain ⟨h1, h2⟩ := h
  unfold b_add
  rw [h1, r_put_in hl (by decide)]
  refine ⟨by rw [List.length_append]; rfl, fun i y hi => ?_⟩
  show upd b.2 L.length x i = y
  rcases Nat.lt_or_ge i L.length with z | z
  · rw [List.getElem?_append_left z] at hi
    rw [upd_n (by omega)]
    exact h2 i y hi
  · rw [List.getElem?_append_right z] at hi
    have hi0 : i = L.length := by
      rcases Nat.lt_or_ge (i - L.length) 1 with y | y
      · omega
      · rw [List.getElem?_eq_none (by simpa using y)] at hi
        cases hi
    subst hi0
    simp at hi
    rw [upd_s, hi]
def lm (f : Nat → Int32) : Nat → Nat → List Int32
  | 0, _ => []
  | m + 1, k => (if f k = -1 then [] else [f k]) ++ lm f m (k + 1)
def lf (f : Nat → Int32) : Nat → Nat → List Int32
  | 0, _ => []
  | m + 1, k => f k :: lf f m (k + 1)
def lp (K : Nat → k_T) (j : Nat) : Nat → Nat → List Int32
  | 0, _ => []
  | m + 1, k => (if (K k).1 = j ∧ (K k).2 4 = 0 then [(K k).2 0, (K k).2 1] else []) ++ lp K j m (k + 1)
theorem lm_r (f : Nat → Int32) : ∀ (m k : Nat), (lm f m k).length ≤ m ∧ (∀ y, y ∈ lm f m k ↔ ∃ v, k ≤ v ∧ v < k + m ∧ ¬ f v = -1 ∧ y = f v) ∧ ((∀ v v', k ≤ v → v < k + m → k ≤ v' → v' < k + m → ¬ f v = -1 → f v = f v' → v = v') → (lm f m k).Nodup) := by
  intro m
  induction m with
  | zero => intro k; exact ⟨Nat.le_refl _, fun y => ⟨fun z => (by cases z), fun ⟨v, h1, h2, _⟩ => by omega⟩, fun _ => List.nodup_nil⟩
  | succ m ih =>
    intro k
    obtain ⟨i1, i2, i3⟩ := ih (k + 1)
    unfold lm
    by_cases c : f k = -1
    · rw [if_pos c, List.nil_append]
      refine ⟨by omega, fun y => (i2 y).trans ⟨fun ⟨v, h1, h2, h3⟩ => ⟨v, by omega, by omega, h3⟩, fun ⟨v, h1, h2, h3, h4⟩ => ⟨v, ?_, by omega, h3, h4⟩⟩, fun h => i3 (fun v v' a1 a2 a3 a4 => h v v' (by omega) (by omega) (by omega) (by omega))⟩
      by_cases e : v = k
      · rw [e] at h3; exact absurd c h3
      · omega
    · rw [if_neg c]
      refine ⟨by rw [List.length_append]; simp only [List.length_singleton]; omega, fun y => ?_, fun h => ?_⟩
      · rw [List.mem_append, i2, List.mem_singleton]
        constructor
        · rintro (z | ⟨v, h1, h2, h3⟩)
          · exact ⟨k, by omega, by omega, c, z⟩
          · exact ⟨v, by omega, by omega, h3⟩
        · rintro ⟨v, h1, h2, h3, h4⟩
          by_cases e : v = k
          · subst e; exact Or.inl h4
          · exact Or.inr ⟨v, by omega, by omega, h3, h4⟩
      · rw [List.nodup_append]
        refine ⟨by simp, i3 (fun v v' a1 a2 a3 a4 => h v v' (by omega) (by omega) (by omega) (by omega)), fun a ha b hb e => ?_⟩
        rw [List.mem_singleton] at ha
        obtain ⟨v, h1, h2, h3, h4⟩ := (i2 b).mp hb
        have := h k v (by omega) (by omega) (by omega) (by omega) c (by rw [← ha, e, h4])
        omega
theorem lf_r (f : Nat → Int32) : ∀ (m k : Nat), (lf f m k).length = m ∧ (∀ y, y ∈ lf f m k ↔ ∃ v, k ≤ v ∧ v < k + m ∧ y = f v) ∧ ((∀ v v', k ≤ v → v < v' → v' < k + m → ¬ f v = f v') → (lf f m k).Nodup) := by
  intro m
  induction m with
  | zero => intro k; exact ⟨rfl, fun y => ⟨fun z => (by cases z), fun ⟨v, h1, h2, _⟩ => by omega⟩, fun _ => List.nodup_nil⟩
  | succ m ih =>
    intro k
    obtain ⟨i1, i2, i3⟩ := ih (k + 1)
    unfold lf
    refine ⟨by rw [List.length_cons, i1], fun y => ?_, fun h => ?_⟩
    · rw [List.mem_cons, i2]
      constructor
      · rintro (z | ⟨v, h1, h2, h3⟩)
        · exact ⟨k, by omega, by omega, z⟩
        · exact ⟨v, by omega, by omega, h3⟩
      · rintro ⟨v, h1, h2, h4⟩
        by_cases e : v = k
        · subst e; exact Or.inl h4
        · exact Or.inr ⟨v, by omega, by omega, h4⟩
    · refine List.nodup_cons.mpr ⟨fun z => ?_, i3 (fun v v' a1 a2 a3 => h v v' (by omega) a2 (by omega))⟩
      obtain ⟨v, h1, h2, h3⟩ := (i2 _).mp z
      exact h k v (by omega) (by omega) (by omega) h3
theorem lp_r (K : Nat → k_T) (j : Nat) : ∀ (m k : Nat), (lp K j m k).length ≤ 2 * m ∧ (∀ y, y ∈ lp K j m k ↔ ∃ q, k ≤ q ∧ q < k + m ∧ ((K q).1 = j ∧ (K q).2 4 = 0) ∧ (y = (K q).2 0 ∨ y = (K q).2 1)) ∧ ((∀ q, k ≤ q → q < k + m → ¬ (K q).2 0 = (K q).2 1) → (∀ q q', k ≤ q → q < q' → q' < k + m → ¬ (K q).2 0 = (K q').2 0 ∧ ¬ (K q).2 0 = (K q').2 1 ∧ ¬ (K q).2 1 = (K q').2 0 ∧ ¬ (K q).2 1 = (K q').2 1) → (lp K j m k).Nodup) := by
  intro m
  induction m with
  | zero => intro k; exact ⟨Nat.le_refl _, fun y => ⟨fun z => (by cases z), fun ⟨v, h1, h2, _⟩ => by omega⟩, fun _ _ => List.nodup_nil⟩
  | succ m ih =>
    intro k
    obtain ⟨i1, i2, i3⟩ := ih (k + 1)
    unfold lp
    by_cases c : (K k).1 = j ∧ (K k).2 4 = 0
    · rw [if_pos c]
      refine ⟨by rw [List.length_append]; simp only [List.length_cons, List.length_nil]; omega, fun y => ?_, fun h0 h => ?_⟩
      · rw [List.mem_append, i2]
        simp only [List.mem_cons, List.not_mem_nil, or_false]
        constructor
        · rintro (z | ⟨v, h1, h2, h3⟩)
          · exact ⟨k, by omega, by omega, c, z⟩
          · exact ⟨v, by omega, by omega, h3⟩
        · rintro ⟨v, h1, h2, h3, h4⟩
          by_cases e : v = k
          · subst e; exact Or.inl h4
          · exact Or.inr ⟨v, by omega, by omega, h3, h4⟩
      · rw [List.nodup_append]
        refine ⟨?_, i3 (fun q a1 a2 => h0 q (by omega) (by omega)) (fun q q' a1 a2 a3 => h q q' (by omega) a2 (by omega)), fun a ha b hb e => ?_⟩
        · have := h0 k (by omega) (by omega)
          simp [this]
        · obtain ⟨v, h1, h2, h3, h4⟩ := (i2 b).mp hb
          obtain ⟨n1, n2, n3, n4⟩ := h k v (by omega) (by omega) (by omega)
          simp only [List.mem_cons, List.not_mem_nil, or_false] at ha
          rcases ha with z | z
          · rcases h4 with y | y
            · exact n1 (by rw [← z, e, y])
            · exact n2 (by rw [← z, e, y])
          · rcases h4 with y | y
            · exact n3 (by rw [← z, e, y])
            · exact n4 (by rw [← z, e, y])
    · rw [if_neg c, List.nil_append]
      refine ⟨by omega, fun y => (i2 y).trans ⟨fun ⟨v, h1, h2, h3⟩ => ⟨v, by omega, by omega, h3⟩, fun ⟨v, h1, h2, h3, h4⟩ => ⟨v, ?_, by omega, h3, h4⟩⟩, fun h0 h => i3 (fun q a1 a2 => h0 q (by omega) (by omega)) (fun q q' a1 a2 a3 => h q q' (by omega) a2 (by omega))⟩
      by_cases e : v = k
      · rw [e] at h3; exact absurd h3 c
      · omega
noncomputable def lc1 (G : G_T) (j : Nat) : List Int32 := by
  classical exact if ¬ (gM G j).1 4 = 0 ∧ r_in (ne G) ((gM G j).1 2) then [(gE G (ix ((gM G j).1 2))).1 2] else []
noncomputable def CL (G : G_T) (j u : Nat) : List Int32 := ((lc1 G j ++ lm ((gM G j).2 0) 31 0) ++ lf ((gM G j).2 1) u 0) ++ lp (gK G) j (np G) 0
theorem b_2_r {M : m_T} : ∀ (m k : Nat) (b : b_T) (L : List Int32), k + m ≤ 31 → L.length + m ≤ 172 → BL b L → BL (b_2 M m k b) (L ++ lm (M.2 0) m k) := by
  intro m
  induction m with
  | zero => intro k b L _ _ h; unfold b_2 lm; rw [List.append_nil]; exact h
  | succ m ih =>
    intro k b L hk hl h
    have hg : r_get (m_len 0) (M.2 0) (nI k) = M.2 0 k := r_get_in (by show k < 31; omega) (by decide)
    unfold b_2 lm
    rw [hg]
    by_cases c : M.2 0 k = -1
    · rw [if_pos c, if_pos c, List.nil_append]
      exact ih (k + 1) b L (by omega) (by omega) h
    · rw [if_neg c, if_neg c, ← List.append_assoc]
      exact ih (k + 1) _ _ (by omega) (by rw [List.length_append]; simp only [List.length_singleton]; omega) (h.add (by omega) _)
theorem b_3_r {M : m_T} : ∀ (m k : Nat) (b : b_T) (L : List Int32), k + m ≤ 20 → L.length + m ≤ 172 → BL b L → BL (b_3 M m k b) (L ++ lf (M.2 1) m k) := by
  intro m
  induction m with
  | zero => intro k b L _ _ h; unfold b_3 lf; rw [List.append_nil]; exact h
  | succ m ih =>
    intro k b L hk hl h
    have hg : r_get (m_len 1) (M.2 1) (nI k) = M.2 1 k := r_get_in (by show k < 20; omega) (by decide)
    unfold b_3 lf
    rw [hg, List.append_cons]
    exact ih (k + 1) _ _ (by omega) (by rw [List.length_append]; simp only [List.length_singleton]; omega) (h.add (by omega) _)
theorem b_4_r {G : G_T} {j : Nat} : ∀ (m k : Nat) (b : b_T) (L : List Int32), L.length + 2 * m ≤ 172 → BL b L → BL (b_4 G j m k b) (L ++ lp (gK G) j m k) := by
  intro m
  induction m with
  | zero => intro k b L _ h; unfold b_4 lp; rw [List.append_nil]; exact h
  | succ m ih =>
    intro k b L hl h
    unfold b_4 lp
    by_cases c : (gK G k).1 = j ∧ (gK G k).2 4 = 0
    · rw [if_pos c, if_pos c, ← List.append_assoc, show L ++ [(gK G k).2 0, (gK G k).2 1] = (L ++ [(gK G k).2 0]) ++ [(gK G k).2 1] by simp]
      exact ih (k + 1) _ _ (by rw [List.length_append, List.length_append]; simp only [List.length_singleton]; omega) ((h.add (by omega) _).add (by rw [List.length_append]; simp only [List.length_singleton]; omega) _)
    · rw [if_neg c, if_neg c, List.nil_append]
      exact ih (k + 1) b L (by omega) h
theorem G_gat_r {G : G_T} {j u : Nat} (hu : u ≤ 20) (h1 : (gM G j).1 1 = nI u) (hp : np G ≤ 60) : BL (G_gat G j) (CL G j u) := by
  classical
  have hx : ix ((gM G j).1 1) = u := by rw [h1]; exact ix_nI (by omega)
  have hl1 : (lc1 G j).length ≤ 1 := by
    unfold lc1
    by_cases c : ¬ (gM G j).1 4 = 0 ∧ r_in (ne G) ((gM G j).1 2)
    · rw [if_pos c]; exact Nat.le_refl _
    · rw [if_neg c]; exact Nat.zero_le _
  have hb1 : BL (b_1 G j (0, gH G)) (lc1 G j) := by
    have h0 : BL (0, gH G) [] := ⟨rfl, fun i x z => by simp at z⟩
    unfold b_1 lc1
    by_cases c : ¬ (gM G j).1 4 = 0 ∧ r_in (ne G) ((gM G j).1 2)
    · rw [if_pos c, if_pos c]
      exact h0.add (by decide) _
    · rw [if_neg c, if_neg c]
      exact h0
  have hl2 := (lm_r ((gM G j).2 0) 31 0).1
  have hl3 := (lf_r ((gM G j).2 1) u 0).1
  unfold G_gat CL
  rw [hx]
  exact b_4_r (np G) 0 _ _ (by rw [List.length_append, List.length_append]; omega) (b_3_r u 0 _ _ (by omega) (by rw [List.length_append]; omega) (b_2_r 31 0 _ _ (by omega) (by omega) hb1))
