/-! ===== the group's constructor ===== -/
abbrev c_T : Type := Nat × (Nat → Prop) × (q_H → Prop)
def q_cO (h : q_H) (w : Nat → Nat) (c : c_T) : Prop := c.2.2 h ∧ (∀ y, c.2.1 y → w y = c.1 ∧ ∃ o, h y = some o) ∧ ∀ h1 h2 : q_H, (∀ y, c.2.1 y → h2 y = h1 y) → c.2.2 h1 → c.2.2 h2
def q_SP (h : q_H) (w : Nat → Nat) (C : c_T → Prop) : Prop := ∀ c, C c → q_cO h w c ∧ c.1 ≠ 6
def q_IR (h : q_H) (r : Nat) (w : Nat → Nat) (fl : List Value) : Prop := h r = some (.inl (0, fl)) ∧ w r = 6
theorem q_SP.kp {h h' : q_H} {w : Nat → Nat} {C : c_T → Prop} {X : Nat → Prop} (H : q_SP h w C) (hk : q_kp h h' X) (hX : ∀ y, X y → ∀ c, C c → w y ≠ c.1) : q_SP h' w C := fun c hc => by
  obtain ⟨⟨h1, h2, h3⟩, h4⟩ := H c hc
  have hh : ∀ y, c.2.1 y → h' y = h y := fun y hy => by
    obtain ⟨e, ob, ho⟩ := h2 y hy
    rw [hk y ob ho (fun z => hX y z c hc e), ho]
  exact ⟨⟨h3 h h' hh h1, fun y hy => ⟨(h2 y hy).1, by rw [hh y hy]; exact (h2 y hy).2⟩, h3⟩, h4⟩
theorem q_SP.rt {h : q_H} {w w' : Nat → Nat} {C : c_T → Prop} (H : q_SP h w C) (hw : ∀ y o, h y = some o → w' y = w y) : q_SP h w' C := fun c hc => by
  obtain ⟨⟨h1, h2, h3⟩, h4⟩ := H c hc
  exact ⟨⟨h1, fun y hy => by
    obtain ⟨e, ob, ho⟩ := h2 y hy
    exact ⟨(hw y ob ho).trans e, ob, ho⟩, h3⟩, h4⟩
theorem q_SP.new {h h1 h2 : q_H} {w : Nat → Nat} {C : c_T → Prop} {r a : Nat} {fl : List Value} {o : q_O} (H : q_SP h w C) (hr : q_IR h r w fl) (ha : h a = none) (e1 : h1 = q_up h a o) (hk : q_kp h1 h2 (fun y => y = a)) (t : Nat) (A : Nat → Prop) (I : q_H → Prop) (hI : I h2) (hA : ∀ y, A y → y = a ∨ h1 y = none) (hs : ∀ y, A y → ∃ o, h2 y = some o) (hl : ∀ h1 h2 : q_H, (∀ y, A y → h2 y = h1 y) → I h1 → I h2) (ht : t ≠ 6) :
    ∃ w', q_SP h2 w' (fun c => C c ∨ c = (t, A, I)) ∧ q_IR h2 r w' fl ∧ ∀ y o, h y = some o → w' y = w y := by
  have hcl : ∀ y, Decidable (h y = none) := fun y => Classical.propDecidable _
  have hk2 : q_kp h h2 (fun _ => False) := fun y oo hy _ => by
    have hne : y ≠ a := q_on hy ha
    exact hk y oo (by rw [e1, q_up_n hne]; exact hy) hne
  have hw : ∀ y o, h y = some o → (fun y => if h y = none then t else w y) y = w y := fun y o hy => if_neg (fun z => by rw [hy] at z; cases z)
  have hn : ∀ y, h y = none → (fun y => if h y = none then t else w y) y = t := fun y hy => if_pos hy
  refine ⟨fun y => if h y = none then t else w y, ?_, ⟨hk2 _ _ hr.1 (fun z => z), (hw r _ hr.1).trans hr.2⟩, hw⟩
  have H2 := (H.rt (w' := fun y => if h y = none then t else w y) hw).kp hk2 (fun y z => z.elim)
  intro c hc
  rcases hc with hc | hc
  · exact H2 c hc
  · subst hc
    refine ⟨⟨hI, fun y hy => ⟨hn y ?_, hs y hy⟩, hl⟩, ht⟩
    rcases hA y hy with z | z
    · rw [z]
      exact ha
    · rcases Nat.lt_or_ge y a with q | q
      · rw [e1, q_up_n (by omega)] at z
        exact z
      · rcases Nat.lt_or_ge a y with q2 | q2
        · rw [e1, q_up_n (by omega)] at z
          exact z
        · rw [show y = a by omega]
          exact ha
theorem q_SP.put {h h' : q_H} {w : Nat → Nat} {C : c_T → Prop} {r : Nat} {fl fl' : List Value} (H : q_SP h w C) (hr : q_IR h r w fl) (e : h' = q_up h r (.inl (0, fl'))) : q_SP h' w C ∧ q_IR h' r w fl' :=
  ⟨H.kp (q_kp.up (q_kp.rf (X := fun y => y = r)) rfl e) (fun y hy c hc z => (H c hc).2 (by rw [← z, hy]; exact hr.2)), by rw [e, q_up_s], hr.2⟩
/-- a list with its elements replaced by the same with one more -/
theorem q_SP.lst {g : q_G} {h h' : q_H} {w : Nat → Nat} {C : c_T → Prop} {r a : Nat} {fl : List Value} {ob ob' : Option Nat} {n n' : Nat} {el el' : Nat → Nat} (H : q_SP h w C) (hr : q_IR h r w fl) (hc : C (11, (fun y => y = a ∨ ob = some y), fun h => q_lst g h a ob n el)) (hl : q_lst g h' a ob' n' el') (hk0 : ∀ y o, h y = some o → y ≠ a → (∀ b, ob = some b → y ≠ b) → h' y = some o) (hob : ob' = ob ∨ ∃ c, ob' = some c ∧ h c = none ∧ q_bs g ≤ c) :
    ∃ w', q_SP h' w' (fun c => (C c ∧ c.1 ≠ 11) ∨ c = (11, (fun y => y = a ∨ ob' = some y), fun h => q_lst g h a ob' n' el')) ∧ q_IR h' r w' fl := by
  have hcl : ∀ y, Decidable (h y = none) := fun y => Classical.propDecidable _
  have hw : ∀ y o, h y = some o → (fun y => if h y = none then 11 else w y) y = w y := fun y o hy => if_neg (fun z => by rw [hy] at z; cases z)
  have hn : ∀ y, h y = none → (fun y => if h y = none then 11 else w y) y = 11 := fun y hy => if_pos hy
  have H1 := H.rt hw
  have hc2 := (H1 _ hc).1.2.1
  have hk : q_kp h h' (fun y => (fun y => if h y = none then 11 else w y) y = 11) := fun y o hy hne => hk0 y o hy (fun z => hne (hc2 y (Or.inl z)).1) (fun b hb z => hne (hc2 y (Or.inr (by rw [hb, z]))).1)
  have hr1 := (hw r _ hr.1).trans hr.2
  generalize (fun y => if h y = none then 11 else w y) = w1 at hw hn H1 hc2 hk hr1
  refine ⟨w1, fun c hcc => ?_, hk _ _ hr.1 (fun z => by have z2 : w1 r = 11 := z; omega), hr1⟩
  rcases hcc with ⟨hcc, h11⟩ | hcc
  · exact (q_SP.kp (C := fun c => C c ∧ c.1 ≠ 11) (fun c z => H1 c z.1) hk (fun y hy c z e => z.2 (e.symm.trans hy))) c ⟨hcc, h11⟩
  · subst hcc
    refine ⟨⟨hl, fun y hy => ?_, fun h1 h2 hh hq => ?_⟩, show (11 : Nat) ≠ 6 by decide⟩
    · rcases hy with hy | hy
      · refine ⟨(hc2 y (Or.inl hy)).1, ?_⟩
        obtain ⟨e, mv, hz⟩ := hl.size
        rw [hy]
        exact ⟨_, hz⟩
      · refine ⟨?_, hl.somb hy⟩
        rcases hob with z | ⟨c, z, hcn, -⟩
        · exact (hc2 y (Or.inr (z.symm.trans hy))).1
        · rw [← Option.some.inj (z.symm.trans hy)]
          exact hn c hcn
    · have hkk : q_kp h1 h2 (fun y => ¬ (y = a ∨ ob' = some y)) := fun y o hy hne => by
        rw [hh y (Classical.not_not.mp hne)]
        exact hy
      exact hq.kp hkk (fun z => z (Or.inl rfl)) (fun b hb z => z (Or.inr hb))
theorem q_lst.el0 {g : q_G} {h : q_H} {a : Nat} {ob : Option Nat} {el : Nat → Nat} (hl : q_lst g h a ob 0 el) (el' : Nat → Nat) : q_lst g h a ob 0 el' := by
  cases ob with
  | none => exact hl
  | some b =>
    obtain ⟨n, f, mv, h1, h2, h3, h4, h5, -⟩ := hl
    exact ⟨n, f, mv, h1, h2, h3, h4, h5, fun i hi => absurd hi (Nat.not_lt_zero _)⟩
/-- all but the epochs -/
def q_R0 (g : q_G) (h : q_H) (r : Nat) (w : Nat → Nat) (D : a_T) (ob : Nat → Option Nat) (S : s_T) (l : Value) : Prop :=
  (h r = some (.inl (0, [.ref (D.1 0 0), .ref (D.1 0 1), .ref (D.1 0 2), .ref (D.1 0 3), .ref (D.1 0 4), .ref (D.1 0 5), l])) ∧ w r = 6) ∧
  (q_sec h (D.1 0 0) (D.1 1) (D.1 2) S ∧ ∀ y, s_A (D.1 0 0) (D.1 1) (D.1 2) y → w y = 1) ∧
  ((h (D.1 0 5) = some (.inl (2, [.ref (D.1 0 6)])) ∧ h (D.1 0 6) = some (.inr (0, 172, .inl (r_fill 172 (fun _ => 0) (-1))))) ∧ w (D.1 0 5) = 2 ∧ w (D.1 0 6) = 2) ∧
  (q_lst g h (D.1 0 1) (ob 1) 16 (mA D) ∧ q_lst g h (D.1 0 2) (ob 2) 0 (pA D) ∧ q_lst g h (D.1 0 3) (ob 3) 0 (qA D) ∧ q_lst g h (D.1 0 4) (ob 4) 0 (eA D)) ∧
  (∀ k, 1 ≤ k → k ≤ 4 → w (D.1 0 k) = 10 + k ∧ ∀ b, ob k = some b → w b = 10 + k) ∧
  (∀ i, i < 16 → q_me h D i (M_new (nI i)) ∧ ∀ y, A_me D i y → w y = 100 + i)
def G_new0 (S : s_T) : G_T := (S, r_fill 172 (fun _ => 0) (-1), (fun i => M_new (nI i)), (fun _ => (0, fun _ => 0)), (fun _ => (0, 0, 0, 0)), (fun _ => E_new 0 0), fun _ => 0)
section
variable {g : q_G} {h h' : q_H} {r : Nat} {w : Nat → Nat} {D : a_T} {ob : Nat → Option Nat} {S : s_T} {l : Value}
theorem q_R0.fr (H : q_R0 g h r w D ob S l) : h r = some (.inl (0, [.ref (D.1 0 0), .ref (D.1 0 1), .ref (D.1 0 2), .ref (D.1 0 3), .ref (D.1 0 4), .ref (D.1 0 5), l])) := H.1.1
theorem q_R0.sec (H : q_R0 g h r w D ob S l) : q_sec h (D.1 0 0) (D.1 1) (D.1 2) S := H.2.1.1
theorem q_R0.secT (H : q_R0 g h r w D ob S l) : ∀ y, s_A (D.1 0 0) (D.1 1) (D.1 2) y → w y = 1 := H.2.1.2
theorem q_R0.le (H : q_R0 g h r w D ob S l) : q_lst g h (D.1 0 4) (ob 4) 0 (eA D) := H.2.2.2.1.2.2.2
theorem q_R0.ls (H : q_R0 g h r w D ob S l) {k : Nat} (h1 : 1 ≤ k) (h4 : k ≤ 4) : w (D.1 0 k) = 10 + k ∧ ∀ b, ob k = some b → w b = 10 + k := H.2.2.2.2.1 k h1 h4
theorem q_R0.mem (H : q_R0 g h r w D ob S l) {i : Nat} (hi : i < 16) : q_me h D i (M_new (nI i)) := (H.2.2.2.2.2 i hi).1
theorem q_R0.memT (H : q_R0 g h r w D ob S l) {i : Nat} (hi : i < 16) : ∀ y, A_me D i y → w y = 100 + i := (H.2.2.2.2.2 i hi).2
/-- what changes has tag 7, 6 (the root) or 1 (the secrets), and these are given anew -/
theorem q_R0.mv (H : q_R0 g h r w D ob S l) {l' : Value} {S' : s_T} {X : Nat → Prop} (hk : q_kp h h' X) (hX : ∀ y, X y → w y = 7 ∨ w y = 6 ∨ w y = 1) (hr : h' r = some (.inl (0, [.ref (D.1 0 0), .ref (D.1 0 1), .ref (D.1 0 2), .ref (D.1 0 3), .ref (D.1 0 4), .ref (D.1 0 5), l']))) (hs : q_sec h' (D.1 0 0) (D.1 1) (D.1 2) S') : q_R0 g h' r w D ob S' l' := by
  have L : ∀ {k : Nat} {n : Nat} {el : Nat → Nat}, 1 ≤ k → k ≤ 4 → q_lst g h (D.1 0 k) (ob k) n el → q_lst g h' (D.1 0 k) (ob k) n el := fun {k n el} h1 h4 hl => hl.kp hk (fun z => by have q := (H.ls h1 h4).1; have q2 := hX _ z; omega) (fun b hb z => by have q := (H.ls h1 h4).2 b hb; have q2 := hX _ z; omega)
  obtain ⟨hm1, hm2⟩ := H.2.2.1
  exact ⟨⟨hr, H.1.2⟩, ⟨hs, H.secT⟩, ⟨⟨hk _ _ hm1.1 (fun z => by have q2 := hX _ z; omega), hk _ _ hm1.2 (fun z => by have q2 := hX _ z; omega)⟩, hm2⟩, ⟨L (by decide) (by decide) H.2.2.2.1.1, L (by decide) (by decide) H.2.2.2.1.2.1, L (by decide) (by decide) H.2.2.2.1.2.2.1, L (by decide) (by decide) H.2.2.2.1.2.2.2⟩, H.2.2.2.2.1, fun i hi => ⟨(H.mem hi).kp hk (fun y hy z => by have q := H.memT hi y hy; have q2 := hX _ z; omega), H.memT hi⟩⟩
theorem q_R0.retag (H : q_R0 g h r w D ob S l) {w' : Nat → Nat} (hw : ∀ y o, h y = some o → w' y = w y) : q_R0 g h r w' D ob S l := by
  have T : ∀ {y n : Nat}, w y = n → (∃ o, h y = some o) → w' y = n := fun {y n} a c => by
    obtain ⟨o, c⟩ := c
    rw [hw y o c]
    exact a
  have L : ∀ {k : Nat} {n : Nat} {el : Nat → Nat}, 1 ≤ k → k ≤ 4 → q_lst g h (D.1 0 k) (ob k) n el → w' (D.1 0 k) = 10 + k ∧ ∀ b, ob k = some b → w' b = 10 + k := fun {k n el} h1 h4 hl => ⟨by
    obtain ⟨e, mv, hz⟩ := hl.size
    exact T (H.ls h1 h4).1 ⟨_, hz⟩, fun b hb => T ((H.ls h1 h4).2 b hb) (hl.somb hb)⟩
  refine ⟨⟨H.fr, T H.1.2 ⟨_, H.fr⟩⟩, ⟨H.sec, fun y hy => T (H.secT y hy) (H.sec.som hy)⟩, ⟨H.2.2.1.1, T H.2.2.1.2.1 ⟨_, H.2.2.1.1.1⟩, T H.2.2.1.2.2 ⟨_, H.2.2.1.1.2⟩⟩, H.2.2.2.1, fun k h1 h4 => ?_, fun i hi => ⟨H.mem hi, fun y hy => T (H.memT hi y hy) ((H.mem hi).som hy)⟩⟩
  rcases (show k = 1 ∨ k = 2 ∨ k = 3 ∨ k = 4 by omega) with rfl | rfl | rfl | rfl
  · exact L h1 h4 H.2.2.2.1.1
  · exact L h1 h4 H.2.2.2.1.2.1
  · exact L h1 h4 H.2.2.2.1.2.2.1
  · exact L h1 h4 H.2.2.2.1.2.2.2
end
