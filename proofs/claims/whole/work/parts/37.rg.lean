/-! ===== the group: one view of all of it. D: where things lie; w: whose each cell is; ob: the lists' arrays ===== -/
abbrev k_T : Type := Nat × (Nat → Int32)
abbrev p_T : Type := Nat × Nat × Int32 × Int32
abbrev G_T : Type := s_T × (Nat → Int32) × (Nat → m_T) × (Nat → k_T) × (Nat → p_T) × (Nat → e_T) × (Nat → Nat)
abbrev a_T : Type := (Nat → Nat → Nat) × (Nat → Nat) × (Nat → Nat) × (Nat → Nat → Nat)
abbrev mA (D : a_T) : Nat → Nat := D.1 3
abbrev pA (D : a_T) : Nat → Nat := D.2.1
abbrev qA (D : a_T) : Nat → Nat := D.2.2.1
abbrev eA (D : a_T) : Nat → Nat := fun i => D.2.2.2 i 0
abbrev gS (G : G_T) : s_T := G.1
abbrev gH (G : G_T) : Nat → Int32 := G.2.1
abbrev gM (G : G_T) : Nat → m_T := G.2.2.1
abbrev gK (G : G_T) : Nat → k_T := G.2.2.2.1
abbrev gQ (G : G_T) : Nat → p_T := G.2.2.2.2.1
abbrev gE (G : G_T) : Nat → e_T := G.2.2.2.2.2.1
abbrev gN (G : G_T) : Nat → Nat := G.2.2.2.2.2.2
abbrev np (G : G_T) : Nat := gN G 0
abbrev nq (G : G_T) : Nat := gN G 1
abbrev ne (G : G_T) : Nat := gN G 2
abbrev sS (G : G_T) (S : s_T) : G_T := (S, G.2)
abbrev sH (G : G_T) (f : Nat → Int32) : G_T := (G.1, f, G.2.2)
abbrev sM (G : G_T) (i : Nat) (M : m_T) : G_T := (G.1, G.2.1, va_up (gM G) i M, G.2.2.2)
abbrev sK (G : G_T) (i : Nat) (K : k_T) : G_T := (G.1, G.2.1, G.2.2.1, va_up (gK G) i K, G.2.2.2.2)
abbrev sQ (G : G_T) (i : Nat) (Q : p_T) : G_T := (G.1, G.2.1, G.2.2.1, G.2.2.2.1, va_up (gQ G) i Q, G.2.2.2.2.2)
abbrev sE (G : G_T) (i : Nat) (E : e_T) : G_T := (G.1, G.2.1, G.2.2.1, G.2.2.2.1, G.2.2.2.2.1, va_up (gE G) i E, G.2.2.2.2.2.2)
abbrev sN (G : G_T) (k v : Nat) : G_T := (G.1, G.2.1, G.2.2.1, G.2.2.2.1, G.2.2.2.2.1, G.2.2.2.2.2.1, va_up (gN G) k v)
abbrev k_fs (m : Nat) (K : Nat → Int32) : List Value := [.ref m, .int (K 0), .int (K 1), .int (K 2), .int (K 3), .int (K 4)]
def q_pr (h : q_H) (a : Nat) (pk : Nat → Nat) (n : Nat) (p : p_T) : Prop := (p.1 = 0 ∧ p.2.1 < n ∧ h a = some (.inl (8, [.ref (pk p.2.1)]))) ∨ (p.1 = 1 ∧ h a = some (.inl (9, [.int p.2.2.1]))) ∨ (p.1 = 2 ∧ h a = some (.inl (10, [.int p.2.2.1, .int p.2.2.2])))
abbrev q_me (h : q_H) (D : a_T) (i : Nat) (M : m_T) : Prop := q_mem h (mA D i) (fun j => D.1 (4 + j) i) (fun j => D.1 (6 + j) i) M
abbrev A_me (D : a_T) (i : Nat) : Nat → Prop := m_A (mA D i) (fun j => D.1 (4 + j) i) (fun j => D.1 (6 + j) i)
abbrev q_ee (h : q_H) (D : a_T) (i : Nat) (E : e_T) : Prop := q_ep h (eA D i) (D.2.2.2 i 1) (D.2.2.2 i 2) (D.2.2.2 i 3) (fun j => D.2.2.2 i (4 + j)) (fun j => D.2.2.2 i (8 + j)) E
abbrev A_ee (D : a_T) (i : Nat) : Nat → Prop := ep_A (eA D i) (D.2.2.2 i 1) (D.2.2.2 i 2) (D.2.2.2 i 3) (fun j => D.2.2.2 i (4 + j)) (fun j => D.2.2.2 i (8 + j))
abbrev r_fs (D : a_T) (l : Nat) : List Value := [.ref (D.1 0 0), .ref (D.1 0 1), .ref (D.1 0 2), .ref (D.1 0 3), .ref (D.1 0 4), .ref (D.1 0 5), .ref l]
def q_RG (g : q_G) (h : q_H) (r : Nat) (w : Nat → Nat) (D : a_T) (ob : Nat → Option Nat) (G : G_T) : Prop :=
  (h r = some (.inl (0, r_fs D (eA D (ne G - 1)))) ∧ w r = 6) ∧
  (q_sec h (D.1 0 0) (D.1 1) (D.1 2) (gS G) ∧ ∀ y, s_A (D.1 0 0) (D.1 1) (D.1 2) y → w y = 1) ∧
  ((h (D.1 0 5) = some (.inl (2, [.ref (D.1 0 6)])) ∧ h (D.1 0 6) = some (.inr (0, 172, .inl (gH G)))) ∧ w (D.1 0 5) = 2 ∧ w (D.1 0 6) = 2) ∧
  (q_lst g h (D.1 0 1) (ob 1) 16 (mA D) ∧ q_lst g h (D.1 0 2) (ob 2) (np G) (pA D) ∧ q_lst g h (D.1 0 3) (ob 3) (nq G) (qA D) ∧ q_lst g h (D.1 0 4) (ob 4) (ne G) (eA D)) ∧
  (∀ k, 1 ≤ k → k ≤ 4 → w (D.1 0 k) = 10 + k ∧ ∀ b, ob k = some b → w b = 10 + k) ∧
  (∀ i, i < 16 → q_me h D i (gM G i) ∧ ∀ y, A_me D i y → w y = 100 + i) ∧
  (∀ i, i < np G → h (pA D i) = some (.inl (7, k_fs (mA D (gK G i).1) (gK G i).2)) ∧ (gK G i).1 < 16 ∧ w (pA D i) = 200 + i) ∧
  (∀ i, i < nq G → q_pr h (qA D i) (pA D) (np G) (gQ G i) ∧ w (qA D i) = 5) ∧
  ((∀ i, i < ne G → q_ee h D i (gE G i) ∧ ∀ y, A_ee D i y → w y = 1000 + i) ∧ 1 ≤ ne G)
theorem q_pr.kp {h h' : q_H} {a : Nat} {pk : Nat → Nat} {n : Nat} {p : p_T} {X : Nat → Prop} (hp : q_pr h a pk n p) (hk : q_kp h h' X) (ha : ¬ X a) : q_pr h' a pk n p := by
  rcases hp with ⟨h1, h2, h3⟩ | ⟨h1, h3⟩ | ⟨h1, h3⟩
  · exact Or.inl ⟨h1, h2, hk _ _ h3 ha⟩
  · exact Or.inr (Or.inl ⟨h1, hk _ _ h3 ha⟩)
  · exact Or.inr (Or.inr ⟨h1, hk _ _ h3 ha⟩)
section
variable {g : q_G} {h h' : q_H} {r : Nat} {w : Nat → Nat} {D : a_T} {ob : Nat → Option Nat} {G : G_T}
theorem q_RG.fr (H : q_RG g h r w D ob G) : h r = some (.inl (0, r_fs D (eA D (ne G - 1)))) := H.1.1
theorem q_RG.sec (H : q_RG g h r w D ob G) : q_sec h (D.1 0 0) (D.1 1) (D.1 2) (gS G) := H.2.1.1
theorem q_RG.hr (H : q_RG g h r w D ob G) : h (D.1 0 5) = some (.inl (2, [.ref (D.1 0 6)])) := H.2.2.1.1.1
theorem q_RG.hc (H : q_RG g h r w D ob G) : h (D.1 0 6) = some (.inr (0, 172, .inl (gH G))) := H.2.2.1.1.2
theorem q_RG.lm (H : q_RG g h r w D ob G) : q_lst g h (D.1 0 1) (ob 1) 16 (mA D) := H.2.2.2.1.1
theorem q_RG.lp (H : q_RG g h r w D ob G) : q_lst g h (D.1 0 2) (ob 2) (np G) (pA D) := H.2.2.2.1.2.1
theorem q_RG.lq (H : q_RG g h r w D ob G) : q_lst g h (D.1 0 3) (ob 3) (nq G) (qA D) := H.2.2.2.1.2.2.1
theorem q_RG.le (H : q_RG g h r w D ob G) : q_lst g h (D.1 0 4) (ob 4) (ne G) (eA D) := H.2.2.2.1.2.2.2
theorem q_RG.mem (H : q_RG g h r w D ob G) {i : Nat} (hi : i < 16) : q_me h D i (gM G i) := (H.2.2.2.2.2.1 i hi).1
theorem q_RG.memT (H : q_RG g h r w D ob G) {i : Nat} (hi : i < 16) : ∀ y, A_me D i y → w y = 100 + i := (H.2.2.2.2.2.1 i hi).2
theorem q_RG.pk (H : q_RG g h r w D ob G) {i : Nat} (hi : i < np G) : h (pA D i) = some (.inl (7, k_fs (mA D (gK G i).1) (gK G i).2)) := (H.2.2.2.2.2.2.1 i hi).1
theorem q_RG.own (H : q_RG g h r w D ob G) {i : Nat} (hi : i < np G) : (gK G i).1 < 16 := (H.2.2.2.2.2.2.1 i hi).2.1
theorem q_RG.pkT (H : q_RG g h r w D ob G) {i : Nat} (hi : i < np G) : w (pA D i) = 200 + i := (H.2.2.2.2.2.2.1 i hi).2.2
theorem q_RG.pr (H : q_RG g h r w D ob G) {i : Nat} (hi : i < nq G) : q_pr h (qA D i) (pA D) (np G) (gQ G i) := (H.2.2.2.2.2.2.2.1 i hi).1
theorem q_RG.prT (H : q_RG g h r w D ob G) {i : Nat} (hi : i < nq G) : w (qA D i) = 5 := (H.2.2.2.2.2.2.2.1 i hi).2
theorem q_RG.ep (H : q_RG g h r w D ob G) {i : Nat} (hi : i < ne G) : q_ee h D i (gE G i) := (H.2.2.2.2.2.2.2.2.1 i hi).1
theorem q_RG.epT (H : q_RG g h r w D ob G) {i : Nat} (hi : i < ne G) : ∀ y, A_ee D i y → w y = 1000 + i := (H.2.2.2.2.2.2.2.2.1 i hi).2
theorem q_RG.n1 (H : q_RG g h r w D ob G) : 1 ≤ ne G := H.2.2.2.2.2.2.2.2.2
theorem q_RG.secT (H : q_RG g h r w D ob G) : ∀ y, s_A (D.1 0 0) (D.1 1) (D.1 2) y → w y = 1 := H.2.1.2
theorem q_RG.ls (H : q_RG g h r w D ob G) {k : Nat} (h1 : 1 ≤ k) (h4 : k ≤ 4) : w (D.1 0 k) = 10 + k ∧ ∀ b, ob k = some b → w b = 10 + k := H.2.2.2.2.1 k h1 h4
theorem q_RG.keep (H : q_RG g h r w D ob G) (hk : q_kp h h' (fun y => w y = 7 ∨ w y = 0)) : q_RG g h' r w D ob (G) :=
  ⟨⟨hk _ _ H.fr (fun z => by have q := H.1.2; omega), H.1.2⟩,
   ⟨H.sec.kp hk (fun y hy z => by have q := H.secT y hy; omega), H.secT⟩,
   ⟨⟨hk _ _ H.hr (fun z => by have q := H.2.2.1.2.1; omega), hk _ _ H.hc (fun z => by have q := H.2.2.1.2.2; omega)⟩, H.2.2.1.2⟩,
   ⟨H.lm.kp hk (fun z => by have q := (H.ls (k := 1) (by decide) (by decide)).1; omega) (fun b hb z => by have q := (H.ls (k := 1) (by decide) (by decide)).2 b hb; omega), H.lp.kp hk (fun z => by have q := (H.ls (k := 2) (by decide) (by decide)).1; omega) (fun b hb z => by have q := (H.ls (k := 2) (by decide) (by decide)).2 b hb; omega), H.lq.kp hk (fun z => by have q := (H.ls (k := 3) (by decide) (by decide)).1; omega) (fun b hb z => by have q := (H.ls (k := 3) (by decide) (by decide)).2 b hb; omega), H.le.kp hk (fun z => by have q := (H.ls (k := 4) (by decide) (by decide)).1; omega) (fun b hb z => by have q := (H.ls (k := 4) (by decide) (by decide)).2 b hb; omega)⟩,
   H.2.2.2.2.1,
   fun j hj => ⟨(H.mem hj).kp hk (fun y hy z => by have q := H.memT hj y hy; omega), H.memT hj⟩,
   fun j hj => ⟨hk _ _ (H.pk hj) (fun z => by have q := H.pkT hj; omega), H.own hj, H.pkT hj⟩,
   fun j hj => ⟨(H.pr hj).kp hk (fun z => by have q := H.prT hj; omega), H.prT hj⟩,
   ⟨fun j hj => ⟨(H.ep hj).kp hk (fun y hy z => by have q := H.epT hj y hy; omega), H.epT hj⟩, H.n1⟩⟩
theorem q_RG.upS (H : q_RG g h r w D ob G) {S : s_T} (hs : q_sec h' (D.1 0 0) (D.1 1) (D.1 2) S) (hk : q_kp h h' (fun y => w y = 1)) : q_RG g h' r w D ob (sS G S) :=
  ⟨⟨hk _ _ H.fr (fun z => by have q := H.1.2; omega), H.1.2⟩,
   ⟨hs, H.secT⟩,
   ⟨⟨hk _ _ H.hr (fun z => by have q := H.2.2.1.2.1; omega), hk _ _ H.hc (fun z => by have q := H.2.2.1.2.2; omega)⟩, H.2.2.1.2⟩,
   ⟨H.lm.kp hk (fun z => by have q := (H.ls (k := 1) (by decide) (by decide)).1; omega) (fun b hb z => by have q := (H.ls (k := 1) (by decide) (by decide)).2 b hb; omega), H.lp.kp hk (fun z => by have q := (H.ls (k := 2) (by decide) (by decide)).1; omega) (fun b hb z => by have q := (H.ls (k := 2) (by decide) (by decide)).2 b hb; omega), H.lq.kp hk (fun z => by have q := (H.ls (k := 3) (by decide) (by decide)).1; omega) (fun b hb z => by have q := (H.ls (k := 3) (by decide) (by decide)).2 b hb; omega), H.le.kp hk (fun z => by have q := (H.ls (k := 4) (by decide) (by decide)).1; omega) (fun b hb z => by have q := (H.ls (k := 4) (by decide) (by decide)).2 b hb; omega)⟩,
   H.2.2.2.2.1,
   fun j hj => ⟨(H.mem hj).kp hk (fun y hy z => by have q := H.memT hj y hy; omega), H.memT hj⟩,
   fun j hj => ⟨hk _ _ (H.pk hj) (fun z => by have q := H.pkT hj; omega), H.own hj, H.pkT hj⟩,
   fun j hj => ⟨(H.pr hj).kp hk (fun z => by have q := H.prT hj; omega), H.prT hj⟩,
   ⟨fun j hj => ⟨(H.ep hj).kp hk (fun y hy z => by have q := H.epT hj y hy; omega), H.epT hj⟩, H.n1⟩⟩
theorem q_RG.upH (H : q_RG g h r w D ob G) {f : Nat → Int32} (hf : h' (D.1 0 6) = some (.inr (0, 172, .inl f))) (hk : q_kp h h' (fun y => y = D.1 0 6)) : q_RG g h' r w D ob (sH G f) :=
  ⟨⟨hk _ _ H.fr (fun z => by have q := H.1.2; have q2 := H.2.2.1.2.2; rw [z] at q; omega), H.1.2⟩,
   ⟨H.sec.kp hk (fun y hy z => by have q := H.secT y hy; have q2 := H.2.2.1.2.2; rw [z] at q; omega), H.secT⟩,
   ⟨⟨hk _ _ H.hr (q_oa H.hr H.hc), hf⟩, H.2.2.1.2⟩,
   ⟨H.lm.kp hk (fun z => by have q := (H.ls (k := 1) (by decide) (by decide)).1; have q2 := H.2.2.1.2.2; rw [z] at q; omega) (fun b hb z => by have q := (H.ls (k := 1) (by decide) (by decide)).2 b hb; have q2 := H.2.2.1.2.2; rw [z] at q; omega), H.lp.kp hk (fun z => by have q := (H.ls (k := 2) (by decide) (by decide)).1; have q2 := H.2.2.1.2.2; rw [z] at q; omega) (fun b hb z => by have q := (H.ls (k := 2) (by decide) (by decide)).2 b hb; have q2 := H.2.2.1.2.2; rw [z] at q; omega), H.lq.kp hk (fun z => by have q := (H.ls (k := 3) (by decide) (by decide)).1; have q2 := H.2.2.1.2.2; rw [z] at q; omega) (fun b hb z => by have q := (H.ls (k := 3) (by decide) (by decide)).2 b hb; have q2 := H.2.2.1.2.2; rw [z] at q; omega), H.le.kp hk (fun z => by have q := (H.ls (k := 4) (by decide) (by decide)).1; have q2 := H.2.2.1.2.2; rw [z] at q; omega) (fun b hb z => by have q := (H.ls (k := 4) (by decide) (by decide)).2 b hb; have q2 := H.2.2.1.2.2; rw [z] at q; omega)⟩,
   H.2.2.2.2.1,
   fun j hj => ⟨(H.mem hj).kp hk (fun y hy z => by have q := H.memT hj y hy; have q2 := H.2.2.1.2.2; rw [z] at q; omega), H.memT hj⟩,
   fun j hj => ⟨hk _ _ (H.pk hj) (fun z => by have q := H.pkT hj; have q2 := H.2.2.1.2.2; rw [z] at q; omega), H.own hj, H.pkT hj⟩,
   fun j hj => ⟨(H.pr hj).kp hk (fun z => by have q := H.prT hj; have q2 := H.2.2.1.2.2; rw [z] at q; omega), H.prT hj⟩,
   ⟨fun j hj => ⟨(H.ep hj).kp hk (fun y hy z => by have q := H.epT hj y hy; have q2 := H.2.2.1.2.2; rw [z] at q; omega), H.epT hj⟩, H.n1⟩⟩
theorem q_RG.upM (H : q_RG g h r w D ob G) {i : Nat} (hi : i < 16) {M : m_T} (hm : q_me h' D i M) (hk : q_kp h h' (fun y => w y = 100 + i)) : q_RG g h' r w D ob (sM G i M) :=
  ⟨⟨hk _ _ H.fr (fun z => by have q := H.1.2; omega), H.1.2⟩,
   ⟨H.sec.kp hk (fun y hy z => by have q := H.secT y hy; omega), H.secT⟩,
   ⟨⟨hk _ _ H.hr (fun z => by have q := H.2.2.1.2.1; omega), hk _ _ H.hc (fun z => by have q := H.2.2.1.2.2; omega)⟩, H.2.2.1.2⟩,
   ⟨H.lm.kp hk (fun z => by have q := (H.ls (k := 1) (by decide) (by decide)).1; omega) (fun b hb z => by have q := (H.ls (k := 1) (by decide) (by decide)).2 b hb; omega), H.lp.kp hk (fun z => by have q := (H.ls (k := 2) (by decide) (by decide)).1; omega) (fun b hb z => by have q := (H.ls (k := 2) (by decide) (by decide)).2 b hb; omega), H.lq.kp hk (fun z => by have q := (H.ls (k := 3) (by decide) (by decide)).1; omega) (fun b hb z => by have q := (H.ls (k := 3) (by decide) (by decide)).2 b hb; omega), H.le.kp hk (fun z => by have q := (H.ls (k := 4) (by decide) (by decide)).1; omega) (fun b hb z => by have q := (H.ls (k := 4) (by decide) (by decide)).2 b hb; omega)⟩,
   H.2.2.2.2.1,
   fun j hj => by
    by_cases e : j = i
    · subst e
      exact ⟨by rw [show gM (sM G j M) j = M from if_pos rfl]; exact hm, H.memT hj⟩
    · exact ⟨by rw [show gM (sM G i M) j = gM G j from if_neg e]; exact (H.mem hj).kp hk (fun y hy z => by have q := H.memT hj y hy; omega), H.memT hj⟩,
   fun j hj => ⟨hk _ _ (H.pk hj) (fun z => by have q := H.pkT hj; omega), H.own hj, H.pkT hj⟩,
   fun j hj => ⟨(H.pr hj).kp hk (fun z => by have q := H.prT hj; omega), H.prT hj⟩,
   ⟨fun j hj => ⟨(H.ep hj).kp hk (fun y hy z => by have q := H.epT hj y hy; omega), H.epT hj⟩, H.n1⟩⟩
theorem q_RG.upK (H : q_RG g h r w D ob G) {i : Nat} (hi : i < np G) (hn : np G ≤ 60) {K : Nat → Int32} (hm : h' (pA D i) = some (.inl (7, k_fs (mA D (gK G i).1) K))) (hk : q_kp h h' (fun y => w y = 200 + i)) : q_RG g h' r w D ob (sK G i ((gK G i).1, K)) :=
  ⟨⟨hk _ _ H.fr (fun z => by have q := H.1.2; omega), H.1.2⟩,
   ⟨H.sec.kp hk (fun y hy z => by have q := H.secT y hy; omega), H.secT⟩,
   ⟨⟨hk _ _ H.hr (fun z => by have q := H.2.2.1.2.1; omega), hk _ _ H.hc (fun z => by have q := H.2.2.1.2.2; omega)⟩, H.2.2.1.2⟩,
   ⟨H.lm.kp hk (fun z => by have q := (H.ls (k := 1) (by decide) (by decide)).1; omega) (fun b hb z => by have q := (H.ls (k := 1) (by decide) (by decide)).2 b hb; omega), H.lp.kp hk (fun z => by have q := (H.ls (k := 2) (by decide) (by decide)).1; omega) (fun b hb z => by have q := (H.ls (k := 2) (by decide) (by decide)).2 b hb; omega), H.lq.kp hk (fun z => by have q := (H.ls (k := 3) (by decide) (by decide)).1; omega) (fun b hb z => by have q := (H.ls (k := 3) (by decide) (by decide)).2 b hb; omega), H.le.kp hk (fun z => by have q := (H.ls (k := 4) (by decide) (by decide)).1; omega) (fun b hb z => by have q := (H.ls (k := 4) (by decide) (by decide)).2 b hb; omega)⟩,
   H.2.2.2.2.1,
   fun j hj => ⟨(H.mem hj).kp hk (fun y hy z => by have q := H.memT hj y hy; omega), H.memT hj⟩,
   fun j hj => by
    by_cases e : j = i
    · subst e
      rw [show gK (sK G j ((gK G j).1, K)) j = ((gK G j).1, K) from if_pos rfl]
      exact ⟨hm, H.own hj, H.pkT hj⟩
    · rw [show gK (sK G i ((gK G i).1, K)) j = gK G j from if_neg e]
      exact ⟨hk _ _ (H.pk hj) (fun z => by have q := H.pkT hj; omega), H.own hj, H.pkT hj⟩,
   fun j hj => ⟨(H.pr hj).kp hk (fun z => by have q := H.prT hj; omega), H.prT hj⟩,
   ⟨fun j hj => ⟨(H.ep hj).kp hk (fun y hy z => by have q := H.epT hj y hy; omega), H.epT hj⟩, H.n1⟩⟩
end
theorem m_P_A {m : Nat} {ma mb : Nat → Nat} {y : Nat} (h : m_P m mb y) : m_A m ma mb y := by
  rcases h with h | ⟨i, hi, h⟩
  · exact Or.inl h
  · exact Or.inr ⟨i, hi, Or.inr h⟩
theorem s_P_A {s : Nat} {sa sb : Nat → Nat} {y : Nat} (h : s_P s sb y) : s_A s sa sb y := by
  rcases h with h | ⟨i, hi, h⟩
  · exact Or.inl h
  · exact Or.inr ⟨i, hi, Or.inr h⟩
theorem tr_P_A {s : Nat} {sa sb : Nat → Nat} {y : Nat} (h : tr_P s sb y) : tr_A s sa sb y := by
  rcases h with h | ⟨i, hi, h⟩
  · exact Or.inl h
  · exact Or.inr ⟨i, hi, Or.inr h⟩
theorem ep_P_A {e t pr pb : Nat} {ra rb : Nat → Nat} {y : Nat} (h : ep_P e t pb rb y) : ep_A e t pr pb ra rb y := by
  rcases h with h | h | h | ⟨i, hi, h⟩
  · exact Or.inl h
  · exact Or.inr (Or.inr (Or.inr (Or.inl h)))
  · exact Or.inr (Or.inl h)
  · exact Or.inr (Or.inr (Or.inr (Or.inr ⟨i, hi, Or.inr h⟩)))
/-- what the numbers of a group keep to -/
def G_w (G : G_T) : Prop := np G ≤ 60 ∧ nq G ≤ 20 ∧ ne G ≤ 60 ∧ ∀ i, i < ne G → (gE G i).2.1.2 ≤ 4
