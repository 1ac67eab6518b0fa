/-! ===== the group's constructor, 2 ===== -/
theorem q_lst.elc {g : q_G} {h : q_H} {a : Nat} {ob : Option Nat} {n : Nat} {el el' : Nat → Nat} (hl : q_lst g h a ob n el) (he : ∀ i, i < n → el i = el' i) : q_lst g h a ob n el' := by
  cases ob with
  | none => exact hl
  | some b =>
    obtain ⟨m, f, mv, h1, h2, h3, h4, h5, h6⟩ := hl
    exact ⟨m, f, mv, h1, h2, h3, h4, h5, fun i hi => by rw [h6 i hi, he i hi]⟩
theorem q_mem.cg {h : q_H} {m : Nat} {ra rb ra' rb' : Nat → Nat} {M : m_T} (hm : q_mem h m ra rb M) (e0 : ra 0 = ra' 0) (e1 : ra 1 = ra' 1) (f0 : rb 0 = rb' 0) (f1 : rb 1 = rb' 1) : q_mem h m ra' rb' M := by
  obtain ⟨h1, h2, h3⟩ := hm
  have ea : ∀ i, i < 2 → ra i = ra' i := fun i hi => by
    rcases (show i = 0 ∨ i = 1 by omega) with rfl | rfl
    · exact e0
    · exact e1
  have fa : ∀ i, i < 2 → rb i = rb' i := fun i hi => by
    rcases (show i = 0 ∨ i = 1 by omega) with rfl | rfl
    · exact f0
    · exact f1
  refine ⟨?_, fun i hi => ?_, fun i j hi hj e => ?_⟩
  · rw [h1]
    unfold m_fs
    rw [e0, e1]
  · rw [← ea i hi, ← fa i hi]
    exact h2 i hi
  · rw [← fa i hi, ← fa j hj] at e
    exact h3 i j hi hj e
theorem m_A.cg {m : Nat} {ra rb ra' rb' : Nat → Nat} {y : Nat} (hy : m_A m ra' rb' y) (e0 : ra 0 = ra' 0) (e1 : ra 1 = ra' 1) (f0 : rb 0 = rb' 0) (f1 : rb 1 = rb' 1) : m_A m ra rb y := by
  rcases hy with z | ⟨i, hi, z⟩
  · exact Or.inl z
  · rcases (show i = 0 ∨ i = 1 by omega) with rfl | rfl
    · rw [← e0, ← f0] at z
      exact Or.inr ⟨0, by decide, z⟩
    · rw [← e1, ← f1] at z
      exact Or.inr ⟨1, by decide, z⟩
theorem q_SP.mk {g : q_G} {h : q_H} {w : Nat → Nat} {C : c_T → Prop} {r s a1 a2 a3 a4 hd hc : Nat} {sa sb el el0 : Nat → Nat} {ob1 : Option Nat} (H : q_SP h w C) (R : q_IR h r w [.ref s, .ref a1, .ref a2, .ref a3, .ref a4, .ref hd, .null])
    (c1 : C (1, s_A s sa sb, fun h => q_sec h s sa sb S_new)) (c2 : C (2, (fun y => y = hd ∨ y = hc), fun h => h hd = some (.inl (2, [.ref hc])) ∧ h hc = some (.inr (0, 172, .inl (r_fill 172 (fun _ => 0) (-1))))))
    (l1 : C (11, (fun y => y = a1 ∨ ob1 = some y), fun h => q_lst g h a1 ob1 16 el)) (l2 : C (12, (fun y => y = a2), fun h => q_lst g h a2 none 0 el0)) (l3 : C (13, (fun y => y = a3), fun h => q_lst g h a3 none 0 el0)) (l4 : C (14, (fun y => y = a4), fun h => q_lst g h a4 none 0 el0))
    (ms : ∀ i, i < 16 → ∃ ra rb, C (100 + i, m_A (el i) ra rb, fun h => q_mem h (el i) ra rb (M_new (nI i)))) : ∃ D ob, q_R0 g h r w D ob S_new .null ∧ mA D = el := by
  have hch : ∃ f : Nat → (Nat → Nat) × (Nat → Nat), ∀ i, i < 16 → C (100 + i, m_A (el i) (f i).1 (f i).2, fun h => q_mem h (el i) (f i).1 (f i).2 (M_new (nI i))) := by
    have hx : ∀ i : Nat, ∃ f : (Nat → Nat) × (Nat → Nat), i < 16 → C (100 + i, m_A (el i) f.1 f.2, fun h => q_mem h (el i) f.1 f.2 (M_new (nI i))) := fun i => by
      by_cases hi : i < 16
      · obtain ⟨ra, rb, q⟩ := ms i hi
        exact ⟨(ra, rb), fun _ => q⟩
      · exact ⟨(fun _ => 0, fun _ => 0), fun z => absurd z hi⟩
    exact ⟨fun i => Classical.choose (hx i), fun i hi => Classical.choose_spec (hx i) hi⟩
  obtain ⟨f, hf⟩ := hch
  have q1 := (H _ c1).1
  have q2 := (H _ c2).1
  have q11 := (H _ l1).1
  have q12 := (H _ l2).1
  have q13 := (H _ l3).1
  have q14 := (H _ l4).1
  refine ⟨(fun k i => match k with
    | 0 => (match i with
      | 0 => s
      | 1 => a1
      | 2 => a2
      | 3 => a3
      | 4 => a4
      | 5 => hd
      | _ => hc)
    | 1 => sa i
    | 2 => sb i
    | 3 => el i
    | 4 => (f i).1 0
    | 5 => (f i).1 1
    | 6 => (f i).2 0
    | _ => (f i).2 1, fun _ => 0, fun _ => 0, fun _ _ => 0), (fun k => if k = 1 then ob1 else none), ?_, rfl⟩
  refine ⟨R, ⟨q1.1, fun y hy => (q1.2.1 y hy).1⟩, ⟨q2.1, (q2.2.1 hd (Or.inl rfl)).1, (q2.2.1 hc (Or.inr rfl)).1⟩, ⟨q11.1, q12.1, q13.1, q14.1⟩, fun k h1 h4 => ?_, fun i hi => ?_⟩
  · rcases (show k = 1 ∨ k = 2 ∨ k = 3 ∨ k = 4 by omega) with rfl | rfl | rfl | rfl
    · exact ⟨(q11.2.1 a1 (Or.inl rfl)).1, fun b hb => (q11.2.1 b (Or.inr hb)).1⟩
    · exact ⟨(q12.2.1 a2 rfl).1, fun b hb => by cases hb⟩
    · exact ⟨(q13.2.1 a3 rfl).1, fun b hb => by cases hb⟩
    · exact ⟨(q14.2.1 a4 rfl).1, fun b hb => by cases hb⟩
  · have q := (H _ (hf i hi)).1
    exact ⟨q_mem.cg q.1 rfl rfl rfl rfl, fun y hy => (q.2.1 y (m_A.cg hy rfl rfl rfl rfl)).1⟩
def q_R1 (g : q_G) (h : q_H) (r : Nat) (w : Nat → Nat) (D : a_T) (ob : Nat → Option Nat) (S : s_T) (l : Value) (x : Nat → Nat) (E : e_T) : Prop := q_R0 g h r w D ob S l ∧ q_ex h x E ∧ (∀ y, A_ex x y → w y = 7) ∧ E.2.1.2 ≤ 4
section
variable {g : q_G} {h h' : q_H} {r : Nat} {w : Nat → Nat} {D : a_T} {ob : Nat → Option Nat} {S : s_T} {l : Value} {x : Nat → Nat} {E : e_T}
theorem q_R0.mkE {h1 : q_H} {e t pr pb : Nat} {ra rb : Nat → Nat} {o : q_O} (H : q_R0 g h r w D ob S l) (he : h e = none) (e1 : h1 = q_up h e o) (hx : q_ep h' e t pr pb ra rb E) (hk : q_kp h1 h' (fun y => y = e)) (hA : ∀ y, ep_A e t pr pb ra rb y → y = e ∨ h1 y = none) (hT : E.2.1.2 ≤ 4) : ∃ w' x, x 0 = e ∧ q_R1 g h' r w' D ob S l x E := by
  have hcl : ∀ y, Decidable (h y = none) := fun y => Classical.propDecidable _
  obtain ⟨x, x0, hx2, hA2⟩ := ex_of hx
  have hw : ∀ y o, h y = some o → (fun y => if h y = none then 7 else w y) y = w y := fun y o hy => if_neg (fun z => by rw [hy] at z; cases z)
  have hn : ∀ y, h y = none → (fun y => if h y = none then 7 else w y) y = 7 := fun y hy => if_pos hy
  have hk2 : q_kp h h' (fun _ => False) := fun y oo hy _ => by
    have hne : y ≠ e := q_on hy he
    exact hk y oo (by rw [e1, q_up_n hne]; exact hy) hne
  refine ⟨fun y => if h y = none then 7 else w y, x, x0, (H.retag hw).mv hk2 (fun y z => z.elim) (hk2 _ _ H.fr (fun z => z)) (H.sec.kp hk2 (fun _ _ z => z)), hx2, fun y hy => hn y ?_, hT⟩
  rcases hA y (hA2 y hy) with z | z
  · rw [z]
    exact he
  · by_cases q : y = e
    · rw [q]
      exact he
    · rw [e1, q_up_n q] at z
      exact z
theorem q_R1.put (H : q_R1 g h r w D ob S l x E) {l' : Value} (e : h' = q_up h r (.inl (0, [.ref (D.1 0 0), .ref (D.1 0 1), .ref (D.1 0 2), .ref (D.1 0 3), .ref (D.1 0 4), .ref (D.1 0 5), l']))) : q_R1 g h' r w D ob S l' x E := by
  have hk := q_kp.up (q_kp.rf (X := fun y => y = r)) rfl e
  have h6 : w r = 6 := H.1.1.2
  exact ⟨H.1.mv hk (fun y hy => Or.inr (Or.inl (by rw [hy]; exact h6))) (by rw [e, q_up_s]) (H.1.sec.kp hk (fun y hy z => by have q := H.1.secT y hy; rw [z] at q; omega)), H.2.1.kp hk (fun y hy z => by have q := H.2.2.1 y hy; rw [z] at q; omega), H.2.2⟩
theorem q_R1.tS (H : q_R1 g h r w D ob S l x E) {S' : s_T} (hs : q_sec h' (D.1 0 0) (D.1 1) (D.1 2) S') (ho : q_off h h' (s_P (D.1 0 0) (D.1 2))) : q_R1 g h' r w D ob S' l x E :=
  ⟨H.1.mv ho.kp (fun y hy => Or.inr (Or.inr (H.1.secT y (s_P_A hy)))) (ho.kp _ _ H.1.fr (fun z => by have q := H.1.secT _ (s_P_A z); have q2 : w r = 6 := H.1.1.2; omega)) hs, H.2.1.kp ho.kp (fun y hy z => by have q := H.2.2.1 y hy; have q2 := H.1.secT y (s_P_A z); omega), H.2.2⟩
theorem q_R1.k7 (H : q_R1 g h r w D ob S l x E) {X : Nat → Prop} (hk : q_kp h h' X) (hX : ∀ y, X y → w y = 7) : q_R0 g h' r w D ob S l :=
  H.1.mv hk (fun y hy => Or.inl (hX y hy)) (hk _ _ H.1.fr (fun z => by have q := hX _ z; have q2 : w r = 6 := H.1.1.2; omega)) (H.1.sec.kp hk (fun y hy z => by have q := hX _ z; have q2 := H.1.secT y hy; omega))
theorem q_R1.tI (H : q_R1 g h r w D ob S l x E) (k q : Nat) (hk : (k = 2 ∧ q = 4) ∨ (k = 3 ∧ q = 5) ∨ (k = 4 ∧ q = 6) ∨ (k = 5 ∧ q = 7) ∨ (k = 6 ∧ q = 8) ∨ (k = 7 ∧ q = 9)) {v : Int32} (e1 : h' = q_up h (x 0) (.inl (5, (e_fs (x 1) (x 2) E.1).set q (.int v)))) : q_R1 g h' r w D ob S l x (upd E.1 k v, E.2) :=
  ⟨H.k7 (q_kp.up (q_kp.rf (X := fun y => y = x 0)) rfl e1) (fun y hy => by rw [hy]; exact H.2.2.1 _ (Or.inl rfl)), H.2.1.intE k q hk e1, H.2.2⟩
theorem q_R1.tT (H : q_R1 g h r w D ob S l x E) {T : tr_T} (ht : q_tree h' (x 1) (fun j => x (4 + j)) (fun j => x (8 + j)) T) (ho : q_off h h' (tr_P (x 1) (fun j => x (8 + j)))) (hT : T.2 ≤ 4) : q_R1 g h' r w D ob S l x (E.1, T, E.2.2) :=
  ⟨H.k7 ho.kp (fun y hy => H.2.2.1 y (ep_P_A (Or.inr (Or.inr hy)))), H.2.1.treeE ht ho, H.2.2.1, hT⟩
def G_of (S : s_T) (E : e_T) : G_T := (S, r_fill 172 (fun _ => 0) (-1), (fun i => M_new (nI i)), (fun _ => (0, fun _ => 0)), (fun _ => (0, 0, 0, 0)), (fun _ => E), fun k => if k = 2 then 1 else 0)
theorem q_R1.fin (H : q_R1 g h r w D ob S (.ref (x 0)) x E) {ob' : Option Nat} (hl : q_lst g h' (D.1 0 4) ob' 1 (va_up (eA D) 0 (x 0))) (hk0 : ∀ y o, h y = some o → y ≠ D.1 0 4 → (∀ b, ob 4 = some b → y ≠ b) → h' y = some o) (hob : ob' = ob 4 ∨ ∃ c, ob' = some c ∧ h c = none ∧ q_bs g ≤ c) : ∃ w' D' ob2, q_RG g h' r w' D' ob2 (G_of S E) ∧ D'.1 = D.1 := by
  have hcl : ∀ y, Decidable (h y = none) := fun y => Classical.propDecidable _
  have H1 : q_R0 g h r (fun y => if h y = none then 14 else w y) D ob S (.ref (x 0)) := H.1.retag (fun y o hy => if_neg (fun z => by rw [hy] at z; cases z))
  have hn : ∀ y, h y = none → (fun y => if h y = none then 14 else w y) y = 14 := fun y hy => if_pos hy
  have hE : ∀ y, A_ex x y → (fun y => if h y = none then 14 else w y) y = 7 := fun y hy => by
    obtain ⟨oo, ho⟩ := H.2.1.som hy
    exact (if_neg (fun z => by rw [ho] at z; cases z)).trans (H.2.2.1 y hy)
  generalize (fun y => if h y = none then 14 else w y) = w1 at H1 hn hE
  have hk : q_kp h h' (fun y => w1 y = 14) := fun y o hy hne => hk0 y o hy (fun z => hne (by rw [z]; exact (H1.ls (k := 4) (by decide) (by decide)).1)) (fun b hb z => hne (by rw [z]; exact (H1.ls (k := 4) (by decide) (by decide)).2 b hb))
  have hx := H.2.1.kp hk (fun y hy z => by have q := hE y hy; omega)
  have T : ∀ {y n : Nat}, w1 y = n → n ≠ 7 → (fun y => if w1 y = 7 then 1000 else w1 y) y = n := fun {y n} a b => (if_neg (by omega)).trans a
  have L : ∀ {k : Nat} {n : Nat} {el : Nat → Nat}, 1 ≤ k → k ≤ 3 → q_lst g h (D.1 0 k) (ob k) n el → q_lst g h' (D.1 0 k) (ob k) n el := fun {k n el} h1 h4 hl => hl.kp hk (fun z => by have q := (H1.ls h1 (by omega)).1; omega) (fun b hb z => by have q := (H1.ls h1 (by omega)).2 b hb; omega)
  have hr6 : w1 r = 6 := H1.1.2
  obtain ⟨hm1, hm2⟩ := H1.2.2.1
  refine ⟨fun y => if w1 y = 7 then 1000 else w1 y, (D.1, D.2.1, D.2.2.1, fun _ => x), va_up ob 4 ob', ⟨⟨hk _ _ H1.fr (fun z => by have z2 : w1 r = 14 := z; omega), T hr6 (by decide)⟩, ⟨H1.sec.kp hk (fun y hy z => by have q := H1.secT y hy; omega), fun y hy => T (H1.secT y hy) (by decide)⟩, ⟨⟨hk _ _ hm1.1 (fun z => by have z2 : w1 (D.1 0 5) = 14 := z; omega), hk _ _ hm1.2 (fun z => by have z2 : w1 (D.1 0 6) = 14 := z; omega)⟩, T hm2.1 (by decide), T hm2.2 (by decide)⟩,
    ⟨L (by decide) (by decide) H1.2.2.2.1.1, L (by decide) (by decide) H1.2.2.2.1.2.1, L (by decide) (by decide) H1.2.2.2.1.2.2.1, hl.elc (fun i hi => by rw [show i = 0 by omega]; exact if_pos rfl)⟩, fun k h1 h4 => ⟨T (H1.ls h1 h4).1 (by omega), fun b hb => ?_⟩, fun i hi => ⟨(H1.mem hi).kp hk (fun y hy z => by have q := H1.memT hi y hy; omega), fun y hy => T (H1.memT hi y hy) (by omega)⟩,
    fun i hi => absurd hi (Nat.not_lt_zero _), fun i hi => absurd hi (Nat.not_lt_zero _), ⟨fun i hi => ⟨hx, fun y hy => ?_⟩, Nat.le_refl _⟩⟩, rfl⟩
  · by_cases e : k = 4
    · subst e
      rw [show va_up ob 4 ob' 4 = ob' from if_pos rfl] at hb
      refine T ?_ (by decide)
      rcases hob with z | ⟨c, z, hc, -⟩
      · exact (H1.ls (k := 4) (by decide) (by decide)).2 b (z.symm.trans hb)
      · rw [← Option.some.inj (z.symm.trans hb)]
        exact hn c hc
    · rw [show va_up ob 4 ob' k = ob k from if_neg e] at hb
      exact T ((H1.ls h1 h4).2 b hb) (by omega)
  · have h0 : i = 0 := by
      have h1 : i < 1 := hi
      omega
    rw [h0]
    exact if_pos (hE y hy)
end
noncomputable def E_1 : e_T := (upd (E_new 0 (-1)).1 2 (S_fresh S_new).1, T_seat (E_new 0 (-1)).2.1 0 ((M_new (nI 0)).1 0) (S_fresh (S_fresh S_new).2).1 0, (E_new 0 (-1)).2.2)
noncomputable def G_1 : G_T := G_of (S_fresh (S_fresh S_new).2).2 E_1
noncomputable def G_new : G_T := sM G_1 0 (M_enter (M_new (nI 0)) E_1 0)
set_option maxHeartbeats 1000000 in
theorem c_RG_init (g : q_G) {h : q_H} {r : Nat} (d mc ms : Nat) (hd : 7 ≤ d) (hmc : 128 ≤ mc) (hms : 17581 ≤ ms) (hr : h r = some (.inl (0, [.null, .null, .null, .null, .null, .null, .null]))) : MG g y_RG_init b_RG_init 3 none d mc ms [.ref r] h (fun q h' => q = .inl none ∧ ∃ w D ob, q_RG g h' r w D ob G_new) := by
  refine MG.of (by decide +kernel) (by simp [Value.category]) (Nat.le_of_ble_eq_true rfl) ?_
  intro Z A ok
  have H0 : q_SP h (fun _ => 6) (fun _ => False) := fun c hc => hc.elim
  have R0 : q_IR h r (fun _ => 6) [.null, .null, .null, .null, .null, .null, .null] := ⟨hr, rfl⟩
  refine g_aload_n ok (dk m_RG_init 0 rfl) (pc' := 1) rfl (i := 0) rfl rfl ?_
  refine g_objInit ok (dk m_RG_init 1 rfl) (pc' := 4) rfl c_RG_3 (by simp [Value.category]) (by omega) rfl ?_
  refine g_aload_n ok (dk m_RG_init 2 rfl) (pc' := 5) rfl (i := 0) rfl rfl ?_
  refine g_new ok (dk m_RG_init 3 rfl) (pc' := 8) rfl o_RG_9 (rc' := (mc - 1)) (rs' := (ms - 10)) (by omega) (by omega) (fun s hs0 hsb => ?_)
  refine g_gen (fun v1 e1 => ?_)
  have hv : v1 s = some (.inl (1, [.null, .null, .null, .null, .null, .null, .int 0, .int 0, .int 0, .int 0])) := by rw [e1, q_up_s]
  refine g_dup ok (dk m_RG_init 4 rfl) (pc' := 9) rfl rfl ?_
  refine g_callI ok (dk m_RG_init 5 rfl) (pc' := 12) rfl c_RG_11 (c_Sec_init g 2 12 14406 (by omega) (by omega) (by omega) hv) rfl rfl (by simp [Value.category]) (by omega) rfl (rc' := (mc - 13)) (rs' := (ms - 14416)) (by omega) (by omega) (fun rv h' hcc => ?_) (fun i h' hcc => by obtain ⟨e9, -⟩ := hcc; cases e9)
  obtain ⟨e9, sa, sb, hsec, hkp, hnn, -⟩ := hcc
  cases e9
  obtain ⟨w1, H0, R0, -⟩ := H0.new R0 hs0 e1 (fun y o hy hne => hkp y o hy hne) 1 (s_A s sa sb) (fun h => q_sec h s sa sb S_new) hsec (fun y hy => by
    rcases hy with z | ⟨i, hi, z | z⟩
    · exact Or.inl z
    · exact Or.inr (by rw [z]; exact (hnn i hi).1)
    · exact Or.inr (by rw [z]; exact (hnn i hi).2)) (fun y hy => hsec.som hy) (fun h1 h2 hh hq => hq.kp (X := fun y => ¬ s_A s sa sb y) (fun y o hy hne => by rw [hh y (Classical.not_not.mp hne)]; exact hy) (fun y hy z => z hy)) (by decide)
  clear e1 hv
  refine g_put ok (dk m_RG_init 6 rfl) (pc' := 15) rfl f_RG_12 (Or.inr rfl) R0.1 (Nat.le_of_ble_eq_true rfl) rfl rfl ?_
  refine g_gen (fun vv ee => ?_)
  obtain ⟨H0, R0⟩ := H0.put (fl' := [.ref s, .null, .null, .null, .null, .null, .null]) R0 ee
  clear ee
  refine g_aload_n ok (dk m_RG_init 7 rfl) (pc' := 16) rfl (i := 0) rfl rfl ?_
  refine g_new ok (dk m_RG_init 8 rfl) (pc' := 19) rfl o_RG_16 (rc' := (mc - 14)) (rs' := (ms - 14419)) (by omega) (by omega) (fun a1 ha0 hab => ?_)
  refine g_gen (fun v1 e1 => ?_)
  have hv : v1 a1 = some (.inl (3, [.null, .int 0, .int 0])) := by rw [e1, q_up_s]
  refine g_dup ok (dk m_RG_init 9 rfl) (pc' := 20) rfl rfl ?_
  refine g_callI ok (dk m_RG_init 10 rfl) (pc' := 23) rfl c_RG_18 (c_AL_init g 3 (by omega) hv) rfl rfl (by simp [Value.category]) (by omega) rfl (rc' := (mc - 14)) (rs' := (ms - 14419)) (by omega) (by omega) (fun rv h' hcc => ?_) (fun i h' hcc => by obtain ⟨e9, -⟩ := hcc; cases e9)
  obtain ⟨e9, e5⟩ := hcc
  cases e9
  obtain ⟨w1, H0, R0, -⟩ := H0.new R0 ha0 e1 (q_kp.up q_kp.rf rfl e5) 11 (fun y => y = a1 ∨ (none : Option Nat) = some y) (fun h => q_lst g h a1 none 0 (fun _ => 0)) ⟨rfl, 0, by rw [e5, q_up_s]; rfl⟩ (fun y hy => by rcases hy with z | z; exact Or.inl z; cases z) (fun y hy => by rcases hy with z | z; rw [z, e5, q_up_s]; exact ⟨_, rfl⟩; cases z) (fun h1 h2 hh hq => by
    obtain ⟨q1, mv, q2⟩ := hq
    exact ⟨q1, mv, by rw [hh a1 (Or.inl rfl)]; exact q2⟩) (by decide)
  clear e1 hv e5
  refine g_put ok (dk m_RG_init 11 rfl) (pc' := 26) rfl f_RG_19 (Or.inr rfl) R0.1 (Nat.le_of_ble_eq_true rfl) rfl rfl ?_
  refine g_gen (fun vv ee => ?_)
  obtain ⟨H0, R0⟩ := H0.put (fl' := [.ref s, .ref a1, .null, .null, .null, .null, .null]) R0 ee
  clear ee
  refine g_aload_n ok (dk m_RG_init 12 rfl) (pc' := 27) rfl (i := 0) rfl rfl ?_
  refine g_new ok (dk m_RG_init 13 rfl) (pc' := 30) rfl o_RG_16 (rc' := (mc - 15)) (rs' := (ms - 14422)) (by omega) (by omega) (fun a2 ha0 hab => ?_)
  refine g_gen (fun v1 e1 => ?_)
  have hv : v1 a2 = some (.inl (3, [.null, .int 0, .int 0])) := by rw [e1, q_up_s]
  refine g_dup ok (dk m_RG_init 14 rfl) (pc' := 31) rfl rfl ?_
  refine g_callI ok (dk m_RG_init 15 rfl) (pc' := 34) rfl c_RG_18 (c_AL_init g 3 (by omega) hv) rfl rfl (by simp [Value.category]) (by omega) rfl (rc' := (mc - 15)) (rs' := (ms - 14422)) (by omega) (by omega) (fun rv h' hcc => ?_) (fun i h' hcc => by obtain ⟨e9, -⟩ := hcc; cases e9)
  obtain ⟨e9, e5⟩ := hcc
  cases e9
  obtain ⟨w1, H0, R0, -⟩ := H0.new R0 ha0 e1 (q_kp.up q_kp.rf rfl e5) 12 (fun y => y = a2) (fun h => q_lst g h a2 none 0 (fun _ => 0)) ⟨rfl, 0, by rw [e5, q_up_s]; rfl⟩ (fun y hy => Or.inl hy) (fun y hy => by rw [hy, e5, q_up_s]; exact ⟨_, rfl⟩) (fun h1 h2 hh hq => by
    obtain ⟨q1, mv, q2⟩ := hq
    exact ⟨q1, mv, by rw [hh a2 rfl]; exact q2⟩) (by decide)
  clear e1 hv e5
  refine g_put ok (dk m_RG_init 16 rfl) (pc' := 37) rfl f_RG_23 (Or.inr rfl) R0.1 (Nat.le_of_ble_eq_true rfl) rfl rfl ?_
  refine g_gen (fun vv ee => ?_)
  obtain ⟨H0, R0⟩ := H0.put (fl' := [.ref s, .ref a1, .ref a2, .null, .null, .null, .null]) R0 ee
  clear ee
  refine g_aload_n ok (dk m_RG_init 17 rfl) (pc' := 38) rfl (i := 0) rfl rfl ?_
  refine g_new ok (dk m_RG_init 18 rfl) (pc' := 41) rfl o_RG_16 (rc' := (mc - 16)) (rs' := (ms - 14425)) (by omega) (by omega) (fun a3 ha0 hab => ?_)
  refine g_gen (fun v1 e1 => ?_)
  have hv : v1 a3 = some (.inl (3, [.null, .int 0, .int 0])) := by rw [e1, q_up_s]
  refine g_dup ok (dk m_RG_init 19 rfl) (pc' := 42) rfl rfl ?_
  refine g_callI ok (dk m_RG_init 20 rfl) (pc' := 45) rfl c_RG_18 (c_AL_init g 3 (by omega) hv) rfl rfl (by simp [Value.category]) (by omega) rfl (rc' := (mc - 16)) (rs' := (ms - 14425)) (by omega) (by omega) (fun rv h' hcc => ?_) (fun i h' hcc => by obtain ⟨e9, -⟩ := hcc; cases e9)
  obtain ⟨e9, e5⟩ := hcc
  cases e9
  obtain ⟨w1, H0, R0, -⟩ := H0.new R0 ha0 e1 (q_kp.up q_kp.rf rfl e5) 13 (fun y => y = a3) (fun h => q_lst g h a3 none 0 (fun _ => 0)) ⟨rfl, 0, by rw [e5, q_up_s]; rfl⟩ (fun y hy => Or.inl hy) (fun y hy => by rw [hy, e5, q_up_s]; exact ⟨_, rfl⟩) (fun h1 h2 hh hq => by
    obtain ⟨q1, mv, q2⟩ := hq
    exact ⟨q1, mv, by rw [hh a3 rfl]; exact q2⟩) (by decide)
  clear e1 hv e5
  refine g_put ok (dk m_RG_init 21 rfl) (pc' := 48) rfl f_RG_26 (Or.inr rfl) R0.1 (Nat.le_of_ble_eq_true rfl) rfl rfl ?_
  refine g_gen (fun vv ee => ?_)
  obtain ⟨H0, R0⟩ := H0.put (fl' := [.ref s, .ref a1, .ref a2, .ref a3, .null, .null, .null]) R0 ee
  clear ee
  refine g_aload_n ok (dk m_RG_init 22 rfl) (pc' := 49) rfl (i := 0) rfl rfl ?_
  refine g_new ok (dk m_RG_init 23 rfl) (pc' := 52) rfl o_RG_16 (rc' := (mc - 17)) (rs' := (ms - 14428)) (by omega) (by omega) (fun a4 ha0 hab => ?_)
  refine g_gen (fun v1 e1 => ?_)
  have hv : v1 a4 = some (.inl (3, [.null, .int 0, .int 0])) := by rw [e1, q_up_s]
  refine g_dup ok (dk m_RG_init 24 rfl) (pc' := 53) rfl rfl ?_
  refine g_callI ok (dk m_RG_init 25 rfl) (pc' := 56) rfl c_RG_18 (c_AL_init g 3 (by omega) hv) rfl rfl (by simp [Value.category]) (by omega) rfl (rc' := (mc - 17)) (rs' := (ms - 14428)) (by omega) (by omega) (fun rv h' hcc => ?_) (fun i h' hcc => by obtain ⟨e9, -⟩ := hcc; cases e9)
  obtain ⟨e9, e5⟩ := hcc
  cases e9
  obtain ⟨w1, H0, R0, -⟩ := H0.new R0 ha0 e1 (q_kp.up q_kp.rf rfl e5) 14 (fun y => y = a4) (fun h => q_lst g h a4 none 0 (fun _ => 0)) ⟨rfl, 0, by rw [e5, q_up_s]; rfl⟩ (fun y hy => Or.inl hy) (fun y hy => by rw [hy, e5, q_up_s]; exact ⟨_, rfl⟩) (fun h1 h2 hh hq => by
    obtain ⟨q1, mv, q2⟩ := hq
    exact ⟨q1, mv, by rw [hh a4 rfl]; exact q2⟩) (by decide)
  clear e1 hv e5
  refine g_put ok (dk m_RG_init 26 rfl) (pc' := 59) rfl f_RG_29 (Or.inr rfl) R0.1 (Nat.le_of_ble_eq_true rfl) rfl rfl ?_
  refine g_gen (fun vv ee => ?_)
  obtain ⟨H0, R0⟩ := H0.put (fl' := [.ref s, .ref a1, .ref a2, .ref a3, .ref a4, .null, .null]) R0 ee
  clear ee
  refine g_aload_n ok (dk m_RG_init 27 rfl) (pc' := 60) rfl (i := 0) rfl rfl ?_
  refine g_new ok (dk m_RG_init 28 rfl) (pc' := 63) rfl o_RG_32 (rc' := (mc - 18)) (rs' := (ms - 14429)) (by omega) (by omega) (fun hd ha0 hab => ?_)
  refine g_gen (fun v1 e1 => ?_)
  have hv : v1 hd = some (.inl (2, [.null])) := by rw [e1, q_up_s]
  refine g_dup ok (dk m_RG_init 29 rfl) (pc' := 64) rfl rfl ?_
  refine g_sipush ok (dk m_RG_init 30 rfl) (pc' := 67) rfl (v := 172) (by decide) ?_
  refine g_iconst ok (dk m_RG_init 31 rfl) (pc' := 68) rfl (v := (-1)) (by decide) ?_
  refine g_callI ok (dk m_RG_init 32 rfl) (pc' := 71) rfl c_RG_34 (c_Row_init g (N := 172) (-1) 1 (by omega) hv (by decide) (by decide)) rfl rfl (by simp [Value.category]) (by omega) rfl (rc' := (mc - 19)) (rs' := (ms - 14601)) (by omega) (by omega) (fun rv h' hcc => ?_) (fun i h' hcc => by obtain ⟨e9, -⟩ := hcc; cases e9)
  obtain ⟨e9, hc, hcn, -, e5⟩ := hcc
  cases e9
  have hcd : hc ≠ hd := fun z => by rw [z, hv] at hcn; cases hcn
  have hq1 : h' hd = some (.inl (2, [.ref hc])) := by rw [e5, q_up_n hcd.symm, q_up_s]
  have hq2 : h' hc = some (.inr (0, 172, .inl (r_fill 172 (fun _ => 0) (-1)))) := by rw [e5, q_up_s]
  have hkk : q_kp v1 h' (fun y => y = hd) := q_kp.nw (q_kp.up (q_kp.rf (X := fun y => y = hd)) rfl rfl) (by rw [q_up_n hcd]; exact hcn) e5
  obtain ⟨w1, H0, R0, -⟩ := H0.new R0 ha0 e1 hkk 2 (fun y => y = hd ∨ y = hc) (fun h => h hd = some (.inl (2, [.ref hc])) ∧ h hc = some (.inr (0, 172, .inl (r_fill 172 (fun _ => 0) (-1))))) ⟨hq1, hq2⟩ (fun y hy => by rcases hy with z | z; exact Or.inl z; exact Or.inr (by rw [z]; exact hcn)) (fun y hy => by rcases hy with z | z; rw [z]; exact ⟨_, hq1⟩; rw [z]; exact ⟨_, hq2⟩) (fun h1 h2 hh hq => ⟨by rw [hh hd (Or.inl rfl)]; exact hq.1, by rw [hh hc (Or.inr rfl)]; exact hq.2⟩) (by decide)
  clear e1 hv e5 hq1 hq2 hkk
  refine g_put ok (dk m_RG_init 33 rfl) (pc' := 74) rfl f_RG_37 (Or.inr rfl) R0.1 (Nat.le_of_ble_eq_true rfl) rfl rfl ?_
  refine g_gen (fun vv ee => ?_)
  obtain ⟨H0, R0⟩ := H0.put (fl' := [.ref s, .ref a1, .ref a2, .ref a3, .ref a4, .ref hd, .null]) R0 ee
  clear ee
  refine g_new ok (dk m_RG_init 34 rfl) (pc' := 77) rfl o_RG_41 (rc' := (mc - 20)) (rs' := (ms - 14609)) (by omega) (by omega) (fun f ha0 hab => ?_)
  refine g_gen (fun v1 e1 => ?_)
  have hv : v1 f = some (.inl (4, [.int 0, .null, .null, .int 0, .int 0, .int 0, .int 0, .int 0])) := by rw [e1, q_up_s]
  refine g_dup ok (dk m_RG_init 35 rfl) (pc' := 78) rfl rfl ?_
  refine g_iconst ok (dk m_RG_init 36 rfl) (pc' := 79) rfl (v := 0) (by decide) ?_
  refine g_callI ok (dk m_RG_init 37 rfl) (pc' := 82) rfl c_RG_43 (c_Mem_init g (nI 0) 2 4 53 (by omega) (by omega) (by omega) hv) rfl rfl (by simp [Value.category]) (by omega) rfl (rc' := (mc - 24)) (rs' := (ms - 14662)) (by omega) (by omega) (fun rv h' hcc => ?_) (fun i h' hcc => by obtain ⟨e9, -⟩ := hcc; cases e9)
  obtain ⟨e9, ma, mb, hm, hkp, hnn⟩ := hcc
  cases e9
  obtain ⟨w1, H0, R0, -⟩ := H0.new R0 ha0 e1 hkp (100 + 0) (m_A f ma mb) (fun h => q_mem h f ma mb (M_new (nI 0))) hm hnn (fun y hy => hm.som hy) (fun h1 h2 hh hq => hq.kp (X := fun y => ¬ m_A f ma mb y) (fun y o hy hne => by rw [hh y (Classical.not_not.mp hne)]; exact hy) (fun y hy z => z hy)) (by omega)
  clear e1 hv hkp hnn
  refine g_astore_n ok (dk m_RG_init 38 rfl) (pc' := 83) rfl (i := 1) rfl (Nat.le_of_ble_eq_true rfl) rfl ?_
  refine g_aload_n ok (dk m_RG_init 39 rfl) (pc' := 84) rfl (i := 0) rfl rfl ?_
  refine g_get ok (dk m_RG_init 40 rfl) (pc' := 87) rfl f_RG_19 R0.1 rfl ?_
  refine g_aload_n ok (dk m_RG_init 41 rfl) (pc' := 88) rfl (i := 1) rfl rfl ?_
  have hl0 : q_lst g h' a1 none 0 (fun _ => 0) := (H0 (11, (fun y => y = a1 ∨ (none : Option Nat) = some y), fun h => q_lst g h a1 none 0 (fun _ => 0)) (by simp)).1.1
  have hfa : a1 ≠ f := fun z => by
    obtain ⟨q1, mv, q2⟩ := hl0
    rw [z, hm.1] at q2
    cases q2
  obtain ⟨l0, l1, hl1⟩ := hl0.size
  refine g_callV ok (dk m_RG_init 42 rfl) (pc' := 91) rfl c_RG_46 (c_AL_add g 6 1 110 (by omega) (by omega) (by omega) hl0 (by decide) (fun i hi => absurd hi (Nat.not_lt_zero _)) hm.1 hfa ty_4 xo_4) hl1 rfl rfl (by simp [Value.category]) (by omega) rfl (rc' := (mc - 25)) (rs' := (ms - 14772)) (by omega) (by omega) (fun rv h' hcc => ?_) (fun i h' hcc => by obtain ⟨e9, -⟩ := hcc; cases e9)
  obtain ⟨e9, ob1, hl5, hk5, hob5, -⟩ := hcc
  cases e9
  obtain ⟨w1, H0, R0⟩ := H0.lst (n := 0) (el := fun _ => 0) R0 (by simp) hl5 hk5 hob5
  refine g_pop ok (dk m_RG_init 43 rfl) (pc' := 92) rfl rfl ?_
  refine g_iconst ok (dk m_RG_init 44 rfl) (pc' := 93) rfl (v := 1) (by decide) ?_
  refine g_istore_n ok (dk m_RG_init 45 rfl) (pc' := 94) rfl (i := 2) rfl (Nat.le_of_ble_eq_true rfl) rfl ?_
  have loop : ∀ (m k : Nat), k + m = 16 → 1 ≤ k → ∀ (h1 : q_H) (w1 : Nat → Nat) (C : c_T → Prop) (ob1 : Option Nat) (el : Nat → Nat), q_SP h1 w1 C → q_IR h1 r w1 [.ref s, .ref a1, .ref a2, .ref a3, .ref a4, .ref hd, .null] → C (1, s_A s sa sb, fun h => q_sec h s sa sb S_new) → C (2, (fun y => y = hd ∨ y = hc), fun h => h hd = some (.inl (2, [.ref hc])) ∧ h hc = some (.inr (0, 172, .inl (r_fill 172 (fun _ => 0) (-1))))) → C (11, (fun y => y = a1 ∨ ob1 = some y), fun h => q_lst g h a1 ob1 k el) → C (12, (fun y => y = a2), fun h => q_lst g h a2 none 0 (fun _ => 0)) → C (13, (fun y => y = a3), fun h => q_lst g h a3 none 0 (fun _ => 0)) → C (14, (fun y => y = a4), fun h => q_lst g h a4 none 0 (fun _ => 0)) → (∀ i, i < k → ∃ ra rb, C (100 + i, m_A (el i) ra rb, fun h => q_mem h (el i) ra rb (M_new (nI i)))) → el 0 = f → ∀ {rc rs : Nat}, 6 * m + 13 ≤ rc → 171 * m + 244 ≤ rs → GW g Z A (fun q h' => q = .inl none ∧ ∃ w D ob, q_RG g h' r w D ob G_new) rc rs h1 94 [some (.ref r), some (.ref f), some (.int (nI k))] [] := by
    intro m
    induction m with
    | zero =>
      intro k hk hk1 h1 w1 C ob1 el H1 R1 c1 c2 c11 c12 c13 c14 cm hf rc rs hrc hrs
      refine g_iload_n ok (dk m_RG_init 46 rfl) (pc' := 95) rfl (i := 2) rfl rfl ?_
      refine g_bipush ok (dk m_RG_init 47 rfl) (pc' := 97) rfl (v := 16) (by decide) ?_
      refine g_icmp_ge ok (dk m_RG_init 48 rfl) (tgt := 122) (by decide) (pc' := 100) rfl (fun c_97 => ?_) (fun c_97 => absurd (show nI 16 ≤ nI k from by rw [show k = 16 by omega]; exact Int32.le_refl _) c_97)
      have hk16 : k = 16 := by omega
      subst hk16
      obtain ⟨D, ob, H3, hD⟩ := q_SP.mk H1 R1 c1 c2 c11 c12 c13 c14 cm
      have hff : f = mA D 0 := by rw [hD]; exact hf.symm
      subst hff
      clear H1 R1 c1 c2 c11 c12 c13 c14 cm
      refine g_aload_n ok (dk m_RG_init 59 rfl) (pc' := 123) rfl (i := 0) rfl rfl ?_
      refine g_new ok (dk m_RG_init 60 rfl) (pc' := 126) rfl o_RG_50 (rc' := (rc - 1)) (rs' := (rs - 10)) (by omega) (by omega) (fun e he0 heb => ?_)
      refine g_gen (fun v1 e1 => ?_)
      have hv : v1 e = some (.inl (5, [.int 0, .int 0, .null, .null, .int 0, .int 0, .int 0, .int 0, .int 0, .int 0])) := by rw [e1, q_up_s]
      refine g_dup ok (dk m_RG_init 61 rfl) (pc' := 127) rfl rfl ?_
      refine g_iconst ok (dk m_RG_init 62 rfl) (pc' := 128) rfl (v := 0) (by decide) ?_
      refine g_iconst ok (dk m_RG_init 63 rfl) (pc' := 129) rfl (v := (-1)) (by decide) ?_
      refine g_callI ok (dk m_RG_init 64 rfl) (pc' := 132) rfl c_RG_52 (c_Ep_init g 0 (-1) 3 11 124 (by omega) (by omega) (by omega) hv) rfl rfl (by simp [Value.category]) (by omega) rfl (rc' := (rc - 12)) (rs' := (rs - 134)) (by omega) (by omega) (fun rv h' hcc => ?_) (fun i h' hcc => by obtain ⟨e9, -⟩ := hcc; cases e9)
      obtain ⟨e9, t, pr, pb, ra, rb, hx1, k2, hA⟩ := hcc
      cases e9
      obtain ⟨w2, x, rfl, H4⟩ := H3.mkE he0 e1 hx1 k2 hA (by decide)
      clear e1 hv H3
      refine g_put ok (dk m_RG_init 65 rfl) (pc' := 135) rfl f_RG_53 (Or.inl rfl) H4.1.fr (Nat.le_of_ble_eq_true rfl) rfl rfl ?_
      refine g_gen (fun v5 e5 => ?_)
      have H5 := H4.put (l' := .ref (x 0)) e5
      clear e5
      refine g_aload_n ok (dk m_RG_init 66 rfl) (pc' := 136) rfl (i := 0) rfl rfl ?_
      refine g_get ok (dk m_RG_init 67 rfl) (pc' := 139) rfl f_RG_53 H5.1.fr rfl ?_
      refine g_aload_n ok (dk m_RG_init 68 rfl) (pc' := 140) rfl (i := 0) rfl rfl ?_
      refine g_get ok (dk m_RG_init 69 rfl) (pc' := 143) rfl f_RG_12 H5.1.fr rfl ?_
      refine g_callV ok (dk m_RG_init 70 rfl) (pc' := 146) rfl c_RG_57 (c_Sec_fresh g 0 H5.1.sec) H5.1.sec.1 rfl rfl (by simp [Value.category]) (by omega) rfl (rc' := (rc - 12)) (rs' := (rs - 134)) (by omega) (by omega) (fun rv h' hcc => ?_) (fun i h' hcc => by obtain ⟨e9, -⟩ := hcc; cases e9)
      obtain ⟨e9, hs6, o6⟩ := hcc
      cases e9
      have H6 := H5.tS hs6 o6
      refine g_put ok (dk m_RG_init 71 rfl) (pc' := 149) rfl f_RG_61 (Or.inl rfl) H6.2.1.1 (Nat.le_of_ble_eq_true rfl) rfl rfl ?_
      refine g_gen (fun v7 e7 => ?_)
      have H7 := H6.tI 2 4 (by decide) e7
      clear e7
      refine g_aload_n ok (dk m_RG_init 72 rfl) (pc' := 150) rfl (i := 0) rfl rfl ?_
      refine g_get ok (dk m_RG_init 73 rfl) (pc' := 153) rfl f_RG_53 H7.1.fr rfl ?_
      refine g_getR ok (dk m_RG_init 74 rfl) (pc' := 156) rfl f_RG_65 H7.2.1.1 rfl ?_
      refine g_iconst ok (dk m_RG_init 75 rfl) (pc' := 157) rfl (v := 0) (by decide) ?_
      refine g_aload_n ok (dk m_RG_init 76 rfl) (pc' := 158) rfl (i := 1) rfl rfl ?_
      refine g_getR ok (dk m_RG_init 77 rfl) (pc' := 161) rfl f_RG_69 (H7.1.mem (i := 0) (by decide)).1 rfl ?_
      refine g_aload_n ok (dk m_RG_init 78 rfl) (pc' := 162) rfl (i := 0) rfl rfl ?_
      refine g_get ok (dk m_RG_init 79 rfl) (pc' := 165) rfl f_RG_12 H7.1.fr rfl ?_
      refine g_callV ok (dk m_RG_init 80 rfl) (pc' := 168) rfl c_RG_57 (c_Sec_fresh g 0 H7.1.sec) H7.1.sec.1 rfl rfl (by simp [Value.category]) (by omega) rfl (rc' := (rc - 12)) (rs' := (rs - 134)) (by omega) (by omega) (fun rv h' hcc => ?_) (fun i h' hcc => by obtain ⟨e9, -⟩ := hcc; cases e9)
      obtain ⟨e9, hs6, o6⟩ := hcc
      cases e9
      have H8 := H7.tS hs6 o6
      refine g_iconst ok (dk m_RG_init 81 rfl) (pc' := 169) rfl (v := 0) (by decide) ?_
      refine g_callV ok (dk m_RG_init 82 rfl) (pc' := 172) rfl c_RG_72 (c_Tr_seat g (l := 0) _ _ _ 2 (by omega) (by decide) H8.2.2.2 H8.2.1.2.1) H8.2.1.2.1.1 rfl rfl (by simp [Value.category]) (by omega) rfl (rc' := (rc - 12)) (rs' := (rs - 134)) (by omega) (by omega) (fun rv h' hcc => ?_) (fun i h' hcc => by obtain ⟨e9, -⟩ := hcc; cases e9)
      obtain ⟨e9, ht1, o1⟩ := hcc
      cases e9
      have H9 := H8.tT ht1 o1 (T_seat_2 H8.2.2.2 _ _ _ _)
      have H9 : q_R1 g h' r w2 D ob (S_fresh (S_fresh S_new).2).2 (.ref (x 0)) x E_1 := H9
      obtain ⟨l0, l1, hl1⟩ := H9.1.le.size
      refine g_aload_n ok (dk m_RG_init 83 rfl) (pc' := 173) rfl (i := 0) rfl rfl ?_
      refine g_get ok (dk m_RG_init 84 rfl) (pc' := 176) rfl f_RG_29 H9.1.fr rfl ?_
      refine g_aload_n ok (dk m_RG_init 85 rfl) (pc' := 177) rfl (i := 0) rfl rfl ?_
      refine g_get ok (dk m_RG_init 86 rfl) (pc' := 180) rfl f_RG_53 H9.1.fr rfl ?_
      refine g_callV ok (dk m_RG_init 87 rfl) (pc' := 183) rfl c_RG_46 (c_AL_add g 6 1 110 (by omega) (by omega) (by omega) H9.1.le (by decide) (fun i hi => absurd hi (Nat.not_lt_zero _)) H9.2.1.1 (fun z => by have q := (H9.1.ls (k := 4) (by decide) (by decide)).1; have q2 := H9.2.2.1 _ (Or.inl rfl); rw [z] at q; omega) ty_5 xo_5) hl1 rfl rfl (by simp [Value.category]) (by omega) rfl (rc' := (rc - 13)) (rs' := (rs - 244)) (by omega) (by omega) (fun rv h' hcc => ?_) (fun i h' hcc => by obtain ⟨e9, -⟩ := hcc; cases e9)
      obtain ⟨e9, ob5, hl5, hk5, hob5, -⟩ := hcc
      cases e9
      obtain ⟨w7, D7, ob7, H10, hD1⟩ := H9.fin hl5 hk5 hob5
      have hm0 : mA D 0 = mA D7 0 := by show D.1 3 0 = D7.1 3 0; rw [hD1]
      rw [hm0]
      have he10 : q_ee h' D7 0 E_1 := H10.ep (i := 0) (by decide)
      refine g_pop ok (dk m_RG_init 88 rfl) (pc' := 184) rfl rfl ?_
      refine g_aload_n ok (dk m_RG_init 89 rfl) (pc' := 185) rfl (i := 1) rfl rfl ?_
      refine g_aload_n ok (dk m_RG_init 90 rfl) (pc' := 186) rfl (i := 0) rfl rfl ?_
      refine g_get ok (dk m_RG_init 91 rfl) (pc' := 189) rfl f_RG_53 H10.fr rfl ?_
      refine g_iconst ok (dk m_RG_init 92 rfl) (pc' := 190) rfl (v := 0) (by decide) ?_
      refine g_callV ok (dk m_RG_init 93 rfl) (pc' := 193) rfl c_RG_78 (c_Mem_enter g 0 4 (by omega) (H10.mem (i := 0) (by decide)) he10 (fun y hy z => by have q := H10.memT (i := 0) (by decide) y (m_P_A z); have q2 := H10.epT (i := 0) (by decide) y hy; omega) H9.2.2.2) (H10.mem (i := 0) (by decide)).1 rfl rfl (by simp [Value.category]) (by omega) rfl (rc' := (rc - 13)) (rs' := (rs - 244)) (by omega) (by omega) (fun rv h' hcc => ?_) (fun i h' hcc => by obtain ⟨e9, -⟩ := hcc; cases e9)
      obtain ⟨e9, hm3, o3⟩ := hcc
      cases e9
      have H11 := H10.tM (by decide) hm3 o3
      exact g_vret ok (dk m_RG_init 94 rfl) rfl ⟨rfl, w7, D7, ob7, H11⟩
    | succ m ih =>
      intro k hk hk1 h1 w1 C ob1 el H1 R1 c1 c2 c11 c12 c13 c14 cm hf rc rs hrc hrs
      refine g_iload_n ok (dk m_RG_init 46 rfl) (pc' := 95) rfl (i := 2) rfl rfl ?_
      refine g_bipush ok (dk m_RG_init 47 rfl) (pc' := 97) rfl (v := 16) (by decide) ?_
      refine g_icmp_ge ok (dk m_RG_init 48 rfl) (tgt := 122) (by decide) (pc' := 100) rfl (fun c_97 => absurd c_97 (show ¬ nI 16 ≤ nI k from nI_ge (by omega) (by decide))) (fun c_97 => ?_)
      refine g_aload_n ok (dk m_RG_init 49 rfl) (pc' := 101) rfl (i := 0) rfl rfl ?_
      refine g_get ok (dk m_RG_init 50 rfl) (pc' := 104) rfl f_RG_19 R1.1 rfl ?_
      refine g_new ok (dk m_RG_init 51 rfl) (pc' := 107) rfl o_RG_41 (rc' := (rc - 1)) (rs' := (rs - 8)) (by omega) (by omega) (fun f2 ha0 hab => ?_)
      refine g_gen (fun v1 e1 => ?_)
      have hv : v1 f2 = some (.inl (4, [.int 0, .null, .null, .int 0, .int 0, .int 0, .int 0, .int 0])) := by rw [e1, q_up_s]
      refine g_dup ok (dk m_RG_init 52 rfl) (pc' := 108) rfl rfl ?_
      refine g_iload_n ok (dk m_RG_init 53 rfl) (pc' := 109) rfl (i := 2) rfl rfl ?_
      refine g_callI ok (dk m_RG_init 54 rfl) (pc' := 112) rfl c_RG_43 (c_Mem_init g (nI k) 2 4 53 (by omega) (by omega) (by omega) hv) rfl rfl (by simp [Value.category]) (by omega) rfl (rc' := (rc - 5)) (rs' := (rs - 61)) (by omega) (by omega) (fun rv h' hcc => ?_) (fun i h' hcc => by obtain ⟨e9, -⟩ := hcc; cases e9)
      obtain ⟨e9, ma, mb, hm, hkp, hnn⟩ := hcc
      cases e9
      obtain ⟨w1, H1, R1, -⟩ := H1.new R1 ha0 e1 hkp (100 + k) (m_A f2 ma mb) (fun h => q_mem h f2 ma mb (M_new (nI k))) hm hnn (fun y hy => hm.som hy) (fun h1 h2 hh hq => hq.kp (X := fun y => ¬ m_A f2 ma mb y) (fun y o hy hne => by rw [hh y (Classical.not_not.mp hne)]; exact hy) (fun y hy z => z hy)) (by omega)
      clear e1 hv hkp hnn
      have hl0 : q_lst g h' a1 ob1 k el := (H1 (11, (fun y => y = a1 ∨ ob1 = some y), fun h => q_lst g h a1 ob1 k el) (Or.inl c11)).1.1
      obtain ⟨l0, l1, hl1⟩ := hl0.size
      have hfa : a1 ≠ f2 := fun z => by
        rw [z, hm.1] at hl1
        cases hl1
      have hel : ∀ i, i < k → q_obj h' (el i) ∧ el i ≠ a1 := fun i hi => by
        obtain ⟨ra, rb, hc⟩ := cm i hi
        have q := (H1 _ (Or.inl hc)).1.1
        refine ⟨⟨4, _, _, q.1, ty_4, xo_4⟩, fun z => ?_⟩
        rw [← z, q.1] at hl1
        cases hl1
      refine g_callV ok (dk m_RG_init 55 rfl) (pc' := 115) rfl c_RG_46 (c_AL_add g 6 1 110 (by omega) (by omega) (by omega) hl0 (by omega) hel hm.1 hfa ty_4 xo_4) hl1 rfl rfl (by simp [Value.category]) (by omega) rfl (rc' := (rc - 6)) (rs' := (rs - 171)) (by omega) (by omega) (fun rv h' hcc => ?_) (fun i h' hcc => by obtain ⟨e9, -⟩ := hcc; cases e9)
      obtain ⟨e9, ob5, hl5, hk5, hob5, -⟩ := hcc
      cases e9
      obtain ⟨w2, H2, R2⟩ := H1.lst R1 (Or.inl c11) hl5 hk5 hob5
      refine g_pop ok (dk m_RG_init 56 rfl) (pc' := 116) rfl rfl ?_
      refine g_iinc ok (dk m_RG_init 57 rfl) (pc' := 119) rfl rfl (nI_1 k) rfl ?_
      refine g_goto ok (dk m_RG_init 58 rfl) (pc' := 94) (by decide) ?_
      exact ih (k + 1) (by omega) (by omega) _ _ _ _ _ H2 R2 (Or.inl ⟨Or.inl c1, by show (1 : Nat) ≠ 11; decide⟩) (Or.inl ⟨Or.inl c2, by show (2 : Nat) ≠ 11; decide⟩) (Or.inr rfl) (Or.inl ⟨Or.inl c12, by show (12 : Nat) ≠ 11; decide⟩) (Or.inl ⟨Or.inl c13, by show (13 : Nat) ≠ 11; decide⟩) (Or.inl ⟨Or.inl c14, by show (14 : Nat) ≠ 11; decide⟩) (fun i hi => by
        by_cases e : i = k
        · subst e
          rw [show va_up el i f2 i = f2 from if_pos rfl]
          exact ⟨ma, mb, Or.inl ⟨Or.inr rfl, by show 100 + i ≠ 11; omega⟩⟩
        · rw [show va_up el k f2 i = el i from if_neg e]
          obtain ⟨ra, rb, hc⟩ := cm i (by omega)
          exact ⟨ra, rb, Or.inl ⟨Or.inl hc, by show 100 + i ≠ 11; omega⟩⟩) ((if_neg (by omega)).trans hf) (by omega) (by omega)
  exact loop 15 1 (by omega) (by decide) _ _ _ _ _ H0 R0 (Or.inl ⟨by simp, by show (1 : Nat) ≠ 11; decide⟩) (Or.inl ⟨by simp, by show (2 : Nat) ≠ 11; decide⟩) (Or.inr rfl) (Or.inl ⟨by simp, by show (12 : Nat) ≠ 11; decide⟩) (Or.inl ⟨by simp, by show (13 : Nat) ≠ 11; decide⟩) (Or.inl ⟨by simp, by show (14 : Nat) ≠ 11; decide⟩) (fun i hi => by
    have h0 : i = 0 := by omega
    subst h0
    exact ⟨ma, mb, Or.inl ⟨by rw [show va_up (fun _ => 0) 0 f 0 = f from if_pos rfl]; simp, by show (100 : Nat) ≠ 11; decide⟩⟩) rfl (by omega) (by omega)
