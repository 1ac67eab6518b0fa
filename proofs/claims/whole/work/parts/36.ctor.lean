/-! ===== constructors of Epoch, Member, KeyPackage, proposals; ArrayList.clear ===== -/
/-- what is in h stays in h', but for X -/
def q_kp (h h' : q_H) (X : Nat → Prop) : Prop := ∀ y o, h y = some o → ¬ X y → h' y = some o
theorem q_off.kp {h h' : q_H} {X : Nat → Prop} (ho : q_off h h' X) : q_kp h h' X := fun y o hy hx => (ho y hx).trans hy
theorem q_kp.rf {h : q_H} {X : Nat → Prop} : q_kp h h X := fun _ _ h _ => h
theorem q_kp.tr {h h1 h2 : q_H} {X : Nat → Prop} (a : q_kp h h1 X) (b : q_kp h1 h2 X) : q_kp h h2 X := fun y o hy hx => b y o (a y o hy hx) hx
theorem q_kp.wk {h h' : q_H} {X Y : Nat → Prop} (a : q_kp h h' X) (hXY : ∀ y, X y → Y y) : q_kp h h' Y := fun y o hy hx => a y o hy (fun z => hx (hXY y z))
theorem q_kp.up {h h1 h2 : q_H} {X : Nat → Prop} {e : Nat} {o : q_O} (a : q_kp h h1 X) (he : X e) (e2 : h2 = q_up h1 e o) : q_kp h h2 X := fun y oo hy hx => by
  rw [e2, q_up_n (fun z => hx (by rw [z]; exact he))]
  exact a y oo hy hx
theorem q_kp.nw {h h1 h2 : q_H} {X : Nat → Prop} {e : Nat} {o : q_O} (a : q_kp h h1 X) (he : h1 e = none) (e2 : h2 = q_up h1 e o) : q_kp h h2 X := fun y oo hy hx => by
  rw [e2, q_up_n (q_on (a y oo hy hx) he)]
  exact a y oo hy hx
theorem q_kp.no {h h1 : q_H} {X : Nat → Prop} {y : Nat} (a : q_kp h h1 X) (hy : h1 y = none) (hx : ¬ X y) : h y = none := by
  cases e : h y with
  | none => rfl
  | some o => exact absurd (a y o e hx) (by rw [hy]; exact fun z => by cases z)
theorem q_rw.kp {nr : Nat} {len : Nat → Nat} {h h' : q_H} {ra rb : Nat → Nat} {R : Nat → Nat → Int32} {X : Nat → Prop} (hr : q_rw nr len h ra rb R) (hk : q_kp h h' X) (hx : ∀ i, i < nr → ¬ X (ra i) ∧ ¬ X (rb i)) : q_rw nr len h' ra rb R := ⟨fun i hi => ⟨hk _ _ (hr.1 i hi).1 (hx i hi).1, hk _ _ (hr.1 i hi).2 (hx i hi).2⟩, hr.2⟩
theorem q_tree.kp {h h' : q_H} {t : Nat} {ra rb : Nat → Nat} {T : tr_T} {X : Nat → Prop} (ht : q_tree h t ra rb T) (hk : q_kp h h' X) (hA : ∀ y, tr_A t ra rb y → ¬ X y) : q_tree h' t ra rb T := ⟨hk _ _ ht.1 (hA _ (Or.inl rfl)), ht.2.kp hk (fun i hi => ⟨hA _ (Or.inr ⟨i, hi, Or.inl rfl⟩), hA _ (Or.inr ⟨i, hi, Or.inr rfl⟩)⟩)⟩
theorem q_mem.kp {h h' : q_H} {t : Nat} {ra rb : Nat → Nat} {T : m_T} {X : Nat → Prop} (ht : q_mem h t ra rb T) (hk : q_kp h h' X) (hA : ∀ y, m_A t ra rb y → ¬ X y) : q_mem h' t ra rb T := ⟨hk _ _ ht.1 (hA _ (Or.inl rfl)), ht.2.kp hk (fun i hi => ⟨hA _ (Or.inr ⟨i, hi, Or.inl rfl⟩), hA _ (Or.inr ⟨i, hi, Or.inr rfl⟩)⟩)⟩
theorem q_ep.kp {h h' : q_H} {e t pr pb : Nat} {ra rb : Nat → Nat} {E : e_T} {X : Nat → Prop} (he : q_ep h e t pr pb ra rb E) (hk : q_kp h h' X) (hA : ∀ y, ep_A e t pr pb ra rb y → ¬ X y) : q_ep h' e t pr pb ra rb E :=
  ⟨hk _ _ he.1 (hA _ (Or.inl rfl)), he.2.1.kp hk (ep_A.tree hA), hk _ _ he.2.2.1 (hA _ (Or.inr (Or.inr (Or.inl rfl)))), hk _ _ he.2.2.2.1 (hA _ (Or.inr (Or.inr (Or.inr (Or.inl rfl))))), he.2.2.2.2⟩
theorem q_sec.kp {h h' : q_H} {s : Nat} {ra rb : Nat → Nat} {S : s_T} {X : Nat → Prop} (hs : q_sec h s ra rb S) (hk : q_kp h h' X) (hA : ∀ y, s_A s ra rb y → ¬ X y) : q_sec h' s ra rb S :=
  ⟨hk _ _ hs.1 (hA _ (Or.inl rfl)), fun i hi => ⟨hk _ _ (hs.2.1 i hi).1 (hA _ (Or.inr ⟨i, hi, Or.inl rfl⟩)), hk _ _ (hs.2.1 i hi).2 (hA _ (Or.inr ⟨i, hi, Or.inr rfl⟩))⟩, hs.2.2⟩
theorem q_lst.kp {g : q_G} {h h' : q_H} {a : Nat} {ob : Option Nat} {cnt : Nat} {el : Nat → Nat} {X : Nat → Prop} (hl : q_lst g h a ob cnt el) (hk : q_kp h h' X) (ha : ¬ X a) (hb : ∀ b, ob = some b → ¬ X b) : q_lst g h' a ob cnt el := by
  cases ob with
  | none =>
    obtain ⟨h1, mv, h2⟩ := hl
    exact ⟨h1, mv, hk _ _ h2 ha⟩
  | some b =>
    obtain ⟨n, f, mv, h1, h2, h3⟩ := hl
    exact ⟨n, f, mv, hk _ _ h1 ha, hk _ _ h2 (hb b rfl), h3⟩
/-- a new row -/
theorem q_kp.row {h h1 h2 : q_H} {X : Nat → Prop} {r c N : Nat} {f : Nat → Int32} (a : q_kp h h1 X) (hr : h1 r = none) (hc : q_up h1 r (.inl (2, [.null])) c = none) (e : h2 = q_up (q_up (q_up h1 r (.inl (2, [.null]))) r (.inl (2, [.ref c]))) c (.inr (0, N, .inl f))) : h2 r = some (.inl (2, [.ref c])) ∧ h2 c = some (.inr (0, N, .inl f)) ∧ q_kp h1 h2 (fun _ => False) ∧ h1 c = none ∧ q_kp h h2 X := by
  obtain ⟨a1, b1, p1, n1, -, -⟩ := mk_row hr hc e
  exact ⟨a1, b1, fun y o hy _ => p1 y o hy, n1, fun y o hy hx => p1 y o (a y o hy hx)⟩
def E_new (n c : Int32) : e_T := (fun i => if i = 0 then n else if i = 1 then c else if i = 2 then -1 else 0, T_new, r_fill 5 (fun _ => 0) (-1))
def M_new (n : Int32) : m_T := (fun i => if i = 0 then n else if i = 2 then -1 else if i = 3 then -1 else 0, fun i => if i = 0 then r_fill 31 (fun _ => 0) (-1) else r_fill 20 (fun _ => 0) (-1))
set_option maxHeartbeats 4000000 in
theorem c_Ep_init (g : q_G) {h : q_H} {e : Nat} (n k : Int32) (d mc ms : Nat) (hd : 3 ≤ d) (hm : 11 ≤ mc) (hms : 124 ≤ ms) (hs0 : h e = some (.inl (5, [.int 0, .int 0, .null, .null, .int 0, .int 0, .int 0, .int 0, .int 0, .int 0]))) : MG g y_Ep_init b_Ep_init 3 none d mc ms [.ref e, .int n, .int k] h (fun q h' => q = .inl none ∧ ∃ t pr pb ra rb, q_ep h' e t pr pb ra rb (E_new n k) ∧ q_kp h h' (fun y => y = e) ∧ ∀ y, ep_A e t pr pb ra rb y → y = e ∨ h y = none) := by
  refine MG.of (by decide +kernel) (by simp [Value.category]) (Nat.le_of_ble_eq_true rfl) ?_
  intro Z A ok
  refine g_aload_n ok (dk m_Ep_init 0 rfl) (pc' := 1) rfl (i := 0) rfl rfl ?_
  refine g_objInit ok (dk m_Ep_init 1 rfl) (pc' := 4) rfl c_Ep_3 (by simp [Value.category]) (by omega) rfl ?_
  refine g_aload_n ok (dk m_Ep_init 2 rfl) (pc' := 5) rfl (i := 0) rfl rfl ?_
  refine g_new ok (dk m_Ep_init 3 rfl) (pc' := 8) rfl o_Ep_9 (rc' := (mc - 1)) (rs' := (ms - 5)) (by omega) (by omega) (fun t ht0 htb => ?_)
  refine g_dup ok (dk m_Ep_init 4 rfl) (pc' := 9) rfl rfl ?_
  refine g_callIN ok (dk m_Ep_init 5 rfl) (pc' := 12) rfl c_Ep_11 (c_Tr_init g 2 8 113 (by omega) (by omega) (by omega) (q_up_s _ _ _)) rfl rfl (by simp [Value.category]) (by omega) rfl (rc' := (mc - 9)) (rs' := (ms - 118)) (by omega) (by omega) (fun rv h' hcc => ?_) (fun i h' hcc => by obtain ⟨e9, -⟩ := hcc; cases e9)
  obtain ⟨e9, ra, rb, ht1, hmd, hnn, -⟩ := hcc
  cases e9
  have hte : t ≠ e := fun z => by rw [z, hs0] at ht0; cases ht0
  have K1 : q_kp h h' (fun y => y = e) := fun y o hy _ => hmd y o (by rw [q_up_n (q_on hy ht0)]; exact hy) (q_on hy ht0)
  have hA1 : ∀ y, tr_A t ra rb y → h y = none := by
    rintro y (z | ⟨i, hi, z | z⟩)
    · rw [z]; exact ht0
    · rw [z]; exact q_none (hnn i hi).1
    · rw [z]; exact q_none (hnn i hi).2
  have hA2 : ∀ y, tr_A t ra rb y → ¬ (fun y => y = e) y := fun y hy z => by rw [z] at hy; have := hA1 _ hy; rw [hs0] at this; cases this
  have w0_0 : h' e = some (.inl (5, [.int 0, .int 0, .null, .null, .int 0, .int 0, .int 0, .int 0, .int 0, .int 0])) := hmd e _ (by rw [q_up_n hte.symm]; exact hs0) hte.symm
  refine g_put ok (dk m_Ep_init 6 rfl) (pc' := 15) rfl f_Ep_12 (Or.inr rfl) w0_0 (Nat.le_of_ble_eq_true rfl) rfl rfl ?_
  refine g_gen (fun v1_0 e1_0 => ?_)
  have w1_0 : v1_0 e = some (.inl (5, [.int 0, .int 0, .ref t, .null, .int 0, .int 0, .int 0, .int 0, .int 0, .int 0])) := by rw [e1_0, q_up_s]; rfl
  have k1_0 := q_kp.up K1 rfl e1_0
  have ht2 := ht1.kp (q_kp.up (q_kp.rf (X := fun y => y = e)) rfl e1_0) hA2
  clear e1_0
  refine g_aload_n ok (dk m_Ep_init 7 rfl) (pc' := 16) rfl (i := 0) rfl rfl ?_
  refine g_new ok (dk m_Ep_init 8 rfl) (pc' := 19) rfl o_Ep_18 (rc' := (mc - 10)) (rs' := (ms - 119)) (by omega) (by omega) (fun r hr0 hrb => ?_)
  refine g_dup ok (dk m_Ep_init 9 rfl) (pc' := 20) rfl rfl ?_
  refine g_iconst ok (dk m_Ep_init 10 rfl) (pc' := 21) rfl (v := 5) (by decide) ?_
  refine g_iconst ok (dk m_Ep_init 11 rfl) (pc' := 22) rfl (v := (-1)) (by decide) ?_
  refine g_callI ok (dk m_Ep_init 12 rfl) (pc' := 25) rfl c_Ep_20 (c_Row_init g (-1) 1 (by omega) (N := 5) (q_up_s _ _ _) (by decide) (by decide)) rfl rfl (by simp [Value.category]) (by omega) rfl (rc' := (mc - 11)) (rs' := (ms - 124)) (by omega) (by omega) (fun rv h' hcc => ?_) (fun i h' hcc => by obtain ⟨e9, -⟩ := hcc; cases e9)
  obtain ⟨e9, c, hc0, hcb, e2⟩ := hcc
  cases e9
  obtain ⟨A1, B1, P1, n1, K2⟩ := k1_0.row hr0 hc0 e2
  clear e2
  have w2 := P1 _ _ w1_0 (fun z => z)
  have ht3 := ht2.kp P1 (fun _ _ z => z)
  have hre : r ≠ e := fun z => by rw [z, w1_0] at hr0; cases hr0
  have hce : c ≠ e := fun z => by rw [z, w1_0] at n1; cases n1
  have hcr : ∀ i, i < 4 → rb i ≠ c := fun i hi => q_on (ht2.2.1 i hi).2 n1
  have hrn := k1_0.no hr0 hre
  have hcn := k1_0.no n1 hce
  refine g_put ok (dk m_Ep_init 13 rfl) (pc' := 28) rfl f_Ep_23 (Or.inr rfl) w2 (Nat.le_of_ble_eq_true rfl) rfl rfl ?_
  refine g_gen (fun v2_0 e2_0 => ?_)
  have w2_0 : v2_0 e = some (.inl (5, [.int 0, .int 0, .ref t, .ref r, .int 0, .int 0, .int 0, .int 0, .int 0, .int 0])) := by rw [e2_0, q_up_s]; rfl
  have k2_0 := q_kp.up K2 rfl e2_0
  have j0 := q_kp.up (q_kp.rf (X := fun y => y = e)) rfl e2_0
  clear e2_0
  refine g_aload_n ok (dk m_Ep_init 14 rfl) (pc' := 29) rfl (i := 0) rfl rfl ?_
  refine g_iconst ok (dk m_Ep_init 15 rfl) (pc' := 30) rfl (v := (-1)) (by decide) ?_
  refine g_put ok (dk m_Ep_init 16 rfl) (pc' := 33) rfl f_Ep_27 (Or.inr rfl) w2_0 (Nat.le_of_ble_eq_true rfl) rfl rfl ?_
  refine g_gen (fun v2_1 e2_1 => ?_)
  have w2_1 : v2_1 e = some (.inl (5, [.int 0, .int 0, .ref t, .ref r, .int (-1), .int 0, .int 0, .int 0, .int 0, .int 0])) := by rw [e2_1, q_up_s]; rfl
  have k2_1 := q_kp.up k2_0 rfl e2_1
  have j1 := q_kp.up j0 rfl e2_1
  clear e2_1
  refine g_aload_n ok (dk m_Ep_init 17 rfl) (pc' := 34) rfl (i := 0) rfl rfl ?_
  refine g_iconst ok (dk m_Ep_init 18 rfl) (pc' := 35) rfl (v := 0) (by decide) ?_
  refine g_put ok (dk m_Ep_init 19 rfl) (pc' := 38) rfl f_Ep_31 (Or.inr rfl) w2_1 (Nat.le_of_ble_eq_true rfl) rfl rfl ?_
  refine g_gen (fun v2_2 e2_2 => ?_)
  have w2_2 : v2_2 e = some (.inl (5, [.int 0, .int 0, .ref t, .ref r, .int (-1), .int 0, .int 0, .int 0, .int 0, .int 0])) := by rw [e2_2, q_up_s]; rfl
  have k2_2 := q_kp.up k2_1 rfl e2_2
  have j2 := q_kp.up j1 rfl e2_2
  clear e2_2
  refine g_aload_n ok (dk m_Ep_init 20 rfl) (pc' := 39) rfl (i := 0) rfl rfl ?_
  refine g_iconst ok (dk m_Ep_init 21 rfl) (pc' := 40) rfl (v := 0) (by decide) ?_
  refine g_put ok (dk m_Ep_init 22 rfl) (pc' := 43) rfl f_Ep_34 (Or.inr rfl) w2_2 (Nat.le_of_ble_eq_true rfl) rfl rfl ?_
  refine g_gen (fun v2_3 e2_3 => ?_)
  have w2_3 : v2_3 e = some (.inl (5, [.int 0, .int 0, .ref t, .ref r, .int (-1), .int 0, .int 0, .int 0, .int 0, .int 0])) := by rw [e2_3, q_up_s]; rfl
  have k2_3 := q_kp.up k2_2 rfl e2_3
  have j3 := q_kp.up j2 rfl e2_3
  clear e2_3
  refine g_aload_n ok (dk m_Ep_init 23 rfl) (pc' := 44) rfl (i := 0) rfl rfl ?_
  refine g_iconst ok (dk m_Ep_init 24 rfl) (pc' := 45) rfl (v := 0) (by decide) ?_
  refine g_put ok (dk m_Ep_init 25 rfl) (pc' := 48) rfl f_Ep_37 (Or.inr rfl) w2_3 (Nat.le_of_ble_eq_true rfl) rfl rfl ?_
  refine g_gen (fun v2_4 e2_4 => ?_)
  have w2_4 : v2_4 e = some (.inl (5, [.int 0, .int 0, .ref t, .ref r, .int (-1), .int 0, .int 0, .int 0, .int 0, .int 0])) := by rw [e2_4, q_up_s]; rfl
  have k2_4 := q_kp.up k2_3 rfl e2_4
  have j4 := q_kp.up j3 rfl e2_4
  clear e2_4
  refine g_aload_n ok (dk m_Ep_init 26 rfl) (pc' := 49) rfl (i := 0) rfl rfl ?_
  refine g_iconst ok (dk m_Ep_init 27 rfl) (pc' := 50) rfl (v := 0) (by decide) ?_
  refine g_put ok (dk m_Ep_init 28 rfl) (pc' := 53) rfl f_Ep_40 (Or.inr rfl) w2_4 (Nat.le_of_ble_eq_true rfl) rfl rfl ?_
  refine g_gen (fun v2_5 e2_5 => ?_)
  have w2_5 : v2_5 e = some (.inl (5, [.int 0, .int 0, .ref t, .ref r, .int (-1), .int 0, .int 0, .int 0, .int 0, .int 0])) := by rw [e2_5, q_up_s]; rfl
  have k2_5 := q_kp.up k2_4 rfl e2_5
  have j5 := q_kp.up j4 rfl e2_5
  clear e2_5
  refine g_aload_n ok (dk m_Ep_init 29 rfl) (pc' := 54) rfl (i := 0) rfl rfl ?_
  refine g_iconst ok (dk m_Ep_init 30 rfl) (pc' := 55) rfl (v := 0) (by decide) ?_
  refine g_put ok (dk m_Ep_init 31 rfl) (pc' := 58) rfl f_Ep_43 (Or.inr rfl) w2_5 (Nat.le_of_ble_eq_true rfl) rfl rfl ?_
  refine g_gen (fun v2_6 e2_6 => ?_)
  have w2_6 : v2_6 e = some (.inl (5, [.int 0, .int 0, .ref t, .ref r, .int (-1), .int 0, .int 0, .int 0, .int 0, .int 0])) := by rw [e2_6, q_up_s]; rfl
  have k2_6 := q_kp.up k2_5 rfl e2_6
  have j6 := q_kp.up j5 rfl e2_6
  clear e2_6
  refine g_aload_n ok (dk m_Ep_init 32 rfl) (pc' := 59) rfl (i := 0) rfl rfl ?_
  refine g_iload_n ok (dk m_Ep_init 33 rfl) (pc' := 60) rfl (i := 1) rfl rfl ?_
  refine g_put ok (dk m_Ep_init 34 rfl) (pc' := 63) rfl f_Ep_46 (Or.inr rfl) w2_6 (Nat.le_of_ble_eq_true rfl) rfl rfl ?_
  refine g_gen (fun v2_7 e2_7 => ?_)
  have w2_7 : v2_7 e = some (.inl (5, [.int n, .int 0, .ref t, .ref r, .int (-1), .int 0, .int 0, .int 0, .int 0, .int 0])) := by rw [e2_7, q_up_s]; rfl
  have k2_7 := q_kp.up k2_6 rfl e2_7
  have j7 := q_kp.up j6 rfl e2_7
  clear e2_7
  refine g_aload_n ok (dk m_Ep_init 35 rfl) (pc' := 64) rfl (i := 0) rfl rfl ?_
  refine g_iload_n ok (dk m_Ep_init 36 rfl) (pc' := 65) rfl (i := 2) rfl rfl ?_
  refine g_put ok (dk m_Ep_init 37 rfl) (pc' := 68) rfl f_Ep_49 (Or.inr rfl) w2_7 (Nat.le_of_ble_eq_true rfl) rfl rfl ?_
  refine g_gen (fun v2_8 e2_8 => ?_)
  have w2_8 : v2_8 e = some (.inl (5, [.int n, .int k, .ref t, .ref r, .int (-1), .int 0, .int 0, .int 0, .int 0, .int 0])) := by rw [e2_8, q_up_s]; rfl
  have k2_8 := q_kp.up k2_7 rfl e2_8
  have j8 := q_kp.up j7 rfl e2_8
  clear e2_8
  refine g_vret ok (dk m_Ep_init 38 rfl) rfl ⟨rfl, t, r, c, ra, rb, ⟨w2_8, ht3.kp j8 hA2, j8 _ _ A1 hre, j8 _ _ B1 hce, hcr⟩, k2_8, ?_⟩
  rintro y (z | z | z | z | ⟨i, hi, z⟩)
  · exact Or.inl z
  · exact Or.inr (by rw [z]; exact ht0)
  · exact Or.inr (by rw [z]; exact hrn)
  · exact Or.inr (by rw [z]; exact hcn)
  · exact Or.inr (hA1 y (Or.inr ⟨i, hi, z⟩))
set_option maxHeartbeats 4000000 in
theorem c_Mem_init (g : q_G) {h : q_H} {m : Nat} (n : Int32) (d mc ms : Nat) (hd : 2 ≤ d) (hm : 4 ≤ mc) (hms : 53 ≤ ms) (hs0 : h m = some (.inl (4, [.int 0, .null, .null, .int 0, .int 0, .int 0, .int 0, .int 0]))) : MG g y_Mem_init b_Mem_init 2 none d mc ms [.ref m, .int n] h (fun q h' => q = .inl none ∧ ∃ ma mb, q_mem h' m ma mb (M_new n) ∧ q_kp h h' (fun y => y = m) ∧ ∀ y, m_A m ma mb y → y = m ∨ h y = none) := by
  refine MG.of (by decide +kernel) (by simp [Value.category]) (Nat.le_of_ble_eq_true rfl) ?_
  intro Z A ok
  refine g_aload_n ok (dk m_Mem_init 0 rfl) (pc' := 1) rfl (i := 0) rfl rfl ?_
  refine g_objInit ok (dk m_Mem_init 1 rfl) (pc' := 4) rfl c_Mem_3 (by simp [Value.category]) (by omega) rfl ?_
  refine g_aload_n ok (dk m_Mem_init 2 rfl) (pc' := 5) rfl (i := 0) rfl rfl ?_
  refine g_new ok (dk m_Mem_init 3 rfl) (pc' := 8) rfl o_Mem_9 (rc' := (mc - 1)) (rs' := (ms - 1)) (by omega) (by omega) (fun r hr0 hrb => ?_)
  refine g_dup ok (dk m_Mem_init 4 rfl) (pc' := 9) rfl rfl ?_
  refine g_bipush ok (dk m_Mem_init 5 rfl) (pc' := 11) rfl (v := 31) (by decide) ?_
  refine g_iconst ok (dk m_Mem_init 6 rfl) (pc' := 12) rfl (v := (-1)) (by decide) ?_
  refine g_callI ok (dk m_Mem_init 7 rfl) (pc' := 15) rfl c_Mem_11 (c_Row_init g (-1) 1 (by omega) (N := 31) (q_up_s _ _ _) (by decide) (by decide)) rfl rfl (by simp [Value.category]) (by omega) rfl (rc' := (mc - 2)) (rs' := (ms - 32)) (by omega) (by omega) (fun rv h' hcc => ?_) (fun i h' hcc => by obtain ⟨e9, -⟩ := hcc; cases e9)
  obtain ⟨e9, c, hc0, hcb, e2⟩ := hcc
  cases e9
  obtain ⟨A1, B1, P1, n1, K1⟩ := (q_kp.rf (h := h) (X := fun y => y = m)).row hr0 hc0 e2
  clear e2
  have w0_0 := P1 _ _ hs0 (fun z => z)
  have hre : r ≠ m := fun z => by rw [z, hs0] at hr0; cases hr0
  have hce : c ≠ m := fun z => by rw [z, hs0] at n1; cases n1
  refine g_put ok (dk m_Mem_init 8 rfl) (pc' := 18) rfl f_Mem_14 (Or.inr rfl) w0_0 (Nat.le_of_ble_eq_true rfl) rfl rfl ?_
  refine g_gen (fun v1_0 e1_0 => ?_)
  have w1_0 : v1_0 m = some (.inl (4, [.int 0, .ref r, .null, .int 0, .int 0, .int 0, .int 0, .int 0])) := by rw [e1_0, q_up_s]; rfl
  have k1_0 := q_kp.up K1 rfl e1_0
  have i1 := q_kp.up (q_kp.rf (X := fun y => y = m)) rfl e1_0
  have A2 := i1 _ _ A1 hre
  have B2 := i1 _ _ B1 hce
  clear e1_0
  refine g_aload_n ok (dk m_Mem_init 9 rfl) (pc' := 19) rfl (i := 0) rfl rfl ?_
  refine g_new ok (dk m_Mem_init 10 rfl) (pc' := 22) rfl o_Mem_9 (rc' := (mc - 3)) (rs' := (ms - 33)) (by omega) (by omega) (fun r2 hr2 hrb2 => ?_)
  refine g_dup ok (dk m_Mem_init 11 rfl) (pc' := 23) rfl rfl ?_
  refine g_bipush ok (dk m_Mem_init 12 rfl) (pc' := 25) rfl (v := 20) (by decide) ?_
  refine g_iconst ok (dk m_Mem_init 13 rfl) (pc' := 26) rfl (v := (-1)) (by decide) ?_
  refine g_callI ok (dk m_Mem_init 14 rfl) (pc' := 29) rfl c_Mem_11 (c_Row_init g (-1) 1 (by omega) (N := 20) (q_up_s _ _ _) (by decide) (by decide)) rfl rfl (by simp [Value.category]) (by omega) rfl (rc' := (mc - 4)) (rs' := (ms - 53)) (by omega) (by omega) (fun rv h' hcc => ?_) (fun i h' hcc => by obtain ⟨e9, -⟩ := hcc; cases e9)
  obtain ⟨e9, c2, hc2, hcb2, e2⟩ := hcc
  cases e9
  obtain ⟨A3, B3, P2, n2, K2⟩ := k1_0.row hr2 hc2 e2
  clear e2
  have w2 := P2 _ _ w1_0 (fun z => z)
  replace A2 := P2 _ _ A2 (fun z => z)
  have hcc2 : c ≠ c2 := q_on B2 n2
  replace B2 := P2 _ _ B2 (fun z => z)
  have hre2 : r2 ≠ m := fun z => by rw [z, w1_0] at hr2; cases hr2
  have hce2 : c2 ≠ m := fun z => by rw [z, w1_0] at n2; cases n2
  have hrn2 := k1_0.no hr2 hre2
  have hcn2 := k1_0.no n2 hce2
  refine g_put ok (dk m_Mem_init 15 rfl) (pc' := 32) rfl f_Mem_20 (Or.inr rfl) w2 (Nat.le_of_ble_eq_true rfl) rfl rfl ?_
  refine g_gen (fun v2_0 e2_0 => ?_)
  have w2_0 : v2_0 m = some (.inl (4, [.int 0, .ref r, .ref r2, .int 0, .int 0, .int 0, .int 0, .int 0])) := by rw [e2_0, q_up_s]; rfl
  have k2_0 := q_kp.up K2 rfl e2_0
  have j0 := q_kp.up (q_kp.rf (X := fun y => y = m)) rfl e2_0
  clear e2_0
  refine g_aload_n ok (dk m_Mem_init 16 rfl) (pc' := 33) rfl (i := 0) rfl rfl ?_
  refine g_iconst ok (dk m_Mem_init 17 rfl) (pc' := 34) rfl (v := 0) (by decide) ?_
  refine g_put ok (dk m_Mem_init 18 rfl) (pc' := 37) rfl f_Mem_23 (Or.inr rfl) w2_0 (Nat.le_of_ble_eq_true rfl) rfl rfl ?_
  refine g_gen (fun v2_1 e2_1 => ?_)
  have w2_1 : v2_1 m = some (.inl (4, [.int 0, .ref r, .ref r2, .int 0, .int 0, .int 0, .int 0, .int 0])) := by rw [e2_1, q_up_s]; rfl
  have k2_1 := q_kp.up k2_0 rfl e2_1
  have j1 := q_kp.up j0 rfl e2_1
  clear e2_1
  refine g_aload_n ok (dk m_Mem_init 19 rfl) (pc' := 38) rfl (i := 0) rfl rfl ?_
  refine g_iconst ok (dk m_Mem_init 20 rfl) (pc' := 39) rfl (v := (-1)) (by decide) ?_
  refine g_put ok (dk m_Mem_init 21 rfl) (pc' := 42) rfl f_Mem_27 (Or.inr rfl) w2_1 (Nat.le_of_ble_eq_true rfl) rfl rfl ?_
  refine g_gen (fun v2_2 e2_2 => ?_)
  have w2_2 : v2_2 m = some (.inl (4, [.int 0, .ref r, .ref r2, .int 0, .int (-1), .int 0, .int 0, .int 0])) := by rw [e2_2, q_up_s]; rfl
  have k2_2 := q_kp.up k2_1 rfl e2_2
  have j2 := q_kp.up j1 rfl e2_2
  clear e2_2
  refine g_aload_n ok (dk m_Mem_init 22 rfl) (pc' := 43) rfl (i := 0) rfl rfl ?_
  refine g_iconst ok (dk m_Mem_init 23 rfl) (pc' := 44) rfl (v := (-1)) (by decide) ?_
  refine g_put ok (dk m_Mem_init 24 rfl) (pc' := 47) rfl f_Mem_30 (Or.inr rfl) w2_2 (Nat.le_of_ble_eq_true rfl) rfl rfl ?_
  refine g_gen (fun v2_3 e2_3 => ?_)
  have w2_3 : v2_3 m = some (.inl (4, [.int 0, .ref r, .ref r2, .int 0, .int (-1), .int (-1), .int 0, .int 0])) := by rw [e2_3, q_up_s]; rfl
  have k2_3 := q_kp.up k2_2 rfl e2_3
  have j3 := q_kp.up j2 rfl e2_3
  clear e2_3
  refine g_aload_n ok (dk m_Mem_init 25 rfl) (pc' := 48) rfl (i := 0) rfl rfl ?_
  refine g_iconst ok (dk m_Mem_init 26 rfl) (pc' := 49) rfl (v := 0) (by decide) ?_
  refine g_put ok (dk m_Mem_init 27 rfl) (pc' := 52) rfl f_Mem_33 (Or.inr rfl) w2_3 (Nat.le_of_ble_eq_true rfl) rfl rfl ?_
  refine g_gen (fun v2_4 e2_4 => ?_)
  have w2_4 : v2_4 m = some (.inl (4, [.int 0, .ref r, .ref r2, .int 0, .int (-1), .int (-1), .int 0, .int 0])) := by rw [e2_4, q_up_s]; rfl
  have k2_4 := q_kp.up k2_3 rfl e2_4
  have j4 := q_kp.up j3 rfl e2_4
  clear e2_4
  refine g_aload_n ok (dk m_Mem_init 28 rfl) (pc' := 53) rfl (i := 0) rfl rfl ?_
  refine g_iconst ok (dk m_Mem_init 29 rfl) (pc' := 54) rfl (v := 0) (by decide) ?_
  refine g_put ok (dk m_Mem_init 30 rfl) (pc' := 57) rfl f_Mem_37 (Or.inr rfl) w2_4 (Nat.le_of_ble_eq_true rfl) rfl rfl ?_
  refine g_gen (fun v2_5 e2_5 => ?_)
  have w2_5 : v2_5 m = some (.inl (4, [.int 0, .ref r, .ref r2, .int 0, .int (-1), .int (-1), .int 0, .int 0])) := by rw [e2_5, q_up_s]; rfl
  have k2_5 := q_kp.up k2_4 rfl e2_5
  have j5 := q_kp.up j4 rfl e2_5
  clear e2_5
  refine g_aload_n ok (dk m_Mem_init 31 rfl) (pc' := 58) rfl (i := 0) rfl rfl ?_
  refine g_iload_n ok (dk m_Mem_init 32 rfl) (pc' := 59) rfl (i := 1) rfl rfl ?_
  refine g_put ok (dk m_Mem_init 33 rfl) (pc' := 62) rfl f_Mem_40 (Or.inr rfl) w2_5 (Nat.le_of_ble_eq_true rfl) rfl rfl ?_
  refine g_gen (fun v2_6 e2_6 => ?_)
  have w2_6 : v2_6 m = some (.inl (4, [.int n, .ref r, .ref r2, .int 0, .int (-1), .int (-1), .int 0, .int 0])) := by rw [e2_6, q_up_s]; rfl
  have k2_6 := q_kp.up k2_5 rfl e2_6
  have j6 := q_kp.up j5 rfl e2_6
  clear e2_6
  refine g_vret ok (dk m_Mem_init 34 rfl) rfl ⟨rfl, (fun i => if i = 0 then r else r2), (fun i => if i = 0 then c else c2), ⟨w2_6, fun i hi => ?_, fun i j hi hj e => ?_⟩, k2_6, ?_⟩
  · rcases (show i = 0 ∨ i = 1 by omega) with rfl | rfl
    · exact ⟨j6 _ _ A2 hre, j6 _ _ B2 hce⟩
    · exact ⟨j6 _ _ A3 hre2, j6 _ _ B3 hce2⟩
  · rcases (show i = 0 ∨ i = 1 by omega) with rfl | rfl <;> rcases (show j = 0 ∨ j = 1 by omega) with rfl | rfl
    · rfl
    · exact absurd e hcc2
    · exact absurd e.symm hcc2
    · rfl
  · rintro y (z | ⟨i, hi, z⟩)
    · exact Or.inl z
    · rcases (show i = 0 ∨ i = 1 by omega) with rfl | rfl <;> rcases z with z | z
      · exact Or.inr (by rw [z]; exact hr0)
      · exact Or.inr (by rw [z]; exact n1)
      · exact Or.inr (by rw [z]; exact hrn2)
      · exact Or.inr (by rw [z]; exact hcn2)
set_option maxHeartbeats 1000000 in
theorem c_KP_init (g : q_G) {h : q_H} {e : Nat} {m : Nat} (x y : Int32) (d : Nat) (hd : 1 ≤ d) (hs0 : h e = some (.inl (7, [.null, .int 0, .int 0, .int 0, .int 0, .int 0]))) : MG g y_KP_init b_KP_init 4 none d 0 0 [.ref e, .ref m, .int x, .int y] h (fun q h' => q = .inl none ∧ h' e = some (.inl (7, [.ref m, .int x, .int y, .int (-1), .int (-1), .int 0])) ∧ q_kp h h' (fun y => y = e)) := by
  refine MG.of (by decide +kernel) (by simp [Value.category]) (Nat.le_of_ble_eq_true rfl) ?_
  intro Z A ok
  refine g_aload_n ok (dk m_KP_init 0 rfl) (pc' := 1) rfl (i := 0) rfl rfl ?_
  refine g_objInit ok (dk m_KP_init 1 rfl) (pc' := 4) rfl c_KP_3 (by simp [Value.category]) (by omega) rfl ?_
  refine g_aload_n ok (dk m_KP_init 2 rfl) (pc' := 5) rfl (i := 0) rfl rfl ?_
  refine g_iconst ok (dk m_KP_init 3 rfl) (pc' := 6) rfl (v := (-1)) (by decide) ?_
  refine g_put ok (dk m_KP_init 4 rfl) (pc' := 9) rfl f_KP_9 (Or.inr rfl) hs0 (Nat.le_of_ble_eq_true rfl) rfl rfl ?_
  refine g_gen (fun v1_0 e1_0 => ?_)
  have w1_0 : v1_0 e = some (.inl (7, [.null, .int 0, .int 0, .int (-1), .int 0, .int 0])) := by rw [e1_0, q_up_s]; rfl
  have k1_0 := q_kp.up (q_kp.rf (h := h) (X := fun y => y = e)) rfl e1_0
  clear e1_0
  refine g_aload_n ok (dk m_KP_init 5 rfl) (pc' := 10) rfl (i := 0) rfl rfl ?_
  refine g_iconst ok (dk m_KP_init 6 rfl) (pc' := 11) rfl (v := (-1)) (by decide) ?_
  refine g_put ok (dk m_KP_init 7 rfl) (pc' := 14) rfl f_KP_15 (Or.inr rfl) w1_0 (Nat.le_of_ble_eq_true rfl) rfl rfl ?_
  refine g_gen (fun v1_1 e1_1 => ?_)
  have w1_1 : v1_1 e = some (.inl (7, [.null, .int 0, .int 0, .int (-1), .int (-1), .int 0])) := by rw [e1_1, q_up_s]; rfl
  have k1_1 := q_kp.up k1_0 rfl e1_1
  clear e1_1
  refine g_aload_n ok (dk m_KP_init 8 rfl) (pc' := 15) rfl (i := 0) rfl rfl ?_
  refine g_iconst ok (dk m_KP_init 9 rfl) (pc' := 16) rfl (v := 0) (by decide) ?_
  refine g_put ok (dk m_KP_init 10 rfl) (pc' := 19) rfl f_KP_18 (Or.inr rfl) w1_1 (Nat.le_of_ble_eq_true rfl) rfl rfl ?_
  refine g_gen (fun v1_2 e1_2 => ?_)
  have w1_2 : v1_2 e = some (.inl (7, [.null, .int 0, .int 0, .int (-1), .int (-1), .int 0])) := by rw [e1_2, q_up_s]; rfl
  have k1_2 := q_kp.up k1_1 rfl e1_2
  clear e1_2
  refine g_aload_n ok (dk m_KP_init 11 rfl) (pc' := 20) rfl (i := 0) rfl rfl ?_
  refine g_aload_n ok (dk m_KP_init 12 rfl) (pc' := 21) rfl (i := 1) rfl rfl ?_
  refine g_put ok (dk m_KP_init 13 rfl) (pc' := 24) rfl f_KP_22 (Or.inr rfl) w1_2 (Nat.le_of_ble_eq_true rfl) rfl rfl ?_
  refine g_gen (fun v1_3 e1_3 => ?_)
  have w1_3 : v1_3 e = some (.inl (7, [.ref m, .int 0, .int 0, .int (-1), .int (-1), .int 0])) := by rw [e1_3, q_up_s]; rfl
  have k1_3 := q_kp.up k1_2 rfl e1_3
  clear e1_3
  refine g_aload_n ok (dk m_KP_init 14 rfl) (pc' := 25) rfl (i := 0) rfl rfl ?_
  refine g_iload_n ok (dk m_KP_init 15 rfl) (pc' := 26) rfl (i := 2) rfl rfl ?_
  refine g_put ok (dk m_KP_init 16 rfl) (pc' := 29) rfl f_KP_26 (Or.inr rfl) w1_3 (Nat.le_of_ble_eq_true rfl) rfl rfl ?_
  refine g_gen (fun v1_4 e1_4 => ?_)
  have w1_4 : v1_4 e = some (.inl (7, [.ref m, .int x, .int 0, .int (-1), .int (-1), .int 0])) := by rw [e1_4, q_up_s]; rfl
  have k1_4 := q_kp.up k1_3 rfl e1_4
  clear e1_4
  refine g_aload_n ok (dk m_KP_init 17 rfl) (pc' := 30) rfl (i := 0) rfl rfl ?_
  refine g_iload_n ok (dk m_KP_init 18 rfl) (pc' := 31) rfl (i := 3) rfl rfl ?_
  refine g_put ok (dk m_KP_init 19 rfl) (pc' := 34) rfl f_KP_29 (Or.inr rfl) w1_4 (Nat.le_of_ble_eq_true rfl) rfl rfl ?_
  refine g_gen (fun v1_5 e1_5 => ?_)
  have w1_5 : v1_5 e = some (.inl (7, [.ref m, .int x, .int y, .int (-1), .int (-1), .int 0])) := by rw [e1_5, q_up_s]; rfl
  have k1_5 := q_kp.up k1_4 rfl e1_5
  clear e1_5
  exact g_vret ok (dk m_KP_init 20 rfl) rfl ⟨rfl, w1_5, k1_5⟩
set_option maxHeartbeats 1000000 in
theorem c_Ad_init (g : q_G) {h : q_H} {e : Nat} {p : Nat} (d : Nat) (hd : 1 ≤ d) (hs0 : h e = some (.inl (8, [.null]))) : MG g y_Ad_init b_Ad_init 2 none d 0 0 [.ref e, .ref p] h (fun q h' => q = .inl none ∧ h' e = some (.inl (8, [.ref p])) ∧ q_kp h h' (fun y => y = e)) := by
  refine MG.of (by decide +kernel) (by simp [Value.category]) (Nat.le_of_ble_eq_true rfl) ?_
  intro Z A ok
  refine g_aload_n ok (dk m_Ad_init 0 rfl) (pc' := 1) rfl (i := 0) rfl rfl ?_
  refine g_objInit ok (dk m_Ad_init 1 rfl) (pc' := 4) rfl c_Ad_1 (by simp [Value.category]) (by omega) rfl ?_
  refine g_aload_n ok (dk m_Ad_init 2 rfl) (pc' := 5) rfl (i := 0) rfl rfl ?_
  refine g_aload_n ok (dk m_Ad_init 3 rfl) (pc' := 6) rfl (i := 1) rfl rfl ?_
  refine g_put ok (dk m_Ad_init 4 rfl) (pc' := 9) rfl f_Ad_7 (Or.inr rfl) hs0 (Nat.le_of_ble_eq_true rfl) rfl rfl ?_
  refine g_gen (fun v1_0 e1_0 => ?_)
  have w1_0 : v1_0 e = some (.inl (8, [.ref p])) := by rw [e1_0, q_up_s]; rfl
  have k1_0 := q_kp.up (q_kp.rf (h := h) (X := fun y => y = e)) rfl e1_0
  clear e1_0
  exact g_vret ok (dk m_Ad_init 5 rfl) rfl ⟨rfl, w1_0, k1_0⟩
set_option maxHeartbeats 1000000 in
theorem c_Re_init (g : q_G) {h : q_H} {e : Nat} (x : Int32) (d : Nat) (hd : 1 ≤ d) (hs0 : h e = some (.inl (9, [.int 0]))) : MG g y_Re_init b_Re_init 2 none d 0 0 [.ref e, .int x] h (fun q h' => q = .inl none ∧ h' e = some (.inl (9, [.int x])) ∧ q_kp h h' (fun y => y = e)) := by
  refine MG.of (by decide +kernel) (by simp [Value.category]) (Nat.le_of_ble_eq_true rfl) ?_
  intro Z A ok
  refine g_aload_n ok (dk m_Re_init 0 rfl) (pc' := 1) rfl (i := 0) rfl rfl ?_
  refine g_objInit ok (dk m_Re_init 1 rfl) (pc' := 4) rfl c_Re_1 (by simp [Value.category]) (by omega) rfl ?_
  refine g_aload_n ok (dk m_Re_init 2 rfl) (pc' := 5) rfl (i := 0) rfl rfl ?_
  refine g_iload_n ok (dk m_Re_init 3 rfl) (pc' := 6) rfl (i := 1) rfl rfl ?_
  refine g_put ok (dk m_Re_init 4 rfl) (pc' := 9) rfl f_Re_7 (Or.inr rfl) hs0 (Nat.le_of_ble_eq_true rfl) rfl rfl ?_
  refine g_gen (fun v1_0 e1_0 => ?_)
  have w1_0 : v1_0 e = some (.inl (9, [.int x])) := by rw [e1_0, q_up_s]; rfl
  have k1_0 := q_kp.up (q_kp.rf (h := h) (X := fun y => y = e)) rfl e1_0
  clear e1_0
  exact g_vret ok (dk m_Re_init 5 rfl) rfl ⟨rfl, w1_0, k1_0⟩
set_option maxHeartbeats 1000000 in
theorem c_Rn_init (g : q_G) {h : q_H} {e : Nat} (x y : Int32) (d : Nat) (hd : 1 ≤ d) (hs0 : h e = some (.inl (10, [.int 0, .int 0]))) : MG g y_Rn_init b_Rn_init 3 none d 0 0 [.ref e, .int x, .int y] h (fun q h' => q = .inl none ∧ h' e = some (.inl (10, [.int x, .int y])) ∧ q_kp h h' (fun y => y = e)) := by
  refine MG.of (by decide +kernel) (by simp [Value.category]) (Nat.le_of_ble_eq_true rfl) ?_
  intro Z A ok
  refine g_aload_n ok (dk m_Rn_init 0 rfl) (pc' := 1) rfl (i := 0) rfl rfl ?_
  refine g_objInit ok (dk m_Rn_init 1 rfl) (pc' := 4) rfl c_Rn_1 (by simp [Value.category]) (by omega) rfl ?_
  refine g_aload_n ok (dk m_Rn_init 2 rfl) (pc' := 5) rfl (i := 0) rfl rfl ?_
  refine g_iload_n ok (dk m_Rn_init 3 rfl) (pc' := 6) rfl (i := 1) rfl rfl ?_
  refine g_put ok (dk m_Rn_init 4 rfl) (pc' := 9) rfl f_Rn_7 (Or.inr rfl) hs0 (Nat.le_of_ble_eq_true rfl) rfl rfl ?_
  refine g_gen (fun v1_0 e1_0 => ?_)
  have w1_0 : v1_0 e = some (.inl (10, [.int x, .int 0])) := by rw [e1_0, q_up_s]; rfl
  have k1_0 := q_kp.up (q_kp.rf (h := h) (X := fun y => y = e)) rfl e1_0
  clear e1_0
  refine g_aload_n ok (dk m_Rn_init 5 rfl) (pc' := 10) rfl (i := 0) rfl rfl ?_
  refine g_iload_n ok (dk m_Rn_init 6 rfl) (pc' := 11) rfl (i := 2) rfl rfl ?_
  refine g_put ok (dk m_Rn_init 7 rfl) (pc' := 14) rfl f_Rn_13 (Or.inr rfl) w1_0 (Nat.le_of_ble_eq_true rfl) rfl rfl ?_
  refine g_gen (fun v1_1 e1_1 => ?_)
  have w1_1 : v1_1 e = some (.inl (10, [.int x, .int y])) := by rw [e1_1, q_up_s]; rfl
  have k1_1 := q_kp.up k1_0 rfl e1_1
  clear e1_1
  exact g_vret ok (dk m_Rn_init 8 rfl) rfl ⟨rfl, w1_1, k1_1⟩
set_option maxHeartbeats 1000000 in
theorem c_KP_isUsed (g : q_G) {h : q_H} {p : Nat} {v0 : Value} {x1 x2 x3 x4 x5 : Int32} (d : Nat) (hp : h p = some (.inl (7, [v0, .int x1, .int x2, .int x3, .int x4, .int x5]))) : MG g y_KP_isUsed b_KP_isUsed 1 (some .boolean) d 0 0 [.ref p] h (fun q h' => q = .inl (some (.int (b2i (¬ x3 = -1)))) ∧ h' = h) := by
  refine MG.of (by decide +kernel) (by simp [Value.category]) (Nat.le_of_ble_eq_true rfl) ?_
  intro Z A ok
  refine g_aload_n ok (dk m_KP_isUsed 0 rfl) (pc' := 1) rfl (i := 0) rfl rfl ?_
  refine g_get ok (dk m_KP_isUsed 1 rfl) (pc' := 4) rfl f_KP_9 hp rfl ?_
  refine g_iconst ok (dk m_KP_isUsed 2 rfl) (pc' := 5) rfl (v := (-1)) (by decide) ?_
  refine g_icmp_eq ok (dk m_KP_isUsed 3 rfl) (tgt := 12) (by decide) (pc' := 8) rfl (fun c_5 => ?_) (fun c_5 => ?_)
  · refine g_iconst ok (dk m_KP_isUsed 6 rfl) (pc' := 13) rfl (v := 0) (by decide) ?_
    exact g_iret ok (dk m_KP_isUsed 7 rfl) rfl rfl ⟨by rw [b2i_f (p := ¬ x3 = -1) (fun z => z c_5)], rfl⟩
  · refine g_iconst ok (dk m_KP_isUsed 4 rfl) (pc' := 9) rfl (v := 1) (by decide) ?_
    refine g_goto ok (dk m_KP_isUsed 5 rfl) (pc' := 13) (by decide) ?_
    exact g_iret ok (dk m_KP_isUsed 7 rfl) rfl rfl ⟨by rw [b2i_t (p := ¬ x3 = -1) c_5], rfl⟩
set_option maxHeartbeats 1000000 in
theorem c_AL_clearS (g : q_G) {h : q_H} {a b cnt n : Nat} {f : Nat → Option Nat} {mv : Int32} {el : Nat → Nat} (d : Nat) (ha : h a = some (.inl (3, [.ref b, .int (nI cnt), .int mv]))) (hb : h b = some (q_ra n f)) (hcn : cnt ≤ n) (h10 : 10 ≤ n) (h15 : n ≤ 150) : MG g y_AL_clear b_AL_clear 4 none d 0 0 [.ref a] h (fun q h' => q = .inl none ∧ q_lst g h' a (some b) 0 el ∧ q_kp h h' (fun y => y = a ∨ y = b)) := by
  refine MG.of (by decide +kernel) (by simp [Value.category]) (Nat.le_of_ble_eq_true rfl) ?_
  intro Z A ok
  have loop : ∀ (j k : Nat), k + j = cnt → ∀ (h1 : q_H) (f1 : Nat → Option Nat), h1 a = some (.inl (3, [.ref b, .int (nI 0), .int (mv + 1)])) → h1 b = some (q_ra n f1) → q_kp h h1 (fun y => y = a ∨ y = b) → GW g Z A (fun q h' => q = .inl none ∧ q_lst g h' a (some b) 0 el ∧ q_kp h h' (fun y => y = a ∨ y = b)) 0 0 h1 27 [some (.ref a), some (.ref b), some (.int (nI cnt)), some (.int (nI k))] [] := by
    intro j
    induction j with
    | zero =>
      intro k hk h1 f1 ha1 hb1 hk1
      refine g_iload_n ok (dk m_AL_clear 17 rfl) (pc' := 28) rfl (i := 3) rfl rfl ?_
      refine g_iload_n ok (dk m_AL_clear 18 rfl) (pc' := 29) rfl (i := 2) rfl rfl ?_
      refine g_icmp_ge ok (dk m_AL_clear 19 rfl) (tgt := 42) (by decide) (pc' := 32) rfl (fun c_29 => ?_) (fun c_29 => absurd (show nI cnt ≤ nI k from by rw [show k = cnt by omega]; exact Int32.le_refl _) c_29)
      exact g_vret ok (dk m_AL_clear 26 rfl) rfl ⟨rfl, ⟨n, f1, _, ha1, hb1, Nat.zero_le _, h10, h15, fun i hi => absurd hi (Nat.not_lt_zero _)⟩, hk1⟩
    | succ j ih =>
      intro k hk h1 f1 ha1 hb1 hk1
      have hk2 : k < cnt := by omega
      refine g_iload_n ok (dk m_AL_clear 17 rfl) (pc' := 28) rfl (i := 3) rfl rfl ?_
      refine g_iload_n ok (dk m_AL_clear 18 rfl) (pc' := 29) rfl (i := 2) rfl rfl ?_
      refine g_icmp_ge ok (dk m_AL_clear 19 rfl) (tgt := 42) (by decide) (pc' := 32) rfl (fun c_29 => absurd c_29 (nI_ge hk2 (by omega))) (fun c_29 => ?_)
      refine g_aload_n ok (dk m_AL_clear 20 rfl) (pc' := 33) rfl (i := 1) rfl rfl ?_
      refine g_iload_n ok (dk m_AL_clear 21 rfl) (pc' := 34) rfl (i := 3) rfl rfl ?_
      refine g_null ok (dk m_AL_clear 22 rfl) (pc' := 35) rfl ?_
      refine g_aastN ok (dk m_AL_clear 23 rfl) (pc' := 36) rfl hb1 (show k < n by omega) (by omega) ?_
      refine g_gen (fun h2 e2 => ?_)
      have hb2 : h2 b = some (q_ra n (va_up f1 k none)) := by rw [e2, q_up_s]
      have ha2 : h2 a = some (.inl (3, [.ref b, .int (nI 0), .int (mv + 1)])) := (by rw [e2, q_up_n (q_oa ha1 hb1)]; exact ha1)
      have hk3 := q_kp.up hk1 (Or.inr rfl) e2
      clear e2
      refine g_iinc ok (dk m_AL_clear 24 rfl) (pc' := 39) rfl rfl (nI_1 k) rfl ?_
      refine g_goto ok (dk m_AL_clear 25 rfl) (pc' := 27) (by decide) ?_
      exact ih (k + 1) (by omega) _ _ ha2 hb2 hk3
  refine g_aload_n ok (dk m_AL_clear 0 rfl) (pc' := 1) rfl (i := 0) rfl rfl ?_
  refine g_dup ok (dk m_AL_clear 1 rfl) (pc' := 2) rfl rfl ?_
  refine g_get ok (dk m_AL_clear 2 rfl) (pc' := 5) rfl f_AL_63 ha rfl ?_
  refine g_iconst ok (dk m_AL_clear 3 rfl) (pc' := 6) rfl (v := 1) (by decide) ?_
  refine g_iadd ok (dk m_AL_clear 4 rfl) (pc' := 7) rfl ?_
  refine g_put ok (dk m_AL_clear 5 rfl) (pc' := 10) rfl f_AL_63 (Or.inl rfl) ha (Nat.le_of_ble_eq_true rfl) rfl rfl ?_
  refine g_gen (fun h1 e1 => ?_)
  have ha1 : h1 a = some (.inl (3, [.ref b, .int (nI cnt), .int (mv + 1)])) := by rw [e1, q_up_s]; rfl
  have hb1 : h1 b = some (q_ra n f) := by rw [e1, q_up_n (q_oa ha hb).symm]; exact hb
  have k1 := q_kp.up (q_kp.rf (h := h) (X := fun y => y = a ∨ y = b)) (Or.inl rfl) e1
  clear e1
  refine g_aload_n ok (dk m_AL_clear 6 rfl) (pc' := 11) rfl (i := 0) rfl rfl ?_
  refine g_get ok (dk m_AL_clear 7 rfl) (pc' := 14) rfl f_AL_9 ha1 rfl ?_
  refine g_astore_n ok (dk m_AL_clear 8 rfl) (pc' := 15) rfl (i := 1) rfl (Nat.le_of_ble_eq_true rfl) rfl ?_
  refine g_aload_n ok (dk m_AL_clear 9 rfl) (pc' := 16) rfl (i := 0) rfl rfl ?_
  refine g_get ok (dk m_AL_clear 10 rfl) (pc' := 19) rfl f_AL_48 ha1 rfl ?_
  refine g_istore_n ok (dk m_AL_clear 11 rfl) (pc' := 20) rfl (i := 2) rfl (Nat.le_of_ble_eq_true rfl) rfl ?_
  refine g_aload_n ok (dk m_AL_clear 12 rfl) (pc' := 21) rfl (i := 0) rfl rfl ?_
  refine g_iconst ok (dk m_AL_clear 13 rfl) (pc' := 22) rfl (v := 0) (by decide) ?_
  refine g_dup_x1 ok (dk m_AL_clear 14 rfl) (pc' := 23) rfl rfl rfl ?_
  refine g_put ok (dk m_AL_clear 15 rfl) (pc' := 26) rfl f_AL_48 (Or.inl rfl) ha1 (Nat.le_of_ble_eq_true rfl) rfl rfl ?_
  refine g_gen (fun h2 e2 => ?_)
  have ha2 : h2 a = some (.inl (3, [.ref b, .int (nI 0), .int (mv + 1)])) := by rw [e2, q_up_s]; rfl
  have hb2 : h2 b = some (q_ra n f) := by rw [e2, q_up_n (q_oa ha1 hb1).symm]; exact hb1
  have k2 := q_kp.up k1 (Or.inl rfl) e2
  clear e2
  refine g_istore_n ok (dk m_AL_clear 16 rfl) (pc' := 27) rfl (i := 3) rfl (Nat.le_of_ble_eq_true rfl) rfl ?_
  exact loop cnt 0 (by omega) _ _ ha2 hb2 k2
