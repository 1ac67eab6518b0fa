/-! ===== rows that read and write the view ===== -/
theorem q_HR.set {g : q_G} {h : q_H} {H H' : Heap} {a : Nat} {o o' : q_O} (hH : q_HR g h H) (ha : h a = some o) (hz : H'.size = H.size) (ho : ∀ q : Nat, q ≠ a → H'[q]? = H[q]?) (h1 : va_at g.1 q_cl (a, q_E g o') H') : q_HR g (q_up h a o') H' := by
  obtain ⟨h1b, h2b, h3b⟩ := hH
  have hba := (h3b a o ha).1
  refine ⟨by rw [hz]; exact h1b, fun q hq => ?_, fun b x hb => ?_⟩
  · rw [ho q (fun e => by omega)]
    exact h2b q hq
  · by_cases e : b = a
    · subst e
      rw [q_up_s] at hb
      cases hb
      exact ⟨hba, h1⟩
    · rw [q_up_n e] at hb
      obtain ⟨u1, u2⟩ := h3b b x hb
      exact ⟨u1, u2.kept (ho b e)⟩
theorem q_HR.push {g : q_G} {h : q_H} {H H' : Heap} {o : q_O} (hH : q_HR g h H) (ho : ∀ q : Nat, q < H.size → H'[q]? = H[q]?) (hz : H'.size = H.size + 1) (h1 : va_at g.1 q_cl (H.size, q_E g o) H') : q_HR g (q_up h H.size o) H' := by
  obtain ⟨h1b, h2b, h3b⟩ := hH
  refine ⟨by omega, fun q hq => ?_, fun b x hb => ?_⟩
  · rw [ho q (by omega)]
    exact h2b q hq
  · by_cases e : b = H.size
    · subst e
      rw [q_up_s] at hb
      cases hb
      exact ⟨h1b, h1⟩
    · rw [q_up_n e] at hb
      obtain ⟨u1, u2⟩ := h3b b x hb
      exact ⟨u1, u2.kept (ho b u2.lt)⟩
theorem q_HR.fresh {g : q_G} {h : q_H} {H : Heap} (hH : q_HR g h H) : h H.size = none := by
  cases e : h H.size with
  | none => rfl
  | some o => exact absurd (hH.2.2 _ _ e).2.lt (Nat.lt_irrefl _)
theorem q_HR.one {g : q_G} {h : q_H} {H : Heap} {a : Nat} {o : q_O} (hH : q_HR g h H) (ha : h a = some o) : va_P g.1 q_cl [(a, q_E g o)] H := by
  intro k q hq
  have hz : k < 1 := (List.getElem?_eq_some_iff.mp hq).1
  rw [show k = 0 by omega] at hq
  cases hq
  exact (hH.2.2 a o ha).2
theorem q_S.put {A : Nat → Prop} {H0 H H1 : Heap} {locs : List Loc} {a k : Nat} (h : va_S A H0 H locs) (z : H1.size = H.size) (oq : ∀ q : Nat, q ≠ a → H1[q]? = H[q]?) (ha : A a) : va_S A H0 H1 (locs ++ [⟨a, k⟩]) := va_S.put h z oq ha
theorem q_S.push {A : Nat → Prop} {H0 H H1 : Heap} {locs : List Loc} (hS : va_S A H0 H locs) (o1 : ∀ q : Nat, q < H.size → H1[q]? = H[q]?) (z : H1.size = H.size + 1) : va_S A H0 H1 locs := ⟨Nat.le_trans hS.1 (by omega), fun x h1 h2 => (o1 x (Nat.lt_of_lt_of_le h1 hS.1)).trans (hS.2.1 x h1 h2), hS.2.2⟩
theorem q_dom_up {A : Nat → Prop} {h : q_H} {a : Nat} {o : q_O} (hD : ∀ (b : Nat) (x : q_O), h b = some x → A b) (ha : A a) : ∀ (b : Nat) (x : q_O), q_up h a o b = some x → A b := by
  intro b x hb
  by_cases e : b = a
  · rw [e]; exact ha
  · rw [q_up_n e] at hb; exact hD b x hb
/-- the entry 'index' of own names field k of class ci: its type t, final or not -/
def q_FL (own : String) (index ci k : Nat) (t : FieldType) (fin : Bool) : Prop := ∃ (C : String) (T : u_T) (N : Nat) (ref : String) (ty : Nat → FieldType), q_cl[ci]? = some (C, T, N) ∧ (∀ w ∈ u_ws C T N, w ∈ q_T) ∧ k < N ∧ Cond.fieldLink own index ref (T k).2.1 (T k).2.2.1 ∈ q_T ∧ (ref = (T k).1 ∨ Cond.sameField ref (T k).1 (T k).2.1 (T k).2.2.1 ∈ q_T) ∧ (∀ k, k < N → parseFieldDescriptor (T k).2.2.1 = some (ty k)) ∧ (∀ a, a < N → ∀ b, b < N → a ≠ b → (T a).2.1 ≠ (T b).2.1) ∧ parseFieldDescriptor (T k).2.2.1 = some t ∧ (T k).2.2.2 = fin ∧ (fin = true → (T k).1 = own)
/-- the entry 'index' of own names class ci, which has N fields, fs when it is new -/
def q_NL (own : String) (index ci N : Nat) (fs : List Value) : Prop := ∃ (C : String) (T : u_T) (ty : Nat → FieldType), q_cl[ci]? = some (C, T, N) ∧ (∀ w ∈ u_ws C T N, w ∈ q_T) ∧ Cond.classLink own index C ∈ q_T ∧ Cond.instantiable C N ∈ q_T ∧ Cond.initialized C ∈ q_T ∧ (∀ k, k < N → parseFieldDescriptor (T k).2.2.1 = some (ty k)) ∧ (∀ j, j < N → defaultValue (ty j) = vp_V fs j)
section GWH
variable {g : q_G} {Z : q_Z} {A : Nat → Prop} {post : q_R → q_H → Prop} {rc rs : Nat} {h : q_H} {pc pc' : Nat} {ls : List (Option Value)} {st : List Value} {own name : String} {cc : ByteArray} {nL d : Nat} {ret : Option FieldType}
theorem g_get (ok : q_ok g Z A own name cc nL ret d) {index ci k a : Nat} {t : FieldType} {fin : Bool} {fs : List Value} {v : Value} (hd : decode cc pc = .ok (.getfield index, 3)) (hp : pc + 3 = pc') (hf : q_FL own index ci k t fin) (ha : h a = some (.inl (ci, fs))) (hv : fs[k]? = some v) (kk : GW g Z A post rc rs h pc' ls (v :: st)) : GW g Z A post rc rs h pc ls (.ref a :: st) := by
  obtain ⟨hx, hb, hml, hown, hts, hK, -⟩ := ok
  obtain ⟨C, T, N, ref, ty, hc, hin, hk, hw, hsm, -⟩ := hf
  subst hp
  intro H locs la n k' hH hD hS hL hn hk'
  refine va_get hx hb hts hin hown hK.1 (hH.one ha) 0 rfl hc k hk (hts _ hw) ?_ hv hd (kk H locs la n k' hH hD hS hL hn hk')
  intro x hx'
  rcases hsm with e | e
  · rw [e]; exact hx'
  · exact u_same (hts _ e) x hx'
theorem g_put (ok : q_ok g Z A own name cc nL ret d) {index ci k a : Nat} {t : FieldType} {fin : Bool} {fs : List Value} {v : Value} (hd : decode cc pc = .ok (.putfield index, 3)) (hp : pc + 3 = pc') (hf : q_FL own index ci k t fin) (hfn : fin = false ∨ name = "<init>") (ha : h a = some (.inl (ci, fs))) (hl : k < fs.length) (hnr : narrow t v = v) (hfit : fits t v = true) (kk : GW g Z A post rc rs (q_up h a (.inl (ci, fs.set k v))) pc' ls st) : GW g Z A post rc rs h pc ls (v :: .ref a :: st) := by
  obtain ⟨hx, hb, hml, hown, hts, hK, -, -, -, hnm, -⟩ := ok
  obtain ⟨C, T, N, ref, ty0, hc, hin, hk, hw, hsm, hty, hap0, hdt, hfin, hdecl⟩ := hf
  subst hp
  intro H locs la n k' hH hD hS hL hn hk'
  have hsame : ∀ x, (zs Z).fieldFound? (T k).1 (T k).2.1 (T k).2.2.1 = some x → (zs Z).fieldFound? ref (T k).2.1 (T k).2.2.1 = some x := by
    intro x hx'
    rcases hsm with e | e
    · rw [e]; exact hx'
    · exact u_same (hts _ e) x hx'
  have hap := va_apart (own := own) hts hin ty0 hty hap0 hK.1 hc
  obtain ⟨r, h1, cell, q1, q2, q3, q4⟩ := (hH.2.2 a _ ha).2
  have hr : r = (C, T, N) := Option.some.inj (h1.symm.trans hc)
  subst hr
  obtain ⟨hSl, hfc, kC, hkC, hkind⟩ := hK.1.1 ci _ hc
  obtain ⟨cf, kf, fi, f, hi, hsl⟩ := hSl k hk
  have hlay := hts _ (hin _ (u_in_lay hk))
  have hst := (u_facts hfc hkC (u_lays hts hin hk) hi).1
  have done : ∀ H' : Heap, H'[a]? = some (cell.setSlot f.slot v) → H'.size = H.size → (∀ q : Nat, q ≠ a → H'[q]? = H[q]?) → W (zp Z) (zl Z) (ze Z) (zR Z) (zs Z) (zm Z) (za Z) (zb Z) (zM Z) (zc Z) H' (locs ++ [⟨a, f.slot⟩]) n k' (q_Q g Z A post) (F0 (zm Z) (pc + 3) la st) := by
    intro H' e1 e2 e3
    rw [hsl] at e1
    refine kk H' _ la n k' (hH.set ha e2 e3 ?_) (q_dom_up hD (hD a _ ha)) (hS.put e2 e3 (hD a _ ha)) hL hn hk'
    exact ⟨_, hc, t_OB.to (V := updV (vp_V fs) k v) ⟨_, e1, q2, q3, t_set q4 hap hk v⟩ (fun j _ => vp_updV_set hl v j)⟩
  unfold u_lay at hlay
  cases hfe : fin with
  | false =>
    rw [if_neg (by rw [hfin, hfe]; decide)] at hlay
    have h6 := u_store hfc hkC hkind hlay hi hdt hnr hfit
    exact W.putK hx hb (f := f) ⟨hown, hts _ hw, ⟨_, _, _, hsame _ hi⟩, hst⟩ (by rw [q2]; exact h6) q1 q3 (by rw [hsl]; exact k2_hasslot (q4 k hk)) rfl rfl hd done
  | true =>
    rw [if_pos (by rw [hfin, hfe])] at hlay
    have hin2 : (zM Z).name = "<init>" := by
      rcases hfn with e | e
      · rw [hfe] at e; cases e
      · rw [hnm, e]
    have hcf : (zm Z).cls = cf := by
      obtain ⟨_, _, c', _, _, _, -, -, hf', -, -, -, hown2, -⟩ := Cond.laysFinal_spec hlay
      have e1 : c' = cf := by have := hi.symm.trans hf'; simp at this; exact this.1.symm
      rw [hdecl hfe] at hown2
      rw [← e1]; exact Option.some.inj (hown.symm.trans hown2)
    have h6 := u_fits hfc hkC hkind (Or.inr hlay) hi hdt hnr hfit
    exact W.putFinK hx hb hown (hts _ hw) (hsame _ hi) hst hcf hin2 (by rw [q2]; exact h6) q1 q3 (by rw [hsl]; exact k2_hasslot (q4 k hk)) rfl rfl hd done
theorem g_iald (ok : q_ok g Z A own name cc nL ret d) {a N j : Nat} {f : Nat → Int32} (hd : decode cc pc = .ok (.iaload, 1)) (hp : pc + 1 = pc') (ha : h a = some (.inr (0, N, .inl f))) (hj : j < N) (hN : N < 2 ^ 31) (kk : GW g Z A post rc rs h pc' ls (.int (f j) :: st)) : GW g Z A post rc rs h pc ls (.int (nI j) :: .ref a :: st) := by
  obtain ⟨hx, hb, hml, hown, hts, hK, -⟩ := ok
  subst hp
  intro H locs la n k hH hD hS hL hn hk
  refine va_iald hx hb hK.1 (hH.one ha) 0 0 rfl rfl (vp_in_nI hj hN) hd ?_
  rw [nI_clamp (by omega)]
  exact kk H locs la n k hH hD hS hL hn hk
theorem g_zald (ok : q_ok g Z A own name cc nL ret d) {a N j : Nat} {f : Nat → Int32} (hd : decode cc pc = .ok (.baload, 1)) (hp : pc + 1 = pc') (ha : h a = some (.inr (1, N, .inl f))) (hj : j < N) (hN : N < 2 ^ 31) (kk : GW g Z A post rc rs h pc' ls (.int (f j) :: st)) : GW g Z A post rc rs h pc ls (.int (nI j) :: .ref a :: st) := by
  obtain ⟨hx, hb, hml, hown, hts, hK, -⟩ := ok
  subst hp
  intro H locs la n k hH hD hS hL hn hk
  refine va_zald hx hb hK.1 (hH.one ha) 0 1 rfl rfl (vp_in_nI hj hN) hd ?_
  rw [nI_clamp (by omega)]
  exact kk H locs la n k hH hD hS hL hn hk
theorem g_aald (ok : q_ok g Z A own name cc nL ret d) {a N j : Nat} {f : Nat → Option Nat} (hd : decode cc pc = .ok (.aaload, 1)) (hp : pc + 1 = pc') (ha : h a = some (.inr (2, N, .inr (.inr (.inr (.inr f)))))) (hj : j < N) (hN : N < 2 ^ 31) (kk : GW g Z A post rc rs h pc' ls (va_rf (f j) :: st)) : GW g Z A post rc rs h pc ls (.int (nI j) :: .ref a :: st) := by
  obtain ⟨hx, hb, hml, hown, hts, hK, -⟩ := ok
  subst hp
  intro H locs la n k hH hD hS hL hn hk
  refine va_aldq hx hb hK.1 (hH.one ha) 0 2 (C := "java/lang/Object") rfl rfl (vp_in_nI hj hN) hd ?_
  rw [nI_clamp (by omega)]
  exact kk H locs la n k hH hD hS hL hn hk
theorem g_alen (ok : q_ok g Z A own name cc nL ret d) {a i : Nat} {x : vp_A} {ty : FieldType} (hd : decode cc pc = .ok (.arraylength, 1)) (hp : pc + 1 = pc') (ha : h a = some (.inr (i, x))) (hi : (q_tys g)[i]? = some (q_dA g i, ty)) (kk : GW g Z A post rc rs h pc' ls (.int (nI x.1) :: st)) : GW g Z A post rc rs h pc ls (.ref a :: st) := by
  obtain ⟨hx, hb, hml, hown, hts, hK, -⟩ := ok
  subst hp
  intro H locs la n k hH hD hS hL hn hk
  exact va_alen hx hb hK.1 (hH.one ha) 0 i rfl hi rfl hd (kk H locs la n k hH hD hS hL hn hk)
theorem g_iast (ok : q_ok g Z A own name cc nL ret d) {a N j : Nat} {f : Nat → Int32} {x : Int32} (hd : decode cc pc = .ok (.iastore, 1)) (hp : pc + 1 = pc') (ha : h a = some (.inr (0, N, .inl f))) (hj : j < N) (hN : N < 2 ^ 31) (kk : GW g Z A post rc rs (q_up h a (.inr (0, N, .inl (upd f j x)))) pc' ls st) : GW g Z A post rc rs h pc ls (.int x :: .int (nI j) :: .ref a :: st) := by
  obtain ⟨hx, hb, hml, hown, hts, hK, -⟩ := ok
  subst hp
  intro H locs la n k hH hD hS hL hn hk
  refine W.iast hx hb ((hH.2.2 a _ ha).2) ((hK.1.2 0 _ rfl).1 N (fun j => .int (f j))) (fun q => by cases q) (by show ¬ (nI j < 0 ∨ (arrV _ _ _).slots.size ≤ _); rw [arrV_size]; exact vp_in_nI hj hN) rfl rfl hd fun H1 e z oq => ?_
  refine kk H1 _ la n k (hH.set ha z oq ?_) (q_dom_up hD (hD a _ ha)) (hS.put z oq (hD a _ ha)) hL hn hk
  show H1[a]? = some (vp_cell _ _)
  rw [e, nI_clamp (by omega)]
  show some ((vp_cell _ _).setSlot _ _) = _
  rw [vp_cell_i, vp_cell_i, arrV_store]
  congr 2
  funext q
  by_cases hq : q = j
  · subst hq
    simp [updV, upd]
  · simp [updV, upd, hq]
theorem g_zast (ok : q_ok g Z A own name cc nL ret d) {a N j : Nat} {f : Nat → Int32} {x : Int32} (hd : decode cc pc = .ok (.bastore, 1)) (hp : pc + 1 = pc') (ha : h a = some (.inr (1, N, .inl f))) (hj : j < N) (hN : N < 2 ^ 31) (hx01 : narrow .boolean (.int x) = .int x) (kk : GW g Z A post rc rs (q_up h a (.inr (1, N, .inl (upd f j x)))) pc' ls st) : GW g Z A post rc rs h pc ls (.int x :: .int (nI j) :: .ref a :: st) := by
  obtain ⟨hx, hb, hml, hown, hts, hK, -⟩ := ok
  subst hp
  intro H locs la n k hH hD hS hL hn hk
  refine W.zast hx hb ((hH.2.2 a _ ha).2) ((hK.1.2 1 _ rfl).1 N (fun j => .int (f j))) (fun q => by cases q) (by show ¬ (nI j < 0 ∨ (arrV _ _ _).slots.size ≤ _); rw [arrV_size]; exact vp_in_nI hj hN) rfl rfl hd fun H1 e z oq => ?_
  refine kk H1 _ la n k (hH.set ha z oq ?_) (q_dom_up hD (hD a _ ha)) (hS.put z oq (hD a _ ha)) hL hn hk
  show H1[a]? = some (vp_cell _ _)
  rw [e, nI_clamp (by omega), hx01]
  show some ((vp_cell _ _).setSlot _ _) = _
  rw [vp_cell_i, vp_cell_i, arrV_store]
  congr 2
  funext q
  by_cases hq : q = j
  · subst hq
    simp [updV, upd]
  · simp [updV, upd, hq]
theorem g_new (ok : q_ok g Z A own name cc nL ret d) {index ci N : Nat} {fs : List Value} (hd : decode cc pc = .ok (.new index, 3)) (hp : pc + 3 = pc') (hf : q_NL own index ci N fs) {rc' rs' : Nat} (hc1 : rc' + 1 ≤ rc) (hs1 : rs' + N ≤ rs) (kk : ∀ q : Nat, h q = none → q_bs g ≤ q → GW g Z A post rc' rs' (q_up h q (.inl (ci, fs))) pc' ls (.ref q :: st)) : GW g Z A post rc rs h pc ls st := by
  obtain ⟨hx, hb, hml, hown, hts, hK, hA, -⟩ := ok
  obtain ⟨C, T, ty, hc, hin, hcl, hinst, hini, hty, hfs⟩ := hf
  subst hp
  intro H locs la n k hH hD hS hL hn hk
  have hKn := hK.1.1 ci _ hc
  refine W.newcK hx hb hown (hts _ hcl) (hts _ hinst) (hts _ hini) rfl hd (by omega) (by omega) hKn.2.1 rfl fun H1 kC hkC e1 z1 o1 => ?_
  refine kk H.size hH.fresh hH.1 H1 locs la (n + 1) (k + N) (hH.push o1 z1 ?_) (q_dom_up hD (hA _ hS.1)) (q_S.push hS o1 z1) hL (by omega) (by omega)
  exact ⟨_, hc, (u_born ty hts hin hKn hkC e1 hty).to hfs⟩
theorem g_newa (ok : q_ok g Z A own name cc nL ret d) {at' : ArrayType} {i N : Nat} {ty : FieldType} (hd : decode cc pc = .ok (.newarray at', 2)) (hp : pc + 2 = pc') (hty : newarray.typeOf at' = ty) (hi : (i = 0 ∧ ty = .int) ∨ (i = 1 ∧ ty = .boolean)) (hN : N * 4 ≤ 536870912) {rc' rs' : Nat} (hc1 : rc' + 1 ≤ rc) (hs1 : rs' + N ≤ rs) (kk : ∀ q : Nat, h q = none → q_bs g ≤ q → GW g Z A post rc' rs' (q_up h q (.inr (i, N, .inl (fun _ => 0)))) pc' ls (.ref q :: st)) : GW g Z A post rc rs h pc ls (.int (nI N) :: st) := by
  obtain ⟨hx, hb, hml, hown, hts, hK, hA, -⟩ := ok
  subst hp
  subst hty
  intro H locs la n k hH hD hS hL hn hk
  have hw : Cond.arrayClass (newarray.typeOf at') ∈ q_T := by
    rcases hi with ⟨-, e⟩ | ⟨-, e⟩
    · rw [e]; exact q_T_in 54 (by decide +kernel) rfl
    · rw [e]; exact q_T_in 1051 (by decide +kernel) rfl
  have hcb : N * componentBytes (newarray.typeOf at') ≤ 536870912 := by
    rcases hi with ⟨-, e⟩ | ⟨-, e⟩
    · rw [e]; exact hN
    · rw [e]; show N * 1 ≤ _; omega
  refine va_newaK hx hb (hts _ hw) rfl hd rfl (nI_pos (by omega)) (nI_clamp (by omega)) hcb (by omega) (by omega) rfl fun H1 cA e1 z1 o1 hAr hNm => ?_
  refine kk H.size hH.fresh hH.1 H1 locs la (n + 1) (k + N) (hH.push o1 z1 ?_) (q_dom_up hD (hA _ hS.1)) (q_S.push hS o1 z1) hL (by omega) (by omega)
  have hcA : cA = q_dA g i := by
    rcases hi with ⟨rfl, e⟩ | ⟨rfl, e⟩
    · have h1 := (hK.1.2 0 _ rfl).2
      rw [e] at hNm
      exact Option.some.inj (hNm.symm.trans h1)
    · have h1 := (hK.1.2 1 _ rfl).2
      rw [e] at hNm
      exact Option.some.inj (hNm.symm.trans h1)
  subst hcA
  show H1[H.size]? = some (vp_cell _ _)
  rw [vp_cell_i, e1]
  rcases hi with ⟨rfl, e⟩ | ⟨rfl, e⟩ <;> rw [e] <;> rfl
end GWH
