/-! ===== casts, reference arrays, the library's constants and natives ===== -/
theorem q_recv {g : q_G} {U : State} {h : q_H} {H : Heap} {a ci : Nat} {fs : List Value} {C : String} {T : u_T} {N : Nat} (hK : q_K g U) (hH : q_HR g h H) (hci : q_cl[ci]? = some (C, T, N)) (ha : h a = some (.inl (ci, fs))) : ∃ cell : Cell, H[a]? = some cell ∧ cell.vm.isStatics = false ∧ U.vm.findClass C = some cell.cls := va_recv hK.cl (hH.one ha) hci (q0 := 0) rfl
def q_Ty (ci : Nat) (C : String) : Prop := ∃ (T : u_T) (N : Nat), q_cl[ci]? = some (C, T, N)
section GWD
variable {g : q_G} {Z : q_Z} {A : Nat → Prop} {post : q_R → q_H → Prop} {rc rs : Nat} {h : q_H} {pc pc' : Nat} {ls : List (Option Value)} {st : List Value} {own name : String} {cc : ByteArray} {nL d : Nat} {ret : Option FieldType}
theorem g_castY (ok : q_ok g Z A own name cc nL ret d) {index a ci : Nat} {C nm : String} {fs : List Value} (hd : decode cc pc = .ok (.checkcast index, 3)) (hp : pc + 3 = pc') (hl : Cond.classLink own index nm ∈ q_T) (hc : Cond.castable C nm ∈ q_X) (hci : q_Ty ci C) (ha : h a = some (.inl (ci, fs))) (kk : GW g Z A post rc rs h pc' ls (.ref a :: st)) : GW g Z A post rc rs h pc ls (.ref a :: st) := by
  obtain ⟨hx, hb, hml, hown, hts, hK, -⟩ := ok
  obtain ⟨T, N, hci⟩ := hci
  subst hp
  intro H locs la n k hH hD hS hL hn hk
  exact va_castY hx hb hown (hts _ hl) (hK.xw _ hc) (q_recv hK hH hci ha) hd (kk H locs la n k hH hD hS hL hn hk)
theorem g_instY (ok : q_ok g Z A own name cc nL ret d) {index a ci : Nat} {C nm : String} {fs : List Value} (hd : decode cc pc = .ok (.instanceof index, 3)) (hp : pc + 3 = pc') (hl : Cond.classLink own index nm ∈ q_T) (hc : Cond.castable C nm ∈ q_X) (hci : q_Ty ci C) (ha : h a = some (.inl (ci, fs))) (kk : GW g Z A post rc rs h pc' ls (.int 1 :: st)) : GW g Z A post rc rs h pc ls (.ref a :: st) := by
  obtain ⟨hx, hb, hml, hown, hts, hK, -⟩ := ok
  obtain ⟨T, N, hci⟩ := hci
  subst hp
  intro H locs la n k hH hD hS hL hn hk
  exact va_instY hx hb hown (hts _ hl) (hK.xw _ hc) (q_recv hK hH hci ha) hd (kk H locs la n k hH hD hS hL hn hk)
theorem g_instN (ok : q_ok g Z A own name cc nL ret d) {index a ci : Nat} {C nm : String} {fs : List Value} (hd : decode cc pc = .ok (.instanceof index, 3)) (hp : pc + 3 = pc') (hl : Cond.classLink own index nm ∈ q_T) (hc : (C, nm) ∈ q_ncs) (hci : q_Ty ci C) (ha : h a = some (.inl (ci, fs))) (kk : GW g Z A post rc rs h pc' ls (.int 0 :: st)) : GW g Z A post rc rs h pc ls (.ref a :: st) := by
  obtain ⟨hx, hb, hml, hown, hts, hK, -⟩ := ok
  obtain ⟨T, N, hci⟩ := hci
  subst hp
  intro H locs la n k hH hD hS hL hn hk
  exact va_instNo hx hb hown (hts _ hl) (hK.nc _ hc) (q_recv hK hH hci ha) hd (kk H locs la n k hH hD hS hL hn hk)
theorem q_any {g : q_G} {U : State} {h : q_H} {H : Heap} {a ci : Nat} {fs : List Value} {C : String} (hK : q_K g U) (hH : q_HR g h H) (hci : q_Ty ci C) (hc : Cond.castable C "java/lang/Object" ∈ q_X) (ha : h a = some (.inl (ci, fs))) : va_Any "java/lang/Object" U H a := by
  obtain ⟨T, N, hci⟩ := hci
  refine va_rAny hK.cl (hH.one ha) (q0 := 0) rfl hci (fun comp c0 h1 h2 => ?_)
  obtain ⟨c1, t1, f1, f2, f3⟩ := Cond.castable_spec (args := #[]) (first := U) (o := none) (idx := []) (hK.xw _ hc)
  cases f1.symm.trans h2
  cases f2.symm.trans h1
  exact f3
theorem g_aast (ok : q_ok g Z A own name cc nL ret d) {a N j v ci : Nat} {f : Nat → Option Nat} {fs : List Value} {C : String} (hd : decode cc pc = .ok (.aastore, 1)) (hp : pc + 1 = pc') (ha : h a = some (.inr (2, N, .inr (.inr (.inr (.inr f)))))) (hj : j < N) (hN : N < 2 ^ 31) (hci : q_Ty ci C) (hc : Cond.castable C "java/lang/Object" ∈ q_X) (hv : h v = some (.inl (ci, fs))) (kk : GW g Z A post rc rs (q_up h a (.inr (2, N, .inr (.inr (.inr (.inr (va_up f j (some v)))))))) pc' ls st) : GW g Z A post rc rs h pc ls (.ref v :: .int (nI j) :: .ref a :: st) := by
  obtain ⟨hx, hb, hml, hown, hts, hK, -⟩ := ok
  subst hp
  intro H locs la n k hH hD hS hL hn hk
  obtain ⟨cellV, g1, g3, ⟨kC, hkC⟩, hasg⟩ := q_any hK hH hci hc hv
  obtain ⟨kA, comp, k1, k2, k3, -⟩ := (hK.cl.2 2 _ rfl).2
  obtain ⟨kE, hkE, -⟩ := Vm.findClass_spec k3
  refine W.aast hx hb ((hH.2.2 a _ ha).2) (fun q h => by cases h) (fun h => by cases h) k1 k2 rfl hkE ⟨nI_pos (by omega), by show _ < (arrV _ _ _).slots.size; rw [arrV_size, nI_clamp (by omega)]; exact hj⟩ g1 (fun q h => by rw [h] at g3; cases g3) hkC (hasg _ k3) rfl rfl hd fun H1 e z oq => ?_
  refine kk H1 _ la n k (hH.set ha z oq ?_) (q_dom_up hD (hD a _ ha)) (hS.put z oq (hD a _ ha)) hL hn hk
  show H1[a]? = some (vp_cell _ _)
  rw [e, nI_clamp (by omega)]
  show some ((vp_cell _ _).setSlot _ _) = _
  rw [vp_cell_q, vp_cell_q, arrV_store]
  congr 2
  funext q
  by_cases hq : q = j
  · subst hq
    simp [updV, va_up, va_rf]
  · simp [updV, va_up, hq]
theorem g_aastN (ok : q_ok g Z A own name cc nL ret d) {a N j : Nat} {f : Nat → Option Nat} (hd : decode cc pc = .ok (.aastore, 1)) (hp : pc + 1 = pc') (ha : h a = some (.inr (2, N, .inr (.inr (.inr (.inr f)))))) (hj : j < N) (hN : N < 2 ^ 31) (kk : GW g Z A post rc rs (q_up h a (.inr (2, N, .inr (.inr (.inr (.inr (va_up f j none))))))) pc' ls st) : GW g Z A post rc rs h pc ls (.null :: .int (nI j) :: .ref a :: st) := by
  obtain ⟨hx, hb, hml, hown, hts, hK, -⟩ := ok
  subst hp
  intro H locs la n k hH hD hS hL hn hk
  refine va_WaastN (C := "java/lang/Object") hx hb ((hH.2.2 a _ ha).2) ((hK.cl.2 2 _ rfl).1 N (fun j => va_rf (f j))) (fun h => by cases h) (by show ¬ (nI j < 0 ∨ (arrV _ _ _).slots.size ≤ _); rw [arrV_size]; exact vp_in_nI hj hN) rfl rfl hd fun H1 e z oq => ?_
  refine kk H1 _ la n k (hH.set ha z oq ?_) (q_dom_up hD (hD a _ ha)) (hS.put z oq (hD a _ ha)) hL hn hk
  show H1[a]? = some (vp_cell _ _)
  rw [e, nI_clamp (by omega)]
  show some ((vp_cell _ _).setSlot _ _) = _
  rw [vp_cell_q, vp_cell_q, arrV_store]
  congr 2
  funext q
  by_cases hq : q = j
  · subst hq
    simp [updV, va_up, va_rf]
  · simp [updV, va_up, hq]
theorem g_anew (ok : q_ok g Z A own name cc nL ret d) {index N : Nat} (hd : decode cc pc = .ok (.anewarray index, 3)) (hp : pc + 3 = pc') (hl : Cond.classLink own index "java/lang/Object" ∈ q_T) (hN : N * 4 ≤ 536870912) {rc' rs' : Nat} (hc1 : rc' + 1 ≤ rc) (hs1 : rs' + N ≤ rs) (kk : ∀ q : Nat, h q = none → q_bs g ≤ q → GW g Z A post rc' rs' (q_up h q (.inr (2, N, .inr (.inr (.inr (.inr (fun _ => none))))))) pc' ls (.ref q :: st)) : GW g Z A post rc rs h pc ls (.int (nI N) :: st) := by
  obtain ⟨hx, hb, hml, hown, hts, hK, hA, -⟩ := ok
  subst hp
  intro H locs la n k hH hD hS hL hn hk
  have hcl : (nI N).toNatClampNeg = N := nI_clamp (by omega)
  refine W.anew hx hb hown (hts _ hl) (va_AO.use hK.ao) rfl hd rfl (nI_pos (by omega)) (by rw [hcl]; exact hN) (by omega) (by rw [hcl]; omega) fun cA kA comp f1 f2 f3 f4 => ?_
  rw [hcl]
  generalize hH1 : H.push ({ cls := cA, slots := Array.replicate N .null, vm := .none } : Cell) = H1
  have z1 : H1.size = H.size + 1 := by rw [← hH1, Array.size_push]
  have e1 : H1[H.size]? = some (arrV cA N (fun _ => .null)) := by rw [← hH1, Array.getElem?_push_size, ← arrV_new]
  have o1 : ∀ q : Nat, q < H.size → H1[q]? = H[q]? := fun q hq => by rw [← hH1, Array.getElem?_push, if_neg (Nat.ne_of_lt hq)]
  refine kk H.size hH.fresh hH.1 H1 locs la (n + 1) (k + N) (hH.push o1 z1 ?_) (q_dom_up hD (hA _ hS.1)) (q_S.push hS o1 z1) hL (by omega) (by omega)
  have hcA : cA = q_dA g 2 := by
    obtain ⟨kA', comp', g1, g2, g3, g4⟩ := (hK.cl.2 2 _ rfl).2
    exact Option.some.inj (f1.symm.trans g4)
  subst hcA
  show H1[H.size]? = some (vp_cell _ _)
  rw [vp_cell_q]
  exact e1
theorem g_getE (ok : q_ok g Z A own name cc nL ret d) {index : Nat} (hd : decode cc pc = .ok (.getstatic index, 3)) (hp : pc + 3 = pc') (hl : Cond.fieldLink own index "java/util/ArrayList" "DEFAULTCAPACITY_EMPTY_ELEMENTDATA" "[Ljava/lang/Object;" ∈ q_T) (kk : GW g Z A post rc rs h pc' ls (.ref (q_ad g 0) :: st)) : GW g Z A post rc rs h pc ls st := by
  obtain ⟨hx, hb, hml, hown, hts, hK, -⟩ := ok
  subst hp
  intro H locs la n k hH hD hS hL hn hk
  obtain ⟨cf, kf, fi, f, a, cell, h1, h2, h3, h4, h5, h6, h7, h8⟩ := hK.st
  have hlt : a < q_bs g := by rw [← hK.sz]; exact (Array.getElem?_eq_some_iff.mp h5).1
  exact W.gets hx hb hown (hts _ hl) h1 h2 h3 h4 (by rw [hH.2.1 a hlt]; exact h5) (fun e => by rw [e] at h6; cases h6) h7 rfl hd (kk H locs la n k hH hD hS hL hn hk)
theorem g_alenE (ok : q_ok g Z A own name cc nL ret d) (hd : decode cc pc = .ok (.arraylength, 1)) (hp : pc + 1 = pc') (kk : GW g Z A post rc rs h pc' ls (.int (nI 0) :: st)) : GW g Z A post rc rs h pc ls (.ref (q_ad g 0) :: st) := by
  obtain ⟨hx, hb, hml, hown, hts, hK, -⟩ := ok
  subst hp
  intro H locs la n k hH hD hS hL hn hk
  obtain ⟨cell, h1, h2, h3, h4, h5⟩ := hK.em
  have hlt : q_ad g 0 < q_bs g := by rw [← hK.sz]; exact (Array.getElem?_eq_some_iff.mp h1).1
  exact W.alen hx hb (by rw [hH.2.1 _ hlt]; exact h1) h2 (by rw [h4]; rfl) rfl rfl hd (kk H locs la n k hH hD hS hL hn hk)
theorem g_ldcM (ok : q_ok g Z A own name cc nL ret d) {index : Nat} (hd : decode cc pc = .ok (.ldc index, 2)) (hp : pc + 2 = pc') (hl : Cond.classLink own index "[Ljava/lang/Object;" ∈ q_T) (kk : GW g Z A post rc rs h pc' ls (.ref (q_ad g 1) :: st)) : GW g Z A post rc rs h pc ls st := by
  obtain ⟨hx, hb, hml, hown, hts, hK, -⟩ := ok
  subst hp
  exact fun H locs la n k hH hD hS hL hn hk => va_ldcM hx hb hown (hts _ hl) hK.mi hd (kk H locs la n k hH hD hS hL hn hk)
end GWD
