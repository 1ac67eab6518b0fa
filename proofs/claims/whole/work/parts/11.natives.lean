/-! ===== getClass() of an array of objects, System.arraycopy between two of them ===== -/
def q_obj (h : q_H) (y : Nat) : Prop := ∃ (ci : Nat) (C : String) (fs : List Value), h y = some (.inl (ci, fs)) ∧ q_Ty ci C ∧ Cond.castable C "java/lang/Object" ∈ q_X
section GWN
variable {g : q_G} {Z : q_Z} {A : Nat → Prop} {post : q_R → q_H → Prop} {rc rs : Nat} {h : q_H} {pc pc' : Nat} {ls : List (Option Value)} {st : List Value} {own name : String} {cc : ByteArray} {nL d : Nat} {ret : Option FieldType}
theorem g_getC (ok : q_ok g Z A own name cc nL ret d) {index a : Nat} {x : vp_A} (hd : decode cc pc = .ok (.invokevirtual index, 3)) (hp : pc + 3 = pc') (hl : Cond.methodLink own index ⟨"java/lang/Object", "getClass", "()Ljava/lang/Class;"⟩ ∈ q_T) (ha : h a = some (.inr (2, x))) (hrest : (st.map fun v => v.category).sum ≤ 8) (hd1 : 1 ≤ d) (hlen : ls.length = nL) (kk : GW g Z A post rc rs h pc' ls (.ref (q_ad g 1) :: st)) : GW g Z A post rc rs h pc ls (.ref a :: st) := by
  obtain ⟨hx, hb, hml, hown, hts, hK, hA, hlk, hrt, hnm, hfr, hlo, -⟩ := ok
  subst hp
  intro H locs la n k hH hD hS hL hn hk
  have hcell : H[a]? = some (vp_cell (q_dA g 2) x) := (hH.2.2 a _ ha).2
  obtain ⟨kA, comp, g1, g2, g3, g4⟩ := (hK.cl.2 2 _ rfl).2
  refine va_getC hx hb (by rw [hml, hL.1, hlen]) (C := "[Ljava/lang/Object;") hown (hts _ hl) (va_Nw.use rfl (hK.xw _ (q_X_in 1283 (by decide +kernel) rfl))) (hts _ (q_T_in 1282 (by decide +kernel) rfl)) (hts _ (q_T_in 189 (by decide +kernel) rfl)) (hts _ (q_T_in 205 (by decide +kernel) rfl)) hK.mi ⟨_, hcell, ?_, ?_⟩ (by omega) (by omega) hd (kk H locs la n k hH hD hS hL hn hk)
  · obtain ⟨m, f | f | f | f | f⟩ := x <;> rfl
  · have e : (vp_cell (q_dA g 2) x).cls = q_dA g 2 := by obtain ⟨m, f | f | f | f | f⟩ := x <;> rfl
    rw [e]
    exact g4
theorem g_copyq (ok : q_ok g Z A own name cc nL ret d) {index a0 a n0 n1 cn : Nat} {f f1 : Nat → Option Nat} (hd : decode cc pc = .ok (.invokestatic index, 3)) (hp : pc + 3 = pc') (hl : Cond.methodLink own index arraycopyName ∈ q_T) (ha0 : h a0 = some (.inr (2, n0, .inr (.inr (.inr (.inr f)))))) (ha : h a = some (.inr (2, n1, .inr (.inr (.inr (.inr f1)))))) (h4 : cn ≤ n0) (h5 : cn ≤ n1) (hcn : cn < 2 ^ 31) (hel : ∀ (i y : Nat), i < cn → f i = some y → q_obj h y) (hrest : (st.map fun v => v.category).sum ≤ 8) (hd1 : 1 ≤ d) (hlen : ls.length = nL)
    (kk : GW g Z A post rc rs (q_up h a (.inr (2, n1, .inr (.inr (.inr (.inr (va_cpy f f1 0 0 cn))))))) pc' ls st) : GW g Z A post rc rs h pc ls (.int (nI cn) :: .int 0 :: .ref a :: .int 0 :: .ref a0 :: st) := by
  obtain ⟨hx, hb, hml, hown, hts, hK, hA, hlk, hrt, hnm, hfr, hlo, -⟩ := ok
  subst hp
  intro H locs la n k hH hD hS hL hn hk T hT X
  have hc0 : H[a0]? = some (vp_cell (q_dA g 2) (n0, .inr (.inr (.inr (.inr f))))) := (hH.2.2 a0 _ ha0).2
  have hc1 : H[a]? = some (vp_cell (q_dA g 2) (n1, .inr (.inr (.inr (.inr f1))))) := (hH.2.2 a _ ha).2
  obtain ⟨-, k0, hk0, cm0, hkk0⟩ := (hK.cl.2 2 _ rfl).1 n0 (fun j => va_rf (f j))
  obtain ⟨-, k1, hk1, cm1, hkk1⟩ := (hK.cl.2 2 _ rfl).1 n1 (fun j => va_rf (f1 j))
  have ecl : (nI cn).toNatClampNeg = cn := nI_clamp hcn
  have eti : (nI cn).toInt = (cn : Int) := nI_toInt hcn
  have h9 : nativeFrameWords "java/lang/System" "arraycopy" 5 + 11 ≤ 40 := by decide +kernel
  have hrm : 2 * (F0 (zm Z) pc la (.int (nI cn) :: .int 0 :: .ref a :: .int 0 :: .ref a0 :: st)).monitorRoom + (st.map fun v => v.category).sum ≤ 8 := lv_room hrest
  obtain ⟨vm', X', step⟩ := X.arraycopy hx hown (hts _ hl) (hts _ (q_T_in 217 (by decide +kernel) rfl)) (hts _ (q_T_in 216 (by decide +kernel) rfl)) (hts _ (q_T_in 11 (by decide +kernel) rfl)) (src := a0) (dst := a) (cs := vp_cell (q_dA g 2) (n0, .inr (.inr (.inr (.inr f))))) (cd := vp_cell (q_dA g 2) (n1, .inr (.inr (.inr (.inr f1))))) (srcPos := 0) (destPos := 0) (n := nI cn) (by rw [hT]; exact hc0) (by rw [hT]; exact hc1)
    (fun _ h => by cases h) (fun _ h => by cases h) (fun h => by cases h) (fun h => by cases h) hk0 hk1 hkk0 hkk1 rfl (by decide) (by decide) (nI_pos hcn)
    (by rw [eti]; show ¬ (0 : Int) + _ > ((arrV (q_dA g 2) n0 (fun j => va_rf (f j))).slots.size : Int); rw [arrV_size]; omega)
    (by rw [eti]; show ¬ (0 : Int) + _ > ((arrV (q_dA g 2) n1 (fun j => va_rf (f1 j))).slots.size : Int); rw [arrV_size]; omega)
    (fun vm₁ hal i hi => by
      have hi' : i < cn := by rw [ecl] at hi; exact hi
      have e0 : (0 : Int32).toNatClampNeg + i = i := by rw [show (0 : Int32).toNatClampNeg = 0 from rfl]; omega
      have e : (vp_cell (q_dA g 2) (n0, .inr (.inr (.inr (.inr f))))).slots.getD ((0 : Int32).toNatClampNeg + i) .null = va_rf (f i) := by
        show (arrV (q_dA g 2) n0 (fun j => va_rf (f j))).slots.getD _ _ = _
        rw [e0, Array.getD_eq_getD_getElem?, arrV_read _ _ (by omega)]
        rfl
      rw [e]
      cases hy : f i with
      | none => exact ⟨rfl, trivial⟩
      | some y =>
        obtain ⟨ci, C, fs, q1, q2, q3⟩ := hel i y hi' hy
        obtain ⟨cellV, g1, g2, ⟨kC, hkC⟩, hasg⟩ := q_any hK hH q2 q3 q1
        obtain ⟨kA, comp, r1, r2, r3, -⟩ := (hK.cl.2 2 _ rfl).2
        cases hk1.symm.trans r1
        cases hkk1.symm.trans r2
        obtain ⟨kE, hkE, -⟩ := Vm.findClass_spec r3
        obtain ⟨kC', hkC', -⟩ := hal.2.2 _ _ hkC
        obtain ⟨kE', hkE', -⟩ := hal.2.2 _ _ hkE
        refine ⟨rfl, cellV, (show T.heap[y]? = some cellV by rw [hT]; exact g1), (fun q h => by rw [h] at g2; cases g2), ⟨kC', hkC'⟩, ?_, ?_⟩
        · exact ⟨kE', hkE'⟩
        · show vm₁.assignable _ _ = true
          rw [hal.assignable]
          exact hasg _ r3)
    (g := F0 (zm Z) pc la (.int (nI cn) :: .int 0 :: .ref a :: .int 0 :: .ref a0 :: st)) rfl (by show la.size = _; rw [hL.1, hlen, hml]) (rest := st) rfl (by rw [hb]; exact hd) (by omega) (by omega)
  have e1 : copied (vp_cell (q_dA g 2) (n0, .inr (.inr (.inr (.inr f))))) (vp_cell (q_dA g 2) (n1, .inr (.inr (.inr (.inr f1))))) 0 0 (nI cn) = vp_cell (q_dA g 2) (n1, .inr (.inr (.inr (.inr (va_cpy f f1 0 0 cn))))) := by
    rw [vp_cell_q, vp_cell_q, vp_cell_q]
    show (arrV (q_dA g 2) n1 (fun j => va_rf (f1 j))).storeRun (0 : Int32).toNatClampNeg ((arrV (q_dA g 2) n0 (fun j => va_rf (f j))).stretch (0 : Int32).toNatClampNeg (nI cn).toNatClampNeg) = _
    rw [ecl]
    exact va_copied (fun z => va_rf z) (q_dA g 2) (q_dA g 2) f f1 (sp := 0) (dp := 0) (n := cn) (by omega)
  rw [e1] at X' step
  have hlt : a < H.size := (Array.getElem?_eq_some_iff.mp hc1).1
  generalize hH1 : H.setIfInBounds a (vp_cell (q_dA g 2) (n1, .inr (.inr (.inr (.inr (va_cpy f f1 0 0 cn)))))) = H1
  have oq : ∀ q : Nat, q ≠ a → H1[q]? = H[q]? := fun q hq => by rw [← hH1]; simp [Array.getElem?_setIfInBounds, Ne.symm hq]
  have hz : H1.size = H.size := by rw [← hH1]; simp
  have hc1' : H1[a]? = some (vp_cell (q_dA g 2) (n1, .inr (.inr (.inr (.inr (va_cpy f f1 0 0 cn)))))) := by rw [← hH1]; simp [Array.getElem?_setIfInBounds, hlt]
  obtain ⟨t, a1, b1⟩ := kk H1 _ la n k (hH.set ha hz oq hc1') (q_dom_up hD (hD a _ ha)) ⟨by rw [hz]; exact hS.1, fun q g1 g2 => by
      rw [oq q (fun e => g2 (by rw [e]; exact hD a _ ha))]
      exact hS.2.1 q g1 g2, fun q hq => by
      rcases List.mem_append.mp hq with h | h
      · exact hS.2.2 q h
      · obtain ⟨z, -, hz⟩ := List.mem_map.mp h
        rw [← hz]
        exact hD a _ ha⟩ hL hn hk _ (by rw [← hH1, ← hT]; rfl) X'
  exact ⟨t, step t a1, b1⟩
end GWN
/-- the same as q_FL, to read alone: a final field of a nest mate -/
def q_FR (own : String) (index ci k : Nat) : Prop := ∃ (C : String) (T : u_T) (N : Nat) (ref : String), q_cl[ci]? = some (C, T, N) ∧ (∀ w ∈ u_ws C T N, w ∈ q_T) ∧ k < N ∧ Cond.fieldLink own index ref (T k).2.1 (T k).2.2.1 ∈ q_T ∧ (ref = (T k).1 ∨ Cond.sameField ref (T k).1 (T k).2.1 (T k).2.2.1 ∈ q_T)
theorem q_FL.r {own : String} {index ci k : Nat} {t : FieldType} {fin : Bool} (h : q_FL own index ci k t fin) : q_FR own index ci k := by
  obtain ⟨C, T, N, ref, ty, h1, h2, h3, h4, h5, -⟩ := h
  exact ⟨C, T, N, ref, h1, h2, h3, h4, h5⟩
theorem g_getR {g : q_G} {Z : q_Z} {A : Nat → Prop} {post : q_R → q_H → Prop} {rc rs : Nat} {h : q_H} {pc pc' : Nat} {ls : List (Option Value)} {st : List Value} {own name : String} {cc : ByteArray} {nL d : Nat} {ret : Option FieldType} (ok : q_ok g Z A own name cc nL ret d) {index ci k a : Nat} {fs : List Value} {v : Value} (hd : decode cc pc = .ok (.getfield index, 3)) (hp : pc + 3 = pc') (hf : q_FR own index ci k) (ha : h a = some (.inl (ci, fs))) (hv : fs[k]? = some v) (kk : GW g Z A post rc rs h pc' ls (v :: st)) : GW g Z A post rc rs h pc ls (.ref a :: st) := by
  obtain ⟨hx, hb, hml, hown, hts, hK, -⟩ := ok
  obtain ⟨C, T, N, ref, hc, hin, hk, hw, hsm⟩ := hf
  subst hp
  intro H locs la n k' hH hD hS hL hn hk'
  refine va_get hx hb hts hin hown hK.1 (hH.one ha) 0 rfl hc k hk (hts _ hw) ?_ hv hd (kk H locs la n k' hH hD hS hL hn hk')
  intro x hx'
  rcases hsm with e | e
  · rw [e]; exact hx'
  · exact u_same (hts _ e) x hx'
