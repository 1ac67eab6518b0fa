/-! ===== contracts over views, and calls of them ===== -/
theorem q_lays_same {C n d : String} {A A' : Array Value} {s t : State} {H : Heap} (h : (Cond.laysStatic C n d).before A (({ s with heap := H } : State).setVm t.vm) = true) : (Cond.laysStatic C n d).before A' ({ t with heap := H } : State) = true := by
  obtain ⟨c, k, i, f, a, cell, hc, hi, hst, ha, hcell, hs, hcls, hlt, hty⟩ := Cond.laysStatic_spec h
  exact Cond.laysStatic_of (s := ({ t with heap := H } : State)) hc hi hst ha hcell hs hcls hlt hty
theorem q_K.moved {g : q_G} {u U : State} (hW : u.WarmedH U.vm) (h : q_K g u) : q_K g U := by
  have hvm := hW.alike
  obtain ⟨h1, h2, ⟨cell, h3, h4, h5⟩, h6, h7, h8, h9, h10, h11, h12, h13, h14, h15⟩ := h
  refine ⟨h1.moved hvm, h2.moved hvm, ⟨cell, h3, State.isArrayOf_alike hvm h4, h5⟩, fun q hq => (h6 q hq).moved hvm, h7.moved hvm, h8.moved hvm, h9.moved hvm, fun q hq => by
    obtain ⟨a, ha⟩ := h10 q hq
    exact ⟨a, ha.warm hW⟩, h11, fun w hw => q_X_warm (List.mem_filter.mp hw).2 hW (h12 w hw), ?_, ?_, h15.moved hvm⟩
  · exact Cond.laysStatic_setVm (s := ({ u with heap := q_Hb g } : State)) hvm h13 |> q_lays_same
  · exact Cond.laysStatic_setVm (s := ({ u with heap := q_Hb g } : State)) hvm h14 |> q_lays_same
def q_A (h : q_H) (sz : Nat) : Nat → Prop := fun q => (∃ o, h q = some o) ∨ sz ≤ q
abbrev q_rm (d mc ms : Nat) : Room := { frames := d, cells := mc, slots := ms, locals := 64 * d }
def q_Pc (g : q_G) (av : List Value) (h : q_H) (sz : Nat) : Array Value → State → Prop := fun v U => v = av.toArray ∧ U.heap.size = sz ∧ q_HR g h U.heap ∧ q_K g U
/-- the contract of y over the view h: d frames deep, at most mc cells of ms slots made -/
def MG (g : q_G) (y : MethodName) (cc : ByteArray) (nL : Nat) (ret : Option FieldType) (d mc ms : Nat) (av : List Value) (h : q_H) (post : q_R → q_H → Prop) : Prop :=
  ∀ l : Launch, (∀ e, l.admits e → e.platform.stackTraces = false) → ∀ sz : Nat, MetFree l y (headSpec (Cond.code y cc nL ret :: q_T) (q_rm d mc ms)) (q_Pc g av h sz) (fun _ _ _ _ _ => True) (fun _ st oc t => q_Qc g h sz mc ms (q_A h sz) post st oc t)
theorem MG.mono {g : q_G} {y : MethodName} {cc : ByteArray} {nL : Nat} {ret : Option FieldType} {d mc ms : Nat} {av : List Value} {h : q_H} {post post' : q_R → q_H → Prop} (hM : MG g y cc nL ret d mc ms av h post) (hp : ∀ r h', post r h' → post' r h') : MG g y cc nL ret d mc ms av h post' := by
  intro l hl sz p e ha hc hk s m args below hf happ hP hK
  obtain ⟨n, o, h1, h2, h3, ⟨r, h', a1, a2, a3⟩, h5⟩ := hM l hl sz p e ha hc hk s m args below hf happ hP hK
  exact ⟨n, o, h1, h2, h3, ⟨r, h', a1, hp r h' a2, a3⟩, h5⟩
theorem q_entry_at {vs : List Value} {n i : Nat} {x : Slot} (h : (vs.map Slot.val ++ List.replicate n Slot.unset).toArray[i]? = some x) : (∃ v, vs[i]? = some v ∧ x = .val v) ∨ x = .unset := by
  rw [List.getElem?_toArray] at h
  by_cases hi : i < vs.length
  · rw [List.getElem?_append_left (by rw [List.length_map]; exact hi), List.getElem?_map] at h
    cases e : vs[i]? with
    | none => rw [e] at h; cases h
    | some v =>
      rw [e] at h
      exact Or.inl ⟨v, rfl, (Option.some.inj h).symm⟩
  · rw [List.getElem?_append_right (by rw [List.length_map]; omega)] at h
    exact Or.inr (List.eq_of_mem_replicate (List.mem_of_getElem? h))
theorem q_LR_entry (vs : List Value) (n : Nat) (hc : ∀ v ∈ vs, v.category = 1) (hn : vs.length ≤ n) : q_LR (vs.map some ++ List.replicate (n - vs.length) none) ((vs.map Slot.val ++ List.replicate (n - vs.length) Slot.unset).toArray) := by
  refine ⟨by simp, ⟨fun i v hi hc2 => ?_, fun i hi => ?_⟩, fun i v hi => ?_⟩
  · rcases q_entry_at hi with ⟨w, h1, h2⟩ | h2
    · cases h2
      rw [hc _ (List.mem_of_getElem? h1)] at hc2
      cases hc2
    · cases h2
  · rcases q_entry_at hi with ⟨w, h1, h2⟩ | h2 <;> cases h2
  · by_cases hl : i < vs.length
    · rw [List.getElem?_append_left (by rw [List.length_map]; exact hl), List.getElem?_map] at hi
      cases e : vs[i]? with
      | none => rw [e] at hi; cases hi
      | some w =>
        rw [e] at hi
        have hw : w = v := Option.some.inj (Option.some.inj hi)
        subst hw
        refine ⟨hc _ (List.mem_of_getElem? e), ?_⟩
        rw [List.getElem?_toArray, List.getElem?_append_left (by rw [List.length_map]; exact hl), List.getElem?_map, e]
        rfl
    · rw [List.getElem?_append_right (by rw [List.length_map]; omega)] at hi
      cases List.eq_of_mem_replicate (List.mem_of_getElem? hi)
theorem MG.of {g : q_G} {y : MethodName} {cc : ByteArray} {nL : Nat} {ret : Option FieldType} {d mc ms : Nat} {av : List Value} {h : q_H} {post : q_R → q_H → Prop} (hy : plainFor y = true) (hcat : ∀ v ∈ av, v.category = 1) (hlen : av.length ≤ nL)
    (body : ∀ (Z : q_Z) (A : Nat → Prop), q_ok g Z A y.cls y.name cc nL ret d → GW g Z A post mc ms h 0 (av.map some ++ List.replicate (nL - av.length) none) []) : MG g y cc nL ret d mc ms av h post := by
  intro l hl sz
  refine MetFree.of_bodySF (code := cc) (maxLocals := nL) (ret := ret) hy ?_ ?_
  · intro args s m hpre hn
    obtain ⟨meth, c, h1, h2, h3, h4, h5, h6, -, -⟩ := Cond.code_spec hn (atoms_spec (ws := Cond.code y cc nL ret :: q_T) hpre _ List.mem_cons_self)
    exact ⟨meth, c, h1, h2, h3, h4, h5, h6⟩
  · intro p e s m args below meth c s₁ B hml hP _
    obtain ⟨rfl, hsz, hH, hK⟩ := hP
    have hts0 := atoms_spec (ws := Cond.code y cc nL ret :: q_T) B.pre
    have hts : ∀ w ∈ q_T, w.before av.toArray s = true := fun w hw => hts0 w (List.mem_cons_of_mem _ hw)
    have X := Stand.of_body B
    have hnh : ∀ x ∈ c.exceptionTable.toList, ∀ q, covers x q = false := by
      obtain ⟨meth', c', g1, g2, g3, g4, g5, g6, g7, g8⟩ := Cond.code_spec B.named (hts0 _ List.mem_cons_self)
      cases B.method.symm.trans g1
      cases X.code.symm.trans g2
      intro x hx
      simp_all
    have hok : q_ok g (p, l, e, q_rm d mc ms, s, m, av.toArray, below, meth, c) (q_A h sz) y.cls y.name cc nL ret d := by
      refine ⟨B.exec, B.bytes, hml, findClass_of_methodNamed B.named, hts, hK, fun q hq => Or.inr (by rw [← hsz]; exact hq), B.notSynchronized, B.returns, (name_of_methodNamed B.named B.method).1, Nat.le_refl _, Nat.le_refl _, X.code, hl, hH.1, fun q hq => ?_, hnh, fun q cell hq hc => ?_⟩
      · rcases hq with ⟨o, ho⟩ | hq
        · exact (hH.2.2 q o ho).1
        · have := hH.1
          omega
      · rcases hq with ⟨o, ho⟩ | hq
        · have h1 := (hH.2.2 q o ho).2
          cases o with
          | inl x =>
            obtain ⟨r, -, cell', g1, -, g3, -⟩ := h1
            cases hc.symm.trans g1
            rw [g3]; rfl
          | inr x =>
            have g1 : s.heap[q]? = some (vp_cell (q_dA g x.1) x.2) := h1
            cases hc.symm.trans g1
            obtain ⟨i, n, f | f | f | f | f⟩ := x <;> rfl
        · have := (Array.getElem?_eq_some_iff.mp hc).1
          rw [hsz] at this
          omega
    have hh0 : s₁.heap = s.heap := by rw [B.state]; rfl
    have K := body _ _ hok s.heap [] _ 0 0 hH (fun a o ha => Or.inl ⟨o, ha⟩) va_S.rf (q_LR_entry av nL hcat hlen) (by simp) (by simp)
    obtain ⟨t, a1, oc, b1, b2, b3⟩ := K s₁ hh0 X
    refine ⟨t, oc, ?_, b1, b2, b3⟩
    rw [entry_eq m av hcat nL]
    exact a1
