/-! ===== the law: a contract beside what it does not touch ===== -/
def q_jn (h1 h2 : q_H) : q_H := fun a => match h1 a with
  | some o => some o
  | none => h2 a
def q_dj (h1 h2 : q_H) : Prop := ∀ a, h1 a = none ∨ h2 a = none
theorem q_jn_l {h1 h2 : q_H} {a : Nat} {o : q_O} (h : h1 a = some o) : q_jn h1 h2 a = some o := by
  unfold q_jn
  rw [h]
theorem q_jn_r {h1 h2 : q_H} {a : Nat} (h : h1 a = none) : q_jn h1 h2 a = h2 a := by
  unfold q_jn
  rw [h]
theorem q_jn_or {h1 h2 : q_H} {a : Nat} {o : q_O} (h : q_jn h1 h2 a = some o) : h1 a = some o ∨ (h1 a = none ∧ h2 a = some o) := by
  cases e : h1 a with
  | some x => exact Or.inl (by rw [q_jn_l e] at h; exact h)
  | none => exact Or.inr ⟨rfl, by rw [q_jn_r e] at h; exact h⟩
theorem q_HR.left {g : q_G} {h1 h2 : q_H} {H : Heap} (h : q_HR g (q_jn h1 h2) H) : q_HR g h1 H := ⟨h.1, h.2.1, fun a o ha => h.2.2 a o (q_jn_l ha)⟩
theorem q_A.left {h1 h2 : q_H} {sz q : Nat} (h : q_A h1 sz q) : q_A (q_jn h1 h2) sz q := by
  rcases h with ⟨o, ho⟩ | h
  · exact Or.inl ⟨o, q_jn_l ho⟩
  · exact Or.inr h
/-- what is beside a contract's view stays as it was -/
theorem q_Qc.frame {g : q_G} {h1 h2 : q_H} {sz mc ms : Nat} {post : q_R → q_H → Prop} {st t : State} {oc : Outcome} (hq : q_Qc g h1 sz mc ms (q_A h1 sz) post st oc t) (hdj : q_dj h1 h2) (hH : q_HR g (q_jn h1 h2) st.heap) (hsz : st.heap.size = sz) :
    q_Qc g (q_jn h1 h2) sz mc ms (q_A (q_jn h1 h2) sz) (fun r h' => ∃ h1', post r h1' ∧ h' = q_jn h1' h2 ∧ q_dj h1' h2) st oc t := by
  obtain ⟨⟨r, h', a1, a2, a3, a4⟩, b1, b2, L, b3, b4⟩ := hq
  have hlt : ∀ a x, h2 a = some x → h1 a = none → a < sz := fun a x hx hn => by
    have q := (hH.2.2 a x (by rw [q_jn_r hn]; exact hx)).2.lt
    rw [hsz] at q
    exact q
  have hd2 : q_dj h' h2 := fun a => by
    cases e : h' a with
    | none => exact Or.inl rfl
    | some x =>
      refine Or.inr ?_
      cases e2 : h2 a with
      | none => rfl
      | some y =>
        have hn : h1 a = none := (hdj a).resolve_right (by rw [e2]; exact fun z => by cases z)
        rcases a4 a x e with ⟨w, hw⟩ | hw
        · rw [hn] at hw
          cases hw
        · have := hlt a y e2 hn
          omega
  refine ⟨⟨r, q_jn h' h2, a1, ⟨h', a2, rfl, hd2⟩, ⟨a3.1, a3.2.1, fun a x hx => ?_⟩, fun a x hx => ?_⟩, ⟨b1.1, fun q h1q h2q => b1.2 q h1q (fun z => h2q (q_A.left z))⟩, b2, L, b3, fun q hq => q_A.left (b4 q hq)⟩
  · rcases q_jn_or hx with z | ⟨z, z2⟩
    · exact a3.2.2 a x z
    · have hn : h1 a = none := (hdj a).resolve_right (by rw [z2]; exact fun y => by cases y)
      have q := hH.2.2 a x (by rw [q_jn_r hn]; exact z2)
      have q2 := hlt a x z2 hn
      refine ⟨q.1, q.2.kept (b1.2 a (by rw [hsz]; exact q2) (fun y => ?_))⟩
      rcases y with ⟨w, hw⟩ | hw
      · rw [hn] at hw
        cases hw
      · omega
  · rcases q_jn_or hx with z | ⟨z, z2⟩
    · exact q_A.left (a4 a x z)
    · have hn : h1 a = none := (hdj a).resolve_right (by rw [z2]; exact fun y => by cases y)
      exact Or.inl ⟨x, by rw [q_jn_r hn]; exact z2⟩
theorem MG.frame {g : q_G} {y : MethodName} {cc : ByteArray} {nL : Nat} {ret : Option FieldType} {d mc ms : Nat} {av : List Value} {h1 h2 : q_H} {post : q_R → q_H → Prop} (hM : MG g y cc nL ret d mc ms av h1 post) (hdj : q_dj h1 h2) : MG g y cc nL ret d mc ms av (q_jn h1 h2) (fun r h' => ∃ h1', post r h1' ∧ h' = q_jn h1' h2 ∧ q_dj h1' h2) := by
  intro l hl sz p e ha hc hk s m args below hf happ hP hK
  obtain ⟨n, o, g1, g2, g3, hq⟩ := hM l hl sz p e ha hc hk s m args below hf happ ⟨hP.1, hP.2.1, hP.2.2.1.left, hP.2.2.2⟩ hK
  exact ⟨n, o, g1, g2, g3, q_Qc.frame hq hdj hP.2.2.1 hP.2.1⟩
/-- the contract of a method with a handler table -/
def MGW (g : q_G) (y : MethodName) (cc : ByteArray) (nL : Nat) (ret : Option FieldType) (hs : List (Nat × Nat × Nat × Nat)) (d mc ms : Nat) (av : List Value) (h : q_H) (post : q_R → q_H → Prop) : Prop :=
  ∀ l : Launch, (∀ e, l.admits e → e.platform.stackTraces = false) → ∀ sz : Nat, MetFree l y (headSpec (Cond.codeWith y cc nL ret hs :: q_T) (q_rm d mc ms)) (q_Pc g av h sz) (fun _ _ _ _ _ => True) (fun _ st oc t => q_Qc g h sz mc ms (q_A h sz) post st oc t)
theorem MGW.frame {g : q_G} {y : MethodName} {cc : ByteArray} {nL : Nat} {ret : Option FieldType} {hs : List (Nat × Nat × Nat × Nat)} {d mc ms : Nat} {av : List Value} {h1 h2 : q_H} {post : q_R → q_H → Prop} (hM : MGW g y cc nL ret hs d mc ms av h1 post) (hdj : q_dj h1 h2) : MGW g y cc nL ret hs d mc ms av (q_jn h1 h2) (fun r h' => ∃ h1', post r h1' ∧ h' = q_jn h1' h2 ∧ q_dj h1' h2) := by
  intro l hl sz p e ha hc hk s m args below hf happ hP hK
  obtain ⟨n, o, g1, g2, g3, hq⟩ := hM l hl sz p e ha hc hk s m args below hf happ ⟨hP.1, hP.2.1, hP.2.2.1.left, hP.2.2.2⟩ hK
  exact ⟨n, o, g1, g2, g3, q_Qc.frame hq hdj hP.2.2.1 hP.2.1⟩
def q_okw (g : q_G) (Z : q_Z) (A : Nat → Prop) (own name : String) (cc : ByteArray) (nL : Nat) (ret : Option FieldType) (d : Nat) (hs : List (Nat × Nat × Nat × Nat)) : Prop :=
  (zp Z).tables.exec = Jvm.exec ∧ (zc Z).code = cc ∧ (zc Z).maxLocals = nL ∧ (zs Z).vm.findClass own = some (zm Z).cls ∧ (∀ w ∈ q_T, w.before (za Z) (zs Z) = true) ∧ q_K g (zs Z) ∧ (∀ q : Nat, (zs Z).heap.size ≤ q → A q) ∧ (zM Z).locks = false ∧ (zM Z).sig.returnType = ret ∧ (zM Z).name = name ∧ d ≤ (zR Z).frames ∧ 64 * d ≤ (zR Z).locals ∧ (zM Z).code = some (zc Z) ∧ (∀ e, (zl Z).admits e → e.platform.stackTraces = false) ∧ q_bs g ≤ (zs Z).heap.size ∧ (∀ q : Nat, A q → q_bs g ≤ q) ∧ (zc Z).exceptionTable.toList = tableOf hs ∧ (∀ (q : Nat) (cell : Cell), A q → (zs Z).heap[q]? = some cell → cell.vm.isStatics = false)
theorem MGW.of {g : q_G} {y : MethodName} {cc : ByteArray} {nL : Nat} {ret : Option FieldType} {hs : List (Nat × Nat × Nat × Nat)} {d mc ms : Nat} {av : List Value} {h : q_H} {post : q_R → q_H → Prop} (hy : plainFor y = true) (hcat : ∀ v ∈ av, v.category = 1) (hlen : av.length ≤ nL)
    (body : ∀ (Z : q_Z) (A : Nat → Prop), q_okw g Z A y.cls y.name cc nL ret d hs → GW g Z A post mc ms h 0 (av.map some ++ List.replicate (nL - av.length) none) []) : MGW g y cc nL ret hs d mc ms av h post := by
  intro l hl sz
  refine MetFree.of_bodySF (code := cc) (maxLocals := nL) (ret := ret) hy ?_ ?_
  · intro args s m hpre hn
    obtain ⟨m', meth, c, h0, h1, h2, h3, h4, -, h5, h6, -⟩ := Cond.codeWith_spec (atoms_spec (ws := Cond.codeWith y cc nL ret hs :: q_T) hpre _ List.mem_cons_self)
    cases hn.symm.trans h0
    exact ⟨meth, c, h1, h2, h3, h4, h5, h6⟩
  · intro p e s m args below meth c s₁ B hml hP _
    obtain ⟨rfl, hsz, hH, hK⟩ := hP
    have hts0 := atoms_spec (ws := Cond.codeWith y cc nL ret hs :: q_T) B.pre
    have hts : ∀ w ∈ q_T, w.before av.toArray s = true := fun w hw => hts0 w (List.mem_cons_of_mem _ hw)
    have X := Stand.of_body B
    have hnh : c.exceptionTable.toList = tableOf hs := by
      obtain ⟨m', meth', c', g0, g1, g2, g3, g4, g5, -⟩ := Cond.codeWith_spec (hts0 _ List.mem_cons_self)
      cases B.named.symm.trans g0
      cases B.method.symm.trans g1
      cases X.code.symm.trans g2
      rw [← g5, table_eq]
    have hok : q_okw g (p, l, e, q_rm d mc ms, s, m, av.toArray, below, meth, c) (q_A h sz) y.cls y.name cc nL ret d hs := by
      refine ⟨B.exec, B.bytes, hml, findClass_of_methodNamed B.named, hts, hK, fun q hq => Or.inr (by rw [← hsz]; exact hq), B.notSynchronized, B.returns, (name_of_methodNamed B.named B.method).1, Nat.le_refl _, Nat.le_refl _, X.code, hl, hH.1, fun q hq => ?_, hnh, fun q cell hq hc => ?_⟩
      · rcases hq with ⟨o, ho⟩ | hq
        · exact (hH.2.2 q o ho).1
        · have := hH.1
          omega
      · rcases hq with ⟨o, ho⟩ | hq
        · have h1 := (hH.2.2 q o ho).2
          cases o with
          | inl x =>
            obtain ⟨r, -, cell', g1, -, g3, -⟩ := h1
            cases hc.symm.trans g1
            rw [g3]; rfl
          | inr x =>
            have g1 : s.heap[q]? = some (vp_cell (q_dA g x.1) x.2) := h1
            cases hc.symm.trans g1
            obtain ⟨i, n, f | f | f | f | f⟩ := x <;> rfl
        · have := (Array.getElem?_eq_some_iff.mp hc).1
          rw [hsz] at this
          omega
    have hh0 : s₁.heap = s.heap := by rw [B.state]; rfl
    have K := body _ _ hok s.heap [] _ 0 0 hH (fun a o ha => Or.inl ⟨o, ha⟩) va_S.rf (q_LR_entry av nL hcat hlen) (by simp) (by simp)
    obtain ⟨t, a1, oc, b1, b2, b3⟩ := K s₁ hh0 X
    refine ⟨t, oc, ?_, b1, b2, b3⟩
    rw [entry_eq m av hcat nL]
    exact a1

