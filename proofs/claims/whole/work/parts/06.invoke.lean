/-! ===== a callee's contract, at the call: it comes back, or throws ===== -/
theorem q_S_call {A Ay : Nat → Prop} {H0 H H1 : Heap} {locs L : List Loc} (hS : va_S A H0 H locs) (hAy : ∀ q, Ay q → A q) (hz : H.size ≤ H1.size) (hk : ∀ q : Nat, q < H.size → ¬ Ay q → H1[q]? = H[q]?) (hL : ∀ q ∈ L, Ay q.base) : va_S A H0 H1 (locs ++ L) :=
  ⟨Nat.le_trans hS.1 hz, fun q h1 h2 => (hk q (Nat.lt_of_lt_of_le h1 hS.1) (fun z => h2 (hAy q z))).trans (hS.2.1 q h1 h2), fun q hq => by
    rcases List.mem_append.mp hq with h | h
    · exact hS.2.2 q h
    · exact hAy _ (hL q h)⟩
theorem q_A_in {A : Nat → Prop} {h : q_H} {H0 H : Heap} {locs : List Loc} (hD : ∀ (a : Nat) (o : q_O), h a = some o → A a) (hA : ∀ q : Nat, H0.size ≤ q → A q) (hS : va_S A H0 H locs) : ∀ q, q_A h H.size q → A q := fun q hq => by
  rcases hq with ⟨o, ho⟩ | hq
  · exact hD q o ho
  · exact hA q (Nat.le_trans hS.1 hq)
/-- what a call leaves behind: a state T' under the caller's frame, with the callee's end -/
def q_Back (p : Program) (l : Launch) (e : Env) (R : Room) (s : State) (m : MethodId) (args : Array Value) (below : List Frame) (meth : Method) (c : Code) (T : State) (locs : List Loc) (n k : Nat) (g : q_G) (Ay : Nat → Prop) (post : q_R → q_H → Prop) (S0 : State) (f : JFrame) : Prop :=
  ∃ (r : q_R) (h' : q_H) (T' : State) (L : List Loc), Stand p l e R s m args below meth c T' (locs ++ L) n k ∧ (∀ q ∈ L, Ay q.base) ∧ post r h' ∧ q_HR g h' T'.heap ∧ (∀ (a : Nat) (o : q_O), h' a = some o → Ay a) ∧ T.heap.size ≤ T'.heap.size ∧ (∀ q : Nat, q < T.heap.size → ¬ Ay q → T'.heap[q]? = T.heap[q]?) ∧
    match r with
    | .inl v => ∀ target, Steps p.tables e below (T'.setTop { f with pc := f.pc + 3, stack := v.toList ++ f.stack }) target → Steps p.tables e below S0 target
    | .inr kx => ∃ (x : Addr) (cell : Cell), T'.heap[x]? = some cell ∧ T'.vm.findClass (q_xn kx) = some cell.cls ∧ cell.vm = .none ∧ ∀ target, Steps p.tables e below ((T'.setTop f).pushFrame (.throwing x)) target → Steps p.tables e below S0 target
theorem q_call {p : Program} {l : Launch} {e : Env} {R : Room} {s : State} {m : MethodId} {args : Array Value} {below : List Frame} {meth : Method} {c : Code} {T : State} {locs : List Loc} {n k : Nat} {g : q_G} {y : MethodName} {cy : ByteArray} {ny : Nat} {ry : Option FieldType} {dy mc ms : Nat} {av : List Value} {h : q_H} {post : q_R → q_H → Prop}
    (X : Stand p l e R s m args below meth c T locs n k) (hM : MG g y cy ny ry dy mc ms av h post) (htr : ∀ e, l.admits e → e.platform.stackTraces = false)
    {f : JFrame} (hg : f.method = m) (hsize : f.locals.size = c.maxLocals) {ig : Instr} (hdg : decode c.code f.pc = .ok (ig, 3)) (hst : 2 * f.monitorRoom + (f.stack.map fun v => v.category).sum ≤ 8) {mk : MethodId} (hn : T.methodNamed? y = some mk)
    (hfr : dy + 1 ≤ R.frames) (hlo : 8 + (ny + 11) + 64 * dy ≤ R.locals) (hc1 : n + mc ≤ R.cells) (hs1 : k + ms ≤ R.slots) (hts : ∀ w ∈ q_T, w.before args s = true) (hcw : Cond.code y cy ny ry ∈ q_T) (hini : (Cond.initialized y.cls).before args s = true) (hK : q_K g s) (hH : q_HR g h T.heap) :
    q_Back p l e R s m args below meth c T locs (n + mc) (k + ms) g (q_A h T.heap.size) post (doInvoke e (T.setTop f) [] mk av.toArray).1 f := by
  have hat : At T f.method c below := by rw [hg]; exact X.here
  have hwd : ∀ w ∈ q_T, ∀ a' : Array Value, w.before a' T = true := fun w hw a' => word_at X.warmed (q_T_good hw) (hts w hw)
  obtain ⟨methY, cY, hmY, hcY, -, hlY, -⟩ := Cond.code_spec hn (hwd _ hcw av.toArray)
  obtain ⟨kY, hkY, -⟩ := className_of_methodNamed hn
  have hinitY : kY.init = .initialized := Cond.initialized_spec (findClass_of_methodNamed hn) hkY (word_at (a' := av.toArray) X.warmed (Or.inl (by first | rfl | simp [Cond.onTables, Cond.keeps, Cond.steady])) hini)
  have hpre : (headSpec (Cond.code y cy ny ry :: q_T) (q_rm dy mc ms)).pre.before av.toArray T = true := by
    refine atoms_intro fun w hw => ?_
    rcases List.mem_cons.mp hw with rfl | hw
    · exact hwd _ hcw _
    · exact hwd _ hw _
  have happ : (headSpec (Cond.code y cy ny ry :: q_T) (q_rm dy mc ms)).appliesLoose y e.platform (T.calling f mk av.toArray) = true :=
    Spec.appliesLoose_calling (g := f) hat hdg hn hkY hinitY
      (X.room_calling (g := f) (R' := q_rm dy mc ms) hsize hmY hcY hfr (by rw [hlY]; show _ + (64 * dy) ≤ _; omega) hc1 hs1) hpre
  obtain ⟨mid, hmid⟩ := hat.above
  have hfr2 : (T.setTop f).frames = (.java f :: mid) ++ below := by rw [State.frames_setTop' f hat.top, hmid]; rfl
  have hPc : q_Pc g av h T.heap.size av.toArray (T.calling f mk av.toArray) := ⟨rfl, rfl, hH, q_K.moved (u := s) X.warmed hK⟩
  obtain ⟨o, s₂, hsteps, -, hend, hq⟩ := Steps.callFree (hM l htr T.heap.size) p X.admits X.cas X.clock (acts := []) hfr2 happ hPc trivial
  rw [State.frames_setTop' f hat.top, X.tail] at hend
  have hq' : q_Qc g h T.heap.size mc ms (q_A h T.heap.size) post (T.calling f mk av.toArray) o s₂ := hq
  obtain ⟨⟨r, h', hres, hpost, hHR, hdom⟩, hF, hW₂, L, hsame, hL⟩ := hq'
  cases r with
  | inl v =>
    cases hres
    obtain ⟨T', X', -, -, ht⟩ := X.outOf hg hdg hend hW₂ hsame
    have hheap : s₂.heap = T'.heap := by rw [ht]; rfl
    refine ⟨.inl v, h', T', L, X', hL, hpost, by rw [← hheap]; exact hHR, hdom, by rw [← hheap]; exact hF.1, fun q h1 h2 => by rw [← hheap]; exact hF.2 q h1 h2, fun target hs => ?_⟩
    refine hsteps.trans ?_
    rw [ht]
    exact hs
  | inr kx =>
    obtain ⟨x, cell, rfl, hx1, hx2, hx3⟩ := hres
    obtain ⟨T', X', -, -, ht⟩ := X.outOfThrown hg hend hW₂ hsame
    have hheap : s₂.heap = T'.heap := by rw [ht]; rfl
    have hvm : s₂.vm = T'.vm := by rw [ht]; rfl
    refine ⟨.inr kx, h', T', L, X', hL, hpost, by rw [← hheap]; exact hHR, hdom, by rw [← hheap]; exact hF.1, fun q h1 h2 => by rw [← hheap]; exact hF.2 q h1 h2, x, cell, by rw [← hheap]; exact hx1, by rw [← hvm]; exact hx2, hx3, fun target hs => ?_⟩
    refine hsteps.trans ?_
    rw [ht]
    exact hs
