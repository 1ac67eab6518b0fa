/-! ===== a method that throws: new E("text") and athrow ===== -/
/-- the walk seen from here on: as if the method had been entered with the heap that stands now -/
theorem q_rebase {p : Program} {l : Launch} {e : Env} {R : Room} {s : State} {m : MethodId} {args : Array Value} {below : List Frame} {meth : Method} {c : Code} {T : State} {locs : List Loc} {n k : Nat}
    (X : Stand p l e R s m args below meth c T locs n k) (hn : n ≤ R.cells) (hk : k ≤ R.slots) : Stand p l e { R with cells := R.cells - n, slots := R.slots - k } ({ s with heap := T.heap, slotsUsed := T.slotsUsed, vm := T.vm } : State) m args below meth c T [] 0 0 := by
  have hal := X.warmed.alike
  have hmeth : T.vm.method? m = some meth := X.method'
  refine ⟨X.admits, X.cas, X.clock, X.frames, ?_, ?_, hmeth, X.code, X.here, X.tail, State.WarmedH.refl _, X.limits, X.bytes, ?_⟩
  · have hr := X.room
    have h1 := X.heapSize
    have h2 := X.used
    have h3 := X.book
    simp only [State.hasRoom, Bool.and_eq_true, decide_eq_true_eq] at hr ⊢
    have hloc : State.localsInUse ({ s with heap := T.heap, slotsUsed := T.slotsUsed, vm := T.vm } : State) = s.localsInUse := by
      unfold State.localsInUse
      rw [show State.frames ({ s with heap := T.heap, slotsUsed := T.slotsUsed, vm := T.vm } : State) = s.frames from rfl, X.frames]
      show _ + ((((T.vm.method? m).bind (·.code)).map (·.maxLocals)).getD 0 + 11) = _ + ((((s.vm.method? m).bind (·.code)).map (·.maxLocals)).getD 0 + 11)
      rw [hmeth, X.method]
    rw [hloc]
    refine ⟨⟨⟨hr.1.1.1, ?_⟩, ?_⟩, h3⟩
    · have := hr.1.1.2
      show T.heap.size + (R.cells - n) ≤ _
      omega
    · have := hr.1.2
      show T.slotsUsed + (R.slots - k) ≤ _
      omega
  · have hh := X.hears
    cases below with
    | nil =>
      show (T.vm.method? m).any (·.sig.returnType.isNone) = true
      have hh' : (s.vm.method? m).any (·.sig.returnType.isNone) = true := hh
      rw [hmeth, ← X.method]; exact hh'
    | cons f r =>
      cases f with
      | java g0 =>
        have hh' : ((s.code? g0.method).bind fun c => (decode c.code g0.pc).toOption).isSome = true := hh
        show ((State.code? ({ s with heap := T.heap, slotsUsed := T.slotsUsed, vm := T.vm } : State) g0.method).bind fun c => (decode c.code g0.pc).toOption).isSome = true
        rw [State.code?_eq] at hh' ⊢
        show (((T.vm.method? g0.method).bind _).bind _).isSome = true
        rw [hal.method?]; exact hh'
      | native _ => rfl
      | proc _ => rfl
      | _ =>
        show (T.vm.method? m).any (·.sig.returnType.isNone) = true
        have hh' : (s.vm.method? m).any (·.sig.returnType.isNone) = true := hh
        rw [hmeth, ← X.method]; exact hh'
  · have hs := X.same
    have h1 : T.setVm s.vm = { s.setFrames T.frames with heap := T.heap, slotsUsed := T.slotsUsed } := hs.1
    have hdr : T.heap.toList.drop T.heap.size = [] := List.drop_eq_nil_of_le (by simp)
    refine ⟨?_, Nat.le_refl _, Nat.le_refl _, ?_, ?_, ?_⟩
    · show T = _
      have h2 : T = (T.setVm s.vm).setVm T.vm := rfl
      rw [h1] at h2
      exact h2
    · show T.slotsUsed = T.slotsUsed + ((T.heap.toList.drop T.heap.size).map (·.slots.size)).sum
      rw [hdr]; rfl
    · show ((T.heap.toList.drop T.heap.size).map (·.slots.size)).sum ≤ 0
      rw [hdr]; exact Nat.le_refl _
    · intro a cl hc
      exact ⟨cl, hc, rfl, rfl, fun _ _ => rfl⟩
def q_chain : List String := ["java/lang/RuntimeException", "java/lang/Exception"]
def q_isr1 : Cond := .isRef (.static "java/lang/Throwable" "UNASSIGNED_STACK" "[Ljava/lang/StackTraceElement;")
def q_isr2 : Cond := .isRef (.static "java/lang/Throwable" "SUPPRESSED_SENTINEL" "Ljava/util/List;")
def q_ls1 : Cond := .laysStatic "java/lang/Throwable" "UNASSIGNED_STACK" "[Ljava/lang/StackTraceElement;"
def q_ls2 : Cond := .laysStatic "java/lang/Throwable" "SUPPRESSED_SENTINEL" "Ljava/util/List;"
theorem q_own0 : ∀ a ∈ Bundle.ownAtoms "RatchetGroup" 105 (q_xn 0) q_chain, (a ∈ tables_1 ∧ (goodWord a = true ∨ q_isX a = true)) ∨ a = q_isr1 ∨ a = q_isr2 ∨ a = q_ls1 ∨ a = q_ls2 := by decide +kernel
theorem q_own1 : ∀ a ∈ Bundle.ownAtoms "RatchetGroup" 93 (q_xn 1) q_chain, (a ∈ tables_1 ∧ (goodWord a = true ∨ q_isX a = true)) ∨ a = q_isr1 ∨ a = q_isr2 ∨ a = q_ls1 ∨ a = q_ls2 := by decide +kernel
theorem q_isRef {C n d : String} {P : Nat → Prop} {U : State} {H : Heap} {args : Array Value} (h : va_Zq C n d P U H) (hH : ∀ (a : Nat) (cell : Cell), H[a]? = some cell → ¬ P a → U.heap[a]? = some cell) : (Cond.isRef (.static C n d)).before args U = true := by
  have go : ∀ v : Value, va_Z C n d v P U H → (v = .null ∨ ∃ t, v = .ref t) → (Cond.isRef (.static C n d)).before args U = true := by
    intro v hz hv
    obtain ⟨cf, kf, fi, f, a, cell, h1, h2, h3, h4, h5, h6, h7, h8⟩ := hz
    have he : (Term.static C n d).eval args U none [] U = cell.slots[f.slot]? := by
      simp [Term.eval, State.fieldNamed?, h1, h2, h4, hH a cell h5 h8, h6]
    simp only [Cond.before, Cond.holds, Cond.value]
    rw [he, h7]
    rcases hv with rfl | ⟨t, rfl⟩ <;> rfl
  rcases h with h | ⟨t, h⟩
  · exact go _ h (Or.inl rfl)
  · exact go _ h (Or.inr ⟨t, rfl⟩)
