/-! ===== views of the heap: an address has an object (class number, fields) or an array (number of its class, contents) ===== -/
abbrev q_O : Type := (Nat × List Value) ⊕ (Nat × vp_A)
abbrev q_H : Type := Nat → Option q_O
/-- the ghosts of one run of the law: class ids and slots; array classes; where the run's own cells begin; the heap below that; addresses of constants -/
abbrev q_G : Type := va_G × (Nat → ClassId) × Nat × Heap × (Nat → Nat)
abbrev q_dA (g : q_G) : Nat → ClassId := g.2.1
abbrev q_bs (g : q_G) : Nat := g.2.2.1
abbrev q_Hb (g : q_G) : Heap := g.2.2.2.1
abbrev q_ad (g : q_G) : Nat → Nat := g.2.2.2.2
def q_up (h : q_H) (a : Nat) (o : q_O) : q_H := fun b => if b = a then some o else h b
theorem q_up_s (h : q_H) (a : Nat) (o : q_O) : q_up h a o a = some o := if_pos rfl
theorem q_up_n {h : q_H} {a b : Nat} {o : q_O} (e : b ≠ a) : q_up h a o b = h b := if_neg e
theorem q_up_u (h : q_H) (a : Nat) (o o' : q_O) : q_up (q_up h a o) a o' = q_up h a o' := by
  funext b
  unfold q_up
  by_cases e : b = a
  · rw [if_pos e, if_pos e]
  · rw [if_neg e, if_neg e, if_neg e]
theorem q_up_c {h : q_H} {a b : Nat} {o o' : q_O} (e : a ≠ b) : q_up (q_up h a o) b o' = q_up (q_up h b o') a o := by
  funext c
  unfold q_up
  by_cases e1 : c = b
  · rw [if_pos e1, if_neg (fun z => e (z.symm.trans e1)), if_pos e1]
  · rw [if_neg e1]
    by_cases e2 : c = a
    · rw [if_pos e2, if_pos e2]
    · rw [if_neg e2, if_neg e2, if_neg e1]
def q_E (g : q_G) (o : q_O) : va_E := match o with
  | .inl x => .inr x
  | .inr x => .inl (q_dA g x.1, x.2)
def q_HR (g : q_G) (h : q_H) (H : Heap) : Prop := q_bs g ≤ H.size ∧ (∀ q : Nat, q < q_bs g → H[q]? = (q_Hb g)[q]?) ∧ ∀ (a : Nat) (o : q_O), h a = some o → q_bs g ≤ a ∧ va_at g.1 q_cl (a, q_E g o) H
abbrev q_tys (g : q_G) : List (ClassId × FieldType) := [(q_dA g 0, .int), (q_dA g 1, .boolean), (q_dA g 2, .object "java/lang/Object"), (q_dA g 3, .long)]
def q_ncs : List (String × String) := [("RatchetGroup$Addition", "RatchetGroup$Removal"), ("RatchetGroup$Renewal", "RatchetGroup$Removal"), ("RatchetGroup$Addition", "RatchetGroup$Renewal"), ("RatchetGroup$Removal", "RatchetGroup$Renewal"), ("RatchetGroup$Removal", "RatchetGroup$Addition"), ("RatchetGroup$Renewal", "RatchetGroup$Addition"), ("java/lang/IllegalStateException", "java/lang/IndexOutOfBoundsException")]
/-- words that stay true, but not by the kit's own rule -/
def q_isX : Cond → Bool
  | .declares _ => true
  | .castable _ _ => true
  | .methodLinkNest _ _ _ _ => true
  | _ => false
def q_X : List Cond := tables_1.filter q_isX
theorem q_X_in {w : Cond} (i : Nat) (h : tables_1[i]? = some w) (hg : q_isX w = true) : w ∈ q_X := List.mem_filter.mpr ⟨List.mem_of_getElem? h, hg⟩
theorem q_X_on {w : Cond} (h : q_isX w = true) : w.onTables = true := by
  cases w <;> first | rfl | (simp [q_isX] at h)
theorem q_X_warm {w : Cond} {s U : State} (hg : q_isX w = true) (hW : s.WarmedH U.vm) (h : va_Nw w s) : va_Nw w U := by
  cases w <;> first | exact va_Nw.warmD hW h | exact va_Nw.warmC hW h | exact va_Nw.warmM hW h | (simp [q_isX] at hg)
def q_strs : List (Nat × String) := [(263, "no such member"), (91, "there are 60 packages"), (103, "no such package"), (137, "the member is not in the latest epoch"), (265, "20 proposals wait"), (119, "no such leaf"), (139, "there are 60 epochs"), (338, "the member is in no epoch and was not added"), (340, "the member is in the latest epoch")]
/-- what the tables and the constants are: the same in every state of a run -/
def q_K (g : q_G) (U : State) : Prop := va_K g.1 q_cl (q_tys g) U ∧
  va_Z "java/util/ArrayList" "DEFAULTCAPACITY_EMPTY_ELEMENTDATA" "[Ljava/lang/Object;" (.ref (q_ad g 0)) (fun q => q_bs g ≤ q) U (q_Hb g) ∧
  (∃ cell : Cell, (q_Hb g)[q_ad g 0]? = some cell ∧ U.isArrayOf cell (.object "java/lang/Object") ∧ cell.vm ≠ .unknown ∧ cell.slots.size = 0 ∧ cell.cls = q_dA g 2) ∧
  (∀ q ∈ q_ncs, va_Nc q.1 q.2 U) ∧
  va_Zq "java/lang/Throwable" "UNASSIGNED_STACK" "[Ljava/lang/StackTraceElement;" (fun q => q_bs g ≤ q) U (q_Hb g) ∧
  va_Zq "java/lang/Throwable" "SUPPRESSED_SENTINEL" "Ljava/util/List;" (fun q => q_bs g ≤ q) U (q_Hb g) ∧
  va_Mi "[Ljava/lang/Object;" (q_ad g 1) U ∧ (∀ q ∈ q_strs, ∃ a, vk_R "RatchetGroup" q.1 q.2 a U) ∧ (q_Hb g).size = q_bs g ∧ (∀ w ∈ q_X, va_Nw w U) ∧
  (Cond.laysStatic "java/lang/Throwable" "UNASSIGNED_STACK" "[Ljava/lang/StackTraceElement;").before #[] ({ U with heap := q_Hb g } : State) = true ∧
  (Cond.laysStatic "java/lang/Throwable" "SUPPRESSED_SENTINEL" "Ljava/util/List;").before #[] ({ U with heap := q_Hb g } : State) = true ∧
  va_AO "java/lang/Object" U
theorem q_K.cl {g : q_G} {U : State} (h : q_K g U) : va_K g.1 q_cl (q_tys g) U := h.1
theorem q_K.st {g : q_G} {U : State} (h : q_K g U) : va_Z "java/util/ArrayList" "DEFAULTCAPACITY_EMPTY_ELEMENTDATA" "[Ljava/lang/Object;" (.ref (q_ad g 0)) (fun q => q_bs g ≤ q) U (q_Hb g) := h.2.1
theorem q_K.em {g : q_G} {U : State} (h : q_K g U) : ∃ cell : Cell, (q_Hb g)[q_ad g 0]? = some cell ∧ U.isArrayOf cell (.object "java/lang/Object") ∧ cell.vm ≠ .unknown ∧ cell.slots.size = 0 ∧ cell.cls = q_dA g 2 := h.2.2.1
theorem q_K.nc {g : q_G} {U : State} (h : q_K g U) : ∀ q ∈ q_ncs, va_Nc q.1 q.2 U := h.2.2.2.1
theorem q_K.u1 {g : q_G} {U : State} (h : q_K g U) : va_Zq "java/lang/Throwable" "UNASSIGNED_STACK" "[Ljava/lang/StackTraceElement;" (fun q => q_bs g ≤ q) U (q_Hb g) := h.2.2.2.2.1
theorem q_K.u2 {g : q_G} {U : State} (h : q_K g U) : va_Zq "java/lang/Throwable" "SUPPRESSED_SENTINEL" "Ljava/util/List;" (fun q => q_bs g ≤ q) U (q_Hb g) := h.2.2.2.2.2.1
theorem q_K.mi {g : q_G} {U : State} (h : q_K g U) : va_Mi "[Ljava/lang/Object;" (q_ad g 1) U := h.2.2.2.2.2.2.1
theorem q_K.sr {g : q_G} {U : State} (h : q_K g U) : ∀ q ∈ q_strs, ∃ a, vk_R "RatchetGroup" q.1 q.2 a U := h.2.2.2.2.2.2.2.1
theorem q_K.sz {g : q_G} {U : State} (h : q_K g U) : (q_Hb g).size = q_bs g := h.2.2.2.2.2.2.2.2.1
theorem q_K.xw {g : q_G} {U : State} (h : q_K g U) : ∀ w ∈ q_X, va_Nw w U := h.2.2.2.2.2.2.2.2.2.1
theorem q_K.l1 {g : q_G} {U : State} (h : q_K g U) : (Cond.laysStatic "java/lang/Throwable" "UNASSIGNED_STACK" "[Ljava/lang/StackTraceElement;").before #[] ({ U with heap := q_Hb g } : State) = true := h.2.2.2.2.2.2.2.2.2.2.1
theorem q_K.l2 {g : q_G} {U : State} (h : q_K g U) : (Cond.laysStatic "java/lang/Throwable" "SUPPRESSED_SENTINEL" "Ljava/util/List;").before #[] ({ U with heap := q_Hb g } : State) = true := h.2.2.2.2.2.2.2.2.2.2.2.1
theorem q_K.ao {g : q_G} {U : State} (h : q_K g U) : va_AO "java/lang/Object" U := h.2.2.2.2.2.2.2.2.2.2.2.2
/-- locals: what is known of them, none of it a long -/
def q_LR (ls : List (Option Value)) (la : Array Slot) : Prop := la.size = ls.length ∧ lv_wf la ∧ ∀ (i : Nat) (v : Value), ls[i]? = some (some v) → v.category = 1 ∧ la[i]? = some (.val v)
def q_al (ls : List (Option Value)) : List (Nat × Value) := (List.range ls.length).filterMap (fun j => match ls[j]? with
  | some (some v) => some (j, v)
  | _ => none)
theorem q_al_mem {ls : List (Option Value)} {i : Nat} {v : Value} : (i, v) ∈ q_al ls ↔ ls[i]? = some (some v) := by
  unfold q_al
  rw [List.mem_filterMap]
  constructor
  · rintro ⟨j, -, hj⟩
    cases e : ls[j]? with
    | none => rw [e] at hj; cases hj
    | some w =>
      rw [e] at hj
      cases w with
      | none => cases hj
      | some u =>
        simp only [Option.some.injEq, Prod.mk.injEq] at hj
        obtain ⟨rfl, rfl⟩ := hj
        exact e
  · intro h
    refine ⟨i, List.mem_range.mpr (List.getElem?_eq_some_iff.mp h).1, ?_⟩
    rw [h]
theorem q_LR.has {ls : List (Option Value)} {la : Array Slot} (h : q_LR ls la) : lv_has la ls.length (q_al ls) := ⟨h.1, h.2.1, fun q hq => (h.2.2 q.1 q.2 (q_al_mem.mp hq)).2⟩
theorem q_LR.at {ls : List (Option Value)} {la : Array Slot} (h : q_LR ls la) {i : Nat} {v : Value} (hi : ls[i]? = some (some v)) : la[i]? = some (.val v) := (h.2.2 i v hi).2
theorem q_LR.store {ls : List (Option Value)} {la la' : Array Slot} {i : Nat} {v : Value} (h : q_LR ls la) (hc : v.category = 1) (h' : lv_has la' ls.length ((i, v) :: (q_al ls).filter (fun q => !(q.1 == i) && !(q.1 + 1 == i && q.2.category == 2)))) : q_LR (ls.set i (some v)) la' := by
  refine ⟨by rw [h'.1, List.length_set], h'.2.1, fun j w hj => ?_⟩
  by_cases e : i = j
  · subst e
    have hw : w = v := by
      rw [List.getElem?_set] at hj
      simp only [if_true] at hj
      split at hj
      · simp only [Option.some.injEq] at hj
        exact hj.symm
      · cases hj
    subst hw
    exact ⟨hc, h'.2.2 (i, w) List.mem_cons_self⟩
  · rw [List.getElem?_set_ne e] at hj
    have hc1 := (h.2.2 j w hj).1
    refine ⟨hc1, h'.2.2 (j, w) (List.mem_cons_of_mem _ (List.mem_filter.mpr ⟨q_al_mem.mpr hj, ?_⟩))⟩
    have e1 : (j == i) = false := by simp only [beq_eq_false_iff_ne]; exact fun z => e z.symm
    have e2 : (w.category == 2) = false := by rw [hc1]; rfl
    rw [e1, e2]
    simp
/-! ===== the judgement ===== -/
abbrev q_Z : Type := Program × Launch × Env × Room × State × MethodId × Array Value × List Frame × Method × Code
abbrev zp (Z : q_Z) : Program := Z.1
abbrev zl (Z : q_Z) : Launch := Z.2.1
abbrev ze (Z : q_Z) : Env := Z.2.2.1
abbrev zR (Z : q_Z) : Room := Z.2.2.2.1
abbrev zs (Z : q_Z) : State := Z.2.2.2.2.1
abbrev zm (Z : q_Z) : MethodId := Z.2.2.2.2.2.1
abbrev za (Z : q_Z) : Array Value := Z.2.2.2.2.2.2.1
abbrev zb (Z : q_Z) : List Frame := Z.2.2.2.2.2.2.2.1
abbrev zM (Z : q_Z) : Method := Z.2.2.2.2.2.2.2.2.1
abbrev zc (Z : q_Z) : Code := Z.2.2.2.2.2.2.2.2.2
/-- an ending: a value or none that is returned, or the number of the class of what is thrown -/
abbrev q_R : Type := Option Value ⊕ Nat
def q_xn (k : Nat) : String := if k = 0 then "java/lang/IndexOutOfBoundsException" else "java/lang/IllegalStateException"
def q_Res (r : q_R) (oc : Outcome) (t : State) : Prop := match r with
  | .inl v => oc = .returned v
  | .inr k => ∃ (x : Addr) (cell : Cell), oc = .threw x ∧ t.heap[x]? = some cell ∧ t.vm.findClass (q_xn k) = some cell.cls ∧ cell.vm = .none
/-- what stands at a method's end, and what it has changed -/
def q_Qc (g : q_G) (h : q_H) (sz mc ms : Nat) (A : Nat → Prop) (post : q_R → q_H → Prop) (st : State) (oc : Outcome) (t : State) : Prop :=
  (∃ (r : q_R) (h' : q_H), q_Res r oc t ∧ post r h' ∧ q_HR g h' t.heap ∧ ∀ (a : Nat) (o : q_O), h' a = some o → A a) ∧ va_F A st t ∧ st.WarmedH t.vm ∧ ∃ L, st.sameButNew ({ t with vm := st.vm } : State) L mc ms ∧ ∀ q ∈ L, A q.base
def q_Q (g : q_G) (Z : q_Z) (A : Nat → Prop) (post : q_R → q_H → Prop) : State → Prop := fun t => ∃ oc, t.status = .running ∧ Ended t (zb Z) oc ∧ q_Qc g (fun _ => none) 0 (zR Z).cells (zR Z).slots A post (zs Z) oc t
def GW (g : q_G) (Z : q_Z) (A : Nat → Prop) (post : q_R → q_H → Prop) (rc rs : Nat) (h : q_H) (pc : Nat) (ls : List (Option Value)) (st : List Value) : Prop :=
  ∀ (H : Heap) (locs : List Loc) (la : Array Slot) (n k : Nat), q_HR g h H → (∀ (a : Nat) (o : q_O), h a = some o → A a) → va_S A (zs Z).heap H locs → q_LR ls la → n + rc ≤ (zR Z).cells → k + rs ≤ (zR Z).slots →
    W (zp Z) (zl Z) (ze Z) (zR Z) (zs Z) (zm Z) (za Z) (zb Z) (zM Z) (zc Z) H locs n k (q_Q g Z A post) (F0 (zm Z) pc la st)
/-- what a walk may lean on: the method's class own, its bytes cc, locals nL, answer's type ret, room for d frames below it -/
def q_ok (g : q_G) (Z : q_Z) (A : Nat → Prop) (own name : String) (cc : ByteArray) (nL : Nat) (ret : Option FieldType) (d : Nat) : Prop :=
  (zp Z).tables.exec = Jvm.exec ∧ (zc Z).code = cc ∧ (zc Z).maxLocals = nL ∧ (zs Z).vm.findClass own = some (zm Z).cls ∧ (∀ w ∈ q_T, w.before (za Z) (zs Z) = true) ∧ q_K g (zs Z) ∧ (∀ q : Nat, (zs Z).heap.size ≤ q → A q) ∧ (zM Z).locks = false ∧ (zM Z).sig.returnType = ret ∧ (zM Z).name = name ∧ d ≤ (zR Z).frames ∧ 64 * d ≤ (zR Z).locals ∧ (zM Z).code = some (zc Z) ∧ (∀ e, (zl Z).admits e → e.platform.stackTraces = false) ∧ q_bs g ≤ (zs Z).heap.size ∧ (∀ q : Nat, A q → q_bs g ≤ q) ∧ (∀ x ∈ (zc Z).exceptionTable.toList, ∀ q, covers x q = false) ∧ (∀ (q : Nat) (cell : Cell), A q → (zs Z).heap[q]? = some cell → cell.vm.isStatics = false)
section GWR
variable {g : q_G} {Z : q_Z} {A : Nat → Prop} {post : q_R → q_H → Prop} {rc rs : Nat} {h : q_H} {pc pc' : Nat} {ls : List (Option Value)} {st : List Value} {own name : String} {cc : ByteArray} {nL d : Nat} {ret : Option FieldType}
theorem g_top {v w : Value} (e : v = w) (kk : GW g Z A post rc rs h pc ls (w :: st)) : GW g Z A post rc rs h pc ls (v :: st) := by rw [e]; exact kk
theorem g_less {rc' rs' : Nat} (h1 : rc' ≤ rc) (h2 : rs' ≤ rs) (kk : GW g Z A post rc' rs' h pc ls st) : GW g Z A post rc rs h pc ls st := fun H locs la n k hH hD hS hL hn hk => kk H locs la n k hH hD hS hL (by omega) (by omega)
theorem g_heap {h' : q_H} (e : h = h') (kk : GW g Z A post rc rs h' pc ls st) : GW g Z A post rc rs h pc ls st := by rw [e]; exact kk
theorem g_forget {ls' : List (Option Value)} (hl : ls'.length = ls.length) (hs : ∀ (i : Nat) (v : Value), ls'[i]? = some (some v) → ls[i]? = some (some v)) (kk : GW g Z A post rc rs h pc ls' st) : GW g Z A post rc rs h pc ls st :=
  fun H locs la n k hH hD hS hL hn hk => kk H locs la n k hH hD hS ⟨by rw [hl]; exact hL.1, hL.2.1, fun i v hi => hL.2.2 i v (hs i v hi)⟩ hn hk
theorem g_iconst (ok : q_ok g Z A own name cc nL ret d) {i : Int} {v : Int32} (hd : decode cc pc = .ok (.iconst i, 1)) (hp : pc + 1 = pc') (hv : Int32.ofInt i = v) (kk : GW g Z A post rc rs h pc' ls (.int v :: st)) : GW g Z A post rc rs h pc ls (st) := by
  obtain ⟨hx, hb, -⟩ := ok
  subst hp
  exact fun H locs la n k hH hD hS hL hn hk => lv_iconst hx hb hd hv (kk H locs la n k hH hD hS hL hn hk)
theorem g_bipush (ok : q_ok g Z A own name cc nL ret d) {i : Int} {v : Int32} (hd : decode cc pc = .ok (.bipush i, 2)) (hp : pc + 2 = pc') (hv : (Int8.ofInt i).toInt32 = v) (kk : GW g Z A post rc rs h pc' ls (.int v :: st)) : GW g Z A post rc rs h pc ls (st) := by
  obtain ⟨hx, hb, -⟩ := ok
  subst hp
  exact fun H locs la n k hH hD hS hL hn hk => lv_bipush hx hb hd hv (kk H locs la n k hH hD hS hL hn hk)
theorem g_sipush (ok : q_ok g Z A own name cc nL ret d) {i : Int} {v : Int32} (hd : decode cc pc = .ok (.sipush i, 3)) (hp : pc + 3 = pc') (hv : (Int16.ofInt i).toInt32 = v) (kk : GW g Z A post rc rs h pc' ls (.int v :: st)) : GW g Z A post rc rs h pc ls (st) := by
  obtain ⟨hx, hb, -⟩ := ok
  subst hp
  exact fun H locs la n k hH hD hS hL hn hk => lv_sipush hx hb hd hv (kk H locs la n k hH hD hS hL hn hk)
theorem g_null (ok : q_ok g Z A own name cc nL ret d) (hd : decode cc pc = .ok (.aconst_null, 1)) (hp : pc + 1 = pc') (kk : GW g Z A post rc rs h pc' ls (.null :: st)) : GW g Z A post rc rs h pc ls (st) := by
  obtain ⟨hx, hb, -⟩ := ok
  subst hp
  exact fun H locs la n k hH hD hS hL hn hk => lv_null hx hb hd (kk H locs la n k hH hD hS hL hn hk)
theorem g_iload_n (ok : q_ok g Z A own name cc nL ret d) {j : Fin 4} {i : Nat} {x : Int32} (hd : decode cc pc = .ok (.iload_n j, 1)) (hp : pc + 1 = pc') (hi : (j : Nat) = i) (hl : ls[i]? = some (some (.int x))) (kk : GW g Z A post rc rs h pc' ls (.int x :: st)) : GW g Z A post rc rs h pc ls (st) := by
  obtain ⟨hx, hb, -⟩ := ok
  subst hp
  exact fun H locs la n k hH hD hS hL hn hk => lv_iload_n hx hb hd hi (hL.at hl) (kk H locs la n k hH hD hS hL hn hk)
theorem g_iload (ok : q_ok g Z A own name cc nL ret d) {i : Nat} {x : Int32} (hd : decode cc pc = .ok (.iload i, 2)) (hp : pc + 2 = pc') (hl : ls[i]? = some (some (.int x))) (kk : GW g Z A post rc rs h pc' ls (.int x :: st)) : GW g Z A post rc rs h pc ls (st) := by
  obtain ⟨hx, hb, -⟩ := ok
  subst hp
  exact fun H locs la n k hH hD hS hL hn hk => lv_iload hx hb hd (hL.at hl) (kk H locs la n k hH hD hS hL hn hk)
theorem g_aload_n (ok : q_ok g Z A own name cc nL ret d) {j : Fin 4} {i : Nat} {x : Nat} (hd : decode cc pc = .ok (.aload_n j, 1)) (hp : pc + 1 = pc') (hi : (j : Nat) = i) (hl : ls[i]? = some (some (.ref x))) (kk : GW g Z A post rc rs h pc' ls (.ref x :: st)) : GW g Z A post rc rs h pc ls (st) := by
  obtain ⟨hx, hb, -⟩ := ok
  subst hp
  exact fun H locs la n k hH hD hS hL hn hk => lv_aload_n hx hb hd hi (hL.at hl) (kk H locs la n k hH hD hS hL hn hk)
theorem g_aload (ok : q_ok g Z A own name cc nL ret d) {i : Nat} {x : Nat} (hd : decode cc pc = .ok (.aload i, 2)) (hp : pc + 2 = pc') (hl : ls[i]? = some (some (.ref x))) (kk : GW g Z A post rc rs h pc' ls (.ref x :: st)) : GW g Z A post rc rs h pc ls (st) := by
  obtain ⟨hx, hb, -⟩ := ok
  subst hp
  exact fun H locs la n k hH hD hS hL hn hk => lv_aload hx hb hd (hL.at hl) (kk H locs la n k hH hD hS hL hn hk)
theorem g_aload_nN (ok : q_ok g Z A own name cc nL ret d) {j : Fin 4} {i : Nat} (hd : decode cc pc = .ok (.aload_n j, 1)) (hp : pc + 1 = pc') (hi : (j : Nat) = i) (hl : ls[i]? = some (some .null)) (kk : GW g Z A post rc rs h pc' ls (.null :: st)) : GW g Z A post rc rs h pc ls (st) := by
  obtain ⟨hx, hb, -⟩ := ok
  subst hp
  exact fun H locs la n k hH hD hS hL hn hk => lv_aload_nN hx hb hd hi (hL.at hl) (kk H locs la n k hH hD hS hL hn hk)
theorem g_aloadN (ok : q_ok g Z A own name cc nL ret d) {i : Nat} (hd : decode cc pc = .ok (.aload i, 2)) (hp : pc + 2 = pc') (hl : ls[i]? = some (some .null)) (kk : GW g Z A post rc rs h pc' ls (.null :: st)) : GW g Z A post rc rs h pc ls (st) := by
  obtain ⟨hx, hb, -⟩ := ok
  subst hp
  exact fun H locs la n k hH hD hS hL hn hk => lv_aloadN hx hb hd (hL.at hl) (kk H locs la n k hH hD hS hL hn hk)
theorem g_iadd (ok : q_ok g Z A own name cc nL ret d) {x y : Int32} (hd : decode cc pc = .ok (.iadd, 1)) (hp : pc + 1 = pc') (kk : GW g Z A post rc rs h pc' ls (.int (x + y) :: st)) : GW g Z A post rc rs h pc ls (.int y :: .int x :: st) := by
  obtain ⟨hx, hb, -⟩ := ok
  subst hp
  exact fun H locs la n k hH hD hS hL hn hk => lv_iadd hx hb hd (kk H locs la n k hH hD hS hL hn hk)
theorem g_isub (ok : q_ok g Z A own name cc nL ret d) {x y : Int32} (hd : decode cc pc = .ok (.isub, 1)) (hp : pc + 1 = pc') (kk : GW g Z A post rc rs h pc' ls (.int (x - y) :: st)) : GW g Z A post rc rs h pc ls (.int y :: .int x :: st) := by
  obtain ⟨hx, hb, -⟩ := ok
  subst hp
  exact fun H locs la n k hH hD hS hL hn hk => lv_isub hx hb hd (kk H locs la n k hH hD hS hL hn hk)
theorem g_imul (ok : q_ok g Z A own name cc nL ret d) {x y : Int32} (hd : decode cc pc = .ok (.imul, 1)) (hp : pc + 1 = pc') (kk : GW g Z A post rc rs h pc' ls (.int (x * y) :: st)) : GW g Z A post rc rs h pc ls (.int y :: .int x :: st) := by
  obtain ⟨hx, hb, -⟩ := ok
  subst hp
  exact fun H locs la n k hH hD hS hL hn hk => lv_imul hx hb hd (kk H locs la n k hH hD hS hL hn hk)
theorem g_iand (ok : q_ok g Z A own name cc nL ret d) {x y : Int32} (hd : decode cc pc = .ok (.iand, 1)) (hp : pc + 1 = pc') (kk : GW g Z A post rc rs h pc' ls (.int (x &&& y) :: st)) : GW g Z A post rc rs h pc ls (.int y :: .int x :: st) := by
  obtain ⟨hx, hb, -⟩ := ok
  subst hp
  exact fun H locs la n k hH hD hS hL hn hk => lv_iand hx hb hd (kk H locs la n k hH hD hS hL hn hk)
theorem g_ior (ok : q_ok g Z A own name cc nL ret d) {x y : Int32} (hd : decode cc pc = .ok (.ior, 1)) (hp : pc + 1 = pc') (kk : GW g Z A post rc rs h pc' ls (.int (x ||| y) :: st)) : GW g Z A post rc rs h pc ls (.int y :: .int x :: st) := by
  obtain ⟨hx, hb, -⟩ := ok
  subst hp
  exact fun H locs la n k hH hD hS hL hn hk => lv_ior hx hb hd (kk H locs la n k hH hD hS hL hn hk)
theorem g_ixor (ok : q_ok g Z A own name cc nL ret d) {x y : Int32} (hd : decode cc pc = .ok (.ixor, 1)) (hp : pc + 1 = pc') (kk : GW g Z A post rc rs h pc' ls (.int (x ^^^ y) :: st)) : GW g Z A post rc rs h pc ls (.int y :: .int x :: st) := by
  obtain ⟨hx, hb, -⟩ := ok
  subst hp
  exact fun H locs la n k hH hD hS hL hn hk => lv_ixor hx hb hd (kk H locs la n k hH hD hS hL hn hk)
theorem g_ishl (ok : q_ok g Z A own name cc nL ret d) {x y : Int32} (hd : decode cc pc = .ok (.ishl, 1)) (hp : pc + 1 = pc') (kk : GW g Z A post rc rs h pc' ls (.int (x <<< (y &&& 31)) :: st)) : GW g Z A post rc rs h pc ls (.int y :: .int x :: st) := by
  obtain ⟨hx, hb, -⟩ := ok
  subst hp
  exact fun H locs la n k hH hD hS hL hn hk => lv_ishl hx hb hd (kk H locs la n k hH hD hS hL hn hk)
theorem g_ishr (ok : q_ok g Z A own name cc nL ret d) {x y : Int32} (hd : decode cc pc = .ok (.ishr, 1)) (hp : pc + 1 = pc') (kk : GW g Z A post rc rs h pc' ls (.int (x >>> (y &&& 31)) :: st)) : GW g Z A post rc rs h pc ls (.int y :: .int x :: st) := by
  obtain ⟨hx, hb, -⟩ := ok
  subst hp
  exact fun H locs la n k hH hD hS hL hn hk => lv_ishr hx hb hd (kk H locs la n k hH hD hS hL hn hk)
theorem g_idiv (ok : q_ok g Z A own name cc nL ret d) {x y : Int32} (hd : decode cc pc = .ok (.idiv, 1)) (hp : pc + 1 = pc') (hne : ¬ y = 0) (kk : GW g Z A post rc rs h pc' ls (.int (x / y) :: st)) : GW g Z A post rc rs h pc ls (.int y :: .int x :: st) := by
  obtain ⟨hx, hb, -⟩ := ok
  subst hp
  exact fun H locs la n k hH hD hS hL hn hk => lv_idiv hx hb hd hne (kk H locs la n k hH hD hS hL hn hk)
theorem g_irem (ok : q_ok g Z A own name cc nL ret d) {x y : Int32} (hd : decode cc pc = .ok (.irem, 1)) (hp : pc + 1 = pc') (hne : ¬ y = 0) (kk : GW g Z A post rc rs h pc' ls (.int (x - x / y * y) :: st)) : GW g Z A post rc rs h pc ls (.int y :: .int x :: st) := by
  obtain ⟨hx, hb, -⟩ := ok
  subst hp
  exact fun H locs la n k hH hD hS hL hn hk => lv_irem hx hb hd hne (kk H locs la n k hH hD hS hL hn hk)
theorem g_ineg (ok : q_ok g Z A own name cc nL ret d) {x : Int32} (hd : decode cc pc = .ok (.ineg, 1)) (hp : pc + 1 = pc') (kk : GW g Z A post rc rs h pc' ls (.int (-x) :: st)) : GW g Z A post rc rs h pc ls (.int x :: st) := by
  obtain ⟨hx, hb, -⟩ := ok
  subst hp
  exact fun H locs la n k hH hD hS hL hn hk => lv_ineg hx hb hd (kk H locs la n k hH hD hS hL hn hk)
theorem g_iushr (ok : q_ok g Z A own name cc nL ret d) {x y v : Int32} (hd : decode cc pc = .ok (.iushr, 1)) (hp : pc + 1 = pc') (hv : (x.toUInt32 >>> (y.toUInt32 &&& Int32.toUInt32 31)).toInt32 = v) (kk : GW g Z A post rc rs h pc' ls (.int v :: st)) : GW g Z A post rc rs h pc ls (.int y :: .int x :: st) := by
  obtain ⟨hx, hb, -⟩ := ok
  subst hp
  exact fun H locs la n k hH hD hS hL hn hk => lv_iushr hx hb hd hv (kk H locs la n k hH hD hS hL hn hk)
theorem g_i2l (ok : q_ok g Z A own name cc nL ret d) {x : Int32} {v : Int64} (hd : decode cc pc = .ok (.i2l, 1)) (hp : pc + 1 = pc') (hv : x.toInt64 = v) (kk : GW g Z A post rc rs h pc' ls (.long v :: st)) : GW g Z A post rc rs h pc ls (.int x :: st) := by
  obtain ⟨hx, hb, -⟩ := ok
  subst hp
  exact fun H locs la n k hH hD hS hL hn hk => lv_i2l hx hb hd hv (kk H locs la n k hH hD hS hL hn hk)
theorem g_dup (ok : q_ok g Z A own name cc nL ret d) {va : Value} (hd : decode cc pc = .ok (.dup, 1)) (hp : pc + 1 = pc') (hva : va.category = 1) (kk : GW g Z A post rc rs h pc' ls (va :: va :: st)) : GW g Z A post rc rs h pc ls (va :: st) := by
  obtain ⟨hx, hb, -⟩ := ok
  subst hp
  exact fun H locs la n k hH hD hS hL hn hk => lv_dup hx hb hd hva (kk H locs la n k hH hD hS hL hn hk)
theorem g_pop (ok : q_ok g Z A own name cc nL ret d) {va : Value} (hd : decode cc pc = .ok (.pop, 1)) (hp : pc + 1 = pc') (hva : va.category = 1) (kk : GW g Z A post rc rs h pc' ls (st)) : GW g Z A post rc rs h pc ls (va :: st) := by
  obtain ⟨hx, hb, -⟩ := ok
  subst hp
  exact fun H locs la n k hH hD hS hL hn hk => lv_pop hx hb hd hva (kk H locs la n k hH hD hS hL hn hk)
theorem g_dup_x1 (ok : q_ok g Z A own name cc nL ret d) {va vb : Value} (hd : decode cc pc = .ok (.dup_x1, 1)) (hp : pc + 1 = pc') (hva : va.category = 1) (hvb : vb.category = 1) (kk : GW g Z A post rc rs h pc' ls (va :: vb :: va :: st)) : GW g Z A post rc rs h pc ls (va :: vb :: st) := by
  obtain ⟨hx, hb, -⟩ := ok
  subst hp
  exact fun H locs la n k hH hD hS hL hn hk => lv_dup_x1 hx hb hd hva hvb (kk H locs la n k hH hD hS hL hn hk)
theorem g_dup2 (ok : q_ok g Z A own name cc nL ret d) {va vb : Value} (hd : decode cc pc = .ok (.dup2, 1)) (hp : pc + 1 = pc') (hva : va.category = 1) (hvb : vb.category = 1) (kk : GW g Z A post rc rs h pc' ls (va :: vb :: va :: vb :: st)) : GW g Z A post rc rs h pc ls (va :: vb :: st) := by
  obtain ⟨hx, hb, -⟩ := ok
  subst hp
  exact fun H locs la n k hH hD hS hL hn hk => lv_dup2_11 hx hb hd hva hvb (kk H locs la n k hH hD hS hL hn hk)
theorem g_istore_n (ok : q_ok g Z A own name cc nL ret d) {j : Fin 4} {i : Nat} {x : Int32} (hd : decode cc pc = .ok (.istore_n j, 1)) (hp : pc + 1 = pc') (hi : (j : Nat) = i) (hi2 : i < ls.length) {ls' : List (Option Value)} (hls : ls.set i (some (.int x)) = ls') (kk : GW g Z A post rc rs h pc' ls' st) : GW g Z A post rc rs h pc ls (.int x :: st) := by
  obtain ⟨hx, hb, -⟩ := ok
  subst hp
  subst hls
  exact fun H locs la n k hH hD hS hL hn hk => lv_istore_n hx hb hd hi hL.has hi2 rfl (fun la' hl' => kk H locs la' n k hH hD hS (hL.store rfl hl') hn hk)
theorem g_istore (ok : q_ok g Z A own name cc nL ret d) {i : Nat} {x : Int32} (hd : decode cc pc = .ok (.istore i, 2)) (hp : pc + 2 = pc') (hi2 : i < ls.length) {ls' : List (Option Value)} (hls : ls.set i (some (.int x)) = ls') (kk : GW g Z A post rc rs h pc' ls' st) : GW g Z A post rc rs h pc ls (.int x :: st) := by
  obtain ⟨hx, hb, -⟩ := ok
  subst hp
  subst hls
  exact fun H locs la n k hH hD hS hL hn hk => lv_istore hx hb hd hL.has hi2 rfl (fun la' hl' => kk H locs la' n k hH hD hS (hL.store rfl hl') hn hk)
theorem g_astore_n (ok : q_ok g Z A own name cc nL ret d) {j : Fin 4} {i : Nat} {x : Nat} (hd : decode cc pc = .ok (.astore_n j, 1)) (hp : pc + 1 = pc') (hi : (j : Nat) = i) (hi2 : i < ls.length) {ls' : List (Option Value)} (hls : ls.set i (some (.ref x)) = ls') (kk : GW g Z A post rc rs h pc' ls' st) : GW g Z A post rc rs h pc ls (.ref x :: st) := by
  obtain ⟨hx, hb, -⟩ := ok
  subst hp
  subst hls
  exact fun H locs la n k hH hD hS hL hn hk => lv_astore_n hx hb hd hi hL.has hi2 rfl (fun la' hl' => kk H locs la' n k hH hD hS (hL.store rfl hl') hn hk)
theorem g_astore (ok : q_ok g Z A own name cc nL ret d) {i : Nat} {x : Nat} (hd : decode cc pc = .ok (.astore i, 2)) (hp : pc + 2 = pc') (hi2 : i < ls.length) {ls' : List (Option Value)} (hls : ls.set i (some (.ref x)) = ls') (kk : GW g Z A post rc rs h pc' ls' st) : GW g Z A post rc rs h pc ls (.ref x :: st) := by
  obtain ⟨hx, hb, -⟩ := ok
  subst hp
  subst hls
  exact fun H locs la n k hH hD hS hL hn hk => lv_astore hx hb hd hL.has hi2 rfl (fun la' hl' => kk H locs la' n k hH hD hS (hL.store rfl hl') hn hk)
theorem g_astore_nN (ok : q_ok g Z A own name cc nL ret d) {j : Fin 4} {i : Nat} (hd : decode cc pc = .ok (.astore_n j, 1)) (hp : pc + 1 = pc') (hi : (j : Nat) = i) (hi2 : i < ls.length) {ls' : List (Option Value)} (hls : ls.set i (some (.null)) = ls') (kk : GW g Z A post rc rs h pc' ls' st) : GW g Z A post rc rs h pc ls (.null :: st) := by
  obtain ⟨hx, hb, -⟩ := ok
  subst hp
  subst hls
  exact fun H locs la n k hH hD hS hL hn hk => lv_astore_nN hx hb hd hi hL.has hi2 rfl (fun la' hl' => kk H locs la' n k hH hD hS (hL.store rfl hl') hn hk)
theorem g_astoreN (ok : q_ok g Z A own name cc nL ret d) {i : Nat} (hd : decode cc pc = .ok (.astore i, 2)) (hp : pc + 2 = pc') (hi2 : i < ls.length) {ls' : List (Option Value)} (hls : ls.set i (some (.null)) = ls') (kk : GW g Z A post rc rs h pc' ls' st) : GW g Z A post rc rs h pc ls (.null :: st) := by
  obtain ⟨hx, hb, -⟩ := ok
  subst hp
  subst hls
  exact fun H locs la n k hH hD hS hL hn hk => lv_astoreN hx hb hd hL.has hi2 rfl (fun la' hl' => kk H locs la' n k hH hD hS (hL.store rfl hl') hn hk)
theorem q_al_at {ls : List (Option Value)} {i : Nat} {v : Value} (h : ls[i]? = some (some v)) : ∃ k : Nat, (q_al ls)[k]? = some (i, v) := List.getElem?_of_mem (q_al_mem.mpr h)
theorem g_iinc (ok : q_ok g Z A own name cc nL ret d) {i : Nat} {c : Int} {x v : Int32} (hd : decode cc pc = .ok (.iinc i c, 3)) (hp : pc + 3 = pc') (hl : ls[i]? = some (some (.int x))) (hv : x + Int32.ofInt c = v) {ls' : List (Option Value)} (hls : ls.set i (some (.int v)) = ls') (kk : GW g Z A post rc rs h pc' ls' st) : GW g Z A post rc rs h pc ls st := by
  obtain ⟨hx, hb, -⟩ := ok
  subst hp
  subst hls
  obtain ⟨k0, hk0⟩ := q_al_at hl
  exact fun H locs la n k hH hD hS hL hn hk => lv_iinc hx hb hd hL.has hk0 hv (List.getElem?_eq_some_iff.mp hl).1 rfl (fun la' hl' => kk H locs la' n k hH hD hS (hL.store rfl hl') hn hk)
theorem g_goto (ok : q_ok g Z A own name cc nL ret d) {off : Int} (hd : decode cc pc = .ok (.goto off, 3)) (hp : (pc : Int) + off = (pc' : Int)) (kk : GW g Z A post rc rs h pc' ls st) : GW g Z A post rc rs h pc ls st := by
  obtain ⟨hx, hb, -⟩ := ok
  exact fun H locs la n k hH hD hS hL hn hk => lv_goto hx hb hd hp (kk H locs la n k hH hD hS hL hn hk)
theorem g_if_eq (ok : q_ok g Z A own name cc nL ret d) {x : Int32} {off : Int} {tgt : Nat} (hd : decode cc pc = .ok (.ifCond .eq off, 3)) (ht : (pc : Int) + off = (tgt : Int)) (hp : pc + 3 = pc') (kt : x = 0 → GW g Z A post rc rs h tgt ls st) (kf : ¬ x = 0 → GW g Z A post rc rs h pc' ls st) : GW g Z A post rc rs h pc ls (.int x :: st) := by
  obtain ⟨hx, hb, -⟩ := ok
  subst hp
  exact fun H locs la n k hH hD hS hL hn hk => lv_if_eq hx hb hd ht (fun z => kt z H locs la n k hH hD hS hL hn hk) (fun z => kf z H locs la n k hH hD hS hL hn hk)
theorem g_icmp_eq (ok : q_ok g Z A own name cc nL ret d) {x y : Int32} {off : Int} {tgt : Nat} (hd : decode cc pc = .ok (.if_icmp .eq off, 3)) (ht : (pc : Int) + off = (tgt : Int)) (hp : pc + 3 = pc') (kt : x = y → GW g Z A post rc rs h tgt ls st) (kf : ¬ x = y → GW g Z A post rc rs h pc' ls st) : GW g Z A post rc rs h pc ls (.int y :: .int x :: st) := by
  obtain ⟨hx, hb, -⟩ := ok
  subst hp
  exact fun H locs la n k hH hD hS hL hn hk => lv_icmp_eq hx hb hd ht (fun z => kt z H locs la n k hH hD hS hL hn hk) (fun z => kf z H locs la n k hH hD hS hL hn hk)
theorem g_if_ne (ok : q_ok g Z A own name cc nL ret d) {x : Int32} {off : Int} {tgt : Nat} (hd : decode cc pc = .ok (.ifCond .ne off, 3)) (ht : (pc : Int) + off = (tgt : Int)) (hp : pc + 3 = pc') (kt : ¬ x = 0 → GW g Z A post rc rs h tgt ls st) (kf : x = 0 → GW g Z A post rc rs h pc' ls st) : GW g Z A post rc rs h pc ls (.int x :: st) := by
  obtain ⟨hx, hb, -⟩ := ok
  subst hp
  exact fun H locs la n k hH hD hS hL hn hk => lv_if_ne hx hb hd ht (fun z => kt z H locs la n k hH hD hS hL hn hk) (fun z => kf z H locs la n k hH hD hS hL hn hk)
theorem g_icmp_ne (ok : q_ok g Z A own name cc nL ret d) {x y : Int32} {off : Int} {tgt : Nat} (hd : decode cc pc = .ok (.if_icmp .ne off, 3)) (ht : (pc : Int) + off = (tgt : Int)) (hp : pc + 3 = pc') (kt : ¬ x = y → GW g Z A post rc rs h tgt ls st) (kf : x = y → GW g Z A post rc rs h pc' ls st) : GW g Z A post rc rs h pc ls (.int y :: .int x :: st) := by
  obtain ⟨hx, hb, -⟩ := ok
  subst hp
  exact fun H locs la n k hH hD hS hL hn hk => lv_icmp_ne hx hb hd ht (fun z => kt z H locs la n k hH hD hS hL hn hk) (fun z => kf z H locs la n k hH hD hS hL hn hk)
theorem g_if_lt (ok : q_ok g Z A own name cc nL ret d) {x : Int32} {off : Int} {tgt : Nat} (hd : decode cc pc = .ok (.ifCond .lt off, 3)) (ht : (pc : Int) + off = (tgt : Int)) (hp : pc + 3 = pc') (kt : x < 0 → GW g Z A post rc rs h tgt ls st) (kf : ¬ x < 0 → GW g Z A post rc rs h pc' ls st) : GW g Z A post rc rs h pc ls (.int x :: st) := by
  obtain ⟨hx, hb, -⟩ := ok
  subst hp
  exact fun H locs la n k hH hD hS hL hn hk => lv_if_lt hx hb hd ht (fun z => kt z H locs la n k hH hD hS hL hn hk) (fun z => kf z H locs la n k hH hD hS hL hn hk)
theorem g_icmp_lt (ok : q_ok g Z A own name cc nL ret d) {x y : Int32} {off : Int} {tgt : Nat} (hd : decode cc pc = .ok (.if_icmp .lt off, 3)) (ht : (pc : Int) + off = (tgt : Int)) (hp : pc + 3 = pc') (kt : x < y → GW g Z A post rc rs h tgt ls st) (kf : ¬ x < y → GW g Z A post rc rs h pc' ls st) : GW g Z A post rc rs h pc ls (.int y :: .int x :: st) := by
  obtain ⟨hx, hb, -⟩ := ok
  subst hp
  exact fun H locs la n k hH hD hS hL hn hk => lv_icmp_lt hx hb hd ht (fun z => kt z H locs la n k hH hD hS hL hn hk) (fun z => kf z H locs la n k hH hD hS hL hn hk)
theorem g_if_ge (ok : q_ok g Z A own name cc nL ret d) {x : Int32} {off : Int} {tgt : Nat} (hd : decode cc pc = .ok (.ifCond .ge off, 3)) (ht : (pc : Int) + off = (tgt : Int)) (hp : pc + 3 = pc') (kt : 0 ≤ x → GW g Z A post rc rs h tgt ls st) (kf : ¬ 0 ≤ x → GW g Z A post rc rs h pc' ls st) : GW g Z A post rc rs h pc ls (.int x :: st) := by
  obtain ⟨hx, hb, -⟩ := ok
  subst hp
  exact fun H locs la n k hH hD hS hL hn hk => lv_if_ge hx hb hd ht (fun z => kt z H locs la n k hH hD hS hL hn hk) (fun z => kf z H locs la n k hH hD hS hL hn hk)
theorem g_icmp_ge (ok : q_ok g Z A own name cc nL ret d) {x y : Int32} {off : Int} {tgt : Nat} (hd : decode cc pc = .ok (.if_icmp .ge off, 3)) (ht : (pc : Int) + off = (tgt : Int)) (hp : pc + 3 = pc') (kt : y ≤ x → GW g Z A post rc rs h tgt ls st) (kf : ¬ y ≤ x → GW g Z A post rc rs h pc' ls st) : GW g Z A post rc rs h pc ls (.int y :: .int x :: st) := by
  obtain ⟨hx, hb, -⟩ := ok
  subst hp
  exact fun H locs la n k hH hD hS hL hn hk => lv_icmp_ge hx hb hd ht (fun z => kt z H locs la n k hH hD hS hL hn hk) (fun z => kf z H locs la n k hH hD hS hL hn hk)
theorem g_if_gt (ok : q_ok g Z A own name cc nL ret d) {x : Int32} {off : Int} {tgt : Nat} (hd : decode cc pc = .ok (.ifCond .gt off, 3)) (ht : (pc : Int) + off = (tgt : Int)) (hp : pc + 3 = pc') (kt : 0 < x → GW g Z A post rc rs h tgt ls st) (kf : ¬ 0 < x → GW g Z A post rc rs h pc' ls st) : GW g Z A post rc rs h pc ls (.int x :: st) := by
  obtain ⟨hx, hb, -⟩ := ok
  subst hp
  exact fun H locs la n k hH hD hS hL hn hk => lv_if_gt hx hb hd ht (fun z => kt z H locs la n k hH hD hS hL hn hk) (fun z => kf z H locs la n k hH hD hS hL hn hk)
theorem g_icmp_gt (ok : q_ok g Z A own name cc nL ret d) {x y : Int32} {off : Int} {tgt : Nat} (hd : decode cc pc = .ok (.if_icmp .gt off, 3)) (ht : (pc : Int) + off = (tgt : Int)) (hp : pc + 3 = pc') (kt : y < x → GW g Z A post rc rs h tgt ls st) (kf : ¬ y < x → GW g Z A post rc rs h pc' ls st) : GW g Z A post rc rs h pc ls (.int y :: .int x :: st) := by
  obtain ⟨hx, hb, -⟩ := ok
  subst hp
  exact fun H locs la n k hH hD hS hL hn hk => lv_icmp_gt hx hb hd ht (fun z => kt z H locs la n k hH hD hS hL hn hk) (fun z => kf z H locs la n k hH hD hS hL hn hk)
theorem g_if_le (ok : q_ok g Z A own name cc nL ret d) {x : Int32} {off : Int} {tgt : Nat} (hd : decode cc pc = .ok (.ifCond .le off, 3)) (ht : (pc : Int) + off = (tgt : Int)) (hp : pc + 3 = pc') (kt : x ≤ 0 → GW g Z A post rc rs h tgt ls st) (kf : ¬ x ≤ 0 → GW g Z A post rc rs h pc' ls st) : GW g Z A post rc rs h pc ls (.int x :: st) := by
  obtain ⟨hx, hb, -⟩ := ok
  subst hp
  exact fun H locs la n k hH hD hS hL hn hk => lv_if_le hx hb hd ht (fun z => kt z H locs la n k hH hD hS hL hn hk) (fun z => kf z H locs la n k hH hD hS hL hn hk)
theorem g_icmp_le (ok : q_ok g Z A own name cc nL ret d) {x y : Int32} {off : Int} {tgt : Nat} (hd : decode cc pc = .ok (.if_icmp .le off, 3)) (ht : (pc : Int) + off = (tgt : Int)) (hp : pc + 3 = pc') (kt : x ≤ y → GW g Z A post rc rs h tgt ls st) (kf : ¬ x ≤ y → GW g Z A post rc rs h pc' ls st) : GW g Z A post rc rs h pc ls (.int y :: .int x :: st) := by
  obtain ⟨hx, hb, -⟩ := ok
  subst hp
  exact fun H locs la n k hH hD hS hL hn hk => lv_icmp_le hx hb hd ht (fun z => kt z H locs la n k hH hD hS hL hn hk) (fun z => kf z H locs la n k hH hD hS hL hn hk)
theorem g_acmp_eq (ok : q_ok g Z A own name cc nL ret d) {rx ry : Option Nat} {off : Int} {tgt : Nat} (hd : decode cc pc = .ok (.if_acmp .eq off, 3)) (ht : (pc : Int) + off = (tgt : Int)) (hp : pc + 3 = pc') (kt : rx = ry → GW g Z A post rc rs h tgt ls st) (kf : ¬ rx = ry → GW g Z A post rc rs h pc' ls st) : GW g Z A post rc rs h pc ls (va_rf ry :: va_rf rx :: st) := by
  obtain ⟨hx, hb, -⟩ := ok
  subst hp
  exact fun H locs la n k hH hD hS hL hn hk => lv_acmp_eq hx hb hd ht (fun z => kt z H locs la n k hH hD hS hL hn hk) (fun z => kf z H locs la n k hH hD hS hL hn hk)
theorem g_acmp_ne (ok : q_ok g Z A own name cc nL ret d) {rx ry : Option Nat} {off : Int} {tgt : Nat} (hd : decode cc pc = .ok (.if_acmp .ne off, 3)) (ht : (pc : Int) + off = (tgt : Int)) (hp : pc + 3 = pc') (kt : ¬ rx = ry → GW g Z A post rc rs h tgt ls st) (kf : rx = ry → GW g Z A post rc rs h pc' ls st) : GW g Z A post rc rs h pc ls (va_rf ry :: va_rf rx :: st) := by
  obtain ⟨hx, hb, -⟩ := ok
  subst hp
  exact fun H locs la n k hH hD hS hL hn hk => lv_acmp_ne hx hb hd ht (fun z => kt z H locs la n k hH hD hS hL hn hk) (fun z => kf z H locs la n k hH hD hS hL hn hk)
theorem g_ifnull (ok : q_ok g Z A own name cc nL ret d) {x : Nat} {off : Int} (hd : decode cc pc = .ok (.ifnull off, 3)) (hp : pc + 3 = pc') (kk : GW g Z A post rc rs h pc' ls st) : GW g Z A post rc rs h pc ls (.ref x :: st) := by
  obtain ⟨hx, hb, -⟩ := ok
  subst hp
  exact fun H locs la n k hH hD hS hL hn hk => lv_ifnull hx hb hd (kk H locs la n k hH hD hS hL hn hk)
theorem g_ifnullN (ok : q_ok g Z A own name cc nL ret d) {off : Int} {tgt : Nat} (hd : decode cc pc = .ok (.ifnull off, 3)) (ht : (pc : Int) + off = (tgt : Int)) (kk : GW g Z A post rc rs h tgt ls st) : GW g Z A post rc rs h pc ls (.null :: st) := by
  obtain ⟨hx, hb, -⟩ := ok
  exact fun H locs la n k hH hD hS hL hn hk => lv_ifnullN hx hb hd ht (kk H locs la n k hH hD hS hL hn hk)
theorem g_tableOut (ok : q_ok g Z A own name cc nL ret d) {dflt lo hi : Int} {offs : Array Int} {len : Nat} {x : Int32} {tgt : Nat} (hd : decode cc pc = .ok (.tableswitch dflt lo hi offs, len)) (ho : x.toInt < lo ∨ hi < x.toInt) (ht : (pc : Int) + dflt = (tgt : Int)) (kk : GW g Z A post rc rs h tgt ls st) : GW g Z A post rc rs h pc ls (.int x :: st) := by
  obtain ⟨hx, hb, -⟩ := ok
  exact fun H locs la n k hH hD hS hL hn hk => lv_tableOut hx hb hd ho ht (kk H locs la n k hH hD hS hL hn hk)
theorem g_tableIn (ok : q_ok g Z A own name cc nL ret d) {dflt lo hi : Int} {offs : Array Int} {len : Nat} {x : Int32} {off : Int} {tgt : Nat} (hd : decode cc pc = .ok (.tableswitch dflt lo hi offs, len)) (h1 : ¬ x.toInt < lo) (h2 : ¬ hi < x.toInt) (ho : offs[(x.toInt - lo).toNat]? = some off) (ht : (pc : Int) + off = (tgt : Int)) (kk : GW g Z A post rc rs h tgt ls st) : GW g Z A post rc rs h pc ls (.int x :: st) := by
  obtain ⟨hx, hb, -⟩ := ok
  exact fun H locs la n k hH hD hS hL hn hk => lv_tableIn hx hb hd h1 h2 ho ht (kk H locs la n k hH hD hS hL hn hk)
theorem g_ldc (ok : q_ok g Z A own name cc nL ret d) {index : Nat} {v : Int32} (hd : decode cc pc = .ok (.ldc index, 2)) (hp : pc + 2 = pc') (hw : Cond.constant own index v ∈ q_T) (kk : GW g Z A post rc rs h pc' ls (.int v :: st)) : GW g Z A post rc rs h pc ls st := by
  obtain ⟨hx, hb, hml, hown, hts, -⟩ := ok
  subst hp
  exact fun H locs la n k hH hD hS hL hn hk => lv_ldc hx hb hown (hts _ hw) hd (kk H locs la n k hH hD hS hL hn hk)
/-! ===== ends ===== -/
theorem wq_mono {p : Program} {l : Launch} {e : Env} {R : Room} {s : State} {m : MethodId} {args : Array Value} {below : List Frame} {meth : Method} {c : Code} {H : Heap} {locs : List Loc} {n k : Nat} {Q Q' : State → Prop} {f : JFrame} (hq : ∀ t, Q t → Q' t) (w : W p l e R s m args below meth c H locs n k Q f) : W p l e R s m args below meth c H locs n k Q' f := fun T hT X => by
  obtain ⟨t, a, b⟩ := w T hT X
  exact ⟨t, a, hq t b⟩
theorem q_fin {H : Heap} {locs : List Loc} {n k : Nat} {v : Option Value} (hq : post (.inl v) h) (hH : q_HR g h H) (hD : ∀ (a : Nat) (o : q_O), h a = some o → A a) (hS : va_S A (zs Z).heap H locs) (hn : n + rc ≤ (zR Z).cells) (hk : k + rs ≤ (zR Z).slots) (t : State) (hm : MQ (zb Z) (fun _ _ o t => o = .returned v ∧ t.heap = H) (za Z) (zs Z) n k A t) : q_Q g Z A post t := by
  obtain ⟨o, h1, h2, ⟨rfl, e2⟩, L, ⟨-, hW, hfr⟩, hL⟩ := hm
  refine ⟨_, h1, h2, ⟨.inl v, h, rfl, hq, by rw [e2]; exact hH, hD⟩, hS.F e2, hW, L, hfr.mono (by omega) (by omega), hL⟩
theorem g_iret (ok : q_ok g Z A own name cc nL ret d) {v : Int32} {ty : FieldType} (hd : decode cc pc = .ok (.ireturn, 1)) (hr : ret = some ty) (hv : narrow ty (.int v) = .int v) (hq : post (.inl (some (.int v))) h) : GW g Z A post rc rs h pc ls [.int v] := by
  obtain ⟨hx, hb, -, -, -, -, -, hlk, hrt, -⟩ := ok
  intro H locs la n k hH hD hS hL hn hk
  exact wq_mono (q_fin hq hH hD hS hn hk) (W.zret hx hb (hrt.trans hr) hv (fun t ht _ => ⟨rfl, ht⟩) hS.2.2 hd hlk)
theorem g_vret (ok : q_ok g Z A own name cc nL ret d) (hd : decode cc pc = .ok (.return_, 1)) (hr : ret = none) (hq : post (.inl none) h) : GW g Z A post rc rs h pc ls [] := by
  obtain ⟨hx, hb, -, -, -, -, -, hlk, hrt, -⟩ := ok
  intro H locs la n k hH hD hS hL hn hk
  exact wq_mono (q_fin hq hH hD hS hn hk) (W.vret hx hb (hrt.trans hr) (fun t ht _ => ⟨rfl, ht⟩) hS.2.2 hd hlk)
theorem g_aret (ok : q_ok g Z A own name cc nL ret d) {v : Value} {ty : FieldType} (hd : decode cc pc = .ok (.areturn, 1)) (hr : ret = some ty) (hty : (∃ n, ty = .object n) ∨ ∃ t, ty = .array t) (hv : v = .null ∨ ∃ a, v = .ref a) (hq : post (.inl (some v)) h) : GW g Z A post rc rs h pc ls [v] := by
  obtain ⟨hx, hb, -, -, -, -, -, hlk, hrt, -⟩ := ok
  intro H locs la n k hH hD hS hL hn hk
  exact wq_mono (q_fin hq hH hD hS hn hk) (W.aret hx hb (hrt.trans hr) hty hv (fun t ht _ => ⟨rfl, ht⟩) hS.2.2 hd hlk)
end GWR
