/-! ===== the start: what the tables and the constants are, and the whole claim ===== -/
theorem st_tb {w : Cond} (i : Nat) (h : tables_1[i]? = some w) : w ∈ lw_tbl := List.mem_append_right _ (List.mem_of_getElem? h)
theorem st_nw {w : Cond} {A : Array Value} {s : State} (hgv : (Jvm.Cond.and given_1 narrow_1).before A s = true) (i : Nat) (h : (flatC (Jvm.Cond.and given_1 narrow_1))[i]? = some w) : w.before A s = true := flat_of_before _ hgv w (List.mem_of_getElem? h)
theorem st_ar {A : Array Value} {s : State} {ty : FieldType} (h : (Cond.arrayClass ty).before A s = true) : ∃ c : ClassId, ArrOfT s c ty ∧ s.vm.findClass ("[" ++ ty.toString) = some c := by
  obtain ⟨c, k, comp, h1, h2, h3⟩ := Cond.arrayClass_spec h
  exact ⟨c, fun n z => ⟨(fun z hz => by cases hz), k, h2, comp, h3⟩, h1⟩
theorem st_len {A : Array Value} {s : State} {t : Term} {a : Nat} {cell : Cell} (h1 : t.eval A s none [] s = some (.ref a)) (h3 : s.heap[a]? = some cell) (he : (Cond.eq (.length t) (.int 0)).before A s = true) : cell.slots.size = 0 := by
  cases hl : (Term.length t).eval A s none [] s with
  | none => simp [Cond.before, Cond.holds, Cond.value, hl] at he
  | some v =>
    obtain ⟨a2, cell2, k1, k2, k3⟩ := Term.length_spec hl
    cases h1.symm.trans k1
    have k4 := (State.arrayAt?_spec k2).1
    cases h3.symm.trans k4
    subst k3
    have hv := Cond.eq_ints hl (show (Term.int 0).eval A s none [] s = some (.int 0) from rfl)
    have hd : cell.slots.size.toInt32 = 0 := by simpa [Cond.before, Cond.holds, hv] using he
    have hlt : cell.slots.size < 2147483648 := by
      by_cases hn : cell.slots.size < 2147483648
      · exact hn
      · exfalso
        simp [Term.eval, h1, k2, hn] at hl
    have e2 := congrArg Int32.toNatClampNeg hd
    have e3 : (Int32.ofNat cell.slots.size).toNatClampNeg = 0 := e2
    have e4 : cell.slots.size < 2 ^ 31 := hlt
    rw [show Int32.ofNat cell.slots.size = nI cell.slots.size from rfl, nI_clamp e4] at e3
    exact e3
section ST
variable {s : State} {b : Nat}
theorem st_cl (hts : ∀ w ∈ lw_tbl, w.before #[Value.ref b] s = true) : ∃ (dC : Nat → ClassId) (dI : Nat → Nat → Nat), ∀ (k : Nat) (q : vw_C), q_cl[k]? = some q → u_Kn s q.1 q.2.1 q.2.2 (dC k) (dI k) := by
  have htq : ∀ w ∈ q_T, w.before #[Value.ref b] s = true := fun w hw => hts w (q_T_tbl hw)
  obtain ⟨c0, i0, h0⟩ := u_known (C := R_RG) (T := F_RG) (N := 7) (n := 7) htq i_RG (hts (.instantiable R_RG 7) (st_tb 28 (by decide +kernel)))
  obtain ⟨c1, i1, h1⟩ := u_known (C := R_Sec) (T := F_Sec) (N := 10) (n := 10) htq i_Sec (hts (.instantiable R_Sec 10) (st_tb 36 (by decide +kernel)))
  obtain ⟨c2, i2, h2⟩ := u_known (C := R_Row) (T := F_Row) (N := 1) (n := 1) htq i_Row (hts (.instantiable R_Row 1) (st_tb 42 (by decide +kernel)))
  obtain ⟨c3, i3, h3⟩ := u_known (C := R_AL) (T := F_AL) (N := 3) (n := 3) htq i_AL (hts (.instantiable R_AL 3) (st_tb 91 (by decide +kernel)))
  obtain ⟨c4, i4, h4⟩ := u_known (C := R_Mem) (T := F_Mem) (N := 8) (n := 8) htq i_Mem (hts (.instantiable R_Mem 8) (st_tb 119 (by decide +kernel)))
  obtain ⟨c5, i5, h5⟩ := u_known (C := R_Ep) (T := F_Ep) (N := 10) (n := 10) htq i_Ep (hts (.instantiable R_Ep 10) (st_tb 221 (by decide +kernel)))
  obtain ⟨c6, i6, h6⟩ := u_known (C := R_Tr) (T := F_Tr) (N := 5) (n := 5) htq i_Tr (hts (.instantiable R_Tr 5) (st_tb 227 (by decide +kernel)))
  obtain ⟨c7, i7, h7⟩ := u_known (C := R_KP) (T := F_KP) (N := 6) (n := 6) htq i_KP (hts (.instantiable R_KP 6) (st_tb 582 (by decide +kernel)))
  obtain ⟨c8, i8, h8⟩ := u_known (C := R_Ad) (T := F_Ad) (N := 1) (n := 1) htq i_Ad (hts (.instantiable R_Ad 1) (st_tb 627 (by decide +kernel)))
  obtain ⟨c9, i9, h9⟩ := u_known (C := R_Re) (T := F_Re) (N := 1) (n := 1) htq i_Re (hts (.instantiable R_Re 1) (st_tb 646 (by decide +kernel)))
  obtain ⟨c10, i10, h10⟩ := u_known (C := R_Rn) (T := F_Rn) (N := 2) (n := 2) htq i_Rn (hts (.instantiable R_Rn 2) (st_tb 668 (by decide +kernel)))
  obtain ⟨c11, i11, h11⟩ := u_known (C := R_Mo) (T := F_Mo) (N := 52) (n := 52) htq i_Mo (hts (.instantiable R_Mo 52) (st_tb 881 (by decide +kernel)))
  refine ⟨fun k => match k with | 0 => c0 | 1 => c1 | 2 => c2 | 3 => c3 | 4 => c4 | 5 => c5 | 6 => c6 | 7 => c7 | 8 => c8 | 9 => c9 | 10 => c10 | _ => c11, fun k => match k with | 0 => i0 | 1 => i1 | 2 => i2 | 3 => i3 | 4 => i4 | 5 => i5 | 6 => i6 | 7 => i7 | 8 => i8 | 9 => i9 | 10 => i10 | _ => i11, ?_⟩
  intro k q hq
  match k, hq with
  | 0, hq => cases hq; exact h0
  | 1, hq => cases hq; exact h1
  | 2, hq => cases hq; exact h2
  | 3, hq => cases hq; exact h3
  | 4, hq => cases hq; exact h4
  | 5, hq => cases hq; exact h5
  | 6, hq => cases hq; exact h6
  | 7, hq => cases hq; exact h7
  | 8, hq => cases hq; exact h8
  | 9, hq => cases hq; exact h9
  | 10, hq => cases hq; exact h10
  | 11, hq => cases hq; exact h11
  | k + 12, hq => simp at hq
theorem st_em (hgv : (Jvm.Cond.and given_1 narrow_1).before #[Value.ref b] s = true) : ∃ (a : Nat) (cell : Cell) (c : ClassId), (Term.static "java/util/ArrayList" "DEFAULTCAPACITY_EMPTY_ELEMENTDATA" "[Ljava/lang/Object;").eval #[Value.ref b] s none [] s = some (.ref a) ∧ s.heap[a]? = some cell ∧ s.isArrayOf cell (.object "java/lang/Object") ∧ cell.vm ≠ .unknown ∧ cell.slots.size = 0 ∧ cell.cls = c ∧ s.vm.findClass "[Ljava/lang/Object;" = some c := by
  obtain ⟨a, c, cell, k, h1, h2, h3, h4, h5, h6, h7⟩ := Cond.exactly_spec (show (Cond.exactly (.static "java/util/ArrayList" "DEFAULTCAPACITY_EMPTY_ELEMENTDATA" "[Ljava/lang/Object;") "[Ljava/lang/Object;").before #[Value.ref b] s = true from st_nw hgv 6 (by decide +kernel))
  obtain ⟨g1, g2⟩ := Cond.arrayOf_spec (show (Cond.arrayOf (.static "java/util/ArrayList" "DEFAULTCAPACITY_EMPTY_ELEMENTDATA" "[Ljava/lang/Object;") (.object "java/lang/Object")).before #[Value.ref b] s = true from st_nw hgv 5 (by decide +kernel)) h1 h3
  exact ⟨a, cell, c, h1, h3, g1, g2, st_len h1 h3 (st_nw hgv 7 (by decide +kernel)), h6, h2⟩
theorem st_sr (hts : ∀ w ∈ lw_tbl, w.before #[Value.ref b] s = true) (hgv : (Jvm.Cond.and given_1 narrow_1).before #[Value.ref b] s = true) : ∀ q ∈ q_strs, ∃ a, vk_R "RatchetGroup" q.1 q.2 a s := by
  have K : ∀ (k : Nat) (tx : String), (Cond.stringRef "RatchetGroup" k tx).before #[Value.ref b] s = true → (Cond.exactly (.string "RatchetGroup" k) "java/lang/String").before #[Value.ref b] s = true → ∃ a, vk_R "RatchetGroup" k tx a s := fun k tx g1 g2 => by
    obtain ⟨a, c, cell, kk, h1, -⟩ := Cond.exactly_spec g2
    exact ⟨a, vk_R.of g1 h1⟩
  intro q hq
  simp only [q_strs, List.mem_cons, List.not_mem_nil, or_false] at hq
  rcases hq with rfl | rfl | rfl | rfl | rfl | rfl | rfl | rfl | rfl
  · exact K _ _ (hts _ (st_tb 539 (by decide +kernel))) (st_nw hgv 76 (by decide +kernel))
  · exact K _ _ (hts _ (st_tb 575 (by decide +kernel))) (st_nw hgv 94 (by decide +kernel))
  · exact K _ _ (hts _ (st_tb 619 (by decide +kernel))) (st_nw hgv 120 (by decide +kernel))
  · exact K _ _ (hts _ (st_tb 624 (by decide +kernel))) (st_nw hgv 141 (by decide +kernel))
  · exact K _ _ (hts _ (st_tb 625 (by decide +kernel))) (st_nw hgv 185 (by decide +kernel))
  · exact K _ _ (hts _ (st_tb 644 (by decide +kernel))) (st_nw hgv 210 (by decide +kernel))
  · exact K _ _ (hts _ (st_tb 690 (by decide +kernel))) (st_nw hgv 231 (by decide +kernel))
  · exact K _ _ (hts _ (st_tb 855 (by decide +kernel))) (st_nw hgv 260 (by decide +kernel))
  · exact K _ _ (hts _ (st_tb 860 (by decide +kernel))) (st_nw hgv 314 (by decide +kernel))
theorem st_nc (hgv : (Jvm.Cond.and given_1 narrow_1).before #[Value.ref b] s = true) : ∀ q ∈ q_ncs, va_Nc q.1 q.2 s := by
  intro q hq
  simp only [q_ncs, List.mem_cons, List.not_mem_nil, or_false] at hq
  rcases hq with rfl | rfl | rfl | rfl | rfl | rfl | rfl
  · exact va_Nc.of (args := #[Value.ref b]) (st_nw hgv 47 (by decide +kernel))
  · exact va_Nc.of (args := #[Value.ref b]) (st_nw hgv 48 (by decide +kernel))
  · exact va_Nc.of (args := #[Value.ref b]) (st_nw hgv 60 (by decide +kernel))
  · exact va_Nc.of (args := #[Value.ref b]) (st_nw hgv 61 (by decide +kernel))
  · exact va_Nc.of (args := #[Value.ref b]) (st_nw hgv 73 (by decide +kernel))
  · exact va_Nc.of (args := #[Value.ref b]) (st_nw hgv 74 (by decide +kernel))
  · exact va_Nc.of (args := #[Value.ref b]) (st_nw hgv 18 (by decide +kernel))
theorem st_K (hts : ∀ w ∈ lw_tbl, w.before #[Value.ref b] s = true) (hgv : (Jvm.Cond.and given_1 narrow_1).before #[Value.ref b] s = true) : ∃ (D : va_G) (dA : Nat → ClassId) (ad : Nat → Nat), q_K (D, dA, s.heap.size, s.heap, ad) s := by
  obtain ⟨dC, dI, hC⟩ := st_cl hts
  obtain ⟨a0, cell, cO, e1, e2, e3, e4, e5, e6, e7⟩ := st_em hgv
  obtain ⟨mi, hmi⟩ := va_Mi.of (args := #[Value.ref b]) (st_nw hgv 75 (by decide +kernel) : (Cond.isRef (.mirror "[Ljava/lang/Object;")).before #[Value.ref b] s = true)
  obtain ⟨d0, p0, p0r⟩ := st_ar (ty := .int) (hts _ (st_tb 54 (by decide +kernel)))
  obtain ⟨d1, p1, p1r⟩ := st_ar (ty := .boolean) (hts _ (st_tb 1051 (by decide +kernel)))
  obtain ⟨d3, p3, p3r⟩ := st_ar (ty := .long) (hts _ (st_tb 1273 (by decide +kernel)))
  have hAO : (Cond.arrayOver (.object "java/lang/Object")).before #[Value.ref b] s = true := hts _ (st_tb 210 (by decide +kernel))
  obtain ⟨comp, d2, kk, q1, q2, q3, q4, q5⟩ := Cond.arrayOver_spec hAO
  have hlow : ∀ a : Nat, a < s.heap.size → ¬ s.heap.size ≤ a := fun a h => Nat.not_le.mpr h
  have ec : cO = d2 := Option.some.inj (e7.symm.trans q5)
  have l1 : (Cond.laysStatic "java/lang/Throwable" "UNASSIGNED_STACK" "[Ljava/lang/StackTraceElement;").before #[Value.ref b] s = true := hts _ (st_tb 526 (by decide +kernel))
  have l2 : (Cond.laysStatic "java/lang/Throwable" "SUPPRESSED_SENTINEL" "Ljava/util/List;").before #[Value.ref b] s = true := hts _ (st_tb 528 (by decide +kernel))
  have iT : (Cond.initialized "java/lang/Throwable").before #[Value.ref b] s = true := hts _ (st_tb 15 (by decide +kernel))
  refine ⟨(dC, dI), fun k => match k with | 0 => d0 | 1 => d1 | 2 => d2 | _ => d3, fun k => match k with | 0 => a0 | _ => mi, ⟨hC, ?_⟩, ?_, ⟨cell, e2, e3, e4, e5, e6.trans ec⟩, st_nc hgv, ?_, ?_, hmi, st_sr hts hgv, rfl, ?_, ?_, ?_, va_AO.of hAO⟩
  · intro k q hq
    match k, hq with
    | 0, hq => cases hq; exact ⟨p0, p0r⟩
    | 1, hq => cases hq; exact ⟨p1, p1r⟩
    | 2, hq => cases hq; exact ⟨fun n z => ⟨(fun z hz => by cases hz), kk, q3, comp, q4⟩, kk, comp, q3, q4, q1, q5⟩
    | 3, hq => cases hq; exact ⟨p3, p3r⟩
    | k + 4, hq => simp [q_tys] at hq
  · exact va_Zof (args := #[Value.ref b]) (hts _ (st_tb 103 (by decide +kernel))) (hts _ (st_tb 7 (by decide +kernel))) e1 hlow
  · exact va_Zqof l1 iT (st_nw hgv 8 (by decide +kernel)) hlow
  · exact va_Zqof l2 iT (st_nw hgv 9 (by decide +kernel)) hlow
  · intro w hw
    exact va_Nw.of (q_X_on (List.mem_filter.mp hw).2) (hts w (List.mem_append_right _ (List.mem_filter.mp hw).1))
  · exact l1
  · exact l2
end ST
/-- the law's flags: no stack traces -/
theorem st_tr {l : Launch} (hfl : l.flags = flags0) : ∀ e, l.admits e → e.platform.stackTraces = false := by
  intro e he
  have h5 := he.2.2.2.2.1
  rw [h5]
  show l.stackTraces = false
  unfold Launch.stackTraces
  rw [hfl]
  decide +kernel
theorem st_run {p : Program} {l : Launch} {e : Env} {s : State} {m : MethodId} {below : List Frame} {meth : Method} {c : Code} {b L : Nat} {xs : Nat → Int32} (hfl : l.flags = flags0) (hL : L ≤ 2048)
    (hx : p.tables.exec = Jvm.exec) (hb : c.code = code) (hr : meth.sig.returnType = ret) (hml : c.maxLocals = 7) (hown : s.vm.findClass "RatchetGroupLaw" = some m.cls) (hts : ∀ w ∈ lw_tbl, w.before #[Value.ref b] s = true) (hX : va_X b L xs s s.heap) (hbl : b < s.heap.size) (hlocks : meth.locks = false) (hgv : (Jvm.Cond.and given_1 narrow_1).before #[Value.ref b] s = true)
    (hnm : meth.name = "law") (hcd : meth.code = some c) (hnh : ∀ x ∈ c.exceptionTable.toList, ∀ q, covers x q = false) :
    W p l e room_1 s m #[Value.ref b] below meth c s.heap [] 0 0 (fun t => ∃ o, t.status = .running ∧ Ended t below o ∧ o = .returned (some (.int 1)) ∧ Framed s o t [] 601024 7293034) (entryFrame m ([Value.ref b] : List Value).toArray 7) := by
  obtain ⟨D, dA, ad, hK⟩ := st_K hts hgv
  have ok : q_ok (D, dA, s.heap.size, s.heap, ad) (p, l, e, room_1, s, m, #[Value.ref b], below, meth, c) (fun q => s.heap.size ≤ q) "RatchetGroupLaw" "law" code 7 (some .boolean) 22 := by
    refine ⟨hx, hb, hml, hown, fun w hw => hts w (q_T_tbl hw), hK, fun q h => h, hlocks, hr, hnm, Nat.le_of_ble_eq_true rfl, Nat.le_of_ble_eq_true rfl, hcd, st_tr hfl, Nat.le_refl _, fun q h => h, hnh, fun q cell hq hc => ?_⟩
    exact absurd (Array.getElem?_eq_some_iff.mp hc).1 (Nat.not_lt.mpr hq)
  have B := lw_body (J := q_J (D, dA, s.heap.size, s.heap, ad)) (post := fun r _ => r = .inl (some (.int 1))) (b := b) (L := L) (xs := xs) (rc := 7500) (rs := 200000) ok hX hbl (Nat.not_le.mpr hbl) hL
    (fun r o h1 h2 w D' ob ba HG HX => J_0 _ r o h1 h2 w D' ob ba HG HX)
    (fun r o n t h1 h2 hJ => by
      obtain ⟨w, D', ob, G, ba, X, HG, HX, -, ht⟩ := hJ
      have h := c_Mo_thrown (D, dA, s.heap.size, s.heap, ad) 20 HX
      rw [ht] at h
      exact h)
    (fun r o n t h1 h2 hJ => by
      obtain ⟨w, D', ob, G, ba, X, HG, HX, -, ht⟩ := hJ
      exact ⟨_, HG.1.1⟩)
    (fun r o n t h1 h2 hJ => by
      obtain ⟨w, D', ob, G, ba, X, HG, HX, -, ht⟩ := hJ
      exact ⟨_, HX.1⟩)
    (fun r o a b c => J_all a b c) (fun h => rfl) (Nat.le_refl _) (Nat.le_refl _)
  have hH : q_HR (D, dA, s.heap.size, s.heap, ad) (fun _ => none) s.heap := ⟨Nat.le_refl _, fun q _ => rfl, fun a o h => by cases h⟩
  have K := B s.heap [] _ 0 0 hH (fun a o h => by cases h) va_S.rf (q_LR_entry [Value.ref b] 7 (by simp [Value.category]) (Nat.le_of_ble_eq_true rfl)) (Nat.le_of_ble_eq_true rfl) (Nat.le_of_ble_eq_true rfl)
  intro T hT X
  obtain ⟨t, a1, oc, b1, b2, ⟨r, h', c1, c2, c3, c4⟩, d1, d2, LL, d3, d4⟩ := K T hT X
  have hoc : oc = .returned (some (.int 1)) := by
    have c2' : r = .inl (some (.int 1)) := c2
    subst c2'
    exact c1
  refine ⟨t, ?_, oc, b1, b2, hoc, ⟨_, hoc⟩, d2, d3.sift (fun q hq => Or.inr (d4 q hq))⟩
  rw [entry_eq m [Value.ref b] (by simp [Value.category]) 7]
  exact a1
def lw_P (b : Addr) (xs : List Int32) (args : Array Value) (s : State) : Prop := args = #[.ref b] ∧ s.IntsAt b xs ∧ xs.length ≤ 2048 ∧ (Jvm.Cond.and given_1 narrow_1).before args s = true
def lw_Q (_ : Array Value) (s : State) (o : Outcome) (t : State) : Prop := o = .returned (some (.int 1)) ∧ Framed s o t [] 601024 7293034
theorem lw_walk (l : Launch) (hfl : l.flags = flags0) (b : Addr) (xs : List Int32) : MetFree l x (headSpec (Jvm.Cond.code x code maxLocals ret :: tables_1) room_1) (lw_P b xs) (fun _ _ _ _ _ => True) lw_Q := by
  refine MetFree.of_bodyS (code := code) (maxLocals := maxLocals) (ret := ret) (by decide) ?_ ?_
  · intro args s m h hn
    obtain ⟨meth, c, h1, h2, h3, h4, h5, h6, -, -⟩ := Cond.code_spec hn (atoms_spec (ws := Jvm.Cond.code x code maxLocals ret :: tables_1) h _ List.mem_cons_self)
    exact ⟨meth, c, h1, h2, h3, h4, h5, h6⟩
  · intro p e s m args below meth c s₁ B hml0 hP _
    obtain ⟨rfl, hx, hbd, hgv⟩ := hP
    obtain ⟨scr, harrAt, hlist, hof, hsmall⟩ := hx
    obtain ⟨hcb, hkn, -, -⟩ := State.arrayAt?_spec harrAt
    have hown : s.vm.findClass "RatchetGroupLaw" = some m.cls := findClass_of_methodNamed B.named
    have hts0 : ∀ c ∈ (Jvm.Cond.code x code maxLocals ret :: tables_1), c.before #[Value.ref b] s = true := atoms_spec (ws := Jvm.Cond.code x code maxLocals ret :: tables_1) B.pre
    have hts : ∀ w ∈ lw_tbl, w.before #[Value.ref b] s = true := k2_hts_sels lw_privs (fun w hw => hts0 w (List.mem_cons_of_mem _ hw)) lw_privs_ok
    have hml : c.maxLocals = 7 := B.maxLocals_eq (hts0 _ List.mem_cons_self)
    have X₀ : Stand p l e room_1 s m #[Value.ref b] below meth c s₁ [] 0 0 := Stand.of_body B
    have hnh : ∀ x ∈ c.exceptionTable.toList, ∀ q, covers x q = false := by
      obtain ⟨meth', c', g1, g2, g3, g4, g5, g6, g7, g8⟩ := Cond.code_spec B.named (hts0 _ List.mem_cons_self)
      cases B.method.symm.trans g1
      cases X₀.code.symm.trans g2
      clear hts hts0 hlist hof hgv B X₀
      intro x hx
      simp_all
    have hh0 : s₁.heap = s.heap := by rw [B.state]; rfl
    have hsz : scr.slots.size = xs.length := by rw [← Array.length_toList, hlist, List.length_map]
    have hval : ∀ j : Nat, j < xs.length → scr.slots[j]? = some (.int (xs.getD j 0)) := fun j hj => by
      rw [← Array.getElem?_toList, hlist]
      simp [hj]
    have hbl : b < s.heap.size := (Array.getElem?_eq_some_iff.mp hcb).1
    have hX : va_X b xs.length (fun j => xs.getD j 0) s s.heap := ⟨scr, hcb, hof, hkn, hsz, hval⟩
    have K := st_run (e := e) (below := below) hfl hbd B.exec B.bytes B.returns hml hown hts hX hbl B.notSynchronized hgv (name_of_methodNamed B.named B.method).1 X₀.code hnh
    obtain ⟨t, a1, o, b1, b2, b3⟩ := K s₁ hh0 X₀
    exact ⟨t, o, a1, b1, b2, b3⟩
theorem lw_pre_spec {args : Array Value} {s : State} (h : (Jvm.Cond.and given_1 narrow_1).before args s = true) (hr : rest_1_c.before args s = true) : ∃ (b : Addr) (xs : List Int32), lw_P b xs args s := by
  have hq := flat_of_before _ hr
  have hc : (Cond.count 1).before args s = true := st_nw h 0 (by decide +kernel)
  have harr : (Cond.arrayOf (.arg 0) .int).before args s = true := st_nw h 2 (by decide +kernel)
  have hle : (Cond.le (.length (.arg 0)) (.int 2048)).before args s = true := st_nw h 3 (by decide +kernel)
  have hlen : (Cond.isInt (.length (.arg 0))).before args s = true := hq _ (by decide +kernel)
  have hall : (Cond.all (.arg 0) (.isInt (.elem (.arg 0) (.index 0)))).before args s = true := hq _ (by decide +kernel)
  obtain ⟨b, xs, hb, hx⟩ := State.ints_of_pre rfl harr hlen hall
  have hsm : xs.length < 2 ^ 31 := hx.choose_spec.2.2.2
  have hev : (Term.length (.arg 0)).eval args s none [] s = some (.int xs.length.toInt32) := hx.length_eval hb
  have hv := Cond.le_ints hev (show (Term.int 2048).eval args s none [] s = some (.int 2048) from rfl)
  have hd : xs.length.toInt32 ≤ 2048 := by
    simpa [Cond.before, Cond.holds, hv] using hle
  have hN : xs.length ≤ 2048 := (Int32.ofNat_le_ofNat hsm (by decide)).mp (show Int32.ofNat xs.length ≤ Int32.ofNat 2048 from hd)
  exact ⟨b, xs, Cond.one_arg hc (show args[0]? = some (.ref b) from hb), hx, hN, h⟩
theorem lw_comes (l : Launch) (hfl : l.flags = flags0) : Comes l x (Jvm.Cond.code x code maxLocals ret :: tables_1) room_1 (fun tb e args s => Calls_1 tb e args s ∧ rest_1 tb e args s ∧ Pre_1 tb e args s)
    (fun _ _ args s o t => lw_Q args s o t) := by
  intro p e ha hc hk s m args below hf hfit hheap happ hpre
  obtain ⟨b, xs, hP⟩ := lw_pre_spec hpre.2.2 hpre.2.1
  obtain ⟨k, o, h1, h2, h3, hQ⟩ := lw_walk l hfl b xs p e ha hc hk s m args below hf ((Spec.applies_iff_loose hf).mp happ).1 hP trivial
  exact ⟨k, o, h1, h2, h3, hQ⟩
theorem lw_frame {s t : State} {o : Outcome} {args : Array Value} (h : Framed s o t [] 601024 7293034) :
    Framed s o t (fieldLocs frame_1_writes args s ++ arrayLocs frame_1_arrays args s ++ staticLocs frame_1_statics s) 601024 7293034 := h
theorem lw_limb (L : Cond) (hL : ∀ (args : Array Value) (s t : State), L.after args s (.returned (some (.int 1))) t = true) :
    ArmFor flags0 classFile x code maxLocals ret World_1 tables_1 room_1 Calls_1 rest_1 Pre_1
      (fun tb e a s o t => postC L tb e a s o t ∧ Framed s o t (fieldLocs frame_1_writes a s ++ arrayLocs frame_1_arrays a s ++ staticLocs frame_1_statics s) 601024 7293034) := by
  intro l hfl _ _ p e ha hc hk s m args below hf hfit hheap happ hpre
  obtain ⟨k, o, h1, h2, h3, rfl, hF⟩ := lw_comes l hfl p e ha hc hk s m args below hf hfit hheap happ hpre
  exact ⟨k, _, h1, h2, h3, hL args s _, lw_frame hF⟩
theorem i_vc : Claimed_1_1 ∧ Claimed_1_2 := ⟨lw_limb limb_1_1 (fun args s t => by simp [limb_1_1, Cond.after, Cond.holds, Cond.value]), lw_limb limb_1_2 (fun args s t => Cond.after_iff.mpr (by
  first | (rw [show limb_1_2 = Cond.eq .result (.int 1) from rfl, Cond.eq_ints (x := 1) (y := 1) rfl rfl]; simp; done) | (simp [limb_1_2, Cond.value, Term.eval]; done)))⟩
