/-! ===== the row of 'throw new E("text")' ===== -/
theorem q_ldcwS {p : Program} {l : Launch} {e : Env} {R : Room} {s : State} {m : MethodId} {args : Array Value} {below : List Frame} {meth : Method} {c : Code} {T : State} {locs : List Loc} {cells slots : Nat}
    (X : Stand p l e R s m args below meth c T locs cells slots) (hexec : p.tables.exec = Jvm.exec) {own text : String} {index : Nat} {a : Addr} (hown : s.vm.findClass own = some m.cls)
    (hconst : (Cond.stringRef own index text).before args s = true) (hev : (Term.string own index).eval args s none [] s = some (.ref a)) {g : JFrame} (hg : g.method = m) (hdg : decode c.code g.pc = .ok (.ldc_w index, 3)) :
    ∀ target, Steps p.tables e below (T.setTop { g with pc := g.pc + 3, stack := .ref a :: g.stack }) target → Steps p.tables e below (T.setTop g) target := by
  obtain ⟨k, cf, i, a', hk, hcf, hcp, -, hr, hev'⟩ := Cond.stringRef_spec hown hconst
  cases hev.symm.trans hev'
  obtain ⟨k', hk', he⟩ := X.warmed.alike.2.2 _ _ hk
  have hr' : k'.resolved[index]? = some (some (.string a)) := by
    rcases X.warmed.entry hk hk' index with h | ⟨h, -⟩
    · rw [h]; exact hr
    · rw [hr] at h; cases h
  intro target hrest
  subst hg
  jvm_step X.here [hexec, hdg, ldc_w.wp_string (e := e) (s := T) (f := g) X.here.top hk' (by rw [he]; exact hcf) hcp hr']
  exact hrest
theorem q_atoms {g : q_G} {U : State} {args : Array Value} {ic kx : Nat} (hkx : (kx = 0 ∧ ic = 105) ∨ (kx = 1 ∧ ic = 93)) (hts : ∀ w ∈ q_T, w.before args U = true) (hK : q_K g U) (hH : ∀ q : Nat, q < q_bs g → U.heap[q]? = (q_Hb g)[q]?) : ∀ a ∈ Bundle.ownAtoms "RatchetGroup" ic (q_xn kx) q_chain, a.before args U = true := by
  have hlt : ∀ (a : Nat) (cell : Cell), (q_Hb g)[a]? = some cell → U.heap[a]? = some cell := fun a cell h => by
    have h1 := (Array.getElem?_eq_some_iff.mp h).1
    rw [hH a (by rw [← hK.sz]; exact h1)]
    exact h
  have hls : ∀ {C n d : String}, (Cond.laysStatic C n d).before #[] ({ U with heap := q_Hb g } : State) = true → (Cond.laysStatic C n d).before args U = true := by
    intro C n d h
    obtain ⟨c, k, i, f, a, cell, hc, hi, hst, ha, hcell, hs, hcls, hl, hty⟩ := Cond.laysStatic_spec h
    exact Cond.laysStatic_of (s := U) hc hi hst ha (hlt a cell hcell) hs hcls hl hty
  have go : ∀ a, ((a ∈ tables_1 ∧ (goodWord a = true ∨ q_isX a = true)) ∨ a = q_isr1 ∨ a = q_isr2 ∨ a = q_ls1 ∨ a = q_ls2) → a.before args U = true := by
    intro a ha
    rcases ha with ⟨h1, h2 | h2⟩ | rfl | rfl | rfl | rfl
    · exact hts a (List.mem_filter.mpr ⟨List.mem_append_right _ h1, h2⟩)
    · exact va_Nw.use (q_X_on h2) (hK.xw a (List.mem_filter.mpr ⟨h1, h2⟩))
    · exact q_isRef hK.u1 (fun a cell h _ => hlt a cell h)
    · exact q_isRef hK.u2 (fun a cell h _ => hlt a cell h)
    · exact hls hK.l1
    · exact hls hK.l2
  intro a ha
  rcases hkx with ⟨rfl, rfl⟩ | ⟨rfl, rfl⟩
  · exact go a (q_own0 a ha)
  · exact go a (q_own1 a ha)
set_option maxHeartbeats 1000000 in
theorem g_throw {g : q_G} {Z : q_Z} {A : Nat → Prop} {post : q_R → q_H → Prop} {rc rs : Nat} {h : q_H} {pc : Nat} {ls : List (Option Value)} {st : List Value} {name : String} {cc : ByteArray} {nL d : Nat} {ret : Option FieldType}
    (ok : q_ok g Z A "RatchetGroup" name cc nL ret d) {kx index ic sx lw : Nat} {tx : String} (hkx : (kx = 0 ∧ index = 101 ∧ ic = 105) ∨ (kx = 1 ∧ index = 89 ∧ ic = 93)) (hstr : (sx, tx) ∈ q_strs)
    (hd1 : decode cc pc = .ok (.new index, 3)) (hd2 : decode cc (pc + 3) = .ok (.dup, 1)) (hd3 : (decode cc (pc + 3 + 1) = .ok (.ldc sx, 2) ∧ lw = 2) ∨ (decode cc (pc + 3 + 1) = .ok (.ldc_w sx, 3) ∧ lw = 3)) (hd4 : decode cc (pc + 3 + 1 + lw) = .ok (.invokespecial ic, 3)) (hd5 : decode cc (pc + 3 + 1 + lw + 3) = .ok (.athrow, 1))
    (hst : (st.map fun v => v.category).sum ≤ 8) (hd : 6 ≤ d) (hlen : ls.length = nL) (hc1 : 1 ≤ rc) (hs1 : 6 ≤ rs) (hq : post (.inr kx) h) : GW g Z A post rc rs h pc ls st := by
  obtain ⟨hx, hb, hml, hown, hts, hK, hA, hlk, hrt, hnm, hfr, hlo, hcode, htr, hbs, hAb, hnh, hns⟩ := ok
  intro H locs la n k' hH hD hS hL hn hk T hT X
  subst hT
  have X0 := q_rebase X (by omega) (by omega)
  have hW : (zs Z).WarmedH T.vm := X.warmed
  generalize hs0 : ({ zs Z with heap := T.heap, slotsUsed := T.slotsUsed, vm := T.vm } : State) = s0 at X0
  have hvm0 : s0.vm = T.vm := by rw [← hs0]
  have hheap0 : s0.heap = T.heap := by rw [← hs0]
  have hW0 : (zs Z).WarmedH s0.vm := by rw [hvm0]; exact hW
  have hts0 : ∀ w ∈ q_T, w.before (za Z) s0 = true := fun w hw => word_at hW0 (q_T_good hw) (hts w hw)
  have hK0 : q_K g s0 := q_K.moved hW0 hK
  have hown0 : s0.vm.findClass "RatchetGroup" = some (zm Z).cls := by rw [hvm0, hW.alike.findClass]; exact hown
  have hat := q_atoms (g := g) (U := s0) (args := za Z) (ic := ic) (kx := kx) (by rcases hkx with ⟨a, -, b⟩ | ⟨a, -, b⟩; exact Or.inl ⟨a, b⟩; exact Or.inr ⟨a, b⟩) hts0 hK0 (fun q hq => by rw [hheap0]; exact hH.2.1 q hq)
  have hfit : Bundle.fit (q_xn kx) = true := by rcases hkx with ⟨rfl, -, -⟩ | ⟨rfl, -, -⟩ <;> decide +kernel
  have hcl : (Cond.classLink "RatchetGroup" index (q_xn kx)).before (za Z) s0 = true := by
    rcases hkx with ⟨rfl, rfl, -⟩ | ⟨rfl, rfl, -⟩
    · exact hts0 _ (q_T_in 499 (by decide +kernel) rfl)
    · exact hts0 _ (q_T_in 566 (by decide +kernel) rfl)
  have hinst : (Cond.instantiable (q_xn kx) 6).before (za Z) s0 = true := by
    rcases hkx with ⟨rfl, rfl, -⟩ | ⟨rfl, rfl, -⟩
    · exact hts0 _ (q_T_in 500 (by decide +kernel) rfl)
    · exact hts0 _ (q_T_in 567 (by decide +kernel) rfl)
  have hini : (Cond.initialized (q_xn kx)).before (za Z) s0 = true := by
    rcases hkx with ⟨rfl, rfl, -⟩ | ⟨rfl, rfl, -⟩
    · exact hts0 _ (q_T_in 18 (by decide +kernel) rfl)
    · exact hts0 _ (q_T_in 21 (by decide +kernel) rfl)
  obtain ⟨cX, kX, hfX, hkX, -⟩ := Cond.instantiable_spec hinst
  obtain ⟨sa, hsa⟩ := hK0.sr _ hstr
  have Wn : W (zp Z) (zl Z) (ze Z) { zR Z with cells := (zR Z).cells - n, slots := (zR Z).slots - k' } s0 (zm Z) (za Z) (zb Z) (zM Z) (zc Z) T.heap [] 0 0 (fun t => ∃ (x : Addr) (ce : Cell), t.status = .running ∧ Ended t (zb Z) (.threw x) ∧ s0.WarmedH t.vm ∧ s0.sameButNew ({ t with vm := s0.vm } : State) [] 1 6 ∧ t.heap[x]? = some ce ∧ Bundle.OwnCell (za Z) s0 (q_xn kx) x (.ref sa) ce) (F0 (zm Z) pc la st) := by
    refine W.newcK hx hb hown0 hcl hinst hini rfl hd1 (by show 0 + 1 ≤ _ - _; omega) (by show 0 + 6 ≤ _ - _; omega) hfX rfl fun H1 kC hkC e1 z1 o1 => ?_
    cases hkX.symm.trans hkC
    refine lv_dup hx hb hd2 rfl ?_
    intro T1 hT1 X1
    have hstep : ∀ target, Steps (zp Z).tables (ze Z) (zb Z) (T1.setTop (F0 (zm Z) (pc + 3 + 1 + lw) la (.ref sa :: .ref T.heap.size :: .ref T.heap.size :: st))) target → Steps (zp Z).tables (ze Z) (zb Z) (T1.setTop (F0 (zm Z) (pc + 3 + 1) la (.ref T.heap.size :: .ref T.heap.size :: st))) target := by
      rcases hd3 with ⟨h3, rfl⟩ | ⟨h3, rfl⟩
      · exact X1.ldcString hx hown0 (text := tx) (a := sa) hsa.1 hsa.2 (g := F0 (zm Z) (pc + 3 + 1) la (.ref T.heap.size :: .ref T.heap.size :: st)) rfl (by rw [hb]; exact h3)
      · exact q_ldcwS X1 hx hown0 (text := tx) (a := sa) hsa.1 hsa.2 (g := F0 (zm Z) (pc + 3 + 1) la (.ref T.heap.size :: .ref T.heap.size :: st)) rfl (by rw [hb]; exact h3)
    have hmr : 2 * (F0 (zm Z) (pc + 3 + 1 + lw) la (.ref sa :: .ref T.heap.size :: .ref T.heap.size :: st)).monitorRoom + (st.map fun v => v.category).sum ≤ 8 := lv_room hst
    obtain ⟨U, u1, u2, u3, u4, u5, ce, u6, u7⟩ := X1.ctorThrowS hx (htr _ X1.admits) (cls := q_xn kx) (names := q_chain) (ic := ic) hown0 hfit (by decide +kernel) hat (fun x hx' => by cases hx') hfX hkX (a := T.heap.size) (by rw [hT1]; exact e1) (by rw [hheap0]; exact Nat.le_refl _) (msg := .ref sa) rfl
      (g := F0 (zm Z) (pc + 3 + 1 + lw) la (.ref sa :: .ref T.heap.size :: .ref T.heap.size :: st)) rfl (by show la.size = _; rw [hL.1, hlen, hml]) rfl rfl (rest := st) rfl (by rw [hb]; exact hd4) (by rw [hb]; exact hd5) (fun x hx' => hnh x hx' _) (by show 2 + 3 < _; have := hfr; show 2 + 3 < (zR Z).frames; omega) (by simp only [List.map_cons, List.sum_cons, Value.category] at hmr ⊢; show _ ≤ (zR Z).locals; have h2 : q_chain.length = 2 := rfl; rw [h2]; omega) (hlocks := hlk)
    exact ⟨U, hstep U u1, T.heap.size, ce, u2, u3, u4, u5, u6, u7⟩
  obtain ⟨t, st1, x, ce, t1, t2, t3, t4, t5, t6⟩ := Wn T rfl X0
  have hold : ∀ q : Nat, q < T.heap.size → t.heap[q]? = T.heap[q]? := by
    intro q hq
    have hc : T.heap[q]? = some (T.heap[q]'hq) := Array.getElem?_eq_some_iff.mpr ⟨hq, rfl⟩
    obtain ⟨c', g1, g2, g3, g4⟩ := t4.2.2.2.2.2 q (T.heap[q]'hq) (by rw [hheap0]; exact hc)
    have g1' : t.heap[q]? = some c' := g1
    rw [g1', hc, g2]
    congr 1
    have : c'.slots = (T.heap[q]'hq).slots := by
      apply Array.ext_getElem?
      intro i
      exact g4 i (by simp)
    rw [this]
  have hge : T.heap.size ≤ t.heap.size := by
    have := t4.2.1
    rw [hheap0] at this
    exact this
  have hHt : q_HR g h t.heap := ⟨Nat.le_trans hH.1 hge, fun q hq => by rw [hold q (Nat.lt_of_lt_of_le hq hH.1)]; exact hH.2.1 q hq, fun a o ha => ⟨(hH.2.2 a o ha).1, (hH.2.2 a o ha).2.kept (hold a (hH.2.2 a o ha).2.lt)⟩⟩
  have hsame : (zs Z).sameButNew ({ t with vm := (zs Z).vm } : State) locs (n + 1) (k' + 6) := by
    subst hs0
    obtain ⟨g₀, hfrT⟩ := X.frames_eq
    obtain ⟨th, hth, -⟩ := State.frames_cons hfrT
    have hcur : (zs Z).cur < (zs Z).threads.size := X.cur
    have hB : T.sameButNew ({ T with heap := t.heap, slotsUsed := t.slotsUsed } : State) [] 1 6 := by
      refine ⟨?_, t4.2⟩
      show ({ T with heap := t.heap, slotsUsed := t.slotsUsed } : State) = { T.setFrames T.frames with heap := t.heap, slotsUsed := t.slotsUsed }
      rw [State.setFrames_self hth]
    have h3 := (X.same.trans (hB.setVm (zs Z).vm)).setFrames t.frames hcur
    rw [List.append_nil] at h3
    have e1 : T.setVm (zs Z).vm = { (zs Z).setFrames T.frames with heap := T.heap, slotsUsed := T.slotsUsed } := X.same.1
    have e2 : ({ t with vm := T.vm } : State) = { (({ zs Z with heap := T.heap, slotsUsed := T.slotsUsed, vm := T.vm } : State).setFrames t.frames) with heap := t.heap, slotsUsed := t.slotsUsed } := t4.1
    have e3 : ((({ T with heap := t.heap, slotsUsed := t.slotsUsed } : State).setVm (zs Z).vm).setFrames t.frames) = ({ t with vm := (zs Z).vm } : State) := by
      have e4 : ({ t with vm := (zs Z).vm } : State) = { (zs Z).setFrames t.frames with heap := t.heap, slotsUsed := t.slotsUsed } := congrArg (fun u : State => ({ u with vm := (zs Z).vm } : State)) e2
      rw [e4]
      have e5 : (({ T with heap := t.heap, slotsUsed := t.slotsUsed } : State).setVm (zs Z).vm) = { (zs Z).setFrames T.frames with heap := t.heap, slotsUsed := t.slotsUsed } := congrArg (fun u : State => ({ u with heap := t.heap, slotsUsed := t.slotsUsed } : State)) e1
      rw [e5]
      have e6 := State.setFrames_setFrames (zs Z) T.frames t.frames
      exact congrArg (fun u : State => ({ u with heap := t.heap, slotsUsed := t.slotsUsed } : State)) e6
    rw [e3] at h3
    exact h3
  have hWt : (zs Z).WarmedH t.vm := State.WarmedH.trans hW0 t3
  refine ⟨t, st1, .threw x, t1, t2, ⟨.inr kx, h, ⟨x, ce, rfl, t5, ?_, t6.vm⟩, hq, hHt, hD⟩, ?_, hWt, locs, hsame.mono (by omega) (by omega), hS.2.2⟩
  · rw [t3.alike.findClass]
    exact t6.cls
  · exact ⟨Nat.le_trans hS.1 hge, fun q h1 h2 => (hold q (Nat.lt_of_lt_of_le h1 hS.1)).trans (hS.2.1 q h1 h2)⟩
