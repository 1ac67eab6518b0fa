/-! ===== the law: rows of methods that catch ===== -/
section GWW
variable {g : q_G} {Z : q_Z} {A : Nat → Prop} {post postc : q_R → q_H → Prop} {rc rs rc' rs' : Nat} {h : q_H} {pc pc' : Nat} {ls : List (Option Value)} {st rest : List Value} {own name : String} {cc : ByteArray} {nL d : Nat} {ret : Option FieldType} {hs : List (Nat × Nat × Nat × Nat)}
theorem w_iconst (ok : q_okw g Z A own name cc nL ret d hs) {i : Int} {v : Int32} (hd : decode cc pc = .ok (.iconst i, 1)) (hp : pc + 1 = pc') (hv : Int32.ofInt i = v) (kk : GW g Z A post rc rs h pc' ls (.int v :: st)) : GW g Z A post rc rs h pc ls (st) := by
  obtain ⟨hx, hb, -⟩ := ok
  subst hp
  exact fun H locs la n k hH hD hS hL hn hk => lv_iconst hx hb hd hv (kk H locs la n k hH hD hS hL hn hk)
theorem w_iload_n (ok : q_okw g Z A own name cc nL ret d hs) {j : Fin 4} {i : Nat} {x : Int32} (hd : decode cc pc = .ok (.iload_n j, 1)) (hp : pc + 1 = pc') (hi : (j : Nat) = i) (hl : ls[i]? = some (some (.int x))) (kk : GW g Z A post rc rs h pc' ls (.int x :: st)) : GW g Z A post rc rs h pc ls (st) := by
  obtain ⟨hx, hb, -⟩ := ok
  subst hp
  exact fun H locs la n k hH hD hS hL hn hk => lv_iload_n hx hb hd hi (hL.at hl) (kk H locs la n k hH hD hS hL hn hk)
theorem w_aload_n (ok : q_okw g Z A own name cc nL ret d hs) {j : Fin 4} {i : Nat} {x : Nat} (hd : decode cc pc = .ok (.aload_n j, 1)) (hp : pc + 1 = pc') (hi : (j : Nat) = i) (hl : ls[i]? = some (some (.ref x))) (kk : GW g Z A post rc rs h pc' ls (.ref x :: st)) : GW g Z A post rc rs h pc ls (st) := by
  obtain ⟨hx, hb, -⟩ := ok
  subst hp
  exact fun H locs la n k hH hD hS hL hn hk => lv_aload_n hx hb hd hi (hL.at hl) (kk H locs la n k hH hD hS hL hn hk)
theorem w_astore_n (ok : q_okw g Z A own name cc nL ret d hs) {j : Fin 4} {i : Nat} {x : Nat} (hd : decode cc pc = .ok (.astore_n j, 1)) (hp : pc + 1 = pc') (hi : (j : Nat) = i) (hi2 : i < ls.length) {ls' : List (Option Value)} (hls : ls.set i (some (.ref x)) = ls') (kk : GW g Z A post rc rs h pc' ls' st) : GW g Z A post rc rs h pc ls (.ref x :: st) := by
  obtain ⟨hx, hb, -⟩ := ok
  subst hp
  subst hls
  exact fun H locs la n k hH hD hS hL hn hk => lv_astore_n hx hb hd hi hL.has hi2 rfl (fun la' hl' => kk H locs la' n k hH hD hS (hL.store rfl hl') hn hk)
theorem w_astore (ok : q_okw g Z A own name cc nL ret d hs) {i : Nat} {x : Nat} (hd : decode cc pc = .ok (.astore i, 2)) (hp : pc + 2 = pc') (hi2 : i < ls.length) {ls' : List (Option Value)} (hls : ls.set i (some (.ref x)) = ls') (kk : GW g Z A post rc rs h pc' ls' st) : GW g Z A post rc rs h pc ls (.ref x :: st) := by
  obtain ⟨hx, hb, -⟩ := ok
  subst hp
  subst hls
  exact fun H locs la n k hH hD hS hL hn hk => lv_astore hx hb hd hL.has hi2 rfl (fun la' hl' => kk H locs la' n k hH hD hS (hL.store rfl hl') hn hk)
theorem w_goto (ok : q_okw g Z A own name cc nL ret d hs) {off : Int} (hd : decode cc pc = .ok (.goto off, 3)) (hp : (pc : Int) + off = (pc' : Int)) (kk : GW g Z A post rc rs h pc' ls st) : GW g Z A post rc rs h pc ls st := by
  obtain ⟨hx, hb, -⟩ := ok
  exact fun H locs la n k hH hD hS hL hn hk => lv_goto hx hb hd hp (kk H locs la n k hH hD hS hL hn hk)
theorem w_i2l (ok : q_okw g Z A own name cc nL ret d hs) {x : Int32} {v : Int64} (hd : decode cc pc = .ok (.i2l, 1)) (hp : pc + 1 = pc') (hv : x.toInt64 = v) (kk : GW g Z A post rc rs h pc' ls (.long v :: st)) : GW g Z A post rc rs h pc ls (.int x :: st) := by
  obtain ⟨hx, hb, -⟩ := ok
  subst hp
  exact fun H locs la n k hH hD hS hL hn hk => lv_i2l hx hb hd hv (kk H locs la n k hH hD hS hL hn hk)
theorem w_iret (ok : q_okw g Z A own name cc nL ret d hs) {v : Int32} {ty : FieldType} (hd : decode cc pc = .ok (.ireturn, 1)) (hr : ret = some ty) (hv : narrow ty (.int v) = .int v) (hq : post (.inl (some (.int v))) h) : GW g Z A post rc rs h pc ls [.int v] := by
  obtain ⟨hx, hb, -, -, -, -, -, hlk, hrt, -⟩ := ok
  intro H locs la n k hH hD hS hL hn hk
  exact wq_mono (q_fin hq hH hD hS hn hk) (W.zret hx hb (hrt.trans hr) hv (fun t ht _ => ⟨rfl, ht⟩) hS.2.2 hd hlk)
theorem w_last (ok : q_okw g Z A own name cc nL ret d hs) {a N j : Nat} {f : Nat → Int64} {x : Int64} (hd : decode cc pc = .ok (.lastore, 1)) (hp : pc + 1 = pc') (ha : h a = some (.inr (3, N, .inr (.inl f)))) (hj : j < N) (hN : N < 2 ^ 31) (kk : GW g Z A post rc rs (q_up h a (.inr (3, N, .inr (.inl (vp_updL f j x))))) pc' ls st) : GW g Z A post rc rs h pc ls (.long x :: .int (nI j) :: .ref a :: st) := by
  obtain ⟨hx, hb, hml, hown, hts, hK, -⟩ := ok
  subst hp
  intro H locs la n k hH hD hS hL hn hk
  refine W.last hx hb ((hH.2.2 a _ ha).2) ((hK.1.2 3 _ rfl).1 N (fun j => .long (f j))) (fun q => by cases q) (by show ¬ (nI j < 0 ∨ (arrV _ _ _).slots.size ≤ _); rw [arrV_size]; exact vp_in_nI hj hN) rfl rfl hd fun H1 e z oq => ?_
  refine kk H1 _ la n k (hH.set ha z oq ?_) (q_dom_up hD (hD a _ ha)) (hS.put z oq (hD a _ ha)) hL hn hk
  show H1[a]? = some (vp_cell _ _)
  rw [e, nI_clamp (by omega)]
  show some ((vp_cell _ _).setSlot _ _) = _
  rw [vp_cell_l, vp_cell_l, arrV_store]
  congr 2
  funext q
  by_cases hq : q = j
  · subst hq
    simp [updV, vp_updL]
  · simp [updV, vp_updL, hq]
/-- a row of the handler table: its class's number, and what it does with the two exceptions -/
def q_pass (hs : List (Nat × Nat × Nat × Nat)) (pc kx hpc : Nat) : Prop :=
  (∃ r rest, hs = r :: rest ∧ r.1 ≤ pc ∧ pc < r.2.1 ∧ r.2.2.1 = hpc ∧ kx = 0 ∧ r.2.2.2 = 13) ∨
  (∃ r1 r2 rest, hs = r1 :: r2 :: rest ∧ r1.2.2.2 = 13 ∧ r2.1 ≤ pc ∧ pc < r2.2.1 ∧ r2.2.2.1 = hpc ∧ kx = 1 ∧ r2.2.2.2 = 15)
theorem q_fit {n : String} {s : State} (h : va_Nw (Cond.castable n n) s) : ∃ c, s.vm.findClass n = some c ∧ s.vm.assignable c c = true := by
  obtain ⟨c, t, h1, h2, h3⟩ := Cond.castable_spec h
  cases h1.symm.trans h2
  exact ⟨c, h1, h3⟩
theorem q_useC (ok : q_okw g Z A "RatchetGroupLaw" name cc nL ret d hs) {T1 : State} {locs : List Loc} {n k : Nat} {S0 : State} {la : Array Slot} (B : q_Back (zp Z) (zl Z) (ze Z) (zR Z) (zs Z) (zm Z) (za Z) (zb Z) (zM Z) (zc Z) T1 locs n k g (q_A h T1.heap.size) postc S0 (F0 (zm Z) pc la rest)) (hD : ∀ (a : Nat) (o : q_O), h a = some o → A a) (hS : va_S A (zs Z).heap T1.heap locs) (hL : q_LR ls la) (hn : n + rc' ≤ (zR Z).cells) (hk : k + rs' ≤ (zR Z).slots)
    (kr : ∀ v h', postc (.inl v) h' → GW g Z A post rc' rs' h' (pc + 3) ls (v.toList ++ rest)) (kx : ∀ i h', postc (.inr i) h' → ∃ hpc, q_pass hs pc i hpc ∧ ∀ x, GW g Z A post rc' rs' h' hpc ls [.ref x]) : ∃ t, Steps (zp Z).tables (ze Z) (zb Z) S0 t ∧ q_Q g Z A post t := by
  obtain ⟨hx, hb, hml, hown, hts, hK, hA, hlk, hrt, hnm, hfr, hlo, hcode, htr, hbs, hAb, htab, hns⟩ := ok
  obtain ⟨r, h', T', L, X', hLy, hpost, hHR, hdom, hz, hkeep, hr⟩ := B
  have hAy := q_A_in hD hA hS
  have hS' := q_S_call hS hAy hz hkeep hLy
  cases r with
  | inl v =>
    obtain ⟨t, a1, b1⟩ := kr v h' hpost T'.heap (locs ++ L) la n k hHR (fun a o ha => hAy a (hdom a o ha)) hS' hL hn hk T' rfl X'
    exact ⟨t, hr t a1, b1⟩
  | inr i =>
    obtain ⟨x, cell, c1, c2, c3, hr⟩ := hr
    obtain ⟨hpc, hpass, kk⟩ := kx i h' hpost
    have hcls : (zs Z).vm.findClass (q_xn i) = some cell.cls := by
      rw [← X'.warmed.alike.findClass]
      exact c2
    have hpl : (ze Z).platform.magicAccessors = ({} : Platform).magicAccessors := by rw [X'.admits.platform]
    have hst : cell.vm.isStatics = false := by rw [c3]; rfl
    have go : ∀ (pre : List ExceptionTableEntry) (row : ExceptionTableEntry) (rst : List ExceptionTableEntry), (zc Z).exceptionTable.toList = pre ++ row :: rst → (∀ y ∈ pre, RowPassed (ze Z).platform (zs Z) (zm Z).cls pc cell.cls y) → covers row pc = true → row.handlerPc = hpc → row.catchType ≠ 0 → (Cond.classLink "RatchetGroupLaw" row.catchType (q_xn i)).before (za Z) (zs Z) = true → va_Nw (Cond.castable (q_xn i) (q_xn i)) (zs Z) → ∃ t, Steps (zp Z).tables (ze Z) (zb Z) S0 t ∧ q_Q g Z A post t := by
      intro pre row rst hsplit hps hcov hhp h0 hlink hcast
      obtain ⟨cI, f1, f2⟩ := q_fit hcast
      cases f1.symm.trans hcls
      obtain ⟨hend, hk0⟩ := X'.catches_of_link hown h0 hlink f1 f2
      obtain ⟨vm', XV, hsteps⟩ := X'.thenCaughtThrough x (g := F0 (zm Z) pc la rest) rfl (hr _ (Steps.refl _)) c1 hst hk0 pre row rst hsplit hps hcov hend
      obtain ⟨t, a1, b1⟩ := kk x T'.heap (locs ++ L) la n k hHR (fun a o ha => hAy a (hdom a o ha)) hS' hL hn hk (T'.setVm vm') rfl XV
      refine ⟨t, hsteps.trans ?_, b1⟩
      rw [hhp]
      exact a1
    rcases hpass with ⟨r, rs, e1, e2, e3, e4, e5, e6⟩ | ⟨r1, r2, rs, e1, e2, e3, e4, e5, e6, e7⟩
    · subst e5
      rw [e1] at htab
      exact go [] ⟨r.1, r.2.1, r.2.2.1, r.2.2.2⟩ (tableOf rs) htab (fun y hy => by cases hy) (by simp [covers, e2, e3]) e4 (by show r.2.2.2 ≠ 0; rw [e6]; decide) (by show (Cond.classLink "RatchetGroupLaw" r.2.2.2 (q_xn 0)).before _ _ = true; rw [e6]; exact hts _ (q_T_in 489 (by decide +kernel) rfl)) (hK.xw _ (q_X_in 501 (by decide +kernel) rfl))
    · subst e6
      rw [e1] at htab
      refine go [⟨r1.1, r1.2.1, r1.2.2.1, r1.2.2.2⟩] ⟨r2.1, r2.2.1, r2.2.2.1, r2.2.2.2⟩ (tableOf rs) htab (fun y hy => ?_) (by simp [covers, e3, e4]) e5 (by show r2.2.2.2 ≠ 0; rw [e7]; decide) (by show (Cond.classLink "RatchetGroupLaw" r2.2.2.2 (q_xn 1)).before _ _ = true; rw [e7]; exact hts _ (q_T_in 490 (by decide +kernel) rfl)) (hK.xw _ (q_X_in 568 (by decide +kernel) rfl))
      rw [List.mem_singleton] at hy
      subst hy
      have hl : (Cond.classLink "RatchetGroupLaw" 13 "java/lang/IndexOutOfBoundsException").before (za Z) (zs Z) = true := hts _ (q_T_in 489 (by decide +kernel) rfl)
      obtain ⟨c', hc', hcl⟩ := Cond.classLink_spec hown hl (ze Z).platform hpl
      obtain ⟨ca, ct, n1, n2, n3⟩ := hK.nc ("java/lang/IllegalStateException", "java/lang/IndexOutOfBoundsException") (by decide +kernel)
      cases n1.symm.trans hcls
      cases n2.symm.trans hc'
      refine Or.inr ⟨by show r1.2.2.2 ≠ 0; rw [e2]; decide, _, ?_, n3⟩
      show (zs Z).vm.ClassLinks (ze Z).platform (zm Z).cls r1.2.2.2 _
      rw [e2]
      exact hcl
theorem w_callV (ok : q_okw g Z A "RatchetGroupLaw" name cc nL ret d hs) {index : Nat} {y : MethodName} {cy : ByteArray} {ny : Nat} {ry : Option FieldType} {dy mc ms na ci b : Nat} {fs av : List Value} (hd : decode cc pc = .ok (.invokevirtual index, 3)) (hp : pc + 3 = pc') (hcs : q_CV "RatchetGroupLaw" index y cy ny ry na ci) (hM : MG g y cy ny ry dy mc ms (.ref b :: av) h postc) (hb0 : h b = some (.inl (ci, fs))) (hav : av.length = na) (hst : st = av.reverse ++ .ref b :: rest) (hrest : (rest.map fun v => v.category).sum ≤ 8) (hdy : dy + 1 ≤ d) (hlen : ls.length = nL) (hc1 : rc' + mc ≤ rc) (hs1 : rs' + ms ≤ rs)
    (kr : ∀ v h', postc (.inl v) h' → GW g Z A post rc' rs' h' pc' ls (v.toList ++ rest)) (kx : ∀ i h', postc (.inr i) h' → ∃ hpc, q_pass hs pc i hpc ∧ ∀ x, GW g Z A post rc' rs' h' hpc ls [.ref x]) : GW g Z A post rc rs h pc ls st := by
  have ok' := ok
  obtain ⟨hx, hb, hml, hown, hts, hK, hA, hlk, hrt, hnm, hfr, hlo, hcode, htr, hbs, hAb, hnh, hns⟩ := ok
  obtain ⟨hl, hin, hsel, hi, hw, hy, hpl, hny, T0, N0, hci⟩ := hcs
  subst hp
  subst hst
  intro H locs la n k hH hD hS hL hn hk T hT X
  subst hT
  obtain ⟨cellB, hcB, hobj, hcls⟩ := va_recv hK.1 (hH.one hb0) hci (q0 := 0) rfl
  obtain ⟨mk, methM, hnamed, hmethM, hstM, habM⟩ := Cond.instanceMethod_spec (hts _ hin)
  obtain ⟨methM', cM, hmethM', -, -, -, -, -, -, hsigM⟩ := Cond.code_spec hnamed (hts _ hw)
  cases hmethM.symm.trans hmethM'
  obtain ⟨c2, r2, m2, q1, q2, q3, q4, kP, hkP, hkPi⟩ := Cond.selects_spec (hts _ hsel)
  cases hcls.symm.trans q1
  cases (State.methodFound?_of_named hnamed hy).symm.trans q2
  cases hnamed.symm.trans q3
  have hselP : selectMethod (ze Z).platform (zs Z).vm cellB.cls mk = .method mk := by rw [Launch.admits_selectMethod X.admits]; exact q4
  obtain ⟨vm₁, X₁, hstep₁⟩ := X.invokevirtual hx hown (hts _ hl) hnamed hmethM hstM hkP hkPi hy (a := b) (cell := cellB) hcB
    (fun z h => by rw [h] at hobj; cases hobj) hselP hmethM habM hkP hkPi (g := F0 (zm Z) pc la (av.reverse ++ .ref b :: rest)) rfl (argsL := av) (rest := rest) (hav.trans (q_plen hpl _ hsigM)) rfl (by rw [hb]; exact hd)
  have B := q_call X₁ hM htr (f := F0 (zm Z) pc la rest) rfl (by show la.size = _; rw [hL.1, hlen, hml]) (by rw [hb]; exact hd) (lv_room hrest) (X₁.named hnamed) (by omega) (by omega) (by omega) (by omega) hts hw (hts _ hi) hK hH
  obtain ⟨t, a1, b1⟩ := q_useC (rc' := rc') (rs' := rs') ok' B hD hS hL (by omega) (by omega) kr kx
  exact ⟨t, hstep₁ _ fun acts => by rw [doInvoke_state]; exact a1, b1⟩
end GWW
