/-! ===== the rows of calls ===== -/
def q_CS (own : String) (index : Nat) (y : MethodName) (cy : ByteArray) (ny : Nat) (ry : Option FieldType) (na : Nat) : Prop := Cond.methodLink own index y ∈ q_T ∧ Cond.static y ∈ q_T ∧ Cond.initialized y.cls ∈ q_T ∧ Cond.code y cy ny ry ∈ q_T ∧ (y.cls ≠ "java/lang/invoke/MethodHandle" ∧ y.cls ≠ "java/lang/invoke/VarHandle") ∧ (parseMethodDescriptor y.desc).map (fun d => d.parameters.length) = some na ∧ ny ≤ 45
def q_CSN (own : String) (index : Nat) (y : MethodName) (host : String) (cy : ByteArray) (ny : Nat) (ry : Option FieldType) (na : Nat) : Prop := Cond.methodLinkNest own index y host ∈ q_X ∧ Cond.static y ∈ q_T ∧ Cond.initialized y.cls ∈ q_T ∧ Cond.code y cy ny ry ∈ q_T ∧ (y.cls ≠ "java/lang/invoke/MethodHandle" ∧ y.cls ≠ "java/lang/invoke/VarHandle") ∧ (parseMethodDescriptor y.desc).map (fun d => d.parameters.length) = some na ∧ ny ≤ 45
def q_CV (own : String) (index : Nat) (y : MethodName) (cy : ByteArray) (ny : Nat) (ry : Option FieldType) (na ci : Nat) : Prop := Cond.methodLink own index y ∈ q_T ∧ Cond.instanceMethod y ∈ q_T ∧ Cond.selects y.cls y y ∈ q_T ∧ Cond.initialized y.cls ∈ q_T ∧ Cond.code y cy ny ry ∈ q_T ∧ (y.cls ≠ "java/lang/invoke/MethodHandle" ∧ y.cls ≠ "java/lang/invoke/VarHandle") ∧ (parseMethodDescriptor y.desc).map (fun d => d.parameters.length) = some na ∧ ny ≤ 45 ∧ ∃ (T : u_T) (N : Nat), q_cl[ci]? = some (y.cls, T, N)
def q_CI (own : String) (index : Nat) (y : MethodName) (cy : ByteArray) (ny : Nat) (na : Nat) : Prop := Cond.methodLink own index y ∈ q_T ∧ Cond.instanceMethod y ∈ q_T ∧ y.name = "<init>" ∧ Cond.initialized y.cls ∈ q_T ∧ Cond.code y cy ny none ∈ q_T ∧ (y.cls ≠ "java/lang/invoke/MethodHandle" ∧ y.cls ≠ "java/lang/invoke/VarHandle") ∧ (parseMethodDescriptor y.desc).map (fun d => d.parameters.length) = some na ∧ ny ≤ 45
def q_CIN (own : String) (index : Nat) (y : MethodName) (host : String) (cy : ByteArray) (ny : Nat) (na : Nat) : Prop := Cond.methodLinkNest own index y host ∈ q_X ∧ Cond.instanceMethod y ∈ q_T ∧ y.name = "<init>" ∧ Cond.initialized y.cls ∈ q_T ∧ Cond.code y cy ny none ∈ q_T ∧ (y.cls ≠ "java/lang/invoke/MethodHandle" ∧ y.cls ≠ "java/lang/invoke/VarHandle") ∧ (parseMethodDescriptor y.desc).map (fun d => d.parameters.length) = some na ∧ ny ≤ 45
theorem q_plen {y : MethodName} {na : Nat} (h : (parseMethodDescriptor y.desc).map (fun d => d.parameters.length) = some na) : ∀ sig, parseMethodDescriptor y.desc = some sig → na = sig.parameters.length := fun sig e => by
  rw [e] at h
  exact (Option.some.inj h).symm
section GWC
variable {g : q_G} {Z : q_Z} {A : Nat → Prop} {post postc : q_R → q_H → Prop} {rc rs rc' rs' : Nat} {h : q_H} {pc pc' : Nat} {ls : List (Option Value)} {st rest : List Value} {own name : String} {cc : ByteArray} {nL d : Nat} {ret : Option FieldType}
theorem q_use (ok : q_ok g Z A own name cc nL ret d) {T1 : State} {locs : List Loc} {n k : Nat} {S0 : State} {la : Array Slot} (B : q_Back (zp Z) (zl Z) (ze Z) (zR Z) (zs Z) (zm Z) (za Z) (zb Z) (zM Z) (zc Z) T1 locs n k g (q_A h T1.heap.size) postc S0 (F0 (zm Z) pc la rest)) (hD : ∀ (a : Nat) (o : q_O), h a = some o → A a) (hS : va_S A (zs Z).heap T1.heap locs) (hL : q_LR ls la) (hn : n + rc' ≤ (zR Z).cells) (hk : k + rs' ≤ (zR Z).slots)
    (kr : ∀ v h', postc (.inl v) h' → GW g Z A post rc' rs' h' (pc + 3) ls (v.toList ++ rest)) (kx : ∀ i h', postc (.inr i) h' → post (.inr i) h') : ∃ t, Steps (zp Z).tables (ze Z) (zb Z) S0 t ∧ q_Q g Z A post t := by
  obtain ⟨hx, hb, hml, hown, hts, hK, hA, hlk, hrt, hnm, hfr, hlo, hcode, htr, hbs, hAb, hnh, hns⟩ := ok
  obtain ⟨r, h', T', L, X', hLy, hpost, hHR, hdom, hz, hkeep, hr⟩ := B
  have hAy := q_A_in hD hA hS
  have hS' := q_S_call hS hAy hz hkeep hLy
  cases r with
  | inl v =>
    obtain ⟨t, a1, b1⟩ := kr v h' hpost T'.heap (locs ++ L) la n k hHR (fun a o ha => hAy a (hdom a o ha)) hS' hL hn hk T' rfl X'
    exact ⟨t, hr t a1, b1⟩
  | inr kx' =>
    obtain ⟨x, cell, c1, c2, c3, hr⟩ := hr
    obtain ⟨w1, w2, w3, w4, w5⟩ := X'.leaveThrown x (g := F0 (zm Z) pc la rest) rfl rfl rfl (fun y hy => hnh y hy _) (hlocks := hlk)
    refine ⟨_, hr _ w1, .threw x, w2, w3, ⟨.inr kx', h', ⟨x, cell, rfl, c1, c2, c3⟩, kx kx' h' hpost, hHR, fun a o ha => hAy a (hdom a o ha)⟩, ?_, w4, locs ++ L, w5.mono (by omega) (by omega), hS'.2.2⟩
    exact va_S.F (t := T'.setFrames (.throwing x :: zb Z)) hS' rfl
theorem g_callS (ok : q_ok g Z A own name cc nL ret d) {index : Nat} {y : MethodName} {cy : ByteArray} {ny : Nat} {ry : Option FieldType} {dy mc ms na : Nat} {av : List Value} (hd : decode cc pc = .ok (.invokestatic index, 3)) (hp : pc + 3 = pc') (hcs : q_CS own index y cy ny ry na) (hM : MG g y cy ny ry dy mc ms av h postc) (hav : av.length = na) (hst : st = av.reverse ++ rest) (hrest : (rest.map fun v => v.category).sum ≤ 8) (hdy : dy + 1 ≤ d) (hlen : ls.length = nL) (hc1 : rc' + mc ≤ rc) (hs1 : rs' + ms ≤ rs)
    (kr : ∀ v h', postc (.inl v) h' → GW g Z A post rc' rs' h' pc' ls (v.toList ++ rest)) (kx : ∀ i h', postc (.inr i) h' → post (.inr i) h') : GW g Z A post rc rs h pc ls st := by
  have ok' := ok
  obtain ⟨hx, hb, hml, hown, hts, hK, hA, hlk, hrt, hnm, hfr, hlo, hcode, htr, hbs, hAb, hnh, hns⟩ := ok
  obtain ⟨hl, hs, hi, hw, hy, hpl, hny⟩ := hcs
  subst hp
  subst hst
  intro H locs la n k hH hD hS hL hn hk T hT X
  subst hT
  obtain ⟨mk, hnamed⟩ := Cond.code_named (hts _ hw)
  obtain ⟨methM, cM, hmethM, -, -, -, -, -, -, hsigM⟩ := Cond.code_spec hnamed (hts _ hw)
  have hstatic : methM.isStatic = true := Cond.static_spec hnamed hmethM (hts _ hs)
  obtain ⟨kP, hkP, -⟩ := className_of_methodNamed hnamed
  have hinitP : kP.init = .initialized := Cond.initialized_spec (findClass_of_methodNamed hnamed) hkP (hts _ hi)
  obtain ⟨vm₁, X₁, hstep₁⟩ := X.invokestatic hx hown (hts _ hl) hnamed hmethM hstatic hkP hinitP hy (g := F0 (zm Z) pc la (av.reverse ++ rest)) rfl (argsL := av) (rest := rest) (hav.trans (q_plen hpl _ hsigM)) rfl (by rw [hb]; exact hd)
  have B := q_call X₁ hM htr (f := F0 (zm Z) pc la rest) rfl (by show la.size = _; rw [hL.1, hlen, hml]) (by rw [hb]; exact hd) (lv_room hrest) (X₁.named hnamed) (by omega) (by omega) (by omega) (by omega) hts hw (hts _ hi) hK hH
  obtain ⟨t, a1, b1⟩ := q_use (rc' := rc') (rs' := rs') ok' B hD hS hL (by omega) (by omega) kr kx
  exact ⟨t, hstep₁ _ fun acts => by rw [doInvoke_state]; exact a1, b1⟩
theorem g_callSN (ok : q_ok g Z A own name cc nL ret d) {index : Nat} {y : MethodName} {host : String} {cy : ByteArray} {ny : Nat} {ry : Option FieldType} {dy mc ms na : Nat} {av : List Value} (hd : decode cc pc = .ok (.invokestatic index, 3)) (hp : pc + 3 = pc') (hcs : q_CSN own index y host cy ny ry na) (hM : MG g y cy ny ry dy mc ms av h postc) (hav : av.length = na) (hst : st = av.reverse ++ rest) (hrest : (rest.map fun v => v.category).sum ≤ 8) (hdy : dy + 1 ≤ d) (hlen : ls.length = nL) (hc1 : rc' + mc ≤ rc) (hs1 : rs' + ms ≤ rs)
    (kr : ∀ v h', postc (.inl v) h' → GW g Z A post rc' rs' h' pc' ls (v.toList ++ rest)) (kx : ∀ i h', postc (.inr i) h' → post (.inr i) h') : GW g Z A post rc rs h pc ls st := by
  have ok' := ok
  obtain ⟨hx, hb, hml, hown, hts, hK, hA, hlk, hrt, hnm, hfr, hlo, hcode, htr, hbs, hAb, hnh, hns⟩ := ok
  obtain ⟨hl, hs, hi, hw, hy, hpl, hny⟩ := hcs
  subst hp
  subst hst
  intro H locs la n k hH hD hS hL hn hk T hT X
  subst hT
  obtain ⟨mk, hnamed⟩ := Cond.code_named (hts _ hw)
  obtain ⟨methM, cM, hmethM, -, -, -, -, -, -, hsigM⟩ := Cond.code_spec hnamed (hts _ hw)
  have hstatic : methM.isStatic = true := Cond.static_spec hnamed hmethM (hts _ hs)
  obtain ⟨kP, hkP, -⟩ := className_of_methodNamed hnamed
  have hinitP : kP.init = .initialized := Cond.initialized_spec (findClass_of_methodNamed hnamed) hkP (hts _ hi)
  obtain ⟨vm₁, X₁, hstep₁⟩ := X.invokestaticNest hx hown (va_Nw.use rfl (hK.xw _ hl)) hnamed hmethM hstatic hkP hinitP hy (g := F0 (zm Z) pc la (av.reverse ++ rest)) rfl (argsL := av) (rest := rest) (hav.trans (q_plen hpl _ hsigM)) rfl (by rw [hb]; exact hd)
  have B := q_call X₁ hM htr (f := F0 (zm Z) pc la rest) rfl (by show la.size = _; rw [hL.1, hlen, hml]) (by rw [hb]; exact hd) (lv_room hrest) (X₁.named hnamed) (by omega) (by omega) (by omega) (by omega) hts hw (hts _ hi) hK hH
  obtain ⟨t, a1, b1⟩ := q_use (rc' := rc') (rs' := rs') ok' B hD hS hL (by omega) (by omega) kr kx
  exact ⟨t, hstep₁ _ fun acts => by rw [doInvoke_state]; exact a1, b1⟩
theorem g_callI (ok : q_ok g Z A own name cc nL ret d) {index : Nat} {y : MethodName} {cy : ByteArray} {ny : Nat} {dy mc ms na b : Nat} {av : List Value} (hd : decode cc pc = .ok (.invokespecial index, 3)) (hp : pc + 3 = pc') (hcs : q_CI own index y cy ny na) (hM : MG g y cy ny none dy mc ms (.ref b :: av) h postc) (hav : av.length = na) (hst : st = av.reverse ++ .ref b :: rest) (hrest : (rest.map fun v => v.category).sum ≤ 8) (hdy : dy + 1 ≤ d) (hlen : ls.length = nL) (hc1 : rc' + mc ≤ rc) (hs1 : rs' + ms ≤ rs)
    (kr : ∀ v h', postc (.inl v) h' → GW g Z A post rc' rs' h' pc' ls (v.toList ++ rest)) (kx : ∀ i h', postc (.inr i) h' → post (.inr i) h') : GW g Z A post rc rs h pc ls st := by
  have ok' := ok
  obtain ⟨hx, hb, hml, hown, hts, hK, hA, hlk, hrt, hnm, hfr, hlo, hcode, htr, hbs, hAb, hnh, hns⟩ := ok
  obtain ⟨hl, hin, hy1, hi, hw, hy, hpl, hny⟩ := hcs
  subst hp
  subst hst
  intro H locs la n k hH hD hS hL hn hk T hT X
  subst hT
  have hpf : (ze Z).platform.magicAccessors = ({} : Platform).magicAccessors := by rw [X.admits.platform]
  obtain ⟨mk, methM, cM, kP, vm₁, hnamed, hmethM, hcodeM, -, hlocalsM, -, hkP, -, hW₁, hstep₁⟩ := Steps.initColdArgs (e := ze Z) X.here hx X.warmed hpf hown hy1 hy (hts _ hl) (hts _ hin) (hts _ hw) (f := F0 (zm Z) pc la (av.reverse ++ .ref b :: rest)) rfl (argsL := av) (rest := rest) (fun sig e => hav.trans (q_plen hpl sig e)) rfl (by rw [hb]; exact hd)
  have X₁ := X.noted hW₁
  have B := q_call X₁ hM htr (f := F0 (zm Z) pc la rest) rfl (by show la.size = _; rw [hL.1, hlen, hml]) (by rw [hb]; exact hd) (lv_room hrest) (X₁.named hnamed) (by omega) (by omega) (by omega) (by omega) hts hw (hts _ hi) hK hH
  obtain ⟨t, a1, b1⟩ := q_use (rc' := rc') (rs' := rs') ok' B hD hS hL (by omega) (by omega) kr kx
  exact ⟨t, hstep₁ _ fun acts => by rw [doInvoke_state]; exact a1, b1⟩
theorem g_callIN (ok : q_ok g Z A own name cc nL ret d) {index : Nat} {y : MethodName} {host : String} {cy : ByteArray} {ny : Nat} {dy mc ms na b : Nat} {av : List Value} (hd : decode cc pc = .ok (.invokespecial index, 3)) (hp : pc + 3 = pc') (hcs : q_CIN own index y host cy ny na) (hM : MG g y cy ny none dy mc ms (.ref b :: av) h postc) (hav : av.length = na) (hst : st = av.reverse ++ .ref b :: rest) (hrest : (rest.map fun v => v.category).sum ≤ 8) (hdy : dy + 1 ≤ d) (hlen : ls.length = nL) (hc1 : rc' + mc ≤ rc) (hs1 : rs' + ms ≤ rs)
    (kr : ∀ v h', postc (.inl v) h' → GW g Z A post rc' rs' h' pc' ls (v.toList ++ rest)) (kx : ∀ i h', postc (.inr i) h' → post (.inr i) h') : GW g Z A post rc rs h pc ls st := by
  have ok' := ok
  obtain ⟨hx, hb, hml, hown, hts, hK, hA, hlk, hrt, hnm, hfr, hlo, hcode, htr, hbs, hAb, hnh, hns⟩ := ok
  obtain ⟨hl, hin, hy1, hi, hw, hy, hpl, hny⟩ := hcs
  subst hp
  subst hst
  intro H locs la n k hH hD hS hL hn hk T hT X
  subst hT
  have hpf : (ze Z).platform.magicAccessors = ({} : Platform).magicAccessors := by rw [X.admits.platform]
  obtain ⟨mk, methM, cM, kP, vm₁, hnamed, hmethM, hcodeM, -, hlocalsM, -, hkP, -, hW₁, hstep₁⟩ := Steps.initColdArgsNest (e := ze Z) X.here hx X.warmed hpf hown hy1 hy (va_Nw.use rfl (hK.xw _ hl)) (hts _ hin) (hts _ hw) (f := F0 (zm Z) pc la (av.reverse ++ .ref b :: rest)) rfl (argsL := av) (rest := rest) (fun sig e => hav.trans (q_plen hpl sig e)) rfl (by rw [hb]; exact hd)
  have X₁ := X.noted hW₁
  have B := q_call X₁ hM htr (f := F0 (zm Z) pc la rest) rfl (by show la.size = _; rw [hL.1, hlen, hml]) (by rw [hb]; exact hd) (lv_room hrest) (X₁.named hnamed) (by omega) (by omega) (by omega) (by omega) hts hw (hts _ hi) hK hH
  obtain ⟨t, a1, b1⟩ := q_use (rc' := rc') (rs' := rs') ok' B hD hS hL (by omega) (by omega) kr kx
  exact ⟨t, hstep₁ _ fun acts => by rw [doInvoke_state]; exact a1, b1⟩
theorem g_callV (ok : q_ok g Z A own name cc nL ret d) {index : Nat} {y : MethodName} {cy : ByteArray} {ny : Nat} {ry : Option FieldType} {dy mc ms na ci b : Nat} {fs av : List Value} (hd : decode cc pc = .ok (.invokevirtual index, 3)) (hp : pc + 3 = pc') (hcs : q_CV own index y cy ny ry na ci) (hM : MG g y cy ny ry dy mc ms (.ref b :: av) h postc) (hb0 : h b = some (.inl (ci, fs))) (hav : av.length = na) (hst : st = av.reverse ++ .ref b :: rest) (hrest : (rest.map fun v => v.category).sum ≤ 8) (hdy : dy + 1 ≤ d) (hlen : ls.length = nL) (hc1 : rc' + mc ≤ rc) (hs1 : rs' + ms ≤ rs)
    (kr : ∀ v h', postc (.inl v) h' → GW g Z A post rc' rs' h' pc' ls (v.toList ++ rest)) (kx : ∀ i h', postc (.inr i) h' → post (.inr i) h') : GW g Z A post rc rs h pc ls st := by
  have ok' := ok
  obtain ⟨hx, hb, hml, hown, hts, hK, hA, hlk, hrt, hnm, hfr, hlo, hcode, htr, hbs, hAb, hnh, hns⟩ := ok
  obtain ⟨hl, hin, hsel, hi, hw, hy, hpl, hny, T0, N0, hci⟩ := hcs
  subst hp
  subst hst
  intro H locs la n k hH hD hS hL hn hk T hT X
  subst hT
  obtain ⟨cellB, hcB, hobj, hcls⟩ := va_recv hK.1 (hH.one hb0) hci (q0 := 0) rfl
  obtain ⟨mk, methM, hnamed, hmethM, hstM, habM⟩ := Cond.instanceMethod_spec (hts _ hin)
  obtain ⟨methM', cM, hmethM', -, -, -, -, -, -, hsigM⟩ := Cond.code_spec hnamed (hts _ hw)
  cases hmethM.symm.trans hmethM'
  obtain ⟨c2, r2, m2, q1, q2, q3, q4, kP, hkP, hkPi⟩ := Cond.selects_spec (hts _ hsel)
  cases hcls.symm.trans q1
  cases (State.methodFound?_of_named hnamed hy).symm.trans q2
  cases hnamed.symm.trans q3
  have hselP : selectMethod (ze Z).platform (zs Z).vm cellB.cls mk = .method mk := by rw [Launch.admits_selectMethod X.admits]; exact q4
  obtain ⟨vm₁, X₁, hstep₁⟩ := X.invokevirtual hx hown (hts _ hl) hnamed hmethM hstM hkP hkPi hy (a := b) (cell := cellB) hcB
    (fun z h => by rw [h] at hobj; cases hobj) hselP hmethM habM hkP hkPi (g := F0 (zm Z) pc la (av.reverse ++ .ref b :: rest)) rfl (argsL := av) (rest := rest) (hav.trans (q_plen hpl _ hsigM)) rfl (by rw [hb]; exact hd)
  have B := q_call X₁ hM htr (f := F0 (zm Z) pc la rest) rfl (by show la.size = _; rw [hL.1, hlen, hml]) (by rw [hb]; exact hd) (lv_room hrest) (X₁.named hnamed) (by omega) (by omega) (by omega) (by omega) hts hw (hts _ hi) hK hH
  obtain ⟨t, a1, b1⟩ := q_use (rc' := rc') (rs' := rs') ok' B hD hS hL (by omega) (by omega) kr kx
  exact ⟨t, hstep₁ _ fun acts => by rw [doInvoke_state]; exact a1, b1⟩
theorem g_objInit (ok : q_ok g Z A own name cc nL ret d) {index b : Nat} (hd : decode cc pc = .ok (.invokespecial index, 3)) (hp : pc + 3 = pc') (hl : Cond.methodLink own index Lib.objectInit ∈ q_T) (hrest : (st.map fun v => v.category).sum ≤ 8) (hd1 : 1 ≤ d) (hlen : ls.length = nL) (kk : GW g Z A post rc rs h pc' ls st) : GW g Z A post rc rs h pc ls (.ref b :: st) := by
  obtain ⟨hx, hb, hml, hown, hts, hK, hA, hlk, hrt, hnm, hfr, hlo, -⟩ := ok
  subst hp
  intro H locs la n k hH hD hS hL hn hk
  have hr : 2 * (F0 (zm Z) pc la (.ref b :: st)).monitorRoom + (st.map fun v => v.category).sum ≤ 8 := lv_room hrest
  exact W.objInit hx hb hown (hts _ hl) (hts _ (q_T_in 33 (by decide +kernel) rfl)) (hts _ (q_T_in 34 (by decide +kernel) rfl)) rfl (by show la.size = _; rw [hL.1, hlen, hml]) rfl hd (by omega) (by omega) (kk H locs la n k hH hD hS hL hn hk)
end GWC
