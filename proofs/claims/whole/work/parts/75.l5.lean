/-! ===== the law's loop, over any relation J of the two objects' views ===== -/
theorem q_jn_comm {a b : q_H} (h : q_dj a b) : q_jn a b = q_jn b a := by
  funext x
  unfold q_jn
  rcases h x with e | e <;> rw [e]
  · cases b x <;> rfl
  · cases a x <;> rfl
theorem q_dj.symm {a b : q_H} (h : q_dj a b) : q_dj b a := fun x => (h x).symm
abbrev q_lv (u : Nat) (f : Nat → Int64) (h1 h2 : q_H) : q_H := q_jn (q_jn h1 (q_o u f)) h2
theorem q_djl {u : Nat} {f : Nat → Int64} {h1 h2 : q_H} (h : q_dj h1 h2) (hu : h2 u = none) : q_dj (q_jn h1 (q_o u f)) h2 := fun a => by
  rcases h a with e | e
  · by_cases ha : a = u
    · subst ha
      exact Or.inr hu
    · exact Or.inl (by rw [q_jn_r e]; exact q_o_n ha)
  · exact Or.inr e
theorem q_djl_1 {u : Nat} {f : Nat → Int64} {h1 h2 : q_H} (h : q_dj (q_jn h1 (q_o u f)) h2) : q_dj h1 h2 := fun a => by
  rcases h a with e | e
  · cases q : h1 a with
    | none => exact Or.inl rfl
    | some x => rw [q_jn_l q] at e; cases e
  · exact Or.inr e
theorem q_djl_2 {u : Nat} {f : Nat → Int64} {h1 h2 : q_H} (h : q_dj (q_jn h1 (q_o u f)) h2) (hu : h1 u = none) : h2 u = none := by
  rcases h u with e | e
  · rw [q_jn_r hu, q_o_s] at e
    cases e
  · exact e
theorem MG.right {g : q_G} {y : MethodName} {cc : ByteArray} {nL : Nat} {ret : Option FieldType} {d mc ms : Nat} {av : List Value} {a h2 : q_H} {post : q_R → q_H → Prop} (hM : MG g y cc nL ret d mc ms av h2 post) (hdj : q_dj a h2) : MG g y cc nL ret d mc ms av (q_jn a h2) (fun r h' => ∃ h2', post r h2' ∧ h' = q_jn a h2' ∧ q_dj a h2') := by
  have q := hM.frame hdj.symm
  rw [q_jn_comm hdj.symm] at q
  refine q.mono fun r h' ⟨h2', e1, e2, e3⟩ => ⟨h2', e1, ?_, e3.symm⟩
  rw [e2, q_jn_comm e3]
theorem MG.left2 {g : q_G} {y : MethodName} {cc : ByteArray} {nL : Nat} {ret : Option FieldType} {d mc ms : Nat} {av : List Value} {u : Nat} {f : Nat → Int64} {h1 h2 : q_H} {post : q_R → q_H → Prop} (hM : MG g y cc nL ret d mc ms av h1 post) (hdj : q_dj h1 h2) (hu1 : h1 u = none) (hu2 : h2 u = none) : MG g y cc nL ret d mc ms av (q_lv u f h1 h2) (fun r h' => ∃ h1', post r h1' ∧ h' = q_lv u f h1' h2 ∧ q_dj h1' h2 ∧ h1' u = none) := by
  refine ((hM.frame (q_dj_o.mpr hu1)).frame (q_djl hdj hu2)).mono fun r h' ⟨h1'', ⟨h1', e1, e2, e3⟩, e4, e5⟩ => ?_
  subst e2
  exact ⟨h1', e1, e4, q_djl_1 e5, q_dj_o.mp e3⟩
def q_rel (r1 : q_R) (z t' : Int32) : Prop := r1 = .inl (some (.int z)) ∧ t' = 0 ∨ r1 = .inr 0 ∧ t' = 1 ∨ r1 = .inr 1 ∧ t' = 2
/-- a call that may throw: class and reference answer alike and stay in the relation -/
def q_SW (J : Nat → Int32 → q_H → q_H → Prop) (g : q_G) (r o : Nat) (tw : Bool) (yC : MethodName) (cC : ByteArray) (nC : Nat) (yM : MethodName) (cM : ByteArray) (nM : Nat) (av : List Value) : Prop := ∀ n t h1 h2, J n t h1 h2 → n < 512 → ∃ PO : q_R → q_H → Prop, MG g yC cC nC (some .int) 20 14 250 (.ref r :: av) h1 PO ∧ (∀ q h', PO q h' → (∃ z, q = .inl (some (.int z))) ∨ q = .inr 0 ∨ (tw = true ∧ q = .inr 1)) ∧ ∀ q h1', PO q h1' → MG g yM cM nM (some .int) 20 0 0 (.ref o :: av) h2 (fun q2 h2' => ∃ z t', q2 = .inl (some (.int z)) ∧ J (n + 1) t' h1' h2' ∧ q_rel q z t')
def q_SR (J : Nat → Int32 → q_H → q_H → Prop) (g : q_G) (r o : Nat) (rt : FieldType) (yC : MethodName) (cC : ByteArray) (nC : Nat) (yM : MethodName) (cM : ByteArray) (nM : Nat) (av : List Value) : Prop := ∀ n t h1 h2, J n t h1 h2 → n < 512 → ∃ PO : q_R → q_H → Prop, MG g yC cC nC (some rt) 20 0 0 (.ref r :: av) h1 PO ∧ ∀ q h1', PO q h1' → ∃ z, q = .inl (some (.int z)) ∧ MG g yM cM nM (some rt) 20 0 0 (.ref o :: av) h2 (fun q2 h2' => q2 = .inl (some (.int z)) ∧ ∃ t', J (n + 1) t' h1' h2')
/-- what the law's walk leans on -/
def lw_E (J : Nat → Int32 → q_H → q_H → Prop) (g : q_G) (Z : q_Z) (A : Nat → Prop) (r o b L : Nat) (xs : Nat → Int32) : Prop := q_ok g Z A "RatchetGroupLaw" "law" code 7 (some .boolean) 22 ∧ va_X b L xs (zs Z) (zs Z).heap ∧ b < (zs Z).heap.size ∧ ¬ A b ∧ L ≤ 2048 ∧ (∀ n t h1 h2, J n t h1 h2 → MG g y_Mo_thrown b_Mo_thrown 1 (some .int) 20 0 0 [.ref o] h2 (fun q h' => q = .inl (some (.int t)) ∧ h' = h2)) ∧ (∀ n t h1 h2, J n t h1 h2 → ∃ fs, h1 r = some (.inl (0, fs))) ∧ ∀ n t h1 h2, J n t h1 h2 → ∃ fs, h2 o = some (.inl (11, fs))
section LWC
variable {J : Nat → Int32 → q_H → q_H → Prop} {g : q_G} {Z : q_Z} {A : Nat → Prop} {post : q_R → q_H → Prop} {rc rs r o u b L i n : Nat} {xs : Nat → Int32} {t : Int32} {h1 h2 : q_H} {f : Nat → Int64}
theorem lw_bool {d pc p1 p2 p3 p4 : Nat} {off off2 : Int} {x : Int32} {ls : List (Option Value)} {st : List Value} {h : q_H} (ok : q_ok g Z A "RatchetGroupLaw" "law" code 7 (some .boolean) d) (d1 : decode code pc = .ok (.ifCond .eq off, 3)) (e1 : (pc : Int) + off = (p3 : Int)) (f1 : pc + 3 = p1) (d2 : decode code p1 = .ok (.iconst 1, 1)) (f2 : p1 + 1 = p2) (d3 : decode code p2 = .ok (.goto off2, 3)) (e3 : (p2 : Int) + off2 = (p4 : Int)) (d4 : decode code p3 = .ok (.iconst 0, 1)) (f4 : p3 + 1 = p4) (kk : GW g Z A post rc rs h p4 ls (.int (if x = 0 then 0 else 1) :: st)) : GW g Z A post rc rs h pc ls (.int x :: st) := by
  refine g_if_eq ok d1 e1 f1 (fun c => ?_) (fun c => ?_)
  · refine g_iconst ok d4 f4 (v := 0) (by decide) ?_
    rw [if_pos c] at kk
    exact kk
  · refine g_iconst ok d2 f2 (v := 1) (by decide) ?_
    refine g_goto ok d3 e3 ?_
    rw [if_neg c] at kk
    exact kk
theorem lw_arg {d pc p1 p2 p3 p4 p5 : Nat} {k : Nat} {kc : Int} {ls : List (Option Value)} {st : List Value} {h : q_H} (ok : q_ok g Z A "RatchetGroupLaw" "law" code 7 (some .boolean) d) (hX : va_X b L xs (zs Z) (zs Z).heap) (hbl : b < (zs Z).heap.size) (hbA : ¬ A b) (hL : L ≤ 2048) (hi : i + k < L) (l0 : ls[0]? = some (some (.ref b))) (l4 : ls[4]? = some (some (.int (nI i)))) (d1 : decode code pc = .ok (.aload_n 0, 1)) (f1 : pc + 1 = p1) (d2 : decode code p1 = .ok (.iload 4, 2)) (f2 : p1 + 2 = p2) (d3 : decode code p2 = .ok (.iconst kc, 1)) (hk : Int32.ofInt kc = nI k) (f3 : p2 + 1 = p3) (d4 : decode code p3 = .ok (.iadd, 1)) (f4 : p3 + 1 = p4) (d5 : decode code p4 = .ok (.iaload, 1)) (f5 : p4 + 1 = p5) (kk : GW g Z A post rc rs h p5 ls (.int (xs (i + k)) :: st)) : GW g Z A post rc rs h pc ls st := by
  refine g_aload_n ok d1 f1 (i := 0) rfl l0 ?_
  refine g_iload ok d2 f2 l4 ?_
  refine g_iconst ok d3 f3 (v := nI k) hk ?_
  refine g_iadd ok d4 f4 ?_
  exact g_sld ok hX hbl hbA d5 f5 (nI_add i k) hi (by omega) kk
theorem lw_c0 (E : lw_E J g Z A r o b L xs) (hi : i + 3 < L) (hS : q_SW J g r o true y_RG_offer b_RG_offer 4 y_Mo_offer b_Mo_offer 2 [.int (xs (i + 1))]) (hJ : J n t h1 h2) (hn : n < 512) (hdj : q_dj h1 h2) (hu1 : h1 u = none) (hu2 : h2 u = none) (kk : ∀ l5 l6 t' h1' h2' f', J (n + 1) t' h1' h2' → q_dj h1' h2' → h1' u = none → h2' u = none → GW g Z A post rc rs (q_lv u f' h1' h2') 850 [some (.ref b), some (.ref r), some (.ref o), some (.ref u), some (.int (nI i)), l5, l6] []) (l5 l6 : Option Value) : GW g Z A post (rc + 14) (rs + 250) (q_lv u f h1 h2) 120 [some (.ref b), some (.ref r), some (.ref o), some (.ref u), some (.int (nI i)), l5, l6] [] := by
  obtain ⟨ok, hX, hbl, hbA, hL, hTh, hRr, hRo⟩ := E
  obtain ⟨fs, hr⟩ := hRr _ _ _ _ hJ
  obtain ⟨fs2, ho⟩ := hRo _ _ _ _ hJ
  have hr2 : q_lv u f h1 h2 r = some (.inl (0, fs)) := q_jn_l (q_jn_l hr)
  obtain ⟨PO, hM, hPO, hM2⟩ := hS _ _ _ _ hJ hn
  refine g_aload_n ok (dk m_Law_law_1 1 rfl) (pc' := 121) rfl (i := 1) rfl rfl ?_
  refine lw_arg (i := i) (k := 1) ok hX hbl hbA hL (by omega) rfl rfl (dk m_Law_law_1 2 rfl) (p1 := 122) rfl (dk m_Law_law_1 3 rfl) (p2 := 124) rfl (dk m_Law_law_1 4 rfl) (by decide) (p3 := 125) rfl (dk m_Law_law_1 5 rfl) (p4 := 126) rfl (dk m_Law_law_1 6 rfl) (p5 := 127) rfl  ?_
  refine g_aload_n ok (dk m_Law_law_1 7 rfl) (pc' := 128) rfl (i := 3) rfl rfl ?_
  refine g_callSW ok (dk m_Law_law_1 8 rfl) (pc' := 131) rfl c_Law_41 ((c_Law_offer g (xs (i + 1)) 21 (by omega) hM hr (fun q h q1 => by rcases hPO q h q1 with q2 | q2 | q2; exact Or.inl q2; exact Or.inr (Or.inl q2); exact Or.inr (Or.inr q2.2)) hu1).frame (q_djl hdj hu2)) rfl rfl (by simp [Value.category]) (by omega) rfl (rc' := rc) (rs' := rs) (by omega) (by omega) (fun rv h' hcc => ?_) (fun j h' hcc => ?_)
  rotate_left
  · obtain ⟨h1'', ⟨h1', r1, f', hP1, rfl, hu1', hans⟩, rfl, hdj'⟩ := hcc
    rcases hans with ⟨z, -, e, -⟩ | ⟨-, e⟩ | ⟨-, e⟩ <;> cases e
  obtain ⟨h1'', ⟨h1', r1, f', hP1, rfl, hu1', hans⟩, rfl, hdj'⟩ := hcc
  obtain ⟨kv, rfl, hkv⟩ : ∃ kv : Int32, rv = some (.int kv) ∧ ((∃ z, r1 = .inl (some (.int z)) ∧ kv = 0 ∧ f' 0 = z.toInt64) ∨ (r1 = .inr 0 ∧ kv = 1) ∨ (r1 = .inr 1 ∧ kv = 2)) := by
    rcases hans with ⟨z, e1, e, e2⟩ | ⟨e1, e⟩ | ⟨e1, e⟩
    · exact ⟨0, Sum.inl.inj e, Or.inl ⟨z, e1, rfl, e2⟩⟩
    · exact ⟨1, Sum.inl.inj e, Or.inr (Or.inl ⟨e1, rfl⟩)⟩
    · exact ⟨2, Sum.inl.inj e, Or.inr (Or.inr ⟨e1, rfl⟩)⟩
  have hu2' := q_djl_2 hdj' hu1'
  have ho2 : q_lv u f' h1' h2 o = some (.inl (11, fs2)) := by
    show q_jn (q_jn h1' (q_o u f')) h2 o = _
    rw [q_jn_comm hdj']
    exact q_jn_l ho
  show GW g Z A post rc rs (q_lv u f' h1' h2) _ _ [.int kv]
  refine g_istore ok (dk m_Law_law_1 9 rfl) (pc' := 133) rfl (Nat.le_of_ble_eq_true rfl) rfl ?_
  refine g_aload_n ok (dk m_Law_law_1 10 rfl) (pc' := 134) rfl (i := 2) rfl rfl ?_
  refine lw_arg (i := i) (k := 1) ok hX hbl hbA hL (by omega) rfl rfl (dk m_Law_law_1 11 rfl) (p1 := 135) rfl (dk m_Law_law_1 12 rfl) (p2 := 137) rfl (dk m_Law_law_1 13 rfl) (by decide) (p3 := 138) rfl (dk m_Law_law_1 14 rfl) (p4 := 139) rfl (dk m_Law_law_1 15 rfl) (p5 := 140) rfl  ?_
  refine g_callV ok (dk m_Law_law_1 16 rfl) (pc' := 143) rfl c_Law_46 ((hM2 r1 h1' hP1).right hdj') ho2 rfl rfl (by simp [Value.category]) (by omega) rfl (rc' := rc) (rs' := rs) (by omega) (by omega) (fun rv h' hcc => ?_) (fun j h' hcc => by obtain ⟨_, ⟨z, t', e, -⟩, -⟩ := hcc; cases e)
  obtain ⟨h2', ⟨z, t', e, hJ', hrel⟩, rfl, hdj2⟩ := hcc
  cases e
  have hu2'' := q_djl_2 hdj2 hu1'
  have ht : t' = kv := by
    rcases hrel with ⟨e1, e2⟩ | ⟨e1, e2⟩ | ⟨e1, e2⟩ <;> rcases hkv with ⟨y, e3, e4, -⟩ | ⟨e3, e4⟩ | ⟨e3, e4⟩ <;> (subst e1; first | (cases e3; done) | (rw [e2, e4]))
  obtain ⟨fs3, ho3⟩ := hRo _ _ _ _ hJ'
  have ho4 : q_lv u f' h1' h2' o = some (.inl (11, fs3)) := by
    show q_jn (q_jn h1' (q_o u f')) h2' o = _
    rw [q_jn_comm hdj2]
    exact q_jn_l ho3
  show GW g Z A post rc rs (q_lv u f' h1' h2') _ _ [.int z]
  refine g_istore ok (dk m_Law_law_1 17 rfl) (pc' := 145) rfl (Nat.le_of_ble_eq_true rfl) rfl ?_
  refine g_aload_n ok (dk m_Law_law_1 18 rfl) (pc' := 146) rfl (i := 2) rfl rfl ?_
  refine g_callV ok (dk m_Law_law_1 19 rfl) (pc' := 149) rfl c_Law_47 ((hTh _ _ _ _ hJ').right hdj2) ho4 rfl rfl (by simp [Value.category]) (by omega) rfl (rc' := rc) (rs' := rs) (by omega) (by omega) (fun rv h' hcc => ?_) (fun j h' hcc => by obtain ⟨_, ⟨e, -⟩, -⟩ := hcc; cases e)
  obtain ⟨h2x, ⟨e, e2⟩, rfl, -⟩ := hcc
  cases e
  have e3 := e2.symm
  subst e3
  show GW g Z A post rc rs (q_lv u f' h1' _) _ _ [.int t']
  refine g_iload ok (dk m_Law_law_1 20 rfl) (pc' := 151) rfl rfl ?_
  refine g_icmp_eq ok (dk m_Law_law_1 21 rfl) (tgt := 156) (by decide) (pc' := 154) rfl (fun _ => ?_) (fun c => absurd ht c)
  refine g_iload ok (dk m_Law_law_2 0 rfl) (pc' := 158) rfl rfl ?_
  refine g_if_ne ok (dk m_Law_law_2 1 rfl) (tgt := 173) (by decide) (pc' := 161) rfl (fun _ => ?_) (fun c => ?_)
  · refine g_goto ok (dk m_Law_law_2 11 rfl) (pc' := 850) (by decide) ?_
    exact kk _ _ _ _ _ _ hJ' (q_djl_1 hdj2) hu1' hu2''
  have hz : f' 0 = z.toInt64 := by
    rcases hkv with ⟨y, e3, e4, e5⟩ | ⟨e3, e4⟩ | ⟨e3, e4⟩
    · rcases hrel with ⟨e1, e2⟩ | ⟨e1, e2⟩ | ⟨e1, e2⟩
      · rw [e3] at e1
        cases e1
        exact e5
      · rw [e3] at e1
        cases e1
      · rw [e3] at e1
        cases e1
    · rw [e4] at c
      exact absurd c (by decide)
    · rw [e4] at c
      exact absurd c (by decide)
  have hou : q_lv u f' h1' h2' u = some (.inr (3, 1, .inr (.inl f'))) := q_jn_l (by rw [q_jn_r hu1']; exact q_o_s u f')
  refine g_aload_n ok (dk m_Law_law_2 2 rfl) (pc' := 162) rfl (i := 3) rfl rfl ?_
  refine g_iconst ok (dk m_Law_law_2 3 rfl) (pc' := 163) rfl (v := nI 0) (by decide) ?_
  refine g_lald ok (dk m_Law_law_2 4 rfl) (pc' := 164) rfl hou (j := 0) (by decide) (by decide) ?_
  refine g_iload ok (dk m_Law_law_2 5 rfl) (pc' := 166) rfl rfl ?_
  refine g_i2l ok (dk m_Law_law_2 6 rfl) (pc' := 167) rfl rfl ?_
  refine g_lcmp ok (dk m_Law_law_2 7 rfl) (pc' := 168) rfl (v := 0) (by rw [hz]; simp) ?_
  refine g_if_eq ok (dk m_Law_law_2 8 rfl) (tgt := 173) (by decide) (pc' := 171) rfl (fun _ => ?_) (fun c => absurd rfl c)
  refine g_goto ok (dk m_Law_law_2 11 rfl) (pc' := 850) (by decide) ?_
  exact kk _ _ _ _ _ _ hJ' (q_djl_1 hdj2) hu1' hu2''
theorem lw_c1 (E : lw_E J g Z A r o b L xs) (hi : i + 3 < L) (hS : q_SW J g r o true y_RG_add b_RG_add 4 y_Mo_add b_Mo_add 3 [.int (xs (i + 1)), .int (xs (i + 2))]) (hJ : J n t h1 h2) (hn : n < 512) (hdj : q_dj h1 h2) (hu1 : h1 u = none) (hu2 : h2 u = none) (kk : ∀ l5 l6 t' h1' h2' f', J (n + 1) t' h1' h2' → q_dj h1' h2' → h1' u = none → h2' u = none → GW g Z A post rc rs (q_lv u f' h1' h2') 850 [some (.ref b), some (.ref r), some (.ref o), some (.ref u), some (.int (nI i)), l5, l6] []) (l5 l6 : Option Value) : GW g Z A post (rc + 14) (rs + 250) (q_lv u f h1 h2) 176 [some (.ref b), some (.ref r), some (.ref o), some (.ref u), some (.int (nI i)), l5, l6] [] := by
  obtain ⟨ok, hX, hbl, hbA, hL, hTh, hRr, hRo⟩ := E
  obtain ⟨fs, hr⟩ := hRr _ _ _ _ hJ
  obtain ⟨fs2, ho⟩ := hRo _ _ _ _ hJ
  have hr2 : q_lv u f h1 h2 r = some (.inl (0, fs)) := q_jn_l (q_jn_l hr)
  obtain ⟨PO, hM, hPO, hM2⟩ := hS _ _ _ _ hJ hn
  refine g_aload_n ok (dk m_Law_law_2 12 rfl) (pc' := 177) rfl (i := 1) rfl rfl ?_
  refine lw_arg (i := i) (k := 1) ok hX hbl hbA hL (by omega) rfl rfl (dk m_Law_law_2 13 rfl) (p1 := 178) rfl (dk m_Law_law_2 14 rfl) (p2 := 180) rfl (dk m_Law_law_2 15 rfl) (by decide) (p3 := 181) rfl (dk m_Law_law_2 16 rfl) (p4 := 182) rfl (dk m_Law_law_2 17 rfl) (p5 := 183) rfl  ?_
  refine lw_arg (i := i) (k := 2) ok hX hbl hbA hL (by omega) rfl rfl (dk m_Law_law_2 18 rfl) (p1 := 184) rfl (dk m_Law_law_2 19 rfl) (p2 := 186) rfl (dk m_Law_law_2 20 rfl) (by decide) (p3 := 187) rfl (dk m_Law_law_2 21 rfl) (p4 := 188) rfl (dk m_Law_law_2 22 rfl) (p5 := 189) rfl  ?_
  refine g_aload_n ok (dk m_Law_law_2 23 rfl) (pc' := 190) rfl (i := 3) rfl rfl ?_
  refine g_callSW ok (dk m_Law_law_3 0 rfl) (pc' := 193) rfl c_Law_51 ((c_Law_add g (xs (i + 1)) (xs (i + 2)) 21 (by omega) hM hr (fun q h q1 => by rcases hPO q h q1 with q2 | q2 | q2; exact Or.inl q2; exact Or.inr (Or.inl q2); exact Or.inr (Or.inr q2.2)) hu1).frame (q_djl hdj hu2)) rfl rfl (by simp [Value.category]) (by omega) rfl (rc' := rc) (rs' := rs) (by omega) (by omega) (fun rv h' hcc => ?_) (fun j h' hcc => ?_)
  rotate_left
  · obtain ⟨h1'', ⟨h1', r1, f', hP1, rfl, hu1', hans⟩, rfl, hdj'⟩ := hcc
    rcases hans with ⟨z, -, e, -⟩ | ⟨-, e⟩ | ⟨-, e⟩ <;> cases e
  obtain ⟨h1'', ⟨h1', r1, f', hP1, rfl, hu1', hans⟩, rfl, hdj'⟩ := hcc
  obtain ⟨kv, rfl, hkv⟩ : ∃ kv : Int32, rv = some (.int kv) ∧ ((∃ z, r1 = .inl (some (.int z)) ∧ kv = 0 ∧ f' 0 = z.toInt64) ∨ (r1 = .inr 0 ∧ kv = 1) ∨ (r1 = .inr 1 ∧ kv = 2)) := by
    rcases hans with ⟨z, e1, e, e2⟩ | ⟨e1, e⟩ | ⟨e1, e⟩
    · exact ⟨0, Sum.inl.inj e, Or.inl ⟨z, e1, rfl, e2⟩⟩
    · exact ⟨1, Sum.inl.inj e, Or.inr (Or.inl ⟨e1, rfl⟩)⟩
    · exact ⟨2, Sum.inl.inj e, Or.inr (Or.inr ⟨e1, rfl⟩)⟩
  have hu2' := q_djl_2 hdj' hu1'
  have ho2 : q_lv u f' h1' h2 o = some (.inl (11, fs2)) := by
    show q_jn (q_jn h1' (q_o u f')) h2 o = _
    rw [q_jn_comm hdj']
    exact q_jn_l ho
  show GW g Z A post rc rs (q_lv u f' h1' h2) _ _ [.int kv]
  refine g_istore ok (dk m_Law_law_3 1 rfl) (pc' := 195) rfl (Nat.le_of_ble_eq_true rfl) rfl ?_
  refine g_aload_n ok (dk m_Law_law_3 2 rfl) (pc' := 196) rfl (i := 2) rfl rfl ?_
  refine lw_arg (i := i) (k := 1) ok hX hbl hbA hL (by omega) rfl rfl (dk m_Law_law_3 3 rfl) (p1 := 197) rfl (dk m_Law_law_3 4 rfl) (p2 := 199) rfl (dk m_Law_law_3 5 rfl) (by decide) (p3 := 200) rfl (dk m_Law_law_3 6 rfl) (p4 := 201) rfl (dk m_Law_law_3 7 rfl) (p5 := 202) rfl  ?_
  refine lw_arg (i := i) (k := 2) ok hX hbl hbA hL (by omega) rfl rfl (dk m_Law_law_3 8 rfl) (p1 := 203) rfl (dk m_Law_law_3 9 rfl) (p2 := 205) rfl (dk m_Law_law_3 10 rfl) (by decide) (p3 := 206) rfl (dk m_Law_law_3 11 rfl) (p4 := 207) rfl (dk m_Law_law_3 12 rfl) (p5 := 208) rfl  ?_
  refine g_callV ok (dk m_Law_law_3 13 rfl) (pc' := 211) rfl c_Law_54 ((hM2 r1 h1' hP1).right hdj') ho2 rfl rfl (by simp [Value.category]) (by omega) rfl (rc' := rc) (rs' := rs) (by omega) (by omega) (fun rv h' hcc => ?_) (fun j h' hcc => by obtain ⟨_, ⟨z, t', e, -⟩, -⟩ := hcc; cases e)
  obtain ⟨h2', ⟨z, t', e, hJ', hrel⟩, rfl, hdj2⟩ := hcc
  cases e
  have hu2'' := q_djl_2 hdj2 hu1'
  have ht : t' = kv := by
    rcases hrel with ⟨e1, e2⟩ | ⟨e1, e2⟩ | ⟨e1, e2⟩ <;> rcases hkv with ⟨y, e3, e4, -⟩ | ⟨e3, e4⟩ | ⟨e3, e4⟩ <;> (subst e1; first | (cases e3; done) | (rw [e2, e4]))
  obtain ⟨fs3, ho3⟩ := hRo _ _ _ _ hJ'
  have ho4 : q_lv u f' h1' h2' o = some (.inl (11, fs3)) := by
    show q_jn (q_jn h1' (q_o u f')) h2' o = _
    rw [q_jn_comm hdj2]
    exact q_jn_l ho3
  show GW g Z A post rc rs (q_lv u f' h1' h2') _ _ [.int z]
  refine g_istore ok (dk m_Law_law_3 14 rfl) (pc' := 213) rfl (Nat.le_of_ble_eq_true rfl) rfl ?_
  refine g_aload_n ok (dk m_Law_law_3 15 rfl) (pc' := 214) rfl (i := 2) rfl rfl ?_
  refine g_callV ok (dk m_Law_law_3 16 rfl) (pc' := 217) rfl c_Law_47 ((hTh _ _ _ _ hJ').right hdj2) ho4 rfl rfl (by simp [Value.category]) (by omega) rfl (rc' := rc) (rs' := rs) (by omega) (by omega) (fun rv h' hcc => ?_) (fun j h' hcc => by obtain ⟨_, ⟨e, -⟩, -⟩ := hcc; cases e)
  obtain ⟨h2x, ⟨e, e2⟩, rfl, -⟩ := hcc
  cases e
  have e3 := e2.symm
  subst e3
  show GW g Z A post rc rs (q_lv u f' h1' _) _ _ [.int t']
  refine g_iload ok (dk m_Law_law_3 17 rfl) (pc' := 219) rfl rfl ?_
  refine g_icmp_eq ok (dk m_Law_law_3 18 rfl) (tgt := 224) (by decide) (pc' := 222) rfl (fun _ => ?_) (fun c => absurd ht c)
  refine g_iload ok (dk m_Law_law_3 21 rfl) (pc' := 226) rfl rfl ?_
  refine g_if_ne ok (dk m_Law_law_3 22 rfl) (tgt := 241) (by decide) (pc' := 229) rfl (fun _ => ?_) (fun c => ?_)
  · refine g_goto ok (dk m_Law_law_4 8 rfl) (pc' := 850) (by decide) ?_
    exact kk _ _ _ _ _ _ hJ' (q_djl_1 hdj2) hu1' hu2''
  have hz : f' 0 = z.toInt64 := by
    rcases hkv with ⟨y, e3, e4, e5⟩ | ⟨e3, e4⟩ | ⟨e3, e4⟩
    · rcases hrel with ⟨e1, e2⟩ | ⟨e1, e2⟩ | ⟨e1, e2⟩
      · rw [e3] at e1
        cases e1
        exact e5
      · rw [e3] at e1
        cases e1
      · rw [e3] at e1
        cases e1
    · rw [e4] at c
      exact absurd c (by decide)
    · rw [e4] at c
      exact absurd c (by decide)
  have hou : q_lv u f' h1' h2' u = some (.inr (3, 1, .inr (.inl f'))) := q_jn_l (by rw [q_jn_r hu1']; exact q_o_s u f')
  refine g_aload_n ok (dk m_Law_law_3 23 rfl) (pc' := 230) rfl (i := 3) rfl rfl ?_
  refine g_iconst ok (dk m_Law_law_4 0 rfl) (pc' := 231) rfl (v := nI 0) (by decide) ?_
  refine g_lald ok (dk m_Law_law_4 1 rfl) (pc' := 232) rfl hou (j := 0) (by decide) (by decide) ?_
  refine g_iload ok (dk m_Law_law_4 2 rfl) (pc' := 234) rfl rfl ?_
  refine g_i2l ok (dk m_Law_law_4 3 rfl) (pc' := 235) rfl rfl ?_
  refine g_lcmp ok (dk m_Law_law_4 4 rfl) (pc' := 236) rfl (v := 0) (by rw [hz]; simp) ?_
  refine g_if_eq ok (dk m_Law_law_4 5 rfl) (tgt := 241) (by decide) (pc' := 239) rfl (fun _ => ?_) (fun c => absurd rfl c)
  refine g_goto ok (dk m_Law_law_4 8 rfl) (pc' := 850) (by decide) ?_
  exact kk _ _ _ _ _ _ hJ' (q_djl_1 hdj2) hu1' hu2''
theorem lw_c2 (E : lw_E J g Z A r o b L xs) (hi : i + 3 < L) (hS : q_SW J g r o true y_RG_remove b_RG_remove 4 y_Mo_remove b_Mo_remove 3 [.int (xs (i + 1)), .int (xs (i + 2))]) (hJ : J n t h1 h2) (hn : n < 512) (hdj : q_dj h1 h2) (hu1 : h1 u = none) (hu2 : h2 u = none) (kk : ∀ l5 l6 t' h1' h2' f', J (n + 1) t' h1' h2' → q_dj h1' h2' → h1' u = none → h2' u = none → GW g Z A post rc rs (q_lv u f' h1' h2') 850 [some (.ref b), some (.ref r), some (.ref o), some (.ref u), some (.int (nI i)), l5, l6] []) (l5 l6 : Option Value) : GW g Z A post (rc + 14) (rs + 250) (q_lv u f h1 h2) 244 [some (.ref b), some (.ref r), some (.ref o), some (.ref u), some (.int (nI i)), l5, l6] [] := by
  obtain ⟨ok, hX, hbl, hbA, hL, hTh, hRr, hRo⟩ := E
  obtain ⟨fs, hr⟩ := hRr _ _ _ _ hJ
  obtain ⟨fs2, ho⟩ := hRo _ _ _ _ hJ
  have hr2 : q_lv u f h1 h2 r = some (.inl (0, fs)) := q_jn_l (q_jn_l hr)
  obtain ⟨PO, hM, hPO, hM2⟩ := hS _ _ _ _ hJ hn
  refine g_aload_n ok (dk m_Law_law_4 9 rfl) (pc' := 245) rfl (i := 1) rfl rfl ?_
  refine lw_arg (i := i) (k := 1) ok hX hbl hbA hL (by omega) rfl rfl (dk m_Law_law_4 10 rfl) (p1 := 246) rfl (dk m_Law_law_4 11 rfl) (p2 := 248) rfl (dk m_Law_law_4 12 rfl) (by decide) (p3 := 249) rfl (dk m_Law_law_4 13 rfl) (p4 := 250) rfl (dk m_Law_law_4 14 rfl) (p5 := 251) rfl  ?_
  refine lw_arg (i := i) (k := 2) ok hX hbl hbA hL (by omega) rfl rfl (dk m_Law_law_4 15 rfl) (p1 := 252) rfl (dk m_Law_law_4 16 rfl) (p2 := 254) rfl (dk m_Law_law_4 17 rfl) (by decide) (p3 := 255) rfl (dk m_Law_law_4 18 rfl) (p4 := 256) rfl (dk m_Law_law_4 19 rfl) (p5 := 257) rfl  ?_
  refine g_aload_n ok (dk m_Law_law_4 20 rfl) (pc' := 258) rfl (i := 3) rfl rfl ?_
  refine g_callSW ok (dk m_Law_law_4 21 rfl) (pc' := 261) rfl c_Law_55 ((c_Law_remove g (xs (i + 1)) (xs (i + 2)) 21 (by omega) hM hr (fun q h q1 => by rcases hPO q h q1 with q2 | q2 | q2; exact Or.inl q2; exact Or.inr (Or.inl q2); exact Or.inr (Or.inr q2.2)) hu1).frame (q_djl hdj hu2)) rfl rfl (by simp [Value.category]) (by omega) rfl (rc' := rc) (rs' := rs) (by omega) (by omega) (fun rv h' hcc => ?_) (fun j h' hcc => ?_)
  rotate_left
  · obtain ⟨h1'', ⟨h1', r1, f', hP1, rfl, hu1', hans⟩, rfl, hdj'⟩ := hcc
    rcases hans with ⟨z, -, e, -⟩ | ⟨-, e⟩ | ⟨-, e⟩ <;> cases e
  obtain ⟨h1'', ⟨h1', r1, f', hP1, rfl, hu1', hans⟩, rfl, hdj'⟩ := hcc
  obtain ⟨kv, rfl, hkv⟩ : ∃ kv : Int32, rv = some (.int kv) ∧ ((∃ z, r1 = .inl (some (.int z)) ∧ kv = 0 ∧ f' 0 = z.toInt64) ∨ (r1 = .inr 0 ∧ kv = 1) ∨ (r1 = .inr 1 ∧ kv = 2)) := by
    rcases hans with ⟨z, e1, e, e2⟩ | ⟨e1, e⟩ | ⟨e1, e⟩
    · exact ⟨0, Sum.inl.inj e, Or.inl ⟨z, e1, rfl, e2⟩⟩
    · exact ⟨1, Sum.inl.inj e, Or.inr (Or.inl ⟨e1, rfl⟩)⟩
    · exact ⟨2, Sum.inl.inj e, Or.inr (Or.inr ⟨e1, rfl⟩)⟩
  have hu2' := q_djl_2 hdj' hu1'
  have ho2 : q_lv u f' h1' h2 o = some (.inl (11, fs2)) := by
    show q_jn (q_jn h1' (q_o u f')) h2 o = _
    rw [q_jn_comm hdj']
    exact q_jn_l ho
  show GW g Z A post rc rs (q_lv u f' h1' h2) _ _ [.int kv]
  refine g_istore ok (dk m_Law_law_4 22 rfl) (pc' := 263) rfl (Nat.le_of_ble_eq_true rfl) rfl ?_
  refine g_aload_n ok (dk m_Law_law_4 23 rfl) (pc' := 264) rfl (i := 2) rfl rfl ?_
  refine lw_arg (i := i) (k := 1) ok hX hbl hbA hL (by omega) rfl rfl (dk m_Law_law_5 0 rfl) (p1 := 265) rfl (dk m_Law_law_5 1 rfl) (p2 := 267) rfl (dk m_Law_law_5 2 rfl) (by decide) (p3 := 268) rfl (dk m_Law_law_5 3 rfl) (p4 := 269) rfl (dk m_Law_law_5 4 rfl) (p5 := 270) rfl  ?_
  refine lw_arg (i := i) (k := 2) ok hX hbl hbA hL (by omega) rfl rfl (dk m_Law_law_5 5 rfl) (p1 := 271) rfl (dk m_Law_law_5 6 rfl) (p2 := 273) rfl (dk m_Law_law_5 7 rfl) (by decide) (p3 := 274) rfl (dk m_Law_law_5 8 rfl) (p4 := 275) rfl (dk m_Law_law_5 9 rfl) (p5 := 276) rfl  ?_
  refine g_callV ok (dk m_Law_law_5 10 rfl) (pc' := 279) rfl c_Law_57 ((hM2 r1 h1' hP1).right hdj') ho2 rfl rfl (by simp [Value.category]) (by omega) rfl (rc' := rc) (rs' := rs) (by omega) (by omega) (fun rv h' hcc => ?_) (fun j h' hcc => by obtain ⟨_, ⟨z, t', e, -⟩, -⟩ := hcc; cases e)
  obtain ⟨h2', ⟨z, t', e, hJ', hrel⟩, rfl, hdj2⟩ := hcc
  cases e
  have hu2'' := q_djl_2 hdj2 hu1'
  have ht : t' = kv := by
    rcases hrel with ⟨e1, e2⟩ | ⟨e1, e2⟩ | ⟨e1, e2⟩ <;> rcases hkv with ⟨y, e3, e4, -⟩ | ⟨e3, e4⟩ | ⟨e3, e4⟩ <;> (subst e1; first | (cases e3; done) | (rw [e2, e4]))
  obtain ⟨fs3, ho3⟩ := hRo _ _ _ _ hJ'
  have ho4 : q_lv u f' h1' h2' o = some (.inl (11, fs3)) := by
    show q_jn (q_jn h1' (q_o u f')) h2' o = _
    rw [q_jn_comm hdj2]
    exact q_jn_l ho3
  show GW g Z A post rc rs (q_lv u f' h1' h2') _ _ [.int z]
  refine g_istore ok (dk m_Law_law_5 11 rfl) (pc' := 281) rfl (Nat.le_of_ble_eq_true rfl) rfl ?_
  refine g_aload_n ok (dk m_Law_law_5 12 rfl) (pc' := 282) rfl (i := 2) rfl rfl ?_
  refine g_callV ok (dk m_Law_law_5 13 rfl) (pc' := 285) rfl c_Law_47 ((hTh _ _ _ _ hJ').right hdj2) ho4 rfl rfl (by simp [Value.category]) (by omega) rfl (rc' := rc) (rs' := rs) (by omega) (by omega) (fun rv h' hcc => ?_) (fun j h' hcc => by obtain ⟨_, ⟨e, -⟩, -⟩ := hcc; cases e)
  obtain ⟨h2x, ⟨e, e2⟩, rfl, -⟩ := hcc
  cases e
  have e3 := e2.symm
  subst e3
  show GW g Z A post rc rs (q_lv u f' h1' _) _ _ [.int t']
  refine g_iload ok (dk m_Law_law_5 14 rfl) (pc' := 287) rfl rfl ?_
  refine g_icmp_eq ok (dk m_Law_law_5 15 rfl) (tgt := 292) (by decide) (pc' := 290) rfl (fun _ => ?_) (fun c => absurd ht c)
  refine g_iload ok (dk m_Law_law_5 18 rfl) (pc' := 294) rfl rfl ?_
  refine g_if_ne ok (dk m_Law_law_5 19 rfl) (tgt := 309) (by decide) (pc' := 297) rfl (fun _ => ?_) (fun c => ?_)
  · refine g_goto ok (dk m_Law_law_6 5 rfl) (pc' := 850) (by decide) ?_
    exact kk _ _ _ _ _ _ hJ' (q_djl_1 hdj2) hu1' hu2''
  have hz : f' 0 = z.toInt64 := by
    rcases hkv with ⟨y, e3, e4, e5⟩ | ⟨e3, e4⟩ | ⟨e3, e4⟩
    · rcases hrel with ⟨e1, e2⟩ | ⟨e1, e2⟩ | ⟨e1, e2⟩
      · rw [e3] at e1
        cases e1
        exact e5
      · rw [e3] at e1
        cases e1
      · rw [e3] at e1
        cases e1
    · rw [e4] at c
      exact absurd c (by decide)
    · rw [e4] at c
      exact absurd c (by decide)
  have hou : q_lv u f' h1' h2' u = some (.inr (3, 1, .inr (.inl f'))) := q_jn_l (by rw [q_jn_r hu1']; exact q_o_s u f')
  refine g_aload_n ok (dk m_Law_law_5 20 rfl) (pc' := 298) rfl (i := 3) rfl rfl ?_
  refine g_iconst ok (dk m_Law_law_5 21 rfl) (pc' := 299) rfl (v := nI 0) (by decide) ?_
  refine g_lald ok (dk m_Law_law_5 22 rfl) (pc' := 300) rfl hou (j := 0) (by decide) (by decide) ?_
  refine g_iload ok (dk m_Law_law_5 23 rfl) (pc' := 302) rfl rfl ?_
  refine g_i2l ok (dk m_Law_law_6 0 rfl) (pc' := 303) rfl rfl ?_
  refine g_lcmp ok (dk m_Law_law_6 1 rfl) (pc' := 304) rfl (v := 0) (by rw [hz]; simp) ?_
  refine g_if_eq ok (dk m_Law_law_6 2 rfl) (tgt := 309) (by decide) (pc' := 307) rfl (fun _ => ?_) (fun c => absurd rfl c)
  refine g_goto ok (dk m_Law_law_6 5 rfl) (pc' := 850) (by decide) ?_
  exact kk _ _ _ _ _ _ hJ' (q_djl_1 hdj2) hu1' hu2''
theorem lw_c3 (E : lw_E J g Z A r o b L xs) (hi : i + 3 < L) (hS : q_SW J g r o true y_RG_update b_RG_update 4 y_Mo_update b_Mo_update 3 [.int (xs (i + 1))]) (hJ : J n t h1 h2) (hn : n < 512) (hdj : q_dj h1 h2) (hu1 : h1 u = none) (hu2 : h2 u = none) (kk : ∀ l5 l6 t' h1' h2' f', J (n + 1) t' h1' h2' → q_dj h1' h2' → h1' u = none → h2' u = none → GW g Z A post rc rs (q_lv u f' h1' h2') 850 [some (.ref b), some (.ref r), some (.ref o), some (.ref u), some (.int (nI i)), l5, l6] []) (l5 l6 : Option Value) : GW g Z A post (rc + 14) (rs + 250) (q_lv u f h1 h2) 312 [some (.ref b), some (.ref r), some (.ref o), some (.ref u), some (.int (nI i)), l5, l6] [] := by
  obtain ⟨ok, hX, hbl, hbA, hL, hTh, hRr, hRo⟩ := E
  obtain ⟨fs, hr⟩ := hRr _ _ _ _ hJ
  obtain ⟨fs2, ho⟩ := hRo _ _ _ _ hJ
  have hr2 : q_lv u f h1 h2 r = some (.inl (0, fs)) := q_jn_l (q_jn_l hr)
  obtain ⟨PO, hM, hPO, hM2⟩ := hS _ _ _ _ hJ hn
  refine g_aload_n ok (dk m_Law_law_6 6 rfl) (pc' := 313) rfl (i := 1) rfl rfl ?_
  refine lw_arg (i := i) (k := 1) ok hX hbl hbA hL (by omega) rfl rfl (dk m_Law_law_6 7 rfl) (p1 := 314) rfl (dk m_Law_law_6 8 rfl) (p2 := 316) rfl (dk m_Law_law_6 9 rfl) (by decide) (p3 := 317) rfl (dk m_Law_law_6 10 rfl) (p4 := 318) rfl (dk m_Law_law_6 11 rfl) (p5 := 319) rfl  ?_
  refine g_aload_n ok (dk m_Law_law_6 12 rfl) (pc' := 320) rfl (i := 3) rfl rfl ?_
  refine g_callSW ok (dk m_Law_law_6 13 rfl) (pc' := 323) rfl c_Law_58 ((c_Law_update g (xs (i + 1)) 21 (by omega) hM hr (fun q h q1 => by rcases hPO q h q1 with q2 | q2 | q2; exact Or.inl q2; exact Or.inr (Or.inl q2); exact Or.inr (Or.inr q2.2)) hu1).frame (q_djl hdj hu2)) rfl rfl (by simp [Value.category]) (by omega) rfl (rc' := rc) (rs' := rs) (by omega) (by omega) (fun rv h' hcc => ?_) (fun j h' hcc => ?_)
  rotate_left
  · obtain ⟨h1'', ⟨h1', r1, f', hP1, rfl, hu1', hans⟩, rfl, hdj'⟩ := hcc
    rcases hans with ⟨z, -, e, -⟩ | ⟨-, e⟩ | ⟨-, e⟩ <;> cases e
  obtain ⟨h1'', ⟨h1', r1, f', hP1, rfl, hu1', hans⟩, rfl, hdj'⟩ := hcc
  obtain ⟨kv, rfl, hkv⟩ : ∃ kv : Int32, rv = some (.int kv) ∧ ((∃ z, r1 = .inl (some (.int z)) ∧ kv = 0 ∧ f' 0 = z.toInt64) ∨ (r1 = .inr 0 ∧ kv = 1) ∨ (r1 = .inr 1 ∧ kv = 2)) := by
    rcases hans with ⟨z, e1, e, e2⟩ | ⟨e1, e⟩ | ⟨e1, e⟩
    · exact ⟨0, Sum.inl.inj e, Or.inl ⟨z, e1, rfl, e2⟩⟩
    · exact ⟨1, Sum.inl.inj e, Or.inr (Or.inl ⟨e1, rfl⟩)⟩
    · exact ⟨2, Sum.inl.inj e, Or.inr (Or.inr ⟨e1, rfl⟩)⟩
  have hu2' := q_djl_2 hdj' hu1'
  have ho2 : q_lv u f' h1' h2 o = some (.inl (11, fs2)) := by
    show q_jn (q_jn h1' (q_o u f')) h2 o = _
    rw [q_jn_comm hdj']
    exact q_jn_l ho
  show GW g Z A post rc rs (q_lv u f' h1' h2) _ _ [.int kv]
  refine g_istore ok (dk m_Law_law_6 14 rfl) (pc' := 325) rfl (Nat.le_of_ble_eq_true rfl) rfl ?_
  refine g_aload_n ok (dk m_Law_law_6 15 rfl) (pc' := 326) rfl (i := 2) rfl rfl ?_
  refine lw_arg (i := i) (k := 1) ok hX hbl hbA hL (by omega) rfl rfl (dk m_Law_law_6 16 rfl) (p1 := 327) rfl (dk m_Law_law_6 17 rfl) (p2 := 329) rfl (dk m_Law_law_6 18 rfl) (by decide) (p3 := 330) rfl (dk m_Law_law_6 19 rfl) (p4 := 331) rfl (dk m_Law_law_6 20 rfl) (p5 := 332) rfl  ?_
  refine g_callV ok (dk m_Law_law_6 21 rfl) (pc' := 335) rfl c_Law_60 ((hM2 r1 h1' hP1).right hdj') ho2 rfl rfl (by simp [Value.category]) (by omega) rfl (rc' := rc) (rs' := rs) (by omega) (by omega) (fun rv h' hcc => ?_) (fun j h' hcc => by obtain ⟨_, ⟨z, t', e, -⟩, -⟩ := hcc; cases e)
  obtain ⟨h2', ⟨z, t', e, hJ', hrel⟩, rfl, hdj2⟩ := hcc
  cases e
  have hu2'' := q_djl_2 hdj2 hu1'
  have ht : t' = kv := by
    rcases hrel with ⟨e1, e2⟩ | ⟨e1, e2⟩ | ⟨e1, e2⟩ <;> rcases hkv with ⟨y, e3, e4, -⟩ | ⟨e3, e4⟩ | ⟨e3, e4⟩ <;> (subst e1; first | (cases e3; done) | (rw [e2, e4]))
  obtain ⟨fs3, ho3⟩ := hRo _ _ _ _ hJ'
  have ho4 : q_lv u f' h1' h2' o = some (.inl (11, fs3)) := by
    show q_jn (q_jn h1' (q_o u f')) h2' o = _
    rw [q_jn_comm hdj2]
    exact q_jn_l ho3
  show GW g Z A post rc rs (q_lv u f' h1' h2') _ _ [.int z]
  refine g_istore ok (dk m_Law_law_6 22 rfl) (pc' := 337) rfl (Nat.le_of_ble_eq_true rfl) rfl ?_
  refine g_aload_n ok (dk m_Law_law_6 23 rfl) (pc' := 338) rfl (i := 2) rfl rfl ?_
  refine g_callV ok (dk m_Law_law_7 0 rfl) (pc' := 341) rfl c_Law_47 ((hTh _ _ _ _ hJ').right hdj2) ho4 rfl rfl (by simp [Value.category]) (by omega) rfl (rc' := rc) (rs' := rs) (by omega) (by omega) (fun rv h' hcc => ?_) (fun j h' hcc => by obtain ⟨_, ⟨e, -⟩, -⟩ := hcc; cases e)
  obtain ⟨h2x, ⟨e, e2⟩, rfl, -⟩ := hcc
  cases e
  have e3 := e2.symm
  subst e3
  show GW g Z A post rc rs (q_lv u f' h1' _) _ _ [.int t']
  refine g_iload ok (dk m_Law_law_7 1 rfl) (pc' := 343) rfl rfl ?_
  refine g_icmp_eq ok (dk m_Law_law_7 2 rfl) (tgt := 348) (by decide) (pc' := 346) rfl (fun _ => ?_) (fun c => absurd ht c)
  refine g_iload ok (dk m_Law_law_7 5 rfl) (pc' := 350) rfl rfl ?_
  refine g_if_ne ok (dk m_Law_law_7 6 rfl) (tgt := 365) (by decide) (pc' := 353) rfl (fun _ => ?_) (fun c => ?_)
  · refine g_goto ok (dk m_Law_law_7 16 rfl) (pc' := 850) (by decide) ?_
    exact kk _ _ _ _ _ _ hJ' (q_djl_1 hdj2) hu1' hu2''
  have hz : f' 0 = z.toInt64 := by
    rcases hkv with ⟨y, e3, e4, e5⟩ | ⟨e3, e4⟩ | ⟨e3, e4⟩
    · rcases hrel with ⟨e1, e2⟩ | ⟨e1, e2⟩ | ⟨e1, e2⟩
      · rw [e3] at e1
        cases e1
        exact e5
      · rw [e3] at e1
        cases e1
      · rw [e3] at e1
        cases e1
    · rw [e4] at c
      exact absurd c (by decide)
    · rw [e4] at c
      exact absurd c (by decide)
  have hou : q_lv u f' h1' h2' u = some (.inr (3, 1, .inr (.inl f'))) := q_jn_l (by rw [q_jn_r hu1']; exact q_o_s u f')
  refine g_aload_n ok (dk m_Law_law_7 7 rfl) (pc' := 354) rfl (i := 3) rfl rfl ?_
  refine g_iconst ok (dk m_Law_law_7 8 rfl) (pc' := 355) rfl (v := nI 0) (by decide) ?_
  refine g_lald ok (dk m_Law_law_7 9 rfl) (pc' := 356) rfl hou (j := 0) (by decide) (by decide) ?_
  refine g_iload ok (dk m_Law_law_7 10 rfl) (pc' := 358) rfl rfl ?_
  refine g_i2l ok (dk m_Law_law_7 11 rfl) (pc' := 359) rfl rfl ?_
  refine g_lcmp ok (dk m_Law_law_7 12 rfl) (pc' := 360) rfl (v := 0) (by rw [hz]; simp) ?_
  refine g_if_eq ok (dk m_Law_law_7 13 rfl) (tgt := 365) (by decide) (pc' := 363) rfl (fun _ => ?_) (fun c => absurd rfl c)
  refine g_goto ok (dk m_Law_law_7 16 rfl) (pc' := 850) (by decide) ?_
  exact kk _ _ _ _ _ _ hJ' (q_djl_1 hdj2) hu1' hu2''
theorem lw_c4 (E : lw_E J g Z A r o b L xs) (hi : i + 3 < L) (hS : q_SW J g r o true y_RG_commit b_RG_commit 7 y_Mo_commit b_Mo_commit 3 [.int (xs (i + 1)), .int (if xs (i + 2) = 0 then 0 else 1)]) (hJ : J n t h1 h2) (hn : n < 512) (hdj : q_dj h1 h2) (hu1 : h1 u = none) (hu2 : h2 u = none) (kk : ∀ l5 l6 t' h1' h2' f', J (n + 1) t' h1' h2' → q_dj h1' h2' → h1' u = none → h2' u = none → GW g Z A post rc rs (q_lv u f' h1' h2') 850 [some (.ref b), some (.ref r), some (.ref o), some (.ref u), some (.int (nI i)), l5, l6] []) (l5 l6 : Option Value) : GW g Z A post (rc + 14) (rs + 250) (q_lv u f h1 h2) 368 [some (.ref b), some (.ref r), some (.ref o), some (.ref u), some (.int (nI i)), l5, l6] [] := by
  obtain ⟨ok, hX, hbl, hbA, hL, hTh, hRr, hRo⟩ := E
  obtain ⟨fs, hr⟩ := hRr _ _ _ _ hJ
  obtain ⟨fs2, ho⟩ := hRo _ _ _ _ hJ
  have hr2 : q_lv u f h1 h2 r = some (.inl (0, fs)) := q_jn_l (q_jn_l hr)
  obtain ⟨PO, hM, hPO, hM2⟩ := hS _ _ _ _ hJ hn
  refine g_aload_n ok (dk m_Law_law_7 17 rfl) (pc' := 369) rfl (i := 1) rfl rfl ?_
  refine lw_arg (i := i) (k := 1) ok hX hbl hbA hL (by omega) rfl rfl (dk m_Law_law_7 18 rfl) (p1 := 370) rfl (dk m_Law_law_7 19 rfl) (p2 := 372) rfl (dk m_Law_law_7 20 rfl) (by decide) (p3 := 373) rfl (dk m_Law_law_7 21 rfl) (p4 := 374) rfl (dk m_Law_law_7 22 rfl) (p5 := 375) rfl  ?_
  refine lw_arg (i := i) (k := 2) ok hX hbl hbA hL (by omega) rfl rfl (dk m_Law_law_7 23 rfl) (p1 := 376) rfl (dk m_Law_law_8 0 rfl) (p2 := 378) rfl (dk m_Law_law_8 1 rfl) (by decide) (p3 := 379) rfl (dk m_Law_law_8 2 rfl) (p4 := 380) rfl (dk m_Law_law_8 3 rfl) (p5 := 381) rfl  ?_
  refine lw_bool (p1 := 384) (p2 := 385) (p3 := 388) (p4 := 389) ok (dk m_Law_law_8 4 rfl) (by decide) rfl (dk m_Law_law_8 5 rfl) rfl (dk m_Law_law_8 6 rfl) (by decide) (dk m_Law_law_8 7 rfl) rfl ?_
  refine g_aload_n ok (dk m_Law_law_8 8 rfl) (pc' := 390) rfl (i := 3) rfl rfl ?_
  refine g_callSW ok (dk m_Law_law_8 9 rfl) (pc' := 393) rfl c_Law_61 ((c_Law_commit g (xs (i + 1)) (if xs (i + 2) = 0 then 0 else 1) 21 (by omega) hM hr (fun q h q1 => by rcases hPO q h q1 with q2 | q2 | q2; exact Or.inl q2; exact Or.inr (Or.inl q2); exact Or.inr (Or.inr q2.2)) hu1).frame (q_djl hdj hu2)) rfl rfl (by simp [Value.category]) (by omega) rfl (rc' := rc) (rs' := rs) (by omega) (by omega) (fun rv h' hcc => ?_) (fun j h' hcc => ?_)
  rotate_left
  · obtain ⟨h1'', ⟨h1', r1, f', hP1, rfl, hu1', hans⟩, rfl, hdj'⟩ := hcc
    rcases hans with ⟨z, -, e, -⟩ | ⟨-, e⟩ | ⟨-, e⟩ <;> cases e
  obtain ⟨h1'', ⟨h1', r1, f', hP1, rfl, hu1', hans⟩, rfl, hdj'⟩ := hcc
  obtain ⟨kv, rfl, hkv⟩ : ∃ kv : Int32, rv = some (.int kv) ∧ ((∃ z, r1 = .inl (some (.int z)) ∧ kv = 0 ∧ f' 0 = z.toInt64) ∨ (r1 = .inr 0 ∧ kv = 1) ∨ (r1 = .inr 1 ∧ kv = 2)) := by
    rcases hans with ⟨z, e1, e, e2⟩ | ⟨e1, e⟩ | ⟨e1, e⟩
    · exact ⟨0, Sum.inl.inj e, Or.inl ⟨z, e1, rfl, e2⟩⟩
    · exact ⟨1, Sum.inl.inj e, Or.inr (Or.inl ⟨e1, rfl⟩)⟩
    · exact ⟨2, Sum.inl.inj e, Or.inr (Or.inr ⟨e1, rfl⟩)⟩
  have hu2' := q_djl_2 hdj' hu1'
  have ho2 : q_lv u f' h1' h2 o = some (.inl (11, fs2)) := by
    show q_jn (q_jn h1' (q_o u f')) h2 o = _
    rw [q_jn_comm hdj']
    exact q_jn_l ho
  show GW g Z A post rc rs (q_lv u f' h1' h2) _ _ [.int kv]
  refine g_istore ok (dk m_Law_law_8 10 rfl) (pc' := 395) rfl (Nat.le_of_ble_eq_true rfl) rfl ?_
  refine g_aload_n ok (dk m_Law_law_8 11 rfl) (pc' := 396) rfl (i := 2) rfl rfl ?_
  refine lw_arg (i := i) (k := 1) ok hX hbl hbA hL (by omega) rfl rfl (dk m_Law_law_8 12 rfl) (p1 := 397) rfl (dk m_Law_law_8 13 rfl) (p2 := 399) rfl (dk m_Law_law_8 14 rfl) (by decide) (p3 := 400) rfl (dk m_Law_law_8 15 rfl) (p4 := 401) rfl (dk m_Law_law_8 16 rfl) (p5 := 402) rfl  ?_
  refine lw_arg (i := i) (k := 2) ok hX hbl hbA hL (by omega) rfl rfl (dk m_Law_law_8 17 rfl) (p1 := 403) rfl (dk m_Law_law_8 18 rfl) (p2 := 405) rfl (dk m_Law_law_8 19 rfl) (by decide) (p3 := 406) rfl (dk m_Law_law_8 20 rfl) (p4 := 407) rfl (dk m_Law_law_8 21 rfl) (p5 := 408) rfl  ?_
  refine lw_bool (p1 := 411) (p2 := 412) (p3 := 415) (p4 := 416) ok (dk m_Law_law_8 22 rfl) (by decide) rfl (dk m_Law_law_8 23 rfl) rfl (dk m_Law_law_9 0 rfl) (by decide) (dk m_Law_law_9 1 rfl) rfl ?_
  refine g_callV ok (dk m_Law_law_9 2 rfl) (pc' := 419) rfl c_Law_64 ((hM2 r1 h1' hP1).right hdj') ho2 rfl rfl (by simp [Value.category]) (by omega) rfl (rc' := rc) (rs' := rs) (by omega) (by omega) (fun rv h' hcc => ?_) (fun j h' hcc => by obtain ⟨_, ⟨z, t', e, -⟩, -⟩ := hcc; cases e)
  obtain ⟨h2', ⟨z, t', e, hJ', hrel⟩, rfl, hdj2⟩ := hcc
  cases e
  have hu2'' := q_djl_2 hdj2 hu1'
  have ht : t' = kv := by
    rcases hrel with ⟨e1, e2⟩ | ⟨e1, e2⟩ | ⟨e1, e2⟩ <;> rcases hkv with ⟨y, e3, e4, -⟩ | ⟨e3, e4⟩ | ⟨e3, e4⟩ <;> (subst e1; first | (cases e3; done) | (rw [e2, e4]))
  obtain ⟨fs3, ho3⟩ := hRo _ _ _ _ hJ'
  have ho4 : q_lv u f' h1' h2' o = some (.inl (11, fs3)) := by
    show q_jn (q_jn h1' (q_o u f')) h2' o = _
    rw [q_jn_comm hdj2]
    exact q_jn_l ho3
  show GW g Z A post rc rs (q_lv u f' h1' h2') _ _ [.int z]
  refine g_istore ok (dk m_Law_law_9 3 rfl) (pc' := 421) rfl (Nat.le_of_ble_eq_true rfl) rfl ?_
  refine g_aload_n ok (dk m_Law_law_9 4 rfl) (pc' := 422) rfl (i := 2) rfl rfl ?_
  refine g_callV ok (dk m_Law_law_9 5 rfl) (pc' := 425) rfl c_Law_47 ((hTh _ _ _ _ hJ').right hdj2) ho4 rfl rfl (by simp [Value.category]) (by omega) rfl (rc' := rc) (rs' := rs) (by omega) (by omega) (fun rv h' hcc => ?_) (fun j h' hcc => by obtain ⟨_, ⟨e, -⟩, -⟩ := hcc; cases e)
  obtain ⟨h2x, ⟨e, e2⟩, rfl, -⟩ := hcc
  cases e
  have e3 := e2.symm
  subst e3
  show GW g Z A post rc rs (q_lv u f' h1' _) _ _ [.int t']
  refine g_iload ok (dk m_Law_law_9 6 rfl) (pc' := 427) rfl rfl ?_
  refine g_icmp_eq ok (dk m_Law_law_9 7 rfl) (tgt := 432) (by decide) (pc' := 430) rfl (fun _ => ?_) (fun c => absurd ht c)
  refine g_iload ok (dk m_Law_law_9 10 rfl) (pc' := 434) rfl rfl ?_
  refine g_if_ne ok (dk m_Law_law_9 11 rfl) (tgt := 449) (by decide) (pc' := 437) rfl (fun _ => ?_) (fun c => ?_)
  · refine g_goto ok (dk m_Law_law_9 21 rfl) (pc' := 850) (by decide) ?_
    exact kk _ _ _ _ _ _ hJ' (q_djl_1 hdj2) hu1' hu2''
  have hz : f' 0 = z.toInt64 := by
    rcases hkv with ⟨y, e3, e4, e5⟩ | ⟨e3, e4⟩ | ⟨e3, e4⟩
    · rcases hrel with ⟨e1, e2⟩ | ⟨e1, e2⟩ | ⟨e1, e2⟩
      · rw [e3] at e1
        cases e1
        exact e5
      · rw [e3] at e1
        cases e1
      · rw [e3] at e1
        cases e1
    · rw [e4] at c
      exact absurd c (by decide)
    · rw [e4] at c
      exact absurd c (by decide)
  have hou : q_lv u f' h1' h2' u = some (.inr (3, 1, .inr (.inl f'))) := q_jn_l (by rw [q_jn_r hu1']; exact q_o_s u f')
  refine g_aload_n ok (dk m_Law_law_9 12 rfl) (pc' := 438) rfl (i := 3) rfl rfl ?_
  refine g_iconst ok (dk m_Law_law_9 13 rfl) (pc' := 439) rfl (v := nI 0) (by decide) ?_
  refine g_lald ok (dk m_Law_law_9 14 rfl) (pc' := 440) rfl hou (j := 0) (by decide) (by decide) ?_
  refine g_iload ok (dk m_Law_law_9 15 rfl) (pc' := 442) rfl rfl ?_
  refine g_i2l ok (dk m_Law_law_9 16 rfl) (pc' := 443) rfl rfl ?_
  refine g_lcmp ok (dk m_Law_law_9 17 rfl) (pc' := 444) rfl (v := 0) (by rw [hz]; simp) ?_
  refine g_if_eq ok (dk m_Law_law_9 18 rfl) (tgt := 449) (by decide) (pc' := 447) rfl (fun _ => ?_) (fun c => absurd rfl c)
  refine g_goto ok (dk m_Law_law_9 21 rfl) (pc' := 850) (by decide) ?_
  exact kk _ _ _ _ _ _ hJ' (q_djl_1 hdj2) hu1' hu2''
theorem lw_c5 (E : lw_E J g Z A r o b L xs) (hi : i + 3 < L) (hS : q_SW J g r o true y_RG_come b_RG_come 3 y_Mo_come b_Mo_come 4 [.int (xs (i + 1))]) (hJ : J n t h1 h2) (hn : n < 512) (hdj : q_dj h1 h2) (hu1 : h1 u = none) (hu2 : h2 u = none) (kk : ∀ l5 l6 t' h1' h2' f', J (n + 1) t' h1' h2' → q_dj h1' h2' → h1' u = none → h2' u = none → GW g Z A post rc rs (q_lv u f' h1' h2') 850 [some (.ref b), some (.ref r), some (.ref o), some (.ref u), some (.int (nI i)), l5, l6] []) (l5 l6 : Option Value) : GW g Z A post (rc + 14) (rs + 250) (q_lv u f h1 h2) 452 [some (.ref b), some (.ref r), some (.ref o), some (.ref u), some (.int (nI i)), l5, l6] [] := by
  obtain ⟨ok, hX, hbl, hbA, hL, hTh, hRr, hRo⟩ := E
  obtain ⟨fs, hr⟩ := hRr _ _ _ _ hJ
  obtain ⟨fs2, ho⟩ := hRo _ _ _ _ hJ
  have hr2 : q_lv u f h1 h2 r = some (.inl (0, fs)) := q_jn_l (q_jn_l hr)
  obtain ⟨PO, hM, hPO, hM2⟩ := hS _ _ _ _ hJ hn
  refine g_aload_n ok (dk m_Law_law_9 22 rfl) (pc' := 453) rfl (i := 1) rfl rfl ?_
  refine lw_arg (i := i) (k := 1) ok hX hbl hbA hL (by omega) rfl rfl (dk m_Law_law_9 23 rfl) (p1 := 454) rfl (dk m_Law_law_10 0 rfl) (p2 := 456) rfl (dk m_Law_law_10 1 rfl) (by decide) (p3 := 457) rfl (dk m_Law_law_10 2 rfl) (p4 := 458) rfl (dk m_Law_law_10 3 rfl) (p5 := 459) rfl  ?_
  refine g_aload_n ok (dk m_Law_law_10 4 rfl) (pc' := 460) rfl (i := 3) rfl rfl ?_
  refine g_callSW ok (dk m_Law_law_10 5 rfl) (pc' := 463) rfl c_Law_65 ((c_Law_come g (xs (i + 1)) 21 (by omega) hM hr (fun q h q1 => by rcases hPO q h q1 with q2 | q2 | q2; exact Or.inl q2; exact Or.inr (Or.inl q2); exact Or.inr (Or.inr q2.2)) hu1).frame (q_djl hdj hu2)) rfl rfl (by simp [Value.category]) (by omega) rfl (rc' := rc) (rs' := rs) (by omega) (by omega) (fun rv h' hcc => ?_) (fun j h' hcc => ?_)
  rotate_left
  · obtain ⟨h1'', ⟨h1', r1, f', hP1, rfl, hu1', hans⟩, rfl, hdj'⟩ := hcc
    rcases hans with ⟨z, -, e, -⟩ | ⟨-, e⟩ | ⟨-, e⟩ <;> cases e
  obtain ⟨h1'', ⟨h1', r1, f', hP1, rfl, hu1', hans⟩, rfl, hdj'⟩ := hcc
  obtain ⟨kv, rfl, hkv⟩ : ∃ kv : Int32, rv = some (.int kv) ∧ ((∃ z, r1 = .inl (some (.int z)) ∧ kv = 0 ∧ f' 0 = z.toInt64) ∨ (r1 = .inr 0 ∧ kv = 1) ∨ (r1 = .inr 1 ∧ kv = 2)) := by
    rcases hans with ⟨z, e1, e, e2⟩ | ⟨e1, e⟩ | ⟨e1, e⟩
    · exact ⟨0, Sum.inl.inj e, Or.inl ⟨z, e1, rfl, e2⟩⟩
    · exact ⟨1, Sum.inl.inj e, Or.inr (Or.inl ⟨e1, rfl⟩)⟩
    · exact ⟨2, Sum.inl.inj e, Or.inr (Or.inr ⟨e1, rfl⟩)⟩
  have hu2' := q_djl_2 hdj' hu1'
  have ho2 : q_lv u f' h1' h2 o = some (.inl (11, fs2)) := by
    show q_jn (q_jn h1' (q_o u f')) h2 o = _
    rw [q_jn_comm hdj']
    exact q_jn_l ho
  show GW g Z A post rc rs (q_lv u f' h1' h2) _ _ [.int kv]
  refine g_istore ok (dk m_Law_law_10 6 rfl) (pc' := 465) rfl (Nat.le_of_ble_eq_true rfl) rfl ?_
  refine g_aload_n ok (dk m_Law_law_10 7 rfl) (pc' := 466) rfl (i := 2) rfl rfl ?_
  refine lw_arg (i := i) (k := 1) ok hX hbl hbA hL (by omega) rfl rfl (dk m_Law_law_10 8 rfl) (p1 := 467) rfl (dk m_Law_law_10 9 rfl) (p2 := 469) rfl (dk m_Law_law_10 10 rfl) (by decide) (p3 := 470) rfl (dk m_Law_law_10 11 rfl) (p4 := 471) rfl (dk m_Law_law_10 12 rfl) (p5 := 472) rfl  ?_
  refine g_callV ok (dk m_Law_law_10 13 rfl) (pc' := 475) rfl c_Law_67 ((hM2 r1 h1' hP1).right hdj') ho2 rfl rfl (by simp [Value.category]) (by omega) rfl (rc' := rc) (rs' := rs) (by omega) (by omega) (fun rv h' hcc => ?_) (fun j h' hcc => by obtain ⟨_, ⟨z, t', e, -⟩, -⟩ := hcc; cases e)
  obtain ⟨h2', ⟨z, t', e, hJ', hrel⟩, rfl, hdj2⟩ := hcc
  cases e
  have hu2'' := q_djl_2 hdj2 hu1'
  have ht : t' = kv := by
    rcases hrel with ⟨e1, e2⟩ | ⟨e1, e2⟩ | ⟨e1, e2⟩ <;> rcases hkv with ⟨y, e3, e4, -⟩ | ⟨e3, e4⟩ | ⟨e3, e4⟩ <;> (subst e1; first | (cases e3; done) | (rw [e2, e4]))
  obtain ⟨fs3, ho3⟩ := hRo _ _ _ _ hJ'
  have ho4 : q_lv u f' h1' h2' o = some (.inl (11, fs3)) := by
    show q_jn (q_jn h1' (q_o u f')) h2' o = _
    rw [q_jn_comm hdj2]
    exact q_jn_l ho3
  show GW g Z A post rc rs (q_lv u f' h1' h2') _ _ [.int z]
  refine g_istore ok (dk m_Law_law_10 14 rfl) (pc' := 477) rfl (Nat.le_of_ble_eq_true rfl) rfl ?_
  refine g_aload_n ok (dk m_Law_law_10 15 rfl) (pc' := 478) rfl (i := 2) rfl rfl ?_
  refine g_callV ok (dk m_Law_law_10 16 rfl) (pc' := 481) rfl c_Law_47 ((hTh _ _ _ _ hJ').right hdj2) ho4 rfl rfl (by simp [Value.category]) (by omega) rfl (rc' := rc) (rs' := rs) (by omega) (by omega) (fun rv h' hcc => ?_) (fun j h' hcc => by obtain ⟨_, ⟨e, -⟩, -⟩ := hcc; cases e)
  obtain ⟨h2x, ⟨e, e2⟩, rfl, -⟩ := hcc
  cases e
  have e3 := e2.symm
  subst e3
  show GW g Z A post rc rs (q_lv u f' h1' _) _ _ [.int t']
  refine g_iload ok (dk m_Law_law_10 17 rfl) (pc' := 483) rfl rfl ?_
  refine g_icmp_eq ok (dk m_Law_law_10 18 rfl) (tgt := 488) (by decide) (pc' := 486) rfl (fun _ => ?_) (fun c => absurd ht c)
  refine g_iload ok (dk m_Law_law_10 21 rfl) (pc' := 490) rfl rfl ?_
  refine g_if_ne ok (dk m_Law_law_10 22 rfl) (tgt := 505) (by decide) (pc' := 493) rfl (fun _ => ?_) (fun c => ?_)
  · refine g_goto ok (dk m_Law_law_11 8 rfl) (pc' := 850) (by decide) ?_
    exact kk _ _ _ _ _ _ hJ' (q_djl_1 hdj2) hu1' hu2''
  have hz : f' 0 = z.toInt64 := by
    rcases hkv with ⟨y, e3, e4, e5⟩ | ⟨e3, e4⟩ | ⟨e3, e4⟩
    · rcases hrel with ⟨e1, e2⟩ | ⟨e1, e2⟩ | ⟨e1, e2⟩
      · rw [e3] at e1
        cases e1
        exact e5
      · rw [e3] at e1
        cases e1
      · rw [e3] at e1
        cases e1
    · rw [e4] at c
      exact absurd c (by decide)
    · rw [e4] at c
      exact absurd c (by decide)
  have hou : q_lv u f' h1' h2' u = some (.inr (3, 1, .inr (.inl f'))) := q_jn_l (by rw [q_jn_r hu1']; exact q_o_s u f')
  refine g_aload_n ok (dk m_Law_law_10 23 rfl) (pc' := 494) rfl (i := 3) rfl rfl ?_
  refine g_iconst ok (dk m_Law_law_11 0 rfl) (pc' := 495) rfl (v := nI 0) (by decide) ?_
  refine g_lald ok (dk m_Law_law_11 1 rfl) (pc' := 496) rfl hou (j := 0) (by decide) (by decide) ?_
  refine g_iload ok (dk m_Law_law_11 2 rfl) (pc' := 498) rfl rfl ?_
  refine g_i2l ok (dk m_Law_law_11 3 rfl) (pc' := 499) rfl rfl ?_
  refine g_lcmp ok (dk m_Law_law_11 4 rfl) (pc' := 500) rfl (v := 0) (by rw [hz]; simp) ?_
  refine g_if_eq ok (dk m_Law_law_11 5 rfl) (tgt := 505) (by decide) (pc' := 503) rfl (fun _ => ?_) (fun c => absurd rfl c)
  refine g_goto ok (dk m_Law_law_11 8 rfl) (pc' := 850) (by decide) ?_
  exact kk _ _ _ _ _ _ hJ' (q_djl_1 hdj2) hu1' hu2''
theorem lw_c6 (E : lw_E J g Z A r o b L xs) (hi : i + 3 < L) (hS : q_SW J g r o false y_RG_compromise b_RG_compromise 4 y_Mo_compromise b_Mo_compromise 3 [.int (xs (i + 1))]) (hJ : J n t h1 h2) (hn : n < 512) (hdj : q_dj h1 h2) (hu1 : h1 u = none) (hu2 : h2 u = none) (kk : ∀ l5 l6 t' h1' h2' f', J (n + 1) t' h1' h2' → q_dj h1' h2' → h1' u = none → h2' u = none → GW g Z A post rc rs (q_lv u f' h1' h2') 850 [some (.ref b), some (.ref r), some (.ref o), some (.ref u), some (.int (nI i)), l5, l6] []) (l5 l6 : Option Value) : GW g Z A post (rc + 14) (rs + 250) (q_lv u f h1 h2) 508 [some (.ref b), some (.ref r), some (.ref o), some (.ref u), some (.int (nI i)), l5, l6] [] := by
  obtain ⟨ok, hX, hbl, hbA, hL, hTh, hRr, hRo⟩ := E
  obtain ⟨fs, hr⟩ := hRr _ _ _ _ hJ
  obtain ⟨fs2, ho⟩ := hRo _ _ _ _ hJ
  have hr2 : q_lv u f h1 h2 r = some (.inl (0, fs)) := q_jn_l (q_jn_l hr)
  obtain ⟨PO, hM, hPO, hM2⟩ := hS _ _ _ _ hJ hn
  refine g_aload_n ok (dk m_Law_law_11 9 rfl) (pc' := 509) rfl (i := 1) rfl rfl ?_
  refine lw_arg (i := i) (k := 1) ok hX hbl hbA hL (by omega) rfl rfl (dk m_Law_law_11 10 rfl) (p1 := 510) rfl (dk m_Law_law_11 11 rfl) (p2 := 512) rfl (dk m_Law_law_11 12 rfl) (by decide) (p3 := 513) rfl (dk m_Law_law_11 13 rfl) (p4 := 514) rfl (dk m_Law_law_11 14 rfl) (p5 := 515) rfl  ?_
  refine g_aload_n ok (dk m_Law_law_11 15 rfl) (pc' := 516) rfl (i := 3) rfl rfl ?_
  refine g_callSW ok (dk m_Law_law_11 16 rfl) (pc' := 519) rfl c_Law_68 ((c_Law_compromise g (xs (i + 1)) 21 (by omega) hM hr (fun q h q1 => by rcases hPO q h q1 with q2 | q2 | q2; exact Or.inl q2; exact Or.inr q2; cases q2.1) hu1).frame (q_djl hdj hu2)) rfl rfl (by simp [Value.category]) (by omega) rfl (rc' := rc) (rs' := rs) (by omega) (by omega) (fun rv h' hcc => ?_) (fun j h' hcc => ?_)
  rotate_left
  · obtain ⟨h1'', ⟨h1', r1, f', hP1, rfl, hu1', hans⟩, rfl, hdj'⟩ := hcc
    rcases hans with ⟨z, -, e, -⟩ | ⟨-, e⟩ | ⟨-, e⟩ <;> cases e
  obtain ⟨h1'', ⟨h1', r1, f', hP1, rfl, hu1', hans⟩, rfl, hdj'⟩ := hcc
  obtain ⟨kv, rfl, hkv⟩ : ∃ kv : Int32, rv = some (.int kv) ∧ ((∃ z, r1 = .inl (some (.int z)) ∧ kv = 0 ∧ f' 0 = z.toInt64) ∨ (r1 = .inr 0 ∧ kv = 1) ∨ (r1 = .inr 1 ∧ kv = 2)) := by
    rcases hans with ⟨z, e1, e, e2⟩ | ⟨e1, e⟩ | ⟨e1, e⟩
    · exact ⟨0, Sum.inl.inj e, Or.inl ⟨z, e1, rfl, e2⟩⟩
    · exact ⟨1, Sum.inl.inj e, Or.inr (Or.inl ⟨e1, rfl⟩)⟩
    · exact ⟨2, Sum.inl.inj e, Or.inr (Or.inr ⟨e1, rfl⟩)⟩
  have hu2' := q_djl_2 hdj' hu1'
  have ho2 : q_lv u f' h1' h2 o = some (.inl (11, fs2)) := by
    show q_jn (q_jn h1' (q_o u f')) h2 o = _
    rw [q_jn_comm hdj']
    exact q_jn_l ho
  show GW g Z A post rc rs (q_lv u f' h1' h2) _ _ [.int kv]
  refine g_istore ok (dk m_Law_law_11 17 rfl) (pc' := 521) rfl (Nat.le_of_ble_eq_true rfl) rfl ?_
  refine g_aload_n ok (dk m_Law_law_11 18 rfl) (pc' := 522) rfl (i := 2) rfl rfl ?_
  refine lw_arg (i := i) (k := 1) ok hX hbl hbA hL (by omega) rfl rfl (dk m_Law_law_11 19 rfl) (p1 := 523) rfl (dk m_Law_law_11 20 rfl) (p2 := 525) rfl (dk m_Law_law_11 21 rfl) (by decide) (p3 := 526) rfl (dk m_Law_law_11 22 rfl) (p4 := 527) rfl (dk m_Law_law_11 23 rfl) (p5 := 528) rfl  ?_
  refine g_callV ok (dk m_Law_law_12 0 rfl) (pc' := 531) rfl c_Law_70 ((hM2 r1 h1' hP1).right hdj') ho2 rfl rfl (by simp [Value.category]) (by omega) rfl (rc' := rc) (rs' := rs) (by omega) (by omega) (fun rv h' hcc => ?_) (fun j h' hcc => by obtain ⟨_, ⟨z, t', e, -⟩, -⟩ := hcc; cases e)
  obtain ⟨h2', ⟨z, t', e, hJ', hrel⟩, rfl, hdj2⟩ := hcc
  cases e
  have hu2'' := q_djl_2 hdj2 hu1'
  have ht : t' = kv := by
    rcases hrel with ⟨e1, e2⟩ | ⟨e1, e2⟩ | ⟨e1, e2⟩ <;> rcases hkv with ⟨y, e3, e4, -⟩ | ⟨e3, e4⟩ | ⟨e3, e4⟩ <;> (subst e1; first | (cases e3; done) | (rw [e2, e4]))
  obtain ⟨fs3, ho3⟩ := hRo _ _ _ _ hJ'
  have ho4 : q_lv u f' h1' h2' o = some (.inl (11, fs3)) := by
    show q_jn (q_jn h1' (q_o u f')) h2' o = _
    rw [q_jn_comm hdj2]
    exact q_jn_l ho3
  show GW g Z A post rc rs (q_lv u f' h1' h2') _ _ [.int z]
  refine g_istore ok (dk m_Law_law_12 1 rfl) (pc' := 533) rfl (Nat.le_of_ble_eq_true rfl) rfl ?_
  refine g_aload_n ok (dk m_Law_law_12 2 rfl) (pc' := 534) rfl (i := 2) rfl rfl ?_
  refine g_callV ok (dk m_Law_law_12 3 rfl) (pc' := 537) rfl c_Law_47 ((hTh _ _ _ _ hJ').right hdj2) ho4 rfl rfl (by simp [Value.category]) (by omega) rfl (rc' := rc) (rs' := rs) (by omega) (by omega) (fun rv h' hcc => ?_) (fun j h' hcc => by obtain ⟨_, ⟨e, -⟩, -⟩ := hcc; cases e)
  obtain ⟨h2x, ⟨e, e2⟩, rfl, -⟩ := hcc
  cases e
  have e3 := e2.symm
  subst e3
  show GW g Z A post rc rs (q_lv u f' h1' _) _ _ [.int t']
  refine g_iload ok (dk m_Law_law_12 4 rfl) (pc' := 539) rfl rfl ?_
  refine g_icmp_eq ok (dk m_Law_law_12 5 rfl) (tgt := 544) (by decide) (pc' := 542) rfl (fun _ => ?_) (fun c => absurd ht c)
  refine g_iload ok (dk m_Law_law_12 8 rfl) (pc' := 546) rfl rfl ?_
  refine g_if_ne ok (dk m_Law_law_12 9 rfl) (tgt := 561) (by decide) (pc' := 549) rfl (fun _ => ?_) (fun c => ?_)
  · refine g_goto ok (dk m_Law_law_12 19 rfl) (pc' := 850) (by decide) ?_
    exact kk _ _ _ _ _ _ hJ' (q_djl_1 hdj2) hu1' hu2''
  have hz : f' 0 = z.toInt64 := by
    rcases hkv with ⟨y, e3, e4, e5⟩ | ⟨e3, e4⟩ | ⟨e3, e4⟩
    · rcases hrel with ⟨e1, e2⟩ | ⟨e1, e2⟩ | ⟨e1, e2⟩
      · rw [e3] at e1
        cases e1
        exact e5
      · rw [e3] at e1
        cases e1
      · rw [e3] at e1
        cases e1
    · rw [e4] at c
      exact absurd c (by decide)
    · rw [e4] at c
      exact absurd c (by decide)
  have hou : q_lv u f' h1' h2' u = some (.inr (3, 1, .inr (.inl f'))) := q_jn_l (by rw [q_jn_r hu1']; exact q_o_s u f')
  refine g_aload_n ok (dk m_Law_law_12 10 rfl) (pc' := 550) rfl (i := 3) rfl rfl ?_
  refine g_iconst ok (dk m_Law_law_12 11 rfl) (pc' := 551) rfl (v := nI 0) (by decide) ?_
  refine g_lald ok (dk m_Law_law_12 12 rfl) (pc' := 552) rfl hou (j := 0) (by decide) (by decide) ?_
  refine g_iload ok (dk m_Law_law_12 13 rfl) (pc' := 554) rfl rfl ?_
  refine g_i2l ok (dk m_Law_law_12 14 rfl) (pc' := 555) rfl rfl ?_
  refine g_lcmp ok (dk m_Law_law_12 15 rfl) (pc' := 556) rfl (v := 0) (by rw [hz]; simp) ?_
  refine g_if_eq ok (dk m_Law_law_12 16 rfl) (tgt := 561) (by decide) (pc' := 559) rfl (fun _ => ?_) (fun c => absurd rfl c)
  refine g_goto ok (dk m_Law_law_12 19 rfl) (pc' := 850) (by decide) ?_
  exact kk _ _ _ _ _ _ hJ' (q_djl_1 hdj2) hu1' hu2''
theorem lw_c7 (E : lw_E J g Z A r o b L xs) (hi : i + 3 < L) (hS : q_SR J g r o .int y_RG_member b_RG_member 4 y_Mo_member b_Mo_member 3 [.int (xs (i + 1)), .int (xs (i + 2))]) (hJ : J n t h1 h2) (hn : n < 512) (hdj : q_dj h1 h2) (hu1 : h1 u = none) (hu2 : h2 u = none) (kk : ∀ l5 l6 t' h1' h2' f', J (n + 1) t' h1' h2' → q_dj h1' h2' → h1' u = none → h2' u = none → GW g Z A post rc rs (q_lv u f' h1' h2') 850 [some (.ref b), some (.ref r), some (.ref o), some (.ref u), some (.int (nI i)), l5, l6] []) (l5 l6 : Option Value) : GW g Z A post (rc + 14) (rs + 250) (q_lv u f h1 h2) 564 [some (.ref b), some (.ref r), some (.ref o), some (.ref u), some (.int (nI i)), l5, l6] [] := by
  obtain ⟨ok, hX, hbl, hbA, hL, hTh, hRr, hRo⟩ := E
  obtain ⟨fs, hr⟩ := hRr _ _ _ _ hJ
  obtain ⟨fs2, ho⟩ := hRo _ _ _ _ hJ
  have hr2 : q_lv u f h1 h2 r = some (.inl (0, fs)) := q_jn_l (q_jn_l hr)
  obtain ⟨PO, hM, hM2⟩ := hS _ _ _ _ hJ hn
  refine g_aload_n ok (dk m_Law_law_12 20 rfl) (pc' := 565) rfl (i := 1) rfl rfl ?_
  refine lw_arg (i := i) (k := 1) ok hX hbl hbA hL (by omega) rfl rfl (dk m_Law_law_12 21 rfl) (p1 := 566) rfl (dk m_Law_law_12 22 rfl) (p2 := 568) rfl (dk m_Law_law_12 23 rfl) (by decide) (p3 := 569) rfl (dk m_Law_law_13 0 rfl) (p4 := 570) rfl (dk m_Law_law_13 1 rfl) (p5 := 571) rfl  ?_
  refine lw_arg (i := i) (k := 2) ok hX hbl hbA hL (by omega) rfl rfl (dk m_Law_law_13 2 rfl) (p1 := 572) rfl (dk m_Law_law_13 3 rfl) (p2 := 574) rfl (dk m_Law_law_13 4 rfl) (by decide) (p3 := 575) rfl (dk m_Law_law_13 5 rfl) (p4 := 576) rfl (dk m_Law_law_13 6 rfl) (p5 := 577) rfl  ?_
  refine g_less (rc' := rc) (rs' := rs) (by omega) (by omega) ?_
  refine g_callV ok (dk m_Law_law_13 7 rfl) (pc' := 580) rfl c_Law_71 (hM.left2 hdj hu1 hu2) hr2 rfl rfl (by simp [Value.category]) (by omega) rfl (rc' := rc) (rs' := rs) (by omega) (by omega) (fun rv h' hcc => ?_) (fun j h' hcc => by obtain ⟨_, e, -⟩ := hcc; obtain ⟨z, e, -⟩ := hM2 _ _ e; cases e)
  obtain ⟨h1', hP1, rfl, hdj', hu1'⟩ := hcc
  obtain ⟨z, e, hM3⟩ := hM2 _ _ hP1
  cases e
  have hdj3 := q_djl (u := u) (f := f) hdj' hu2
  have ho2 : q_lv u f h1' h2 o = some (.inl (11, fs2)) := by
    show q_jn (q_jn h1' (q_o u f)) h2 o = _
    rw [q_jn_comm hdj3]
    exact q_jn_l ho
  show GW g Z A post rc rs (q_lv u f h1' h2) _ _ [.int z]
  refine g_aload_n ok (dk m_Law_law_13 8 rfl) (pc' := 581) rfl (i := 2) rfl rfl ?_
  refine lw_arg (i := i) (k := 1) ok hX hbl hbA hL (by omega) rfl rfl (dk m_Law_law_13 9 rfl) (p1 := 582) rfl (dk m_Law_law_13 10 rfl) (p2 := 584) rfl (dk m_Law_law_13 11 rfl) (by decide) (p3 := 585) rfl (dk m_Law_law_13 12 rfl) (p4 := 586) rfl (dk m_Law_law_13 13 rfl) (p5 := 587) rfl  ?_
  refine lw_arg (i := i) (k := 2) ok hX hbl hbA hL (by omega) rfl rfl (dk m_Law_law_13 14 rfl) (p1 := 588) rfl (dk m_Law_law_13 15 rfl) (p2 := 590) rfl (dk m_Law_law_13 16 rfl) (by decide) (p3 := 591) rfl (dk m_Law_law_13 17 rfl) (p4 := 592) rfl (dk m_Law_law_13 18 rfl) (p5 := 593) rfl  ?_
  refine g_callV ok (dk m_Law_law_13 19 rfl) (pc' := 596) rfl c_Law_74 (hM3.right hdj3) ho2 rfl rfl (by simp [Value.category]) (by omega) rfl (rc' := rc) (rs' := rs) (by omega) (by omega) (fun rv h' hcc => ?_) (fun j h' hcc => by obtain ⟨_, ⟨e, -⟩, -⟩ := hcc; cases e)
  obtain ⟨h2', ⟨e, t', hJ'⟩, rfl, hdj2⟩ := hcc
  cases e
  show GW g Z A post rc rs (q_lv u f h1' h2') _ _ [.int z, .int z]
  refine g_icmp_eq ok (dk m_Law_law_13 20 rfl) (tgt := 850) (by decide) (pc' := 599) rfl (fun _ => ?_) (fun c => absurd rfl c)
  exact kk _ _ _ _ _ _ hJ' (q_djl_1 hdj2) hu1' (q_djl_2 hdj2 hu1')
theorem lw_c8 (E : lw_E J g Z A r o b L xs) (hi : i + 3 < L) (hS : q_SR J g r o .boolean y_RG_holds b_RG_holds 4 y_Mo_holds b_Mo_holds 4 [.int (xs (i + 1)), .int (xs (i + 2))]) (hJ : J n t h1 h2) (hn : n < 512) (hdj : q_dj h1 h2) (hu1 : h1 u = none) (hu2 : h2 u = none) (kk : ∀ l5 l6 t' h1' h2' f', J (n + 1) t' h1' h2' → q_dj h1' h2' → h1' u = none → h2' u = none → GW g Z A post rc rs (q_lv u f' h1' h2') 850 [some (.ref b), some (.ref r), some (.ref o), some (.ref u), some (.int (nI i)), l5, l6] []) (l5 l6 : Option Value) : GW g Z A post (rc + 14) (rs + 250) (q_lv u f h1 h2) 601 [some (.ref b), some (.ref r), some (.ref o), some (.ref u), some (.int (nI i)), l5, l6] [] := by
  obtain ⟨ok, hX, hbl, hbA, hL, hTh, hRr, hRo⟩ := E
  obtain ⟨fs, hr⟩ := hRr _ _ _ _ hJ
  obtain ⟨fs2, ho⟩ := hRo _ _ _ _ hJ
  have hr2 : q_lv u f h1 h2 r = some (.inl (0, fs)) := q_jn_l (q_jn_l hr)
  obtain ⟨PO, hM, hM2⟩ := hS _ _ _ _ hJ hn
  refine g_aload_n ok (dk m_Law_law_13 23 rfl) (pc' := 602) rfl (i := 1) rfl rfl ?_
  refine lw_arg (i := i) (k := 1) ok hX hbl hbA hL (by omega) rfl rfl (dk m_Law_law_14 0 rfl) (p1 := 603) rfl (dk m_Law_law_14 1 rfl) (p2 := 605) rfl (dk m_Law_law_14 2 rfl) (by decide) (p3 := 606) rfl (dk m_Law_law_14 3 rfl) (p4 := 607) rfl (dk m_Law_law_14 4 rfl) (p5 := 608) rfl  ?_
  refine lw_arg (i := i) (k := 2) ok hX hbl hbA hL (by omega) rfl rfl (dk m_Law_law_14 5 rfl) (p1 := 609) rfl (dk m_Law_law_14 6 rfl) (p2 := 611) rfl (dk m_Law_law_14 7 rfl) (by decide) (p3 := 612) rfl (dk m_Law_law_14 8 rfl) (p4 := 613) rfl (dk m_Law_law_14 9 rfl) (p5 := 614) rfl  ?_
  refine g_less (rc' := rc) (rs' := rs) (by omega) (by omega) ?_
  refine g_callV ok (dk m_Law_law_14 10 rfl) (pc' := 617) rfl c_Law_75 (hM.left2 hdj hu1 hu2) hr2 rfl rfl (by simp [Value.category]) (by omega) rfl (rc' := rc) (rs' := rs) (by omega) (by omega) (fun rv h' hcc => ?_) (fun j h' hcc => by obtain ⟨_, e, -⟩ := hcc; obtain ⟨z, e, -⟩ := hM2 _ _ e; cases e)
  obtain ⟨h1', hP1, rfl, hdj', hu1'⟩ := hcc
  obtain ⟨z, e, hM3⟩ := hM2 _ _ hP1
  cases e
  have hdj3 := q_djl (u := u) (f := f) hdj' hu2
  have ho2 : q_lv u f h1' h2 o = some (.inl (11, fs2)) := by
    show q_jn (q_jn h1' (q_o u f)) h2 o = _
    rw [q_jn_comm hdj3]
    exact q_jn_l ho
  show GW g Z A post rc rs (q_lv u f h1' h2) _ _ [.int z]
  refine g_aload_n ok (dk m_Law_law_14 11 rfl) (pc' := 618) rfl (i := 2) rfl rfl ?_
  refine lw_arg (i := i) (k := 1) ok hX hbl hbA hL (by omega) rfl rfl (dk m_Law_law_14 12 rfl) (p1 := 619) rfl (dk m_Law_law_14 13 rfl) (p2 := 621) rfl (dk m_Law_law_14 14 rfl) (by decide) (p3 := 622) rfl (dk m_Law_law_14 15 rfl) (p4 := 623) rfl (dk m_Law_law_14 16 rfl) (p5 := 624) rfl  ?_
  refine lw_arg (i := i) (k := 2) ok hX hbl hbA hL (by omega) rfl rfl (dk m_Law_law_14 17 rfl) (p1 := 625) rfl (dk m_Law_law_14 18 rfl) (p2 := 627) rfl (dk m_Law_law_14 19 rfl) (by decide) (p3 := 628) rfl (dk m_Law_law_14 20 rfl) (p4 := 629) rfl (dk m_Law_law_14 21 rfl) (p5 := 630) rfl  ?_
  refine g_callV ok (dk m_Law_law_14 22 rfl) (pc' := 633) rfl c_Law_79 (hM3.right hdj3) ho2 rfl rfl (by simp [Value.category]) (by omega) rfl (rc' := rc) (rs' := rs) (by omega) (by omega) (fun rv h' hcc => ?_) (fun j h' hcc => by obtain ⟨_, ⟨e, -⟩, -⟩ := hcc; cases e)
  obtain ⟨h2', ⟨e, t', hJ'⟩, rfl, hdj2⟩ := hcc
  cases e
  show GW g Z A post rc rs (q_lv u f h1' h2') _ _ [.int z, .int z]
  refine g_icmp_eq ok (dk m_Law_law_14 23 rfl) (tgt := 850) (by decide) (pc' := 636) rfl (fun _ => ?_) (fun c => absurd rfl c)
  exact kk _ _ _ _ _ _ hJ' (q_djl_1 hdj2) hu1' (q_djl_2 hdj2 hu1')
theorem lw_c9 (E : lw_E J g Z A r o b L xs) (hi : i + 3 < L) (hS : q_SR J g r o .boolean y_RG_has b_RG_has 2 y_Mo_has b_Mo_has 2 [.int (xs (i + 1))]) (hJ : J n t h1 h2) (hn : n < 512) (hdj : q_dj h1 h2) (hu1 : h1 u = none) (hu2 : h2 u = none) (kk : ∀ l5 l6 t' h1' h2' f', J (n + 1) t' h1' h2' → q_dj h1' h2' → h1' u = none → h2' u = none → GW g Z A post rc rs (q_lv u f' h1' h2') 850 [some (.ref b), some (.ref r), some (.ref o), some (.ref u), some (.int (nI i)), l5, l6] []) (l5 l6 : Option Value) : GW g Z A post (rc + 14) (rs + 250) (q_lv u f h1 h2) 638 [some (.ref b), some (.ref r), some (.ref o), some (.ref u), some (.int (nI i)), l5, l6] [] := by
  obtain ⟨ok, hX, hbl, hbA, hL, hTh, hRr, hRo⟩ := E
  obtain ⟨fs, hr⟩ := hRr _ _ _ _ hJ
  obtain ⟨fs2, ho⟩ := hRo _ _ _ _ hJ
  have hr2 : q_lv u f h1 h2 r = some (.inl (0, fs)) := q_jn_l (q_jn_l hr)
  obtain ⟨PO, hM, hM2⟩ := hS _ _ _ _ hJ hn
  refine g_aload_n ok (dk m_Law_law_15 2 rfl) (pc' := 639) rfl (i := 1) rfl rfl ?_
  refine lw_arg (i := i) (k := 1) ok hX hbl hbA hL (by omega) rfl rfl (dk m_Law_law_15 3 rfl) (p1 := 640) rfl (dk m_Law_law_15 4 rfl) (p2 := 642) rfl (dk m_Law_law_15 5 rfl) (by decide) (p3 := 643) rfl (dk m_Law_law_15 6 rfl) (p4 := 644) rfl (dk m_Law_law_15 7 rfl) (p5 := 645) rfl  ?_
  refine g_less (rc' := rc) (rs' := rs) (by omega) (by omega) ?_
  refine g_callV ok (dk m_Law_law_15 8 rfl) (pc' := 648) rfl c_Law_80 (hM.left2 hdj hu1 hu2) hr2 rfl rfl (by simp [Value.category]) (by omega) rfl (rc' := rc) (rs' := rs) (by omega) (by omega) (fun rv h' hcc => ?_) (fun j h' hcc => by obtain ⟨_, e, -⟩ := hcc; obtain ⟨z, e, -⟩ := hM2 _ _ e; cases e)
  obtain ⟨h1', hP1, rfl, hdj', hu1'⟩ := hcc
  obtain ⟨z, e, hM3⟩ := hM2 _ _ hP1
  cases e
  have hdj3 := q_djl (u := u) (f := f) hdj' hu2
  have ho2 : q_lv u f h1' h2 o = some (.inl (11, fs2)) := by
    show q_jn (q_jn h1' (q_o u f)) h2 o = _
    rw [q_jn_comm hdj3]
    exact q_jn_l ho
  show GW g Z A post rc rs (q_lv u f h1' h2) _ _ [.int z]
  refine g_aload_n ok (dk m_Law_law_15 9 rfl) (pc' := 649) rfl (i := 2) rfl rfl ?_
  refine lw_arg (i := i) (k := 1) ok hX hbl hbA hL (by omega) rfl rfl (dk m_Law_law_15 10 rfl) (p1 := 650) rfl (dk m_Law_law_15 11 rfl) (p2 := 652) rfl (dk m_Law_law_15 12 rfl) (by decide) (p3 := 653) rfl (dk m_Law_law_15 13 rfl) (p4 := 654) rfl (dk m_Law_law_15 14 rfl) (p5 := 655) rfl  ?_
  refine g_callV ok (dk m_Law_law_15 15 rfl) (pc' := 658) rfl c_Law_84 (hM3.right hdj3) ho2 rfl rfl (by simp [Value.category]) (by omega) rfl (rc' := rc) (rs' := rs) (by omega) (by omega) (fun rv h' hcc => ?_) (fun j h' hcc => by obtain ⟨_, ⟨e, -⟩, -⟩ := hcc; cases e)
  obtain ⟨h2', ⟨e, t', hJ'⟩, rfl, hdj2⟩ := hcc
  cases e
  show GW g Z A post rc rs (q_lv u f h1' h2') _ _ [.int z, .int z]
  refine g_icmp_eq ok (dk m_Law_law_15 16 rfl) (tgt := 850) (by decide) (pc' := 661) rfl (fun _ => ?_) (fun c => absurd rfl c)
  exact kk _ _ _ _ _ _ hJ' (q_djl_1 hdj2) hu1' (q_djl_2 hdj2 hu1')
theorem lw_c10 (E : lw_E J g Z A r o b L xs) (hi : i + 3 < L) (hS : q_SR J g r o .int y_RG_node b_RG_node 5 y_Mo_node b_Mo_node 5 [.int (xs (i + 1)), .int (xs (i + 2)), .int (xs (i + 3))]) (hJ : J n t h1 h2) (hn : n < 512) (hdj : q_dj h1 h2) (hu1 : h1 u = none) (hu2 : h2 u = none) (kk : ∀ l5 l6 t' h1' h2' f', J (n + 1) t' h1' h2' → q_dj h1' h2' → h1' u = none → h2' u = none → GW g Z A post rc rs (q_lv u f' h1' h2') 850 [some (.ref b), some (.ref r), some (.ref o), some (.ref u), some (.int (nI i)), l5, l6] []) (l5 l6 : Option Value) : GW g Z A post (rc + 14) (rs + 250) (q_lv u f h1 h2) 663 [some (.ref b), some (.ref r), some (.ref o), some (.ref u), some (.int (nI i)), l5, l6] [] := by
  obtain ⟨ok, hX, hbl, hbA, hL, hTh, hRr, hRo⟩ := E
  obtain ⟨fs, hr⟩ := hRr _ _ _ _ hJ
  obtain ⟨fs2, ho⟩ := hRo _ _ _ _ hJ
  have hr2 : q_lv u f h1 h2 r = some (.inl (0, fs)) := q_jn_l (q_jn_l hr)
  obtain ⟨PO, hM, hM2⟩ := hS _ _ _ _ hJ hn
  refine g_aload_n ok (dk m_Law_law_15 19 rfl) (pc' := 664) rfl (i := 1) rfl rfl ?_
  refine lw_arg (i := i) (k := 1) ok hX hbl hbA hL (by omega) rfl rfl (dk m_Law_law_15 20 rfl) (p1 := 665) rfl (dk m_Law_law_15 21 rfl) (p2 := 667) rfl (dk m_Law_law_15 22 rfl) (by decide) (p3 := 668) rfl (dk m_Law_law_15 23 rfl) (p4 := 669) rfl (dk m_Law_law_16 0 rfl) (p5 := 670) rfl  ?_
  refine lw_arg (i := i) (k := 2) ok hX hbl hbA hL (by omega) rfl rfl (dk m_Law_law_16 1 rfl) (p1 := 671) rfl (dk m_Law_law_16 2 rfl) (p2 := 673) rfl (dk m_Law_law_16 3 rfl) (by decide) (p3 := 674) rfl (dk m_Law_law_16 4 rfl) (p4 := 675) rfl (dk m_Law_law_16 5 rfl) (p5 := 676) rfl  ?_
  refine lw_arg (i := i) (k := 3) ok hX hbl hbA hL (by omega) rfl rfl (dk m_Law_law_16 6 rfl) (p1 := 677) rfl (dk m_Law_law_16 7 rfl) (p2 := 679) rfl (dk m_Law_law_16 8 rfl) (by decide) (p3 := 680) rfl (dk m_Law_law_16 9 rfl) (p4 := 681) rfl (dk m_Law_law_16 10 rfl) (p5 := 682) rfl  ?_
  refine g_less (rc' := rc) (rs' := rs) (by omega) (by omega) ?_
  refine g_callV ok (dk m_Law_law_16 11 rfl) (pc' := 685) rfl c_Law_85 (hM.left2 hdj hu1 hu2) hr2 rfl rfl (by simp [Value.category]) (by omega) rfl (rc' := rc) (rs' := rs) (by omega) (by omega) (fun rv h' hcc => ?_) (fun j h' hcc => by obtain ⟨_, e, -⟩ := hcc; obtain ⟨z, e, -⟩ := hM2 _ _ e; cases e)
  obtain ⟨h1', hP1, rfl, hdj', hu1'⟩ := hcc
  obtain ⟨z, e, hM3⟩ := hM2 _ _ hP1
  cases e
  have hdj3 := q_djl (u := u) (f := f) hdj' hu2
  have ho2 : q_lv u f h1' h2 o = some (.inl (11, fs2)) := by
    show q_jn (q_jn h1' (q_o u f)) h2 o = _
    rw [q_jn_comm hdj3]
    exact q_jn_l ho
  show GW g Z A post rc rs (q_lv u f h1' h2) _ _ [.int z]
  refine g_aload_n ok (dk m_Law_law_16 12 rfl) (pc' := 686) rfl (i := 2) rfl rfl ?_
  refine lw_arg (i := i) (k := 1) ok hX hbl hbA hL (by omega) rfl rfl (dk m_Law_law_16 13 rfl) (p1 := 687) rfl (dk m_Law_law_16 14 rfl) (p2 := 689) rfl (dk m_Law_law_16 15 rfl) (by decide) (p3 := 690) rfl (dk m_Law_law_16 16 rfl) (p4 := 691) rfl (dk m_Law_law_16 17 rfl) (p5 := 692) rfl  ?_
  refine lw_arg (i := i) (k := 2) ok hX hbl hbA hL (by omega) rfl rfl (dk m_Law_law_16 18 rfl) (p1 := 693) rfl (dk m_Law_law_16 19 rfl) (p2 := 695) rfl (dk m_Law_law_16 20 rfl) (by decide) (p3 := 696) rfl (dk m_Law_law_16 21 rfl) (p4 := 697) rfl (dk m_Law_law_16 22 rfl) (p5 := 698) rfl  ?_
  refine lw_arg (i := i) (k := 3) ok hX hbl hbA hL (by omega) rfl rfl (dk m_Law_law_16 23 rfl) (p1 := 699) rfl (dk m_Law_law_17 0 rfl) (p2 := 701) rfl (dk m_Law_law_17 1 rfl) (by decide) (p3 := 702) rfl (dk m_Law_law_17 2 rfl) (p4 := 703) rfl (dk m_Law_law_17 3 rfl) (p5 := 704) rfl  ?_
  refine g_callV ok (dk m_Law_law_17 4 rfl) (pc' := 707) rfl c_Law_89 (hM3.right hdj3) ho2 rfl rfl (by simp [Value.category]) (by omega) rfl (rc' := rc) (rs' := rs) (by omega) (by omega) (fun rv h' hcc => ?_) (fun j h' hcc => by obtain ⟨_, ⟨e, -⟩, -⟩ := hcc; cases e)
  obtain ⟨h2', ⟨e, t', hJ'⟩, rfl, hdj2⟩ := hcc
  cases e
  show GW g Z A post rc rs (q_lv u f h1' h2') _ _ [.int z, .int z]
  refine g_icmp_eq ok (dk m_Law_law_17 5 rfl) (tgt := 850) (by decide) (pc' := 710) rfl (fun _ => ?_) (fun c => absurd rfl c)
  exact kk _ _ _ _ _ _ hJ' (q_djl_1 hdj2) hu1' (q_djl_2 hdj2 hu1')
theorem lw_c11 (E : lw_E J g Z A r o b L xs) (hi : i + 3 < L) (hS : q_SR J g r o .int y_RG_epoch b_RG_epoch 4 y_Mo_epoch b_Mo_epoch 3 [.int (xs (i + 1)), .int (xs (i + 2))]) (hJ : J n t h1 h2) (hn : n < 512) (hdj : q_dj h1 h2) (hu1 : h1 u = none) (hu2 : h2 u = none) (kk : ∀ l5 l6 t' h1' h2' f', J (n + 1) t' h1' h2' → q_dj h1' h2' → h1' u = none → h2' u = none → GW g Z A post rc rs (q_lv u f' h1' h2') 850 [some (.ref b), some (.ref r), some (.ref o), some (.ref u), some (.int (nI i)), l5, l6] []) (l5 l6 : Option Value) : GW g Z A post (rc + 14) (rs + 250) (q_lv u f h1 h2) 712 [some (.ref b), some (.ref r), some (.ref o), some (.ref u), some (.int (nI i)), l5, l6] [] := by
  obtain ⟨ok, hX, hbl, hbA, hL, hTh, hRr, hRo⟩ := E
  obtain ⟨fs, hr⟩ := hRr _ _ _ _ hJ
  obtain ⟨fs2, ho⟩ := hRo _ _ _ _ hJ
  have hr2 : q_lv u f h1 h2 r = some (.inl (0, fs)) := q_jn_l (q_jn_l hr)
  obtain ⟨PO, hM, hM2⟩ := hS _ _ _ _ hJ hn
  refine g_aload_n ok (dk m_Law_law_17 8 rfl) (pc' := 713) rfl (i := 1) rfl rfl ?_
  refine lw_arg (i := i) (k := 1) ok hX hbl hbA hL (by omega) rfl rfl (dk m_Law_law_17 9 rfl) (p1 := 714) rfl (dk m_Law_law_17 10 rfl) (p2 := 716) rfl (dk m_Law_law_17 11 rfl) (by decide) (p3 := 717) rfl (dk m_Law_law_17 12 rfl) (p4 := 718) rfl (dk m_Law_law_17 13 rfl) (p5 := 719) rfl  ?_
  refine lw_arg (i := i) (k := 2) ok hX hbl hbA hL (by omega) rfl rfl (dk m_Law_law_17 14 rfl) (p1 := 720) rfl (dk m_Law_law_17 15 rfl) (p2 := 722) rfl (dk m_Law_law_17 16 rfl) (by decide) (p3 := 723) rfl (dk m_Law_law_17 17 rfl) (p4 := 724) rfl (dk m_Law_law_17 18 rfl) (p5 := 725) rfl  ?_
  refine g_less (rc' := rc) (rs' := rs) (by omega) (by omega) ?_
  refine g_callV ok (dk m_Law_law_17 19 rfl) (pc' := 728) rfl c_Law_90 (hM.left2 hdj hu1 hu2) hr2 rfl rfl (by simp [Value.category]) (by omega) rfl (rc' := rc) (rs' := rs) (by omega) (by omega) (fun rv h' hcc => ?_) (fun j h' hcc => by obtain ⟨_, e, -⟩ := hcc; obtain ⟨z, e, -⟩ := hM2 _ _ e; cases e)
  obtain ⟨h1', hP1, rfl, hdj', hu1'⟩ := hcc
  obtain ⟨z, e, hM3⟩ := hM2 _ _ hP1
  cases e
  have hdj3 := q_djl (u := u) (f := f) hdj' hu2
  have ho2 : q_lv u f h1' h2 o = some (.inl (11, fs2)) := by
    show q_jn (q_jn h1' (q_o u f)) h2 o = _
    rw [q_jn_comm hdj3]
    exact q_jn_l ho
  show GW g Z A post rc rs (q_lv u f h1' h2) _ _ [.int z]
  refine g_aload_n ok (dk m_Law_law_17 20 rfl) (pc' := 729) rfl (i := 2) rfl rfl ?_
  refine lw_arg (i := i) (k := 1) ok hX hbl hbA hL (by omega) rfl rfl (dk m_Law_law_17 21 rfl) (p1 := 730) rfl (dk m_Law_law_17 22 rfl) (p2 := 732) rfl (dk m_Law_law_17 23 rfl) (by decide) (p3 := 733) rfl (dk m_Law_law_18 0 rfl) (p4 := 734) rfl (dk m_Law_law_18 1 rfl) (p5 := 735) rfl  ?_
  refine lw_arg (i := i) (k := 2) ok hX hbl hbA hL (by omega) rfl rfl (dk m_Law_law_18 2 rfl) (p1 := 736) rfl (dk m_Law_law_18 3 rfl) (p2 := 738) rfl (dk m_Law_law_18 4 rfl) (by decide) (p3 := 739) rfl (dk m_Law_law_18 5 rfl) (p4 := 740) rfl (dk m_Law_law_18 6 rfl) (p5 := 741) rfl  ?_
  refine g_callV ok (dk m_Law_law_18 7 rfl) (pc' := 744) rfl c_Law_93 (hM3.right hdj3) ho2 rfl rfl (by simp [Value.category]) (by omega) rfl (rc' := rc) (rs' := rs) (by omega) (by omega) (fun rv h' hcc => ?_) (fun j h' hcc => by obtain ⟨_, ⟨e, -⟩, -⟩ := hcc; cases e)
  obtain ⟨h2', ⟨e, t', hJ'⟩, rfl, hdj2⟩ := hcc
  cases e
  show GW g Z A post rc rs (q_lv u f h1' h2') _ _ [.int z, .int z]
  refine g_icmp_eq ok (dk m_Law_law_18 8 rfl) (tgt := 850) (by decide) (pc' := 747) rfl (fun _ => ?_) (fun c => absurd rfl c)
  exact kk _ _ _ _ _ _ hJ' (q_djl_1 hdj2) hu1' (q_djl_2 hdj2 hu1')
theorem lw_c12 (E : lw_E J g Z A r o b L xs) (hi : i + 3 < L) (hS : q_SR J g r o .int y_RG_epochs b_RG_epochs 1 y_Mo_epochs b_Mo_epochs 1 []) (hJ : J n t h1 h2) (hn : n < 512) (hdj : q_dj h1 h2) (hu1 : h1 u = none) (hu2 : h2 u = none) (kk : ∀ l5 l6 t' h1' h2' f', J (n + 1) t' h1' h2' → q_dj h1' h2' → h1' u = none → h2' u = none → GW g Z A post rc rs (q_lv u f' h1' h2') 850 [some (.ref b), some (.ref r), some (.ref o), some (.ref u), some (.int (nI i)), l5, l6] []) (l5 l6 : Option Value) : GW g Z A post (rc + 14) (rs + 250) (q_lv u f h1 h2) 749 [some (.ref b), some (.ref r), some (.ref o), some (.ref u), some (.int (nI i)), l5, l6] [] := by
  obtain ⟨ok, hX, hbl, hbA, hL, hTh, hRr, hRo⟩ := E
  obtain ⟨fs, hr⟩ := hRr _ _ _ _ hJ
  obtain ⟨fs2, ho⟩ := hRo _ _ _ _ hJ
  have hr2 : q_lv u f h1 h2 r = some (.inl (0, fs)) := q_jn_l (q_jn_l hr)
  obtain ⟨PO, hM, hM2⟩ := hS _ _ _ _ hJ hn
  refine g_aload_n ok (dk m_Law_law_18 11 rfl) (pc' := 750) rfl (i := 1) rfl rfl ?_
  refine g_less (rc' := rc) (rs' := rs) (by omega) (by omega) ?_
  refine g_callV ok (dk m_Law_law_18 12 rfl) (pc' := 753) rfl c_Law_94 (hM.left2 hdj hu1 hu2) hr2 rfl rfl (by simp [Value.category]) (by omega) rfl (rc' := rc) (rs' := rs) (by omega) (by omega) (fun rv h' hcc => ?_) (fun j h' hcc => by obtain ⟨_, e, -⟩ := hcc; obtain ⟨z, e, -⟩ := hM2 _ _ e; cases e)
  obtain ⟨h1', hP1, rfl, hdj', hu1'⟩ := hcc
  obtain ⟨z, e, hM3⟩ := hM2 _ _ hP1
  cases e
  have hdj3 := q_djl (u := u) (f := f) hdj' hu2
  have ho2 : q_lv u f h1' h2 o = some (.inl (11, fs2)) := by
    show q_jn (q_jn h1' (q_o u f)) h2 o = _
    rw [q_jn_comm hdj3]
    exact q_jn_l ho
  show GW g Z A post rc rs (q_lv u f h1' h2) _ _ [.int z]
  refine g_aload_n ok (dk m_Law_law_18 13 rfl) (pc' := 754) rfl (i := 2) rfl rfl ?_
  refine g_callV ok (dk m_Law_law_18 14 rfl) (pc' := 757) rfl c_Law_97 (hM3.right hdj3) ho2 rfl rfl (by simp [Value.category]) (by omega) rfl (rc' := rc) (rs' := rs) (by omega) (by omega) (fun rv h' hcc => ?_) (fun j h' hcc => by obtain ⟨_, ⟨e, -⟩, -⟩ := hcc; cases e)
  obtain ⟨h2', ⟨e, t', hJ'⟩, rfl, hdj2⟩ := hcc
  cases e
  show GW g Z A post rc rs (q_lv u f h1' h2') _ _ [.int z, .int z]
  refine g_icmp_eq ok (dk m_Law_law_18 15 rfl) (tgt := 850) (by decide) (pc' := 760) rfl (fun _ => ?_) (fun c => absurd rfl c)
  exact kk _ _ _ _ _ _ hJ' (q_djl_1 hdj2) hu1' (q_djl_2 hdj2 hu1')
theorem lw_c13 (E : lw_E J g Z A r o b L xs) (hi : i + 3 < L) (hS : q_SR J g r o .int y_RG_waiting b_RG_waiting 1 y_Mo_waiting b_Mo_waiting 1 []) (hJ : J n t h1 h2) (hn : n < 512) (hdj : q_dj h1 h2) (hu1 : h1 u = none) (hu2 : h2 u = none) (kk : ∀ l5 l6 t' h1' h2' f', J (n + 1) t' h1' h2' → q_dj h1' h2' → h1' u = none → h2' u = none → GW g Z A post rc rs (q_lv u f' h1' h2') 850 [some (.ref b), some (.ref r), some (.ref o), some (.ref u), some (.int (nI i)), l5, l6] []) (l5 l6 : Option Value) : GW g Z A post (rc + 14) (rs + 250) (q_lv u f h1 h2) 762 [some (.ref b), some (.ref r), some (.ref o), some (.ref u), some (.int (nI i)), l5, l6] [] := by
  obtain ⟨ok, hX, hbl, hbA, hL, hTh, hRr, hRo⟩ := E
  obtain ⟨fs, hr⟩ := hRr _ _ _ _ hJ
  obtain ⟨fs2, ho⟩ := hRo _ _ _ _ hJ
  have hr2 : q_lv u f h1 h2 r = some (.inl (0, fs)) := q_jn_l (q_jn_l hr)
  obtain ⟨PO, hM, hM2⟩ := hS _ _ _ _ hJ hn
  refine g_aload_n ok (dk m_Law_law_18 18 rfl) (pc' := 763) rfl (i := 1) rfl rfl ?_
  refine g_less (rc' := rc) (rs' := rs) (by omega) (by omega) ?_
  refine g_callV ok (dk m_Law_law_18 19 rfl) (pc' := 766) rfl c_Law_98 (hM.left2 hdj hu1 hu2) hr2 rfl rfl (by simp [Value.category]) (by omega) rfl (rc' := rc) (rs' := rs) (by omega) (by omega) (fun rv h' hcc => ?_) (fun j h' hcc => by obtain ⟨_, e, -⟩ := hcc; obtain ⟨z, e, -⟩ := hM2 _ _ e; cases e)
  obtain ⟨h1', hP1, rfl, hdj', hu1'⟩ := hcc
  obtain ⟨z, e, hM3⟩ := hM2 _ _ hP1
  cases e
  have hdj3 := q_djl (u := u) (f := f) hdj' hu2
  have ho2 : q_lv u f h1' h2 o = some (.inl (11, fs2)) := by
    show q_jn (q_jn h1' (q_o u f)) h2 o = _
    rw [q_jn_comm hdj3]
    exact q_jn_l ho
  show GW g Z A post rc rs (q_lv u f h1' h2) _ _ [.int z]
  refine g_aload_n ok (dk m_Law_law_18 20 rfl) (pc' := 767) rfl (i := 2) rfl rfl ?_
  refine g_callV ok (dk m_Law_law_18 21 rfl) (pc' := 770) rfl c_Law_101 (hM3.right hdj3) ho2 rfl rfl (by simp [Value.category]) (by omega) rfl (rc' := rc) (rs' := rs) (by omega) (by omega) (fun rv h' hcc => ?_) (fun j h' hcc => by obtain ⟨_, ⟨e, -⟩, -⟩ := hcc; cases e)
  obtain ⟨h2', ⟨e, t', hJ'⟩, rfl, hdj2⟩ := hcc
  cases e
  show GW g Z A post rc rs (q_lv u f h1' h2') _ _ [.int z, .int z]
  refine g_icmp_eq ok (dk m_Law_law_18 22 rfl) (tgt := 850) (by decide) (pc' := 773) rfl (fun _ => ?_) (fun c => absurd rfl c)
  exact kk _ _ _ _ _ _ hJ' (q_djl_1 hdj2) hu1' (q_djl_2 hdj2 hu1')
theorem lw_c14 (E : lw_E J g Z A r o b L xs) (hi : i + 3 < L) (hS : q_SR J g r o .boolean y_RG_isKnown b_RG_isKnown 2 y_Mo_isKnown b_Mo_isKnown 2 [.int (xs (i + 1))]) (hJ : J n t h1 h2) (hn : n < 512) (hdj : q_dj h1 h2) (hu1 : h1 u = none) (hu2 : h2 u = none) (kk : ∀ l5 l6 t' h1' h2' f', J (n + 1) t' h1' h2' → q_dj h1' h2' → h1' u = none → h2' u = none → GW g Z A post rc rs (q_lv u f' h1' h2') 850 [some (.ref b), some (.ref r), some (.ref o), some (.ref u), some (.int (nI i)), l5, l6] []) (l5 l6 : Option Value) : GW g Z A post (rc + 14) (rs + 250) (q_lv u f h1 h2) 775 [some (.ref b), some (.ref r), some (.ref o), some (.ref u), some (.int (nI i)), l5, l6] [] := by
  obtain ⟨ok, hX, hbl, hbA, hL, hTh, hRr, hRo⟩ := E
  obtain ⟨fs, hr⟩ := hRr _ _ _ _ hJ
  obtain ⟨fs2, ho⟩ := hRo _ _ _ _ hJ
  have hr2 : q_lv u f h1 h2 r = some (.inl (0, fs)) := q_jn_l (q_jn_l hr)
  obtain ⟨PO, hM, hM2⟩ := hS _ _ _ _ hJ hn
  refine g_aload_n ok (dk m_Law_law_19 1 rfl) (pc' := 776) rfl (i := 1) rfl rfl ?_
  refine lw_arg (i := i) (k := 1) ok hX hbl hbA hL (by omega) rfl rfl (dk m_Law_law_19 2 rfl) (p1 := 777) rfl (dk m_Law_law_19 3 rfl) (p2 := 779) rfl (dk m_Law_law_19 4 rfl) (by decide) (p3 := 780) rfl (dk m_Law_law_19 5 rfl) (p4 := 781) rfl (dk m_Law_law_19 6 rfl) (p5 := 782) rfl  ?_
  refine g_less (rc' := rc) (rs' := rs) (by omega) (by omega) ?_
  refine g_callV ok (dk m_Law_law_19 7 rfl) (pc' := 785) rfl c_Law_102 (hM.left2 hdj hu1 hu2) hr2 rfl rfl (by simp [Value.category]) (by omega) rfl (rc' := rc) (rs' := rs) (by omega) (by omega) (fun rv h' hcc => ?_) (fun j h' hcc => by obtain ⟨_, e, -⟩ := hcc; obtain ⟨z, e, -⟩ := hM2 _ _ e; cases e)
  obtain ⟨h1', hP1, rfl, hdj', hu1'⟩ := hcc
  obtain ⟨z, e, hM3⟩ := hM2 _ _ hP1
  cases e
  have hdj3 := q_djl (u := u) (f := f) hdj' hu2
  have ho2 : q_lv u f h1' h2 o = some (.inl (11, fs2)) := by
    show q_jn (q_jn h1' (q_o u f)) h2 o = _
    rw [q_jn_comm hdj3]
    exact q_jn_l ho
  show GW g Z A post rc rs (q_lv u f h1' h2) _ _ [.int z]
  refine g_aload_n ok (dk m_Law_law_19 8 rfl) (pc' := 786) rfl (i := 2) rfl rfl ?_
  refine lw_arg (i := i) (k := 1) ok hX hbl hbA hL (by omega) rfl rfl (dk m_Law_law_19 9 rfl) (p1 := 787) rfl (dk m_Law_law_19 10 rfl) (p2 := 789) rfl (dk m_Law_law_19 11 rfl) (by decide) (p3 := 790) rfl (dk m_Law_law_19 12 rfl) (p4 := 791) rfl (dk m_Law_law_19 13 rfl) (p5 := 792) rfl  ?_
  refine g_callV ok (dk m_Law_law_19 14 rfl) (pc' := 795) rfl c_Law_105 (hM3.right hdj3) ho2 rfl rfl (by simp [Value.category]) (by omega) rfl (rc' := rc) (rs' := rs) (by omega) (by omega) (fun rv h' hcc => ?_) (fun j h' hcc => by obtain ⟨_, ⟨e, -⟩, -⟩ := hcc; cases e)
  obtain ⟨h2', ⟨e, t', hJ'⟩, rfl, hdj2⟩ := hcc
  cases e
  show GW g Z A post rc rs (q_lv u f h1' h2') _ _ [.int z, .int z]
  refine g_icmp_eq ok (dk m_Law_law_19 15 rfl) (tgt := 850) (by decide) (pc' := 798) rfl (fun _ => ?_) (fun c => absurd rfl c)
  exact kk _ _ _ _ _ _ hJ' (q_djl_1 hdj2) hu1' (q_djl_2 hdj2 hu1')
theorem lw_c15 (E : lw_E J g Z A r o b L xs) (hi : i + 3 < L) (hS : q_SR J g r o .boolean y_RG_isOpen b_RG_isOpen 3 y_Mo_isOpen b_Mo_isOpen 3 [.int (xs (i + 1)), .int (xs (i + 2))]) (hJ : J n t h1 h2) (hn : n < 512) (hdj : q_dj h1 h2) (hu1 : h1 u = none) (hu2 : h2 u = none) (kk : ∀ l5 l6 t' h1' h2' f', J (n + 1) t' h1' h2' → q_dj h1' h2' → h1' u = none → h2' u = none → GW g Z A post rc rs (q_lv u f' h1' h2') 850 [some (.ref b), some (.ref r), some (.ref o), some (.ref u), some (.int (nI i)), l5, l6] []) (l5 l6 : Option Value) : GW g Z A post (rc + 14) (rs + 250) (q_lv u f h1 h2) 800 [some (.ref b), some (.ref r), some (.ref o), some (.ref u), some (.int (nI i)), l5, l6] [] := by
  obtain ⟨ok, hX, hbl, hbA, hL, hTh, hRr, hRo⟩ := E
  obtain ⟨fs, hr⟩ := hRr _ _ _ _ hJ
  obtain ⟨fs2, ho⟩ := hRo _ _ _ _ hJ
  have hr2 : q_lv u f h1 h2 r = some (.inl (0, fs)) := q_jn_l (q_jn_l hr)
  obtain ⟨PO, hM, hM2⟩ := hS _ _ _ _ hJ hn
  refine g_aload_n ok (dk m_Law_law_19 18 rfl) (pc' := 801) rfl (i := 1) rfl rfl ?_
  refine lw_arg (i := i) (k := 1) ok hX hbl hbA hL (by omega) rfl rfl (dk m_Law_law_19 19 rfl) (p1 := 802) rfl (dk m_Law_law_19 20 rfl) (p2 := 804) rfl (dk m_Law_law_19 21 rfl) (by decide) (p3 := 805) rfl (dk m_Law_law_19 22 rfl) (p4 := 806) rfl (dk m_Law_law_19 23 rfl) (p5 := 807) rfl  ?_
  refine lw_arg (i := i) (k := 2) ok hX hbl hbA hL (by omega) rfl rfl (dk m_Law_law_20 0 rfl) (p1 := 808) rfl (dk m_Law_law_20 1 rfl) (p2 := 810) rfl (dk m_Law_law_20 2 rfl) (by decide) (p3 := 811) rfl (dk m_Law_law_20 3 rfl) (p4 := 812) rfl (dk m_Law_law_20 4 rfl) (p5 := 813) rfl  ?_
  refine g_less (rc' := rc) (rs' := rs) (by omega) (by omega) ?_
  refine g_callV ok (dk m_Law_law_20 5 rfl) (pc' := 816) rfl c_Law_106 (hM.left2 hdj hu1 hu2) hr2 rfl rfl (by simp [Value.category]) (by omega) rfl (rc' := rc) (rs' := rs) (by omega) (by omega) (fun rv h' hcc => ?_) (fun j h' hcc => by obtain ⟨_, e, -⟩ := hcc; obtain ⟨z, e, -⟩ := hM2 _ _ e; cases e)
  obtain ⟨h1', hP1, rfl, hdj', hu1'⟩ := hcc
  obtain ⟨z, e, hM3⟩ := hM2 _ _ hP1
  cases e
  have hdj3 := q_djl (u := u) (f := f) hdj' hu2
  have ho2 : q_lv u f h1' h2 o = some (.inl (11, fs2)) := by
    show q_jn (q_jn h1' (q_o u f)) h2 o = _
    rw [q_jn_comm hdj3]
    exact q_jn_l ho
  show GW g Z A post rc rs (q_lv u f h1' h2) _ _ [.int z]
  refine g_aload_n ok (dk m_Law_law_20 6 rfl) (pc' := 817) rfl (i := 2) rfl rfl ?_
  refine lw_arg (i := i) (k := 1) ok hX hbl hbA hL (by omega) rfl rfl (dk m_Law_law_20 7 rfl) (p1 := 818) rfl (dk m_Law_law_20 8 rfl) (p2 := 820) rfl (dk m_Law_law_20 9 rfl) (by decide) (p3 := 821) rfl (dk m_Law_law_20 10 rfl) (p4 := 822) rfl (dk m_Law_law_20 11 rfl) (p5 := 823) rfl  ?_
  refine lw_arg (i := i) (k := 2) ok hX hbl hbA hL (by omega) rfl rfl (dk m_Law_law_20 12 rfl) (p1 := 824) rfl (dk m_Law_law_20 13 rfl) (p2 := 826) rfl (dk m_Law_law_20 14 rfl) (by decide) (p3 := 827) rfl (dk m_Law_law_20 15 rfl) (p4 := 828) rfl (dk m_Law_law_20 16 rfl) (p5 := 829) rfl  ?_
  refine g_callV ok (dk m_Law_law_20 17 rfl) (pc' := 832) rfl c_Law_109 (hM3.right hdj3) ho2 rfl rfl (by simp [Value.category]) (by omega) rfl (rc' := rc) (rs' := rs) (by omega) (by omega) (fun rv h' hcc => ?_) (fun j h' hcc => by obtain ⟨_, ⟨e, -⟩, -⟩ := hcc; cases e)
  obtain ⟨h2', ⟨e, t', hJ'⟩, rfl, hdj2⟩ := hcc
  cases e
  show GW g Z A post rc rs (q_lv u f h1' h2') _ _ [.int z, .int z]
  refine g_icmp_eq ok (dk m_Law_law_20 18 rfl) (tgt := 850) (by decide) (pc' := 835) rfl (fun _ => ?_) (fun c => absurd rfl c)
  exact kk _ _ _ _ _ _ hJ' (q_djl_1 hdj2) hu1' (q_djl_2 hdj2 hu1')
theorem lw_c16 (E : lw_E J g Z A r o b L xs) (hi : i + 3 < L) (hS : q_SR J g r o .int y_RG_known b_RG_known 3 y_Mo_known b_Mo_known 3 []) (hJ : J n t h1 h2) (hn : n < 512) (hdj : q_dj h1 h2) (hu1 : h1 u = none) (hu2 : h2 u = none) (kk : ∀ l5 l6 t' h1' h2' f', J (n + 1) t' h1' h2' → q_dj h1' h2' → h1' u = none → h2' u = none → GW g Z A post rc rs (q_lv u f' h1' h2') 850 [some (.ref b), some (.ref r), some (.ref o), some (.ref u), some (.int (nI i)), l5, l6] []) (l5 l6 : Option Value) : GW g Z A post (rc + 14) (rs + 250) (q_lv u f h1 h2) 837 [some (.ref b), some (.ref r), some (.ref o), some (.ref u), some (.int (nI i)), l5, l6] [] := by
  obtain ⟨ok, hX, hbl, hbA, hL, hTh, hRr, hRo⟩ := E
  obtain ⟨fs, hr⟩ := hRr _ _ _ _ hJ
  obtain ⟨fs2, ho⟩ := hRo _ _ _ _ hJ
  have hr2 : q_lv u f h1 h2 r = some (.inl (0, fs)) := q_jn_l (q_jn_l hr)
  obtain ⟨PO, hM, hM2⟩ := hS _ _ _ _ hJ hn
  refine g_aload_n ok (dk m_Law_law_20 21 rfl) (pc' := 838) rfl (i := 1) rfl rfl ?_
  refine g_less (rc' := rc) (rs' := rs) (by omega) (by omega) ?_
  refine g_callV ok (dk m_Law_law_20 22 rfl) (pc' := 841) rfl c_Law_110 (hM.left2 hdj hu1 hu2) hr2 rfl rfl (by simp [Value.category]) (by omega) rfl (rc' := rc) (rs' := rs) (by omega) (by omega) (fun rv h' hcc => ?_) (fun j h' hcc => by obtain ⟨_, e, -⟩ := hcc; obtain ⟨z, e, -⟩ := hM2 _ _ e; cases e)
  obtain ⟨h1', hP1, rfl, hdj', hu1'⟩ := hcc
  obtain ⟨z, e, hM3⟩ := hM2 _ _ hP1
  cases e
  have hdj3 := q_djl (u := u) (f := f) hdj' hu2
  have ho2 : q_lv u f h1' h2 o = some (.inl (11, fs2)) := by
    show q_jn (q_jn h1' (q_o u f)) h2 o = _
    rw [q_jn_comm hdj3]
    exact q_jn_l ho
  show GW g Z A post rc rs (q_lv u f h1' h2) _ _ [.int z]
  refine g_aload_n ok (dk m_Law_law_20 23 rfl) (pc' := 842) rfl (i := 2) rfl rfl ?_
  refine g_callV ok (dk m_Law_law_21 0 rfl) (pc' := 845) rfl c_Law_113 (hM3.right hdj3) ho2 rfl rfl (by simp [Value.category]) (by omega) rfl (rc' := rc) (rs' := rs) (by omega) (by omega) (fun rv h' hcc => ?_) (fun j h' hcc => by obtain ⟨_, ⟨e, -⟩, -⟩ := hcc; cases e)
  obtain ⟨h2', ⟨e, t', hJ'⟩, rfl, hdj2⟩ := hcc
  cases e
  show GW g Z A post rc rs (q_lv u f h1' h2') _ _ [.int z, .int z]
  refine g_icmp_eq ok (dk m_Law_law_21 1 rfl) (tgt := 850) (by decide) (pc' := 848) rfl (fun _ => ?_) (fun c => absurd rfl c)
  exact kk _ _ _ _ _ _ hJ' (q_djl_1 hdj2) hu1' (q_djl_2 hdj2 hu1')
end LWC
