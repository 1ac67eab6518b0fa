/-! ===== the reference: its constructor ===== -/
def X_zero : x_T := (fun _ => 0, fun _ _ => 0)
def in_lv : Nat → Nat → x_T → x_T
  | 0, _, X => X
  | m + 1, k, X => in_lv m (k + 1) (mo_lv X k)
def in_f (a : Nat) : Nat → Nat → x_T → x_T
  | 0, _, X => X
  | m + 1, k, X => in_f a m (k + 1) (xs X a k (-1))
def X_i0 : x_T := in_lv 16 0 (mk X_zero 0 0 0 0)
def X_i1 : x_T := in_f 26 960 0 (in_f 22 1860 0 X_i0)
abbrev X_i2 (W : x_T) : x_T := xs (xs (xs (xs (xi (xs (mk (xs (mk (xs (xs W 15 0 (-1)) 26 0 0) 1 1 0 0) 22 0 (nI 1)) 2 1 0 0) 14 0 (nI 2)) 12 (nI 1)) 27 0 0) 28 0 0) 29 0 (nI 1)) 32 0 1
theorem in_lv_f : ∀ (m k : Nat) (X : x_T), xfr lv_K X (in_lv m k X) := by
  intro m
  induction m with
  | zero => intro k X; exact xfr.rf
  | succ m ih => intro k X; exact (mo_lv_f X k).tr (ih (k + 1) _)
theorem in_f_f (a : Nat) : ∀ (m k : Nat) (X : x_T), xfr [a] X (in_f a m k X) := by
  intro m
  induction m with
  | zero => intro k X; exact xfr.rf
  | succ m ih => intro k X; exact (xfr.rf.xs a _ _ (List.mem_singleton.mpr rfl)).tr (ih (k + 1) _)
theorem X_i1_1 : X_i1.1 1 = nI 1 := by
  unfold X_i1 X_i0
  rw [(in_f_f 26 960 0 _ 1 (by decide)).1, (in_f_f 22 1860 0 _ 1 (by decide)).1, (in_lv_f 16 0 _ 1 (by decide)).1]
  rfl
/-- arrays made so far: where each lies -/
def q_MI (h : q_H) (r : Nat) (fl : List Value) (w : Nat → Nat) (S : Nat → Option Nat) : Prop := h r = some (.inl (11, fl)) ∧ ∀ k a, S k = some a → h a = some (.inr (mo_kd k, mo_len k, .inl (fun _ => 0))) ∧ w a = k
theorem q_MI.new {h h' : q_H} {r a k : Nat} {fl : List Value} {w : Nat → Nat} {S : Nat → Option Nat} (H : q_MI h r fl w S) (ha : h a = none) (e : h' = q_up h a (.inr (mo_kd k, mo_len k, .inl (fun _ => 0)))) : q_MI h' r fl (va_up w a k) (va_up S k (some a)) := by
  refine ⟨?_, fun i b hb => ?_⟩
  · rw [e, q_up_n (q_on H.1 ha)]
    exact H.1
  · by_cases z : i = k
    · subst z
      rw [show va_up S i (some a) i = some a from if_pos rfl] at hb
      have hb2 : a = b := Option.some.inj hb
      subst hb2
      exact ⟨by rw [e, q_up_s], if_pos rfl⟩
    · rw [show va_up S k (some a) i = S i from if_neg z] at hb
      obtain ⟨q1, q2⟩ := H.2 i b hb
      have hne : b ≠ a := q_on q1 ha
      exact ⟨by rw [e, q_up_n hne]; exact q1, (if_neg hne).trans q2⟩
theorem q_MI.put {h h' : q_H} {r : Nat} {fl fl' : List Value} {w : Nat → Nat} {S : Nat → Option Nat} (H : q_MI h r fl w S) (e : h' = q_up h r (.inl (11, fl'))) : q_MI h' r fl' w S := by
  refine ⟨by rw [e, q_up_s], fun i b hb => ?_⟩
  obtain ⟨q1, q2⟩ := H.2 i b hb
  exact ⟨by rw [e, q_up_n (q_oa H.1 q1).symm]; exact q1, q2⟩
theorem mo_ar_or {k : Nat} (h : mo_ar k = true) : k = 2 ∨ k = 3 ∨ k = 4 ∨ k = 5 ∨ k = 6 ∨ k = 8 ∨ k = 9 ∨ k = 10 ∨ k = 11 ∨ k = 13 ∨ k = 14 ∨ k = 15 ∨ k = 16 ∨ k = 17 ∨ k = 18 ∨ k = 19 ∨ k = 20 ∨ k = 21 ∨ k = 22 ∨ k = 23 ∨ k = 24 ∨ k = 25 ∨ k = 26 ∨ k = 27 ∨ k = 28 ∨ k = 29 ∨ k = 30 ∨ k = 31 ∨ k = 32 ∨ k = 33 ∨ k = 34 ∨ k = 36 ∨ k = 37 ∨ k = 38 ∨ k = 39 ∨ k = 40 ∨ k = 41 ∨ k = 43 ∨ k = 44 ∨ k = 45 ∨ k = 47 ∨ k = 49 ∨ k = 50 ∨ k = 51 := by
  unfold mo_ar at h
  split at h
  · decide
  · decide
  · decide
  · decide
  · decide
  · decide
  · decide
  · decide
  · decide
  · decide
  · decide
  · decide
  · decide
  · decide
  · decide
  · decide
  · decide
  · decide
  · decide
  · decide
  · decide
  · decide
  · decide
  · decide
  · decide
  · decide
  · decide
  · decide
  · decide
  · decide
  · decide
  · decide
  · decide
  · decide
  · decide
  · decide
  · decide
  · decide
  · decide
  · decide
  · decide
  · decide
  · decide
  · decide
  · cases h
theorem q_MI.fin {h : q_H} {r : Nat} {w : Nat → Nat} {S : Nat → Option Nat} {ba : Nat → Nat} (H : q_MI h r (mo_fs ba (fun _ => 0)) w S) (hS : ∀ k, mo_ar k = true → S k = some (ba k)) : q_mo h r ba X_zero :=
  ⟨H.1, fun k hk => (H.2 k _ (hS k hk)).1, fun i j hi hj e => by
    have q1 := (H.2 i _ (hS i hi)).2
    have q2 := (H.2 j _ (hS j hj)).2
    rw [e] at q1
    omega⟩
set_option maxHeartbeats 1000000 in
theorem c_Mo_init (g : q_G) {h : q_H} {r : Nat} (d mc ms : Nat) (hd : 1 ≤ d) (hmc : 44 ≤ mc) (hms : 38008 ≤ ms) (hr : h r = some (.inl (11, [.int 0, .int 0, .null, .null, .null, .null, .null, .int 0, .null, .null, .null, .null, .int 0, .null, .null, .null, .null, .null, .null, .null, .null, .null, .null, .null, .null, .null, .null, .null, .null, .null, .null, .null, .null, .null, .null, .int 0, .null, .null, .null, .null, .null, .null, .int 0, .null, .null, .null, .int 0, .null, .int 0, .null, .null, .null]))) : MG g y_Mo_init b_Mo_init 2 none d mc ms [.ref r] h (fun q h' => q = .inl none ∧ ∃ ba, q_mo h' r ba (X_i2 X_i1)) := by
  refine MG.of (by decide +kernel) (by simp [Value.category]) (Nat.le_of_ble_eq_true rfl) ?_
  intro Z A ok
  have tail : ∀ (h1 : q_H) (ba : Nat → Nat), q_mo h1 r ba X_zero → ∀ {rc rs : Nat}, 0 ≤ rc → 0 ≤ rs → GW g Z A (fun q h' => q = .inl none ∧ ∃ ba, q_mo h' r ba (X_i2 X_i1)) rc rs h1 373 [some (.ref r), none] [] := by
    intro h1 ba H1 rc rs _ _
    have loopC : ∀ (m k : Nat), k + m = 960 → ∀ (h1 : q_H) (X1 : x_T), q_mo h1 r ba X1 → in_f 26 m k X1 = X_i1 → GW g Z A (fun q h' => q = .inl none ∧ ∃ ba, q_mo h' r ba (X_i2 X_i1)) rc rs h1 424 [some (.ref r), some (.int (nI k))] [] := by
      intro m
      induction m with
      | zero =>
        intro k hk h1 X1 H1 hv
        have hWx : X1 = X_i1 := by rw [← hv]; rfl
        obtain ⟨W, hW⟩ : ∃ W, X_i1 = W := ⟨_, rfl⟩
        have hW1 : W.1 1 = nI 1 := by rw [← hW]; exact X_i1_1
        have hWe : X_i2 X_i1 = X_i2 W := by rw [hW]
        rw [hWx, hW] at H1
        clear hv hWx hW
        refine g_iload_n ok (dk m_Mo_init 208 rfl) (pc' := 425) rfl (i := 1) rfl rfl ?_
        refine g_sipush ok (dk m_Mo_init 209 rfl) (pc' := 428) rfl (v := 960) (by decide) ?_
        refine g_icmp_ge ok (dk m_Mo_init 210 rfl) (tgt := 444) (by decide) (pc' := 431) rfl (fun c_428 => ?_) (fun c_428 => absurd (show nI 960 ≤ nI k from by rw [show k = 960 by omega]; exact Int32.le_refl _) c_428)
        refine g_aload_n ok (dk m_Mo_init 218 rfl) (pc' := 445) rfl (i := 0) rfl rfl ?_
        refine g_get ok (dk m_Mo_init 219 rfl) (pc' := 448) rfl f_Mo_44 H1.1 rfl ?_
        refine g_iconst ok (dk m_Mo_init 220 rfl) (pc' := 449) rfl (v := 0) (by decide) ?_
        refine g_iconst ok (dk m_Mo_init 221 rfl) (pc' := 450) rfl (v := (-1)) (by decide) ?_
        refine g_iastI ok (dk m_Mo_init 222 rfl) (pc' := 451) rfl (j := 0) (H1.ar 15 rfl) rfl (show 0 < 60 by omega) (by decide) (fun z1 e1 => ?_)
        have Y1 := H1.ast 15 rfl e1
        clear e1
        refine g_aload_n ok (dk m_Mo_init 223 rfl) (pc' := 452) rfl (i := 0) rfl rfl ?_
        refine g_get ok (dk m_Mo_init 224 rfl) (pc' := 455) rfl f_Mo_77 Y1.1 rfl ?_
        refine g_iconst ok (dk m_Mo_init 225 rfl) (pc' := 456) rfl (v := 0) (by decide) ?_
        refine g_iconst ok (dk m_Mo_init 226 rfl) (pc' := 457) rfl (v := 0) (by decide) ?_
        refine g_iastI ok (dk m_Mo_init 227 rfl) (pc' := 458) rfl (j := 0) (Y1.ar 26 rfl) rfl (show 0 < 960 by omega) (by decide) (fun z2 e2 => ?_)
        have Y2 := Y1.ast 26 rfl e2
        clear e2
        refine g_aload_n ok (dk m_Mo_init 228 rfl) (pc' := 459) rfl (i := 0) rfl rfl ?_
        refine g_get ok (dk m_Mo_init 229 rfl) (pc' := 462) rfl f_Mo_65 Y2.1 rfl ?_
        refine g_iconst ok (dk m_Mo_init 230 rfl) (pc' := 463) rfl (v := 0) (by decide) ?_
        refine g_aload_n ok (dk m_Mo_init 231 rfl) (pc' := 464) rfl (i := 0) rfl rfl ?_
        refine g_iconst ok (dk m_Mo_init 232 rfl) (pc' := 465) rfl (v := 1) (by decide) ?_
        refine g_iconst ok (dk m_Mo_init 233 rfl) (pc' := 466) rfl (v := 0) (by decide) ?_
        refine g_iconst ok (dk m_Mo_init 234 rfl) (pc' := 467) rfl (v := 0) (by decide) ?_
        refine g_callV ok (dk m_Mo_init 235 rfl) (pc' := 470) rfl c_Mo_143 (c_Mo_make g 1 0 0 0 (n := 1) (by exact hW1) (by decide) Y2) Y2.1 rfl rfl (by simp [Value.category]) (by omega) rfl (rc' := rc) (rs' := rs) (by omega) (by omega) (fun rv h' hcc => ?_) (fun i h' hcc => by obtain ⟨e9, -⟩ := hcc; cases e9)
        obtain ⟨e9, Y3⟩ := hcc
        cases e9
        refine g_iastI ok (dk m_Mo_init 236 rfl) (pc' := 471) rfl (j := 0) (Y3.ar 22 rfl) rfl (show 0 < 1860 by omega) (by decide) (fun z4 e4 => ?_)
        have Y4 := Y3.ast 22 rfl e4
        clear e4
        refine g_aload_n ok (dk m_Mo_init 237 rfl) (pc' := 472) rfl (i := 0) rfl rfl ?_
        refine g_get ok (dk m_Mo_init 238 rfl) (pc' := 475) rfl f_Mo_41 Y4.1 rfl ?_
        refine g_iconst ok (dk m_Mo_init 239 rfl) (pc' := 476) rfl (v := 0) (by decide) ?_
        refine g_aload_n ok (dk m_Mo_init 240 rfl) (pc' := 477) rfl (i := 0) rfl rfl ?_
        refine g_iconst ok (dk m_Mo_init 241 rfl) (pc' := 478) rfl (v := 1) (by decide) ?_
        refine g_iconst ok (dk m_Mo_init 242 rfl) (pc' := 479) rfl (v := 0) (by decide) ?_
        refine g_iconst ok (dk m_Mo_init 243 rfl) (pc' := 480) rfl (v := 0) (by decide) ?_
        refine g_callV ok (dk m_Mo_init 244 rfl) (pc' := 483) rfl c_Mo_143 (c_Mo_make g 1 0 0 0 (n := 2) (by exact rfl) (by decide) Y4) Y4.1 rfl rfl (by simp [Value.category]) (by omega) rfl (rc' := rc) (rs' := rs) (by omega) (by omega) (fun rv h' hcc => ?_) (fun i h' hcc => by obtain ⟨e9, -⟩ := hcc; cases e9)
        obtain ⟨e9, Y5⟩ := hcc
        cases e9
        refine g_iastI ok (dk m_Mo_init 245 rfl) (pc' := 484) rfl (j := 0) (Y5.ar 14 rfl) rfl (show 0 < 60 by omega) (by decide) (fun z6 e6 => ?_)
        have Y6 := Y5.ast 14 rfl e6
        clear e6
        refine g_aload_n ok (dk m_Mo_init 246 rfl) (pc' := 485) rfl (i := 0) rfl rfl ?_
        refine g_iconst ok (dk m_Mo_init 247 rfl) (pc' := 486) rfl (v := 1) (by decide) ?_
        refine g_put ok (dk m_Mo_init 248 rfl) (pc' := 489) rfl f_Mo_151 (Or.inl rfl) Y6.1 (Nat.le_of_ble_eq_true rfl) rfl rfl ?_
        refine g_gen (fun z7 e7 => ?_)
        have Y7 := Y6.ipt 12 (by decide) e7
        clear e7
        refine g_aload_n ok (dk m_Mo_init 249 rfl) (pc' := 490) rfl (i := 0) rfl rfl ?_
        refine g_get ok (dk m_Mo_init 250 rfl) (pc' := 493) rfl f_Mo_80 Y7.1 rfl ?_
        refine g_iconst ok (dk m_Mo_init 251 rfl) (pc' := 494) rfl (v := 0) (by decide) ?_
        refine g_iconst ok (dk m_Mo_init 252 rfl) (pc' := 495) rfl (v := 0) (by decide) ?_
        refine g_iastI ok (dk m_Mo_init 253 rfl) (pc' := 496) rfl (j := 0) (Y7.ar 27 rfl) rfl (show 0 < 16 by omega) (by decide) (fun z8 e8 => ?_)
        have Y8 := Y7.ast 27 rfl e8
        clear e8
        refine g_aload_n ok (dk m_Mo_init 254 rfl) (pc' := 497) rfl (i := 0) rfl rfl ?_
        refine g_get ok (dk m_Mo_init 255 rfl) (pc' := 500) rfl f_Mo_83 Y8.1 rfl ?_
        refine g_iconst ok (dk m_Mo_init 256 rfl) (pc' := 501) rfl (v := 0) (by decide) ?_
        refine g_iconst ok (dk m_Mo_init 257 rfl) (pc' := 502) rfl (v := 0) (by decide) ?_
        refine g_iastI ok (dk m_Mo_init 258 rfl) (pc' := 503) rfl (j := 0) (Y8.ar 28 rfl) rfl (show 0 < 16 by omega) (by decide) (fun z9 e9 => ?_)
        have Y9 := Y8.ast 28 rfl e9
        clear e9
        refine g_aload_n ok (dk m_Mo_init 259 rfl) (pc' := 504) rfl (i := 0) rfl rfl ?_
        refine g_get ok (dk m_Mo_init 260 rfl) (pc' := 507) rfl f_Mo_86 Y9.1 rfl ?_
        refine g_iconst ok (dk m_Mo_init 261 rfl) (pc' := 508) rfl (v := 0) (by decide) ?_
        refine g_aload_n ok (dk m_Mo_init 262 rfl) (pc' := 509) rfl (i := 0) rfl rfl ?_
        refine g_get ok (dk m_Mo_init 263 rfl) (pc' := 512) rfl f_Mo_65 Y9.1 rfl ?_
        refine g_iconst ok (dk m_Mo_init 264 rfl) (pc' := 513) rfl (v := 0) (by decide) ?_
        refine g_ialdI ok (dk m_Mo_init 265 rfl) (pc' := 514) rfl (j := 0) (Y9.ar 22 rfl) rfl (show 0 < 1860 by omega) (by decide) ?_
        refine g_top (w := .int (nI 1)) (congrArg Value.int (xs_s (mk (xs (xs W 15 0 (-1)) 26 0 0) 1 1 0 0) 22 0 (nI 1))) ?_
        refine g_iastI ok (dk m_Mo_init 266 rfl) (pc' := 515) rfl (j := 0) (Y9.ar 29 rfl) rfl (show 0 < 16 by omega) (by decide) (fun z10 e10 => ?_)
        have Y10 := Y9.ast 29 rfl e10
        clear e10
        refine g_aload_n ok (dk m_Mo_init 267 rfl) (pc' := 516) rfl (i := 0) rfl rfl ?_
        refine g_get ok (dk m_Mo_init 268 rfl) (pc' := 519) rfl f_Mo_95 Y10.1 rfl ?_
        refine g_iconst ok (dk m_Mo_init 269 rfl) (pc' := 520) rfl (v := 0) (by decide) ?_
        refine g_iconst ok (dk m_Mo_init 270 rfl) (pc' := 521) rfl (v := 1) (by decide) ?_
        refine g_zastI ok (dk m_Mo_init 271 rfl) (pc' := 522) rfl (j := 0) (Y10.ar 32 rfl) rfl (show 0 < 16 by omega) (by decide) rfl (fun z11 e11 => ?_)
        have Y11 := Y10.ast 32 rfl e11
        clear e11
        exact g_vret ok (dk m_Mo_init 272 rfl) rfl ⟨rfl, ba, by rw [hWe]; exact Y11⟩
      | succ m ih =>
        intro k hk h1 X1 H1 hv
        refine g_iload_n ok (dk m_Mo_init 208 rfl) (pc' := 425) rfl (i := 1) rfl rfl ?_
        refine g_sipush ok (dk m_Mo_init 209 rfl) (pc' := 428) rfl (v := 960) (by decide) ?_
        refine g_icmp_ge ok (dk m_Mo_init 210 rfl) (tgt := 444) (by decide) (pc' := 431) rfl (fun c_428 => absurd c_428 (show ¬ nI 960 ≤ nI k from nI_ge (by omega) (by decide))) (fun c_428 => ?_)
        refine g_aload_n ok (dk m_Mo_init 211 rfl) (pc' := 432) rfl (i := 0) rfl rfl ?_
        refine g_get ok (dk m_Mo_init 212 rfl) (pc' := 435) rfl f_Mo_77 H1.1 rfl ?_
        refine g_iload_n ok (dk m_Mo_init 213 rfl) (pc' := 436) rfl (i := 1) rfl rfl ?_
        refine g_iconst ok (dk m_Mo_init 214 rfl) (pc' := 437) rfl (v := (-1)) (by decide) ?_
        refine g_iastI ok (dk m_Mo_init 215 rfl) (pc' := 438) rfl (j := k) (H1.ar 26 rfl) rfl (show k < 960 by omega) (by decide) (fun z1 e1 => ?_)
        have Y1 := H1.ast 26 rfl e1
        clear e1
        refine g_iinc ok (dk m_Mo_init 216 rfl) (pc' := 441) rfl rfl (nI_1 k) rfl ?_
        refine g_goto ok (dk m_Mo_init 217 rfl) (pc' := 424) (by decide) ?_
        exact ih (k + 1) (by omega) _ _ Y1 hv
    have loopB : ∀ (m k : Nat), k + m = 1860 → ∀ (h1 : q_H) (X1 : x_T), q_mo h1 r ba X1 → in_f 22 m k X1 = in_f 22 1860 0 X_i0 → GW g Z A (fun q h' => q = .inl none ∧ ∃ ba, q_mo h' r ba (X_i2 X_i1)) rc rs h1 402 [some (.ref r), some (.int (nI k))] [] := by
      intro m
      induction m with
      | zero =>
        intro k hk h1 X1 H1 hv
        refine g_iload_n ok (dk m_Mo_init 196 rfl) (pc' := 403) rfl (i := 1) rfl rfl ?_
        refine g_sipush ok (dk m_Mo_init 197 rfl) (pc' := 406) rfl (v := 1860) (by decide) ?_
        refine g_icmp_ge ok (dk m_Mo_init 198 rfl) (tgt := 422) (by decide) (pc' := 409) rfl (fun c_406 => ?_) (fun c_406 => absurd (show nI 1860 ≤ nI k from by rw [show k = 1860 by omega]; exact Int32.le_refl _) c_406)
        refine g_iconst ok (dk m_Mo_init 206 rfl) (pc' := 423) rfl (v := 0) (by decide) ?_
        refine g_istore_n ok (dk m_Mo_init 207 rfl) (pc' := 424) rfl (i := 1) rfl (Nat.le_of_ble_eq_true rfl) rfl ?_
        exact loopC 960 0 (by omega) _ _ H1 (by rw [X_i1, ← hv]; rfl)
      | succ m ih =>
        intro k hk h1 X1 H1 hv
        refine g_iload_n ok (dk m_Mo_init 196 rfl) (pc' := 403) rfl (i := 1) rfl rfl ?_
        refine g_sipush ok (dk m_Mo_init 197 rfl) (pc' := 406) rfl (v := 1860) (by decide) ?_
        refine g_icmp_ge ok (dk m_Mo_init 198 rfl) (tgt := 422) (by decide) (pc' := 409) rfl (fun c_406 => absurd c_406 (show ¬ nI 1860 ≤ nI k from nI_ge (by omega) (by decide))) (fun c_406 => ?_)
        refine g_aload_n ok (dk m_Mo_init 199 rfl) (pc' := 410) rfl (i := 0) rfl rfl ?_
        refine g_get ok (dk m_Mo_init 200 rfl) (pc' := 413) rfl f_Mo_65 H1.1 rfl ?_
        refine g_iload_n ok (dk m_Mo_init 201 rfl) (pc' := 414) rfl (i := 1) rfl rfl ?_
        refine g_iconst ok (dk m_Mo_init 202 rfl) (pc' := 415) rfl (v := (-1)) (by decide) ?_
        refine g_iastI ok (dk m_Mo_init 203 rfl) (pc' := 416) rfl (j := k) (H1.ar 22 rfl) rfl (show k < 1860 by omega) (by decide) (fun z1 e1 => ?_)
        have Y1 := H1.ast 22 rfl e1
        clear e1
        refine g_iinc ok (dk m_Mo_init 204 rfl) (pc' := 419) rfl rfl (nI_1 k) rfl ?_
        refine g_goto ok (dk m_Mo_init 205 rfl) (pc' := 402) (by decide) ?_
        exact ih (k + 1) (by omega) _ _ Y1 hv
    have loopA : ∀ (m k : Nat), k + m = 16 → ∀ (h1 : q_H) (X1 : x_T), q_mo h1 r ba X1 → in_lv m k X1 = X_i0 → GW g Z A (fun q h' => q = .inl none ∧ ∃ ba, q_mo h' r ba (X_i2 X_i1)) rc rs h1 383 [some (.ref r), some (.int (nI k))] [] := by
      intro m
      induction m with
      | zero =>
        intro k hk h1 X1 H1 hv
        refine g_iload_n ok (dk m_Mo_init 186 rfl) (pc' := 384) rfl (i := 1) rfl rfl ?_
        refine g_bipush ok (dk m_Mo_init 187 rfl) (pc' := 386) rfl (v := 16) (by decide) ?_
        refine g_icmp_ge ok (dk m_Mo_init 188 rfl) (tgt := 400) (by decide) (pc' := 389) rfl (fun c_386 => ?_) (fun c_386 => absurd (show nI 16 ≤ nI k from by rw [show k = 16 by omega]; exact Int32.le_refl _) c_386)
        refine g_iconst ok (dk m_Mo_init 194 rfl) (pc' := 401) rfl (v := 0) (by decide) ?_
        refine g_istore_n ok (dk m_Mo_init 195 rfl) (pc' := 402) rfl (i := 1) rfl (Nat.le_of_ble_eq_true rfl) rfl ?_
        exact loopB 1860 0 (by omega) _ _ H1 (by rw [← hv]; rfl)
      | succ m ih =>
        intro k hk h1 X1 H1 hv
        refine g_iload_n ok (dk m_Mo_init 186 rfl) (pc' := 384) rfl (i := 1) rfl rfl ?_
        refine g_bipush ok (dk m_Mo_init 187 rfl) (pc' := 386) rfl (v := 16) (by decide) ?_
        refine g_icmp_ge ok (dk m_Mo_init 188 rfl) (tgt := 400) (by decide) (pc' := 389) rfl (fun c_386 => absurd c_386 (show ¬ nI 16 ≤ nI k from nI_ge (by omega) (by decide))) (fun c_386 => ?_)
        refine g_aload_n ok (dk m_Mo_init 189 rfl) (pc' := 390) rfl (i := 0) rfl rfl ?_
        refine g_iload_n ok (dk m_Mo_init 190 rfl) (pc' := 391) rfl (i := 1) rfl rfl ?_
        refine g_callV ok (dk m_Mo_init 191 rfl) (pc' := 394) rfl c_Mo_147 (c_Mo_leave g (mm := k) 0 (by omega) H1) H1.1 rfl rfl (by simp [Value.category]) (by omega) rfl (rc' := rc) (rs' := rs) (by omega) (by omega) (fun rv h' hcc => ?_) (fun i h' hcc => by obtain ⟨e9, -⟩ := hcc; cases e9)
        obtain ⟨e9, Y1⟩ := hcc
        cases e9
        refine g_iinc ok (dk m_Mo_init 192 rfl) (pc' := 397) rfl rfl (nI_1 k) rfl ?_
        refine g_goto ok (dk m_Mo_init 193 rfl) (pc' := 383) (by decide) ?_
        exact ih (k + 1) (by omega) _ _ Y1 hv
    refine g_aload_n ok (dk m_Mo_init 178 rfl) (pc' := 374) rfl (i := 0) rfl rfl ?_
    refine g_iconst ok (dk m_Mo_init 179 rfl) (pc' := 375) rfl (v := 0) (by decide) ?_
    refine g_iconst ok (dk m_Mo_init 180 rfl) (pc' := 376) rfl (v := 0) (by decide) ?_
    refine g_iconst ok (dk m_Mo_init 181 rfl) (pc' := 377) rfl (v := 0) (by decide) ?_
    refine g_callV ok (dk m_Mo_init 182 rfl) (pc' := 380) rfl c_Mo_143 (c_Mo_make g 0 0 0 0 (n := 0) (by exact rfl) (by decide) H1) H1.1 rfl rfl (by simp [Value.category]) (by omega) rfl (rc' := rc) (rs' := rs) (by omega) (by omega) (fun rv h' hcc => ?_) (fun i h' hcc => by obtain ⟨e9, -⟩ := hcc; cases e9)
    obtain ⟨e9, Y1⟩ := hcc
    cases e9
    refine g_pop ok (dk m_Mo_init 183 rfl) (pc' := 381) rfl rfl ?_
    refine g_iconst ok (dk m_Mo_init 184 rfl) (pc' := 382) rfl (v := 0) (by decide) ?_
    refine g_istore_n ok (dk m_Mo_init 185 rfl) (pc' := 383) rfl (i := 1) rfl (Nat.le_of_ble_eq_true rfl) rfl ?_
    exact loopA 16 0 (by omega) _ _ Y1 rfl
  have I : q_MI h r [.int 0, .int 0, .null, .null, .null, .null, .null, .int 0, .null, .null, .null, .null, .int 0, .null, .null, .null, .null, .null, .null, .null, .null, .null, .null, .null, .null, .null, .null, .null, .null, .null, .null, .null, .null, .null, .null, .int 0, .null, .null, .null, .null, .null, .null, .int 0, .null, .null, .null, .int 0, .null, .int 0, .null, .null, .null] (fun _ => 0) (fun _ => none) := ⟨hr, fun k a z => by cases z⟩
  refine g_aload_n ok (dk m_Mo_init 0 rfl) (pc' := 1) rfl (i := 0) rfl rfl ?_
  refine g_objInit ok (dk m_Mo_init 1 rfl) (pc' := 4) rfl c_Mo_1 (by simp [Value.category]) (by omega) rfl ?_
  refine g_aload_n ok (dk m_Mo_init 2 rfl) (pc' := 5) rfl (i := 0) rfl rfl ?_
  refine g_sipush ok (dk m_Mo_init 3 rfl) (pc' := 8) rfl (v := 2600) (by decide) ?_
  refine g_newa ok (N := 2600) (dk m_Mo_init 4 rfl) (pc' := 10) rfl rfl (Or.inl ⟨rfl, rfl⟩) (show 2600 * 4 ≤ 536870912 by decide) (rc' := (mc - 1)) (rs' := (ms - 2600)) (by omega) (by omega) (fun a2 hn2 hb2 => ?_)
  refine g_gen (fun z e => ?_)
  have I := I.new (k := 2) hn2 e
  clear e hn2 hb2
  refine g_put ok (dk m_Mo_init 5 rfl) (pc' := 13) rfl f_Mo_7 (Or.inr rfl) I.1 (Nat.le_of_ble_eq_true rfl) rfl rfl ?_
  refine g_gen (fun z e => ?_)
  have I := I.put (fl' := [.int 0, .int 0, .ref a2, .null, .null, .null, .null, .int 0, .null, .null, .null, .null, .int 0, .null, .null, .null, .null, .null, .null, .null, .null, .null, .null, .null, .null, .null, .null, .null, .null, .null, .null, .null, .null, .null, .null, .int 0, .null, .null, .null, .null, .null, .null, .int 0, .null, .null, .null, .int 0, .null, .int 0, .null, .null, .null]) e
  clear e
  refine g_aload_n ok (dk m_Mo_init 6 rfl) (pc' := 14) rfl (i := 0) rfl rfl ?_
  refine g_sipush ok (dk m_Mo_init 7 rfl) (pc' := 17) rfl (v := 2600) (by decide) ?_
  refine g_newa ok (N := 2600) (dk m_Mo_init 8 rfl) (pc' := 19) rfl rfl (Or.inl ⟨rfl, rfl⟩) (show 2600 * 4 ≤ 536870912 by decide) (rc' := (mc - 2)) (rs' := (ms - 5200)) (by omega) (by omega) (fun a3 hn3 hb3 => ?_)
  refine g_gen (fun z e => ?_)
  have I := I.new (k := 3) hn3 e
  clear e hn3 hb3
  refine g_put ok (dk m_Mo_init 9 rfl) (pc' := 22) rfl f_Mo_13 (Or.inr rfl) I.1 (Nat.le_of_ble_eq_true rfl) rfl rfl ?_
  refine g_gen (fun z e => ?_)
  have I := I.put (fl' := [.int 0, .int 0, .ref a2, .ref a3, .null, .null, .null, .int 0, .null, .null, .null, .null, .int 0, .null, .null, .null, .null, .null, .null, .null, .null, .null, .null, .null, .null, .null, .null, .null, .null, .null, .null, .null, .null, .null, .null, .int 0, .null, .null, .null, .null, .null, .null, .int 0, .null, .null, .null, .int 0, .null, .int 0, .null, .null, .null]) e
  clear e
  refine g_aload_n ok (dk m_Mo_init 10 rfl) (pc' := 23) rfl (i := 0) rfl rfl ?_
  refine g_sipush ok (dk m_Mo_init 11 rfl) (pc' := 26) rfl (v := 2600) (by decide) ?_
  refine g_newa ok (N := 2600) (dk m_Mo_init 12 rfl) (pc' := 28) rfl rfl (Or.inl ⟨rfl, rfl⟩) (show 2600 * 4 ≤ 536870912 by decide) (rc' := (mc - 3)) (rs' := (ms - 7800)) (by omega) (by omega) (fun a4 hn4 hb4 => ?_)
  refine g_gen (fun z e => ?_)
  have I := I.new (k := 4) hn4 e
  clear e hn4 hb4
  refine g_put ok (dk m_Mo_init 13 rfl) (pc' := 31) rfl f_Mo_16 (Or.inr rfl) I.1 (Nat.le_of_ble_eq_true rfl) rfl rfl ?_
  refine g_gen (fun z e => ?_)
  have I := I.put (fl' := [.int 0, .int 0, .ref a2, .ref a3, .ref a4, .null, .null, .int 0, .null, .null, .null, .null, .int 0, .null, .null, .null, .null, .null, .null, .null, .null, .null, .null, .null, .null, .null, .null, .null, .null, .null, .null, .null, .null, .null, .null, .int 0, .null, .null, .null, .null, .null, .null, .int 0, .null, .null, .null, .int 0, .null, .int 0, .null, .null, .null]) e
  clear e
  refine g_aload_n ok (dk m_Mo_init 14 rfl) (pc' := 32) rfl (i := 0) rfl rfl ?_
  refine g_sipush ok (dk m_Mo_init 15 rfl) (pc' := 35) rfl (v := 2600) (by decide) ?_
  refine g_newa ok (N := 2600) (dk m_Mo_init 16 rfl) (pc' := 37) rfl rfl (Or.inr ⟨rfl, rfl⟩) (show 2600 * 4 ≤ 536870912 by decide) (rc' := (mc - 4)) (rs' := (ms - 10400)) (by omega) (by omega) (fun a5 hn5 hb5 => ?_)
  refine g_gen (fun z e => ?_)
  have I := I.new (k := 5) hn5 e
  clear e hn5 hb5
  refine g_put ok (dk m_Mo_init 17 rfl) (pc' := 40) rfl f_Mo_19 (Or.inr rfl) I.1 (Nat.le_of_ble_eq_true rfl) rfl rfl ?_
  refine g_gen (fun z e => ?_)
  have I := I.put (fl' := [.int 0, .int 0, .ref a2, .ref a3, .ref a4, .ref a5, .null, .int 0, .null, .null, .null, .null, .int 0, .null, .null, .null, .null, .null, .null, .null, .null, .null, .null, .null, .null, .null, .null, .null, .null, .null, .null, .null, .null, .null, .null, .int 0, .null, .null, .null, .null, .null, .null, .int 0, .null, .null, .null, .int 0, .null, .int 0, .null, .null, .null]) e
  clear e
  refine g_aload_n ok (dk m_Mo_init 18 rfl) (pc' := 41) rfl (i := 0) rfl rfl ?_
  refine g_sipush ok (dk m_Mo_init 19 rfl) (pc' := 44) rfl (v := 2600) (by decide) ?_
  refine g_newa ok (N := 2600) (dk m_Mo_init 20 rfl) (pc' := 46) rfl rfl (Or.inr ⟨rfl, rfl⟩) (show 2600 * 4 ≤ 536870912 by decide) (rc' := (mc - 5)) (rs' := (ms - 13000)) (by omega) (by omega) (fun a6 hn6 hb6 => ?_)
  refine g_gen (fun z e => ?_)
  have I := I.new (k := 6) hn6 e
  clear e hn6 hb6
  refine g_put ok (dk m_Mo_init 21 rfl) (pc' := 49) rfl f_Mo_23 (Or.inr rfl) I.1 (Nat.le_of_ble_eq_true rfl) rfl rfl ?_
  refine g_gen (fun z e => ?_)
  have I := I.put (fl' := [.int 0, .int 0, .ref a2, .ref a3, .ref a4, .ref a5, .ref a6, .int 0, .null, .null, .null, .null, .int 0, .null, .null, .null, .null, .null, .null, .null, .null, .null, .null, .null, .null, .null, .null, .null, .null, .null, .null, .null, .null, .null, .null, .int 0, .null, .null, .null, .null, .null, .null, .int 0, .null, .null, .null, .int 0, .null, .int 0, .null, .null, .null]) e
  clear e
  refine g_aload_n ok (dk m_Mo_init 22 rfl) (pc' := 50) rfl (i := 0) rfl rfl ?_
  refine g_sipush ok (dk m_Mo_init 23 rfl) (pc' := 53) rfl (v := 3600) (by decide) ?_
  refine g_newa ok (N := 3600) (dk m_Mo_init 24 rfl) (pc' := 55) rfl rfl (Or.inl ⟨rfl, rfl⟩) (show 3600 * 4 ≤ 536870912 by decide) (rc' := (mc - 6)) (rs' := (ms - 16600)) (by omega) (by omega) (fun a8 hn8 hb8 => ?_)
  refine g_gen (fun z e => ?_)
  have I := I.new (k := 8) hn8 e
  clear e hn8 hb8
  refine g_put ok (dk m_Mo_init 25 rfl) (pc' := 58) rfl f_Mo_26 (Or.inr rfl) I.1 (Nat.le_of_ble_eq_true rfl) rfl rfl ?_
  refine g_gen (fun z e => ?_)
  have I := I.put (fl' := [.int 0, .int 0, .ref a2, .ref a3, .ref a4, .ref a5, .ref a6, .int 0, .ref a8, .null, .null, .null, .int 0, .null, .null, .null, .null, .null, .null, .null, .null, .null, .null, .null, .null, .null, .null, .null, .null, .null, .null, .null, .null, .null, .null, .int 0, .null, .null, .null, .null, .null, .null, .int 0, .null, .null, .null, .int 0, .null, .int 0, .null, .null, .null]) e
  clear e
  refine g_aload_n ok (dk m_Mo_init 26 rfl) (pc' := 59) rfl (i := 0) rfl rfl ?_
  refine g_sipush ok (dk m_Mo_init 27 rfl) (pc' := 62) rfl (v := 3600) (by decide) ?_
  refine g_newa ok (N := 3600) (dk m_Mo_init 28 rfl) (pc' := 64) rfl rfl (Or.inl ⟨rfl, rfl⟩) (show 3600 * 4 ≤ 536870912 by decide) (rc' := (mc - 7)) (rs' := (ms - 20200)) (by omega) (by omega) (fun a9 hn9 hb9 => ?_)
  refine g_gen (fun z e => ?_)
  have I := I.new (k := 9) hn9 e
  clear e hn9 hb9
  refine g_put ok (dk m_Mo_init 29 rfl) (pc' := 67) rfl f_Mo_29 (Or.inr rfl) I.1 (Nat.le_of_ble_eq_true rfl) rfl rfl ?_
  refine g_gen (fun z e => ?_)
  have I := I.put (fl' := [.int 0, .int 0, .ref a2, .ref a3, .ref a4, .ref a5, .ref a6, .int 0, .ref a8, .ref a9, .null, .null, .int 0, .null, .null, .null, .null, .null, .null, .null, .null, .null, .null, .null, .null, .null, .null, .null, .null, .null, .null, .null, .null, .null, .null, .int 0, .null, .null, .null, .null, .null, .null, .int 0, .null, .null, .null, .int 0, .null, .int 0, .null, .null, .null]) e
  clear e
  refine g_aload_n ok (dk m_Mo_init 30 rfl) (pc' := 68) rfl (i := 0) rfl rfl ?_
  refine g_sipush ok (dk m_Mo_init 31 rfl) (pc' := 71) rfl (v := 3600) (by decide) ?_
  refine g_newa ok (N := 3600) (dk m_Mo_init 32 rfl) (pc' := 73) rfl rfl (Or.inl ⟨rfl, rfl⟩) (show 3600 * 4 ≤ 536870912 by decide) (rc' := (mc - 8)) (rs' := (ms - 23800)) (by omega) (by omega) (fun a10 hn10 hb10 => ?_)
  refine g_gen (fun z e => ?_)
  have I := I.new (k := 10) hn10 e
  clear e hn10 hb10
  refine g_put ok (dk m_Mo_init 33 rfl) (pc' := 76) rfl f_Mo_32 (Or.inr rfl) I.1 (Nat.le_of_ble_eq_true rfl) rfl rfl ?_
  refine g_gen (fun z e => ?_)
  have I := I.put (fl' := [.int 0, .int 0, .ref a2, .ref a3, .ref a4, .ref a5, .ref a6, .int 0, .ref a8, .ref a9, .ref a10, .null, .int 0, .null, .null, .null, .null, .null, .null, .null, .null, .null, .null, .null, .null, .null, .null, .null, .null, .null, .null, .null, .null, .null, .null, .int 0, .null, .null, .null, .null, .null, .null, .int 0, .null, .null, .null, .int 0, .null, .int 0, .null, .null, .null]) e
  clear e
  refine g_aload_n ok (dk m_Mo_init 34 rfl) (pc' := 77) rfl (i := 0) rfl rfl ?_
  refine g_sipush ok (dk m_Mo_init 35 rfl) (pc' := 80) rfl (v := 3600) (by decide) ?_
  refine g_newa ok (N := 3600) (dk m_Mo_init 36 rfl) (pc' := 82) rfl rfl (Or.inl ⟨rfl, rfl⟩) (show 3600 * 4 ≤ 536870912 by decide) (rc' := (mc - 9)) (rs' := (ms - 27400)) (by omega) (by omega) (fun a11 hn11 hb11 => ?_)
  refine g_gen (fun z e => ?_)
  have I := I.new (k := 11) hn11 e
  clear e hn11 hb11
  refine g_put ok (dk m_Mo_init 37 rfl) (pc' := 85) rfl f_Mo_35 (Or.inr rfl) I.1 (Nat.le_of_ble_eq_true rfl) rfl rfl ?_
  refine g_gen (fun z e => ?_)
  have I := I.put (fl' := [.int 0, .int 0, .ref a2, .ref a3, .ref a4, .ref a5, .ref a6, .int 0, .ref a8, .ref a9, .ref a10, .ref a11, .int 0, .null, .null, .null, .null, .null, .null, .null, .null, .null, .null, .null, .null, .null, .null, .null, .null, .null, .null, .null, .null, .null, .null, .int 0, .null, .null, .null, .null, .null, .null, .int 0, .null, .null, .null, .int 0, .null, .int 0, .null, .null, .null]) e
  clear e
  refine g_aload_n ok (dk m_Mo_init 38 rfl) (pc' := 86) rfl (i := 0) rfl rfl ?_
  refine g_bipush ok (dk m_Mo_init 39 rfl) (pc' := 88) rfl (v := 60) (by decide) ?_
  refine g_newa ok (N := 60) (dk m_Mo_init 40 rfl) (pc' := 90) rfl rfl (Or.inl ⟨rfl, rfl⟩) (show 60 * 4 ≤ 536870912 by decide) (rc' := (mc - 10)) (rs' := (ms - 27460)) (by omega) (by omega) (fun a13 hn13 hb13 => ?_)
  refine g_gen (fun z e => ?_)
  have I := I.new (k := 13) hn13 e
  clear e hn13 hb13
  refine g_put ok (dk m_Mo_init 41 rfl) (pc' := 93) rfl f_Mo_38 (Or.inr rfl) I.1 (Nat.le_of_ble_eq_true rfl) rfl rfl ?_
  refine g_gen (fun z e => ?_)
  have I := I.put (fl' := [.int 0, .int 0, .ref a2, .ref a3, .ref a4, .ref a5, .ref a6, .int 0, .ref a8, .ref a9, .ref a10, .ref a11, .int 0, .ref a13, .null, .null, .null, .null, .null, .null, .null, .null, .null, .null, .null, .null, .null, .null, .null, .null, .null, .null, .null, .null, .null, .int 0, .null, .null, .null, .null, .null, .null, .int 0, .null, .null, .null, .int 0, .null, .int 0, .null, .null, .null]) e
  clear e
  refine g_aload_n ok (dk m_Mo_init 42 rfl) (pc' := 94) rfl (i := 0) rfl rfl ?_
  refine g_bipush ok (dk m_Mo_init 43 rfl) (pc' := 96) rfl (v := 60) (by decide) ?_
  refine g_newa ok (N := 60) (dk m_Mo_init 44 rfl) (pc' := 98) rfl rfl (Or.inl ⟨rfl, rfl⟩) (show 60 * 4 ≤ 536870912 by decide) (rc' := (mc - 11)) (rs' := (ms - 27520)) (by omega) (by omega) (fun a14 hn14 hb14 => ?_)
  refine g_gen (fun z e => ?_)
  have I := I.new (k := 14) hn14 e
  clear e hn14 hb14
  refine g_put ok (dk m_Mo_init 45 rfl) (pc' := 101) rfl f_Mo_41 (Or.inr rfl) I.1 (Nat.le_of_ble_eq_true rfl) rfl rfl ?_
  refine g_gen (fun z e => ?_)
  have I := I.put (fl' := [.int 0, .int 0, .ref a2, .ref a3, .ref a4, .ref a5, .ref a6, .int 0, .ref a8, .ref a9, .ref a10, .ref a11, .int 0, .ref a13, .ref a14, .null, .null, .null, .null, .null, .null, .null, .null, .null, .null, .null, .null, .null, .null, .null, .null, .null, .null, .null, .null, .int 0, .null, .null, .null, .null, .null, .null, .int 0, .null, .null, .null, .int 0, .null, .int 0, .null, .null, .null]) e
  clear e
  refine g_aload_n ok (dk m_Mo_init 46 rfl) (pc' := 102) rfl (i := 0) rfl rfl ?_
  refine g_bipush ok (dk m_Mo_init 47 rfl) (pc' := 104) rfl (v := 60) (by decide) ?_
  refine g_newa ok (N := 60) (dk m_Mo_init 48 rfl) (pc' := 106) rfl rfl (Or.inl ⟨rfl, rfl⟩) (show 60 * 4 ≤ 536870912 by decide) (rc' := (mc - 12)) (rs' := (ms - 27580)) (by omega) (by omega) (fun a15 hn15 hb15 => ?_)
  refine g_gen (fun z e => ?_)
  have I := I.new (k := 15) hn15 e
  clear e hn15 hb15
  refine g_put ok (dk m_Mo_init 49 rfl) (pc' := 109) rfl f_Mo_44 (Or.inr rfl) I.1 (Nat.le_of_ble_eq_true rfl) rfl rfl ?_
  refine g_gen (fun z e => ?_)
  have I := I.put (fl' := [.int 0, .int 0, .ref a2, .ref a3, .ref a4, .ref a5, .ref a6, .int 0, .ref a8, .ref a9, .ref a10, .ref a11, .int 0, .ref a13, .ref a14, .ref a15, .null, .null, .null, .null, .null, .null, .null, .null, .null, .null, .null, .null, .null, .null, .null, .null, .null, .null, .null, .int 0, .null, .null, .null, .null, .null, .null, .int 0, .null, .null, .null, .int 0, .null, .int 0, .null, .null, .null]) e
  clear e
  refine g_aload_n ok (dk m_Mo_init 50 rfl) (pc' := 110) rfl (i := 0) rfl rfl ?_
  refine g_bipush ok (dk m_Mo_init 51 rfl) (pc' := 112) rfl (v := 60) (by decide) ?_
  refine g_newa ok (N := 60) (dk m_Mo_init 52 rfl) (pc' := 114) rfl rfl (Or.inl ⟨rfl, rfl⟩) (show 60 * 4 ≤ 536870912 by decide) (rc' := (mc - 13)) (rs' := (ms - 27640)) (by omega) (by omega) (fun a16 hn16 hb16 => ?_)
  refine g_gen (fun z e => ?_)
  have I := I.new (k := 16) hn16 e
  clear e hn16 hb16
  refine g_put ok (dk m_Mo_init 53 rfl) (pc' := 117) rfl f_Mo_47 (Or.inr rfl) I.1 (Nat.le_of_ble_eq_true rfl) rfl rfl ?_
  refine g_gen (fun z e => ?_)
  have I := I.put (fl' := [.int 0, .int 0, .ref a2, .ref a3, .ref a4, .ref a5, .ref a6, .int 0, .ref a8, .ref a9, .ref a10, .ref a11, .int 0, .ref a13, .ref a14, .ref a15, .ref a16, .null, .null, .null, .null, .null, .null, .null, .null, .null, .null, .null, .null, .null, .null, .null, .null, .null, .null, .int 0, .null, .null, .null, .null, .null, .null, .int 0, .null, .null, .null, .int 0, .null, .int 0, .null, .null, .null]) e
  clear e
  refine g_aload_n ok (dk m_Mo_init 54 rfl) (pc' := 118) rfl (i := 0) rfl rfl ?_
  refine g_bipush ok (dk m_Mo_init 55 rfl) (pc' := 120) rfl (v := 60) (by decide) ?_
  refine g_newa ok (N := 60) (dk m_Mo_init 56 rfl) (pc' := 122) rfl rfl (Or.inl ⟨rfl, rfl⟩) (show 60 * 4 ≤ 536870912 by decide) (rc' := (mc - 14)) (rs' := (ms - 27700)) (by omega) (by omega) (fun a17 hn17 hb17 => ?_)
  refine g_gen (fun z e => ?_)
  have I := I.new (k := 17) hn17 e
  clear e hn17 hb17
  refine g_put ok (dk m_Mo_init 57 rfl) (pc' := 125) rfl f_Mo_50 (Or.inr rfl) I.1 (Nat.le_of_ble_eq_true rfl) rfl rfl ?_
  refine g_gen (fun z e => ?_)
  have I := I.put (fl' := [.int 0, .int 0, .ref a2, .ref a3, .ref a4, .ref a5, .ref a6, .int 0, .ref a8, .ref a9, .ref a10, .ref a11, .int 0, .ref a13, .ref a14, .ref a15, .ref a16, .ref a17, .null, .null, .null, .null, .null, .null, .null, .null, .null, .null, .null, .null, .null, .null, .null, .null, .null, .int 0, .null, .null, .null, .null, .null, .null, .int 0, .null, .null, .null, .int 0, .null, .int 0, .null, .null, .null]) e
  clear e
  refine g_aload_n ok (dk m_Mo_init 58 rfl) (pc' := 126) rfl (i := 0) rfl rfl ?_
  refine g_bipush ok (dk m_Mo_init 59 rfl) (pc' := 128) rfl (v := 60) (by decide) ?_
  refine g_newa ok (N := 60) (dk m_Mo_init 60 rfl) (pc' := 130) rfl rfl (Or.inl ⟨rfl, rfl⟩) (show 60 * 4 ≤ 536870912 by decide) (rc' := (mc - 15)) (rs' := (ms - 27760)) (by omega) (by omega) (fun a18 hn18 hb18 => ?_)
  refine g_gen (fun z e => ?_)
  have I := I.new (k := 18) hn18 e
  clear e hn18 hb18
  refine g_put ok (dk m_Mo_init 61 rfl) (pc' := 133) rfl f_Mo_53 (Or.inr rfl) I.1 (Nat.le_of_ble_eq_true rfl) rfl rfl ?_
  refine g_gen (fun z e => ?_)
  have I := I.put (fl' := [.int 0, .int 0, .ref a2, .ref a3, .ref a4, .ref a5, .ref a6, .int 0, .ref a8, .ref a9, .ref a10, .ref a11, .int 0, .ref a13, .ref a14, .ref a15, .ref a16, .ref a17, .ref a18, .null, .null, .null, .null, .null, .null, .null, .null, .null, .null, .null, .null, .null, .null, .null, .null, .int 0, .null, .null, .null, .null, .null, .null, .int 0, .null, .null, .null, .int 0, .null, .int 0, .null, .null, .null]) e
  clear e
  refine g_aload_n ok (dk m_Mo_init 62 rfl) (pc' := 134) rfl (i := 0) rfl rfl ?_
  refine g_bipush ok (dk m_Mo_init 63 rfl) (pc' := 136) rfl (v := 60) (by decide) ?_
  refine g_newa ok (N := 60) (dk m_Mo_init 64 rfl) (pc' := 138) rfl rfl (Or.inl ⟨rfl, rfl⟩) (show 60 * 4 ≤ 536870912 by decide) (rc' := (mc - 16)) (rs' := (ms - 27820)) (by omega) (by omega) (fun a19 hn19 hb19 => ?_)
  refine g_gen (fun z e => ?_)
  have I := I.new (k := 19) hn19 e
  clear e hn19 hb19
  refine g_put ok (dk m_Mo_init 65 rfl) (pc' := 141) rfl f_Mo_56 (Or.inr rfl) I.1 (Nat.le_of_ble_eq_true rfl) rfl rfl ?_
  refine g_gen (fun z e => ?_)
  have I := I.put (fl' := [.int 0, .int 0, .ref a2, .ref a3, .ref a4, .ref a5, .ref a6, .int 0, .ref a8, .ref a9, .ref a10, .ref a11, .int 0, .ref a13, .ref a14, .ref a15, .ref a16, .ref a17, .ref a18, .ref a19, .null, .null, .null, .null, .null, .null, .null, .null, .null, .null, .null, .null, .null, .null, .null, .int 0, .null, .null, .null, .null, .null, .null, .int 0, .null, .null, .null, .int 0, .null, .int 0, .null, .null, .null]) e
  clear e
  refine g_aload_n ok (dk m_Mo_init 66 rfl) (pc' := 142) rfl (i := 0) rfl rfl ?_
  refine g_bipush ok (dk m_Mo_init 67 rfl) (pc' := 144) rfl (v := 60) (by decide) ?_
  refine g_newa ok (N := 60) (dk m_Mo_init 68 rfl) (pc' := 146) rfl rfl (Or.inl ⟨rfl, rfl⟩) (show 60 * 4 ≤ 536870912 by decide) (rc' := (mc - 17)) (rs' := (ms - 27880)) (by omega) (by omega) (fun a20 hn20 hb20 => ?_)
  refine g_gen (fun z e => ?_)
  have I := I.new (k := 20) hn20 e
  clear e hn20 hb20
  refine g_put ok (dk m_Mo_init 69 rfl) (pc' := 149) rfl f_Mo_59 (Or.inr rfl) I.1 (Nat.le_of_ble_eq_true rfl) rfl rfl ?_
  refine g_gen (fun z e => ?_)
  have I := I.put (fl' := [.int 0, .int 0, .ref a2, .ref a3, .ref a4, .ref a5, .ref a6, .int 0, .ref a8, .ref a9, .ref a10, .ref a11, .int 0, .ref a13, .ref a14, .ref a15, .ref a16, .ref a17, .ref a18, .ref a19, .ref a20, .null, .null, .null, .null, .null, .null, .null, .null, .null, .null, .null, .null, .null, .null, .int 0, .null, .null, .null, .null, .null, .null, .int 0, .null, .null, .null, .int 0, .null, .int 0, .null, .null, .null]) e
  clear e
  refine g_aload_n ok (dk m_Mo_init 70 rfl) (pc' := 150) rfl (i := 0) rfl rfl ?_
  refine g_bipush ok (dk m_Mo_init 71 rfl) (pc' := 152) rfl (v := 60) (by decide) ?_
  refine g_newa ok (N := 60) (dk m_Mo_init 72 rfl) (pc' := 154) rfl rfl (Or.inr ⟨rfl, rfl⟩) (show 60 * 4 ≤ 536870912 by decide) (rc' := (mc - 18)) (rs' := (ms - 27940)) (by omega) (by omega) (fun a21 hn21 hb21 => ?_)
  refine g_gen (fun z e => ?_)
  have I := I.new (k := 21) hn21 e
  clear e hn21 hb21
  refine g_put ok (dk m_Mo_init 73 rfl) (pc' := 157) rfl f_Mo_62 (Or.inr rfl) I.1 (Nat.le_of_ble_eq_true rfl) rfl rfl ?_
  refine g_gen (fun z e => ?_)
  have I := I.put (fl' := [.int 0, .int 0, .ref a2, .ref a3, .ref a4, .ref a5, .ref a6, .int 0, .ref a8, .ref a9, .ref a10, .ref a11, .int 0, .ref a13, .ref a14, .ref a15, .ref a16, .ref a17, .ref a18, .ref a19, .ref a20, .ref a21, .null, .null, .null, .null, .null, .null, .null, .null, .null, .null, .null, .null, .null, .int 0, .null, .null, .null, .null, .null, .null, .int 0, .null, .null, .null, .int 0, .null, .int 0, .null, .null, .null]) e
  clear e
  refine g_aload_n ok (dk m_Mo_init 74 rfl) (pc' := 158) rfl (i := 0) rfl rfl ?_
  refine g_sipush ok (dk m_Mo_init 75 rfl) (pc' := 161) rfl (v := 1860) (by decide) ?_
  refine g_newa ok (N := 1860) (dk m_Mo_init 76 rfl) (pc' := 163) rfl rfl (Or.inl ⟨rfl, rfl⟩) (show 1860 * 4 ≤ 536870912 by decide) (rc' := (mc - 19)) (rs' := (ms - 29800)) (by omega) (by omega) (fun a22 hn22 hb22 => ?_)
  refine g_gen (fun z e => ?_)
  have I := I.new (k := 22) hn22 e
  clear e hn22 hb22
  refine g_put ok (dk m_Mo_init 77 rfl) (pc' := 166) rfl f_Mo_65 (Or.inr rfl) I.1 (Nat.le_of_ble_eq_true rfl) rfl rfl ?_
  refine g_gen (fun z e => ?_)
  have I := I.put (fl' := [.int 0, .int 0, .ref a2, .ref a3, .ref a4, .ref a5, .ref a6, .int 0, .ref a8, .ref a9, .ref a10, .ref a11, .int 0, .ref a13, .ref a14, .ref a15, .ref a16, .ref a17, .ref a18, .ref a19, .ref a20, .ref a21, .ref a22, .null, .null, .null, .null, .null, .null, .null, .null, .null, .null, .null, .null, .int 0, .null, .null, .null, .null, .null, .null, .int 0, .null, .null, .null, .int 0, .null, .int 0, .null, .null, .null]) e
  clear e
  refine g_aload_n ok (dk m_Mo_init 78 rfl) (pc' := 167) rfl (i := 0) rfl rfl ?_
  refine g_sipush ok (dk m_Mo_init 79 rfl) (pc' := 170) rfl (v := 1860) (by decide) ?_
  refine g_newa ok (N := 1860) (dk m_Mo_init 80 rfl) (pc' := 172) rfl rfl (Or.inl ⟨rfl, rfl⟩) (show 1860 * 4 ≤ 536870912 by decide) (rc' := (mc - 20)) (rs' := (ms - 31660)) (by omega) (by omega) (fun a23 hn23 hb23 => ?_)
  refine g_gen (fun z e => ?_)
  have I := I.new (k := 23) hn23 e
  clear e hn23 hb23
  refine g_put ok (dk m_Mo_init 81 rfl) (pc' := 175) rfl f_Mo_68 (Or.inr rfl) I.1 (Nat.le_of_ble_eq_true rfl) rfl rfl ?_
  refine g_gen (fun z e => ?_)
  have I := I.put (fl' := [.int 0, .int 0, .ref a2, .ref a3, .ref a4, .ref a5, .ref a6, .int 0, .ref a8, .ref a9, .ref a10, .ref a11, .int 0, .ref a13, .ref a14, .ref a15, .ref a16, .ref a17, .ref a18, .ref a19, .ref a20, .ref a21, .ref a22, .ref a23, .null, .null, .null, .null, .null, .null, .null, .null, .null, .null, .null, .int 0, .null, .null, .null, .null, .null, .null, .int 0, .null, .null, .null, .int 0, .null, .int 0, .null, .null, .null]) e
  clear e
  refine g_aload_n ok (dk m_Mo_init 82 rfl) (pc' := 176) rfl (i := 0) rfl rfl ?_
  refine g_sipush ok (dk m_Mo_init 83 rfl) (pc' := 179) rfl (v := 1860) (by decide) ?_
  refine g_newa ok (N := 1860) (dk m_Mo_init 84 rfl) (pc' := 181) rfl rfl (Or.inl ⟨rfl, rfl⟩) (show 1860 * 4 ≤ 536870912 by decide) (rc' := (mc - 21)) (rs' := (ms - 33520)) (by omega) (by omega) (fun a24 hn24 hb24 => ?_)
  refine g_gen (fun z e => ?_)
  have I := I.new (k := 24) hn24 e
  clear e hn24 hb24
  refine g_put ok (dk m_Mo_init 85 rfl) (pc' := 184) rfl f_Mo_71 (Or.inr rfl) I.1 (Nat.le_of_ble_eq_true rfl) rfl rfl ?_
  refine g_gen (fun z e => ?_)
  have I := I.put (fl' := [.int 0, .int 0, .ref a2, .ref a3, .ref a4, .ref a5, .ref a6, .int 0, .ref a8, .ref a9, .ref a10, .ref a11, .int 0, .ref a13, .ref a14, .ref a15, .ref a16, .ref a17, .ref a18, .ref a19, .ref a20, .ref a21, .ref a22, .ref a23, .ref a24, .null, .null, .null, .null, .null, .null, .null, .null, .null, .null, .int 0, .null, .null, .null, .null, .null, .null, .int 0, .null, .null, .null, .int 0, .null, .int 0, .null, .null, .null]) e
  clear e
  refine g_aload_n ok (dk m_Mo_init 86 rfl) (pc' := 185) rfl (i := 0) rfl rfl ?_
  refine g_sipush ok (dk m_Mo_init 87 rfl) (pc' := 188) rfl (v := 1860) (by decide) ?_
  refine g_newa ok (N := 1860) (dk m_Mo_init 88 rfl) (pc' := 190) rfl rfl (Or.inl ⟨rfl, rfl⟩) (show 1860 * 4 ≤ 536870912 by decide) (rc' := (mc - 22)) (rs' := (ms - 35380)) (by omega) (by omega) (fun a25 hn25 hb25 => ?_)
  refine g_gen (fun z e => ?_)
  have I := I.new (k := 25) hn25 e
  clear e hn25 hb25
  refine g_put ok (dk m_Mo_init 89 rfl) (pc' := 193) rfl f_Mo_74 (Or.inr rfl) I.1 (Nat.le_of_ble_eq_true rfl) rfl rfl ?_
  refine g_gen (fun z e => ?_)
  have I := I.put (fl' := [.int 0, .int 0, .ref a2, .ref a3, .ref a4, .ref a5, .ref a6, .int 0, .ref a8, .ref a9, .ref a10, .ref a11, .int 0, .ref a13, .ref a14, .ref a15, .ref a16, .ref a17, .ref a18, .ref a19, .ref a20, .ref a21, .ref a22, .ref a23, .ref a24, .ref a25, .null, .null, .null, .null, .null, .null, .null, .null, .null, .int 0, .null, .null, .null, .null, .null, .null, .int 0, .null, .null, .null, .int 0, .null, .int 0, .null, .null, .null]) e
  clear e
  refine g_aload_n ok (dk m_Mo_init 90 rfl) (pc' := 194) rfl (i := 0) rfl rfl ?_
  refine g_sipush ok (dk m_Mo_init 91 rfl) (pc' := 197) rfl (v := 960) (by decide) ?_
  refine g_newa ok (N := 960) (dk m_Mo_init 92 rfl) (pc' := 199) rfl rfl (Or.inl ⟨rfl, rfl⟩) (show 960 * 4 ≤ 536870912 by decide) (rc' := (mc - 23)) (rs' := (ms - 36340)) (by omega) (by omega) (fun a26 hn26 hb26 => ?_)
  refine g_gen (fun z e => ?_)
  have I := I.new (k := 26) hn26 e
  clear e hn26 hb26
  refine g_put ok (dk m_Mo_init 93 rfl) (pc' := 202) rfl f_Mo_77 (Or.inr rfl) I.1 (Nat.le_of_ble_eq_true rfl) rfl rfl ?_
  refine g_gen (fun z e => ?_)
  have I := I.put (fl' := [.int 0, .int 0, .ref a2, .ref a3, .ref a4, .ref a5, .ref a6, .int 0, .ref a8, .ref a9, .ref a10, .ref a11, .int 0, .ref a13, .ref a14, .ref a15, .ref a16, .ref a17, .ref a18, .ref a19, .ref a20, .ref a21, .ref a22, .ref a23, .ref a24, .ref a25, .ref a26, .null, .null, .null, .null, .null, .null, .null, .null, .int 0, .null, .null, .null, .null, .null, .null, .int 0, .null, .null, .null, .int 0, .null, .int 0, .null, .null, .null]) e
  clear e
  refine g_aload_n ok (dk m_Mo_init 94 rfl) (pc' := 203) rfl (i := 0) rfl rfl ?_
  refine g_bipush ok (dk m_Mo_init 95 rfl) (pc' := 205) rfl (v := 16) (by decide) ?_
  refine g_newa ok (N := 16) (dk m_Mo_init 96 rfl) (pc' := 207) rfl rfl (Or.inl ⟨rfl, rfl⟩) (show 16 * 4 ≤ 536870912 by decide) (rc' := (mc - 24)) (rs' := (ms - 36356)) (by omega) (by omega) (fun a27 hn27 hb27 => ?_)
  refine g_gen (fun z e => ?_)
  have I := I.new (k := 27) hn27 e
  clear e hn27 hb27
  refine g_put ok (dk m_Mo_init 97 rfl) (pc' := 210) rfl f_Mo_80 (Or.inr rfl) I.1 (Nat.le_of_ble_eq_true rfl) rfl rfl ?_
  refine g_gen (fun z e => ?_)
  have I := I.put (fl' := [.int 0, .int 0, .ref a2, .ref a3, .ref a4, .ref a5, .ref a6, .int 0, .ref a8, .ref a9, .ref a10, .ref a11, .int 0, .ref a13, .ref a14, .ref a15, .ref a16, .ref a17, .ref a18, .ref a19, .ref a20, .ref a21, .ref a22, .ref a23, .ref a24, .ref a25, .ref a26, .ref a27, .null, .null, .null, .null, .null, .null, .null, .int 0, .null, .null, .null, .null, .null, .null, .int 0, .null, .null, .null, .int 0, .null, .int 0, .null, .null, .null]) e
  clear e
  refine g_aload_n ok (dk m_Mo_init 98 rfl) (pc' := 211) rfl (i := 0) rfl rfl ?_
  refine g_bipush ok (dk m_Mo_init 99 rfl) (pc' := 213) rfl (v := 16) (by decide) ?_
  refine g_newa ok (N := 16) (dk m_Mo_init 100 rfl) (pc' := 215) rfl rfl (Or.inl ⟨rfl, rfl⟩) (show 16 * 4 ≤ 536870912 by decide) (rc' := (mc - 25)) (rs' := (ms - 36372)) (by omega) (by omega) (fun a28 hn28 hb28 => ?_)
  refine g_gen (fun z e => ?_)
  have I := I.new (k := 28) hn28 e
  clear e hn28 hb28
  refine g_put ok (dk m_Mo_init 101 rfl) (pc' := 218) rfl f_Mo_83 (Or.inr rfl) I.1 (Nat.le_of_ble_eq_true rfl) rfl rfl ?_
  refine g_gen (fun z e => ?_)
  have I := I.put (fl' := [.int 0, .int 0, .ref a2, .ref a3, .ref a4, .ref a5, .ref a6, .int 0, .ref a8, .ref a9, .ref a10, .ref a11, .int 0, .ref a13, .ref a14, .ref a15, .ref a16, .ref a17, .ref a18, .ref a19, .ref a20, .ref a21, .ref a22, .ref a23, .ref a24, .ref a25, .ref a26, .ref a27, .ref a28, .null, .null, .null, .null, .null, .null, .int 0, .null, .null, .null, .null, .null, .null, .int 0, .null, .null, .null, .int 0, .null, .int 0, .null, .null, .null]) e
  clear e
  refine g_aload_n ok (dk m_Mo_init 102 rfl) (pc' := 219) rfl (i := 0) rfl rfl ?_
  refine g_bipush ok (dk m_Mo_init 103 rfl) (pc' := 221) rfl (v := 16) (by decide) ?_
  refine g_newa ok (N := 16) (dk m_Mo_init 104 rfl) (pc' := 223) rfl rfl (Or.inl ⟨rfl, rfl⟩) (show 16 * 4 ≤ 536870912 by decide) (rc' := (mc - 26)) (rs' := (ms - 36388)) (by omega) (by omega) (fun a29 hn29 hb29 => ?_)
  refine g_gen (fun z e => ?_)
  have I := I.new (k := 29) hn29 e
  clear e hn29 hb29
  refine g_put ok (dk m_Mo_init 105 rfl) (pc' := 226) rfl f_Mo_86 (Or.inr rfl) I.1 (Nat.le_of_ble_eq_true rfl) rfl rfl ?_
  refine g_gen (fun z e => ?_)
  have I := I.put (fl' := [.int 0, .int 0, .ref a2, .ref a3, .ref a4, .ref a5, .ref a6, .int 0, .ref a8, .ref a9, .ref a10, .ref a11, .int 0, .ref a13, .ref a14, .ref a15, .ref a16, .ref a17, .ref a18, .ref a19, .ref a20, .ref a21, .ref a22, .ref a23, .ref a24, .ref a25, .ref a26, .ref a27, .ref a28, .ref a29, .null, .null, .null, .null, .null, .int 0, .null, .null, .null, .null, .null, .null, .int 0, .null, .null, .null, .int 0, .null, .int 0, .null, .null, .null]) e
  clear e
  refine g_aload_n ok (dk m_Mo_init 106 rfl) (pc' := 227) rfl (i := 0) rfl rfl ?_
  refine g_bipush ok (dk m_Mo_init 107 rfl) (pc' := 229) rfl (v := 16) (by decide) ?_
  refine g_newa ok (N := 16) (dk m_Mo_init 108 rfl) (pc' := 231) rfl rfl (Or.inl ⟨rfl, rfl⟩) (show 16 * 4 ≤ 536870912 by decide) (rc' := (mc - 27)) (rs' := (ms - 36404)) (by omega) (by omega) (fun a30 hn30 hb30 => ?_)
  refine g_gen (fun z e => ?_)
  have I := I.new (k := 30) hn30 e
  clear e hn30 hb30
  refine g_put ok (dk m_Mo_init 109 rfl) (pc' := 234) rfl f_Mo_89 (Or.inr rfl) I.1 (Nat.le_of_ble_eq_true rfl) rfl rfl ?_
  refine g_gen (fun z e => ?_)
  have I := I.put (fl' := [.int 0, .int 0, .ref a2, .ref a3, .ref a4, .ref a5, .ref a6, .int 0, .ref a8, .ref a9, .ref a10, .ref a11, .int 0, .ref a13, .ref a14, .ref a15, .ref a16, .ref a17, .ref a18, .ref a19, .ref a20, .ref a21, .ref a22, .ref a23, .ref a24, .ref a25, .ref a26, .ref a27, .ref a28, .ref a29, .ref a30, .null, .null, .null, .null, .int 0, .null, .null, .null, .null, .null, .null, .int 0, .null, .null, .null, .int 0, .null, .int 0, .null, .null, .null]) e
  clear e
  refine g_aload_n ok (dk m_Mo_init 110 rfl) (pc' := 235) rfl (i := 0) rfl rfl ?_
  refine g_bipush ok (dk m_Mo_init 111 rfl) (pc' := 237) rfl (v := 16) (by decide) ?_
  refine g_newa ok (N := 16) (dk m_Mo_init 112 rfl) (pc' := 239) rfl rfl (Or.inl ⟨rfl, rfl⟩) (show 16 * 4 ≤ 536870912 by decide) (rc' := (mc - 28)) (rs' := (ms - 36420)) (by omega) (by omega) (fun a31 hn31 hb31 => ?_)
  refine g_gen (fun z e => ?_)
  have I := I.new (k := 31) hn31 e
  clear e hn31 hb31
  refine g_put ok (dk m_Mo_init 113 rfl) (pc' := 242) rfl f_Mo_92 (Or.inr rfl) I.1 (Nat.le_of_ble_eq_true rfl) rfl rfl ?_
  refine g_gen (fun z e => ?_)
  have I := I.put (fl' := [.int 0, .int 0, .ref a2, .ref a3, .ref a4, .ref a5, .ref a6, .int 0, .ref a8, .ref a9, .ref a10, .ref a11, .int 0, .ref a13, .ref a14, .ref a15, .ref a16, .ref a17, .ref a18, .ref a19, .ref a20, .ref a21, .ref a22, .ref a23, .ref a24, .ref a25, .ref a26, .ref a27, .ref a28, .ref a29, .ref a30, .ref a31, .null, .null, .null, .int 0, .null, .null, .null, .null, .null, .null, .int 0, .null, .null, .null, .int 0, .null, .int 0, .null, .null, .null]) e
  clear e
  refine g_aload_n ok (dk m_Mo_init 114 rfl) (pc' := 243) rfl (i := 0) rfl rfl ?_
  refine g_bipush ok (dk m_Mo_init 115 rfl) (pc' := 245) rfl (v := 16) (by decide) ?_
  refine g_newa ok (N := 16) (dk m_Mo_init 116 rfl) (pc' := 247) rfl rfl (Or.inr ⟨rfl, rfl⟩) (show 16 * 4 ≤ 536870912 by decide) (rc' := (mc - 29)) (rs' := (ms - 36436)) (by omega) (by omega) (fun a32 hn32 hb32 => ?_)
  refine g_gen (fun z e => ?_)
  have I := I.new (k := 32) hn32 e
  clear e hn32 hb32
  refine g_put ok (dk m_Mo_init 117 rfl) (pc' := 250) rfl f_Mo_95 (Or.inr rfl) I.1 (Nat.le_of_ble_eq_true rfl) rfl rfl ?_
  refine g_gen (fun z e => ?_)
  have I := I.put (fl' := [.int 0, .int 0, .ref a2, .ref a3, .ref a4, .ref a5, .ref a6, .int 0, .ref a8, .ref a9, .ref a10, .ref a11, .int 0, .ref a13, .ref a14, .ref a15, .ref a16, .ref a17, .ref a18, .ref a19, .ref a20, .ref a21, .ref a22, .ref a23, .ref a24, .ref a25, .ref a26, .ref a27, .ref a28, .ref a29, .ref a30, .ref a31, .ref a32, .null, .null, .int 0, .null, .null, .null, .null, .null, .null, .int 0, .null, .null, .null, .int 0, .null, .int 0, .null, .null, .null]) e
  clear e
  refine g_aload_n ok (dk m_Mo_init 118 rfl) (pc' := 251) rfl (i := 0) rfl rfl ?_
  refine g_sipush ok (dk m_Mo_init 119 rfl) (pc' := 254) rfl (v := 496) (by decide) ?_
  refine g_newa ok (N := 496) (dk m_Mo_init 120 rfl) (pc' := 256) rfl rfl (Or.inl ⟨rfl, rfl⟩) (show 496 * 4 ≤ 536870912 by decide) (rc' := (mc - 30)) (rs' := (ms - 36932)) (by omega) (by omega) (fun a33 hn33 hb33 => ?_)
  refine g_gen (fun z e => ?_)
  have I := I.new (k := 33) hn33 e
  clear e hn33 hb33
  refine g_put ok (dk m_Mo_init 121 rfl) (pc' := 259) rfl f_Mo_98 (Or.inr rfl) I.1 (Nat.le_of_ble_eq_true rfl) rfl rfl ?_
  refine g_gen (fun z e => ?_)
  have I := I.put (fl' := [.int 0, .int 0, .ref a2, .ref a3, .ref a4, .ref a5, .ref a6, .int 0, .ref a8, .ref a9, .ref a10, .ref a11, .int 0, .ref a13, .ref a14, .ref a15, .ref a16, .ref a17, .ref a18, .ref a19, .ref a20, .ref a21, .ref a22, .ref a23, .ref a24, .ref a25, .ref a26, .ref a27, .ref a28, .ref a29, .ref a30, .ref a31, .ref a32, .ref a33, .null, .int 0, .null, .null, .null, .null, .null, .null, .int 0, .null, .null, .null, .int 0, .null, .int 0, .null, .null, .null]) e
  clear e
  refine g_aload_n ok (dk m_Mo_init 122 rfl) (pc' := 260) rfl (i := 0) rfl rfl ?_
  refine g_sipush ok (dk m_Mo_init 123 rfl) (pc' := 263) rfl (v := 320) (by decide) ?_
  refine g_newa ok (N := 320) (dk m_Mo_init 124 rfl) (pc' := 265) rfl rfl (Or.inl ⟨rfl, rfl⟩) (show 320 * 4 ≤ 536870912 by decide) (rc' := (mc - 31)) (rs' := (ms - 37252)) (by omega) (by omega) (fun a34 hn34 hb34 => ?_)
  refine g_gen (fun z e => ?_)
  have I := I.new (k := 34) hn34 e
  clear e hn34 hb34
  refine g_put ok (dk m_Mo_init 125 rfl) (pc' := 268) rfl f_Mo_101 (Or.inr rfl) I.1 (Nat.le_of_ble_eq_true rfl) rfl rfl ?_
  refine g_gen (fun z e => ?_)
  have I := I.put (fl' := [.int 0, .int 0, .ref a2, .ref a3, .ref a4, .ref a5, .ref a6, .int 0, .ref a8, .ref a9, .ref a10, .ref a11, .int 0, .ref a13, .ref a14, .ref a15, .ref a16, .ref a17, .ref a18, .ref a19, .ref a20, .ref a21, .ref a22, .ref a23, .ref a24, .ref a25, .ref a26, .ref a27, .ref a28, .ref a29, .ref a30, .ref a31, .ref a32, .ref a33, .ref a34, .int 0, .null, .null, .null, .null, .null, .null, .int 0, .null, .null, .null, .int 0, .null, .int 0, .null, .null, .null]) e
  clear e
  refine g_aload_n ok (dk m_Mo_init 126 rfl) (pc' := 269) rfl (i := 0) rfl rfl ?_
  refine g_bipush ok (dk m_Mo_init 127 rfl) (pc' := 271) rfl (v := 60) (by decide) ?_
  refine g_newa ok (N := 60) (dk m_Mo_init 128 rfl) (pc' := 273) rfl rfl (Or.inl ⟨rfl, rfl⟩) (show 60 * 4 ≤ 536870912 by decide) (rc' := (mc - 32)) (rs' := (ms - 37312)) (by omega) (by omega) (fun a36 hn36 hb36 => ?_)
  refine g_gen (fun z e => ?_)
  have I := I.new (k := 36) hn36 e
  clear e hn36 hb36
  refine g_put ok (dk m_Mo_init 129 rfl) (pc' := 276) rfl f_Mo_104 (Or.inr rfl) I.1 (Nat.le_of_ble_eq_true rfl) rfl rfl ?_
  refine g_gen (fun z e => ?_)
  have I := I.put (fl' := [.int 0, .int 0, .ref a2, .ref a3, .ref a4, .ref a5, .ref a6, .int 0, .ref a8, .ref a9, .ref a10, .ref a11, .int 0, .ref a13, .ref a14, .ref a15, .ref a16, .ref a17, .ref a18, .ref a19, .ref a20, .ref a21, .ref a22, .ref a23, .ref a24, .ref a25, .ref a26, .ref a27, .ref a28, .ref a29, .ref a30, .ref a31, .ref a32, .ref a33, .ref a34, .int 0, .ref a36, .null, .null, .null, .null, .null, .int 0, .null, .null, .null, .int 0, .null, .int 0, .null, .null, .null]) e
  clear e
  refine g_aload_n ok (dk m_Mo_init 130 rfl) (pc' := 277) rfl (i := 0) rfl rfl ?_
  refine g_bipush ok (dk m_Mo_init 131 rfl) (pc' := 279) rfl (v := 60) (by decide) ?_
  refine g_newa ok (N := 60) (dk m_Mo_init 132 rfl) (pc' := 281) rfl rfl (Or.inl ⟨rfl, rfl⟩) (show 60 * 4 ≤ 536870912 by decide) (rc' := (mc - 33)) (rs' := (ms - 37372)) (by omega) (by omega) (fun a37 hn37 hb37 => ?_)
  refine g_gen (fun z e => ?_)
  have I := I.new (k := 37) hn37 e
  clear e hn37 hb37
  refine g_put ok (dk m_Mo_init 133 rfl) (pc' := 284) rfl f_Mo_107 (Or.inr rfl) I.1 (Nat.le_of_ble_eq_true rfl) rfl rfl ?_
  refine g_gen (fun z e => ?_)
  have I := I.put (fl' := [.int 0, .int 0, .ref a2, .ref a3, .ref a4, .ref a5, .ref a6, .int 0, .ref a8, .ref a9, .ref a10, .ref a11, .int 0, .ref a13, .ref a14, .ref a15, .ref a16, .ref a17, .ref a18, .ref a19, .ref a20, .ref a21, .ref a22, .ref a23, .ref a24, .ref a25, .ref a26, .ref a27, .ref a28, .ref a29, .ref a30, .ref a31, .ref a32, .ref a33, .ref a34, .int 0, .ref a36, .ref a37, .null, .null, .null, .null, .int 0, .null, .null, .null, .int 0, .null, .int 0, .null, .null, .null]) e
  clear e
  refine g_aload_n ok (dk m_Mo_init 134 rfl) (pc' := 285) rfl (i := 0) rfl rfl ?_
  refine g_bipush ok (dk m_Mo_init 135 rfl) (pc' := 287) rfl (v := 60) (by decide) ?_
  refine g_newa ok (N := 60) (dk m_Mo_init 136 rfl) (pc' := 289) rfl rfl (Or.inl ⟨rfl, rfl⟩) (show 60 * 4 ≤ 536870912 by decide) (rc' := (mc - 34)) (rs' := (ms - 37432)) (by omega) (by omega) (fun a38 hn38 hb38 => ?_)
  refine g_gen (fun z e => ?_)
  have I := I.new (k := 38) hn38 e
  clear e hn38 hb38
  refine g_put ok (dk m_Mo_init 137 rfl) (pc' := 292) rfl f_Mo_110 (Or.inr rfl) I.1 (Nat.le_of_ble_eq_true rfl) rfl rfl ?_
  refine g_gen (fun z e => ?_)
  have I := I.put (fl' := [.int 0, .int 0, .ref a2, .ref a3, .ref a4, .ref a5, .ref a6, .int 0, .ref a8, .ref a9, .ref a10, .ref a11, .int 0, .ref a13, .ref a14, .ref a15, .ref a16, .ref a17, .ref a18, .ref a19, .ref a20, .ref a21, .ref a22, .ref a23, .ref a24, .ref a25, .ref a26, .ref a27, .ref a28, .ref a29, .ref a30, .ref a31, .ref a32, .ref a33, .ref a34, .int 0, .ref a36, .ref a37, .ref a38, .null, .null, .null, .int 0, .null, .null, .null, .int 0, .null, .int 0, .null, .null, .null]) e
  clear e
  refine g_aload_n ok (dk m_Mo_init 138 rfl) (pc' := 293) rfl (i := 0) rfl rfl ?_
  refine g_bipush ok (dk m_Mo_init 139 rfl) (pc' := 295) rfl (v := 60) (by decide) ?_
  refine g_newa ok (N := 60) (dk m_Mo_init 140 rfl) (pc' := 297) rfl rfl (Or.inl ⟨rfl, rfl⟩) (show 60 * 4 ≤ 536870912 by decide) (rc' := (mc - 35)) (rs' := (ms - 37492)) (by omega) (by omega) (fun a39 hn39 hb39 => ?_)
  refine g_gen (fun z e => ?_)
  have I := I.new (k := 39) hn39 e
  clear e hn39 hb39
  refine g_put ok (dk m_Mo_init 141 rfl) (pc' := 300) rfl f_Mo_113 (Or.inr rfl) I.1 (Nat.le_of_ble_eq_true rfl) rfl rfl ?_
  refine g_gen (fun z e => ?_)
  have I := I.put (fl' := [.int 0, .int 0, .ref a2, .ref a3, .ref a4, .ref a5, .ref a6, .int 0, .ref a8, .ref a9, .ref a10, .ref a11, .int 0, .ref a13, .ref a14, .ref a15, .ref a16, .ref a17, .ref a18, .ref a19, .ref a20, .ref a21, .ref a22, .ref a23, .ref a24, .ref a25, .ref a26, .ref a27, .ref a28, .ref a29, .ref a30, .ref a31, .ref a32, .ref a33, .ref a34, .int 0, .ref a36, .ref a37, .ref a38, .ref a39, .null, .null, .int 0, .null, .null, .null, .int 0, .null, .int 0, .null, .null, .null]) e
  clear e
  refine g_aload_n ok (dk m_Mo_init 142 rfl) (pc' := 301) rfl (i := 0) rfl rfl ?_
  refine g_bipush ok (dk m_Mo_init 143 rfl) (pc' := 303) rfl (v := 60) (by decide) ?_
  refine g_newa ok (N := 60) (dk m_Mo_init 144 rfl) (pc' := 305) rfl rfl (Or.inl ⟨rfl, rfl⟩) (show 60 * 4 ≤ 536870912 by decide) (rc' := (mc - 36)) (rs' := (ms - 37552)) (by omega) (by omega) (fun a40 hn40 hb40 => ?_)
  refine g_gen (fun z e => ?_)
  have I := I.new (k := 40) hn40 e
  clear e hn40 hb40
  refine g_put ok (dk m_Mo_init 145 rfl) (pc' := 308) rfl f_Mo_116 (Or.inr rfl) I.1 (Nat.le_of_ble_eq_true rfl) rfl rfl ?_
  refine g_gen (fun z e => ?_)
  have I := I.put (fl' := [.int 0, .int 0, .ref a2, .ref a3, .ref a4, .ref a5, .ref a6, .int 0, .ref a8, .ref a9, .ref a10, .ref a11, .int 0, .ref a13, .ref a14, .ref a15, .ref a16, .ref a17, .ref a18, .ref a19, .ref a20, .ref a21, .ref a22, .ref a23, .ref a24, .ref a25, .ref a26, .ref a27, .ref a28, .ref a29, .ref a30, .ref a31, .ref a32, .ref a33, .ref a34, .int 0, .ref a36, .ref a37, .ref a38, .ref a39, .ref a40, .null, .int 0, .null, .null, .null, .int 0, .null, .int 0, .null, .null, .null]) e
  clear e
  refine g_aload_n ok (dk m_Mo_init 146 rfl) (pc' := 309) rfl (i := 0) rfl rfl ?_
  refine g_bipush ok (dk m_Mo_init 147 rfl) (pc' := 311) rfl (v := 60) (by decide) ?_
  refine g_newa ok (N := 60) (dk m_Mo_init 148 rfl) (pc' := 313) rfl rfl (Or.inr ⟨rfl, rfl⟩) (show 60 * 4 ≤ 536870912 by decide) (rc' := (mc - 37)) (rs' := (ms - 37612)) (by omega) (by omega) (fun a41 hn41 hb41 => ?_)
  refine g_gen (fun z e => ?_)
  have I := I.new (k := 41) hn41 e
  clear e hn41 hb41
  refine g_put ok (dk m_Mo_init 149 rfl) (pc' := 316) rfl f_Mo_119 (Or.inr rfl) I.1 (Nat.le_of_ble_eq_true rfl) rfl rfl ?_
  refine g_gen (fun z e => ?_)
  have I := I.put (fl' := [.int 0, .int 0, .ref a2, .ref a3, .ref a4, .ref a5, .ref a6, .int 0, .ref a8, .ref a9, .ref a10, .ref a11, .int 0, .ref a13, .ref a14, .ref a15, .ref a16, .ref a17, .ref a18, .ref a19, .ref a20, .ref a21, .ref a22, .ref a23, .ref a24, .ref a25, .ref a26, .ref a27, .ref a28, .ref a29, .ref a30, .ref a31, .ref a32, .ref a33, .ref a34, .int 0, .ref a36, .ref a37, .ref a38, .ref a39, .ref a40, .ref a41, .int 0, .null, .null, .null, .int 0, .null, .int 0, .null, .null, .null]) e
  clear e
  refine g_aload_n ok (dk m_Mo_init 150 rfl) (pc' := 317) rfl (i := 0) rfl rfl ?_
  refine g_bipush ok (dk m_Mo_init 151 rfl) (pc' := 319) rfl (v := 20) (by decide) ?_
  refine g_newa ok (N := 20) (dk m_Mo_init 152 rfl) (pc' := 321) rfl rfl (Or.inl ⟨rfl, rfl⟩) (show 20 * 4 ≤ 536870912 by decide) (rc' := (mc - 38)) (rs' := (ms - 37632)) (by omega) (by omega) (fun a43 hn43 hb43 => ?_)
  refine g_gen (fun z e => ?_)
  have I := I.new (k := 43) hn43 e
  clear e hn43 hb43
  refine g_put ok (dk m_Mo_init 153 rfl) (pc' := 324) rfl f_Mo_122 (Or.inr rfl) I.1 (Nat.le_of_ble_eq_true rfl) rfl rfl ?_
  refine g_gen (fun z e => ?_)
  have I := I.put (fl' := [.int 0, .int 0, .ref a2, .ref a3, .ref a4, .ref a5, .ref a6, .int 0, .ref a8, .ref a9, .ref a10, .ref a11, .int 0, .ref a13, .ref a14, .ref a15, .ref a16, .ref a17, .ref a18, .ref a19, .ref a20, .ref a21, .ref a22, .ref a23, .ref a24, .ref a25, .ref a26, .ref a27, .ref a28, .ref a29, .ref a30, .ref a31, .ref a32, .ref a33, .ref a34, .int 0, .ref a36, .ref a37, .ref a38, .ref a39, .ref a40, .ref a41, .int 0, .ref a43, .null, .null, .int 0, .null, .int 0, .null, .null, .null]) e
  clear e
  refine g_aload_n ok (dk m_Mo_init 154 rfl) (pc' := 325) rfl (i := 0) rfl rfl ?_
  refine g_bipush ok (dk m_Mo_init 155 rfl) (pc' := 327) rfl (v := 20) (by decide) ?_
  refine g_newa ok (N := 20) (dk m_Mo_init 156 rfl) (pc' := 329) rfl rfl (Or.inl ⟨rfl, rfl⟩) (show 20 * 4 ≤ 536870912 by decide) (rc' := (mc - 39)) (rs' := (ms - 37652)) (by omega) (by omega) (fun a44 hn44 hb44 => ?_)
  refine g_gen (fun z e => ?_)
  have I := I.new (k := 44) hn44 e
  clear e hn44 hb44
  refine g_put ok (dk m_Mo_init 157 rfl) (pc' := 332) rfl f_Mo_125 (Or.inr rfl) I.1 (Nat.le_of_ble_eq_true rfl) rfl rfl ?_
  refine g_gen (fun z e => ?_)
  have I := I.put (fl' := [.int 0, .int 0, .ref a2, .ref a3, .ref a4, .ref a5, .ref a6, .int 0, .ref a8, .ref a9, .ref a10, .ref a11, .int 0, .ref a13, .ref a14, .ref a15, .ref a16, .ref a17, .ref a18, .ref a19, .ref a20, .ref a21, .ref a22, .ref a23, .ref a24, .ref a25, .ref a26, .ref a27, .ref a28, .ref a29, .ref a30, .ref a31, .ref a32, .ref a33, .ref a34, .int 0, .ref a36, .ref a37, .ref a38, .ref a39, .ref a40, .ref a41, .int 0, .ref a43, .ref a44, .null, .int 0, .null, .int 0, .null, .null, .null]) e
  clear e
  refine g_aload_n ok (dk m_Mo_init 158 rfl) (pc' := 333) rfl (i := 0) rfl rfl ?_
  refine g_bipush ok (dk m_Mo_init 159 rfl) (pc' := 335) rfl (v := 20) (by decide) ?_
  refine g_newa ok (N := 20) (dk m_Mo_init 160 rfl) (pc' := 337) rfl rfl (Or.inl ⟨rfl, rfl⟩) (show 20 * 4 ≤ 536870912 by decide) (rc' := (mc - 40)) (rs' := (ms - 37672)) (by omega) (by omega) (fun a45 hn45 hb45 => ?_)
  refine g_gen (fun z e => ?_)
  have I := I.new (k := 45) hn45 e
  clear e hn45 hb45
  refine g_put ok (dk m_Mo_init 161 rfl) (pc' := 340) rfl f_Mo_128 (Or.inr rfl) I.1 (Nat.le_of_ble_eq_true rfl) rfl rfl ?_
  refine g_gen (fun z e => ?_)
  have I := I.put (fl' := [.int 0, .int 0, .ref a2, .ref a3, .ref a4, .ref a5, .ref a6, .int 0, .ref a8, .ref a9, .ref a10, .ref a11, .int 0, .ref a13, .ref a14, .ref a15, .ref a16, .ref a17, .ref a18, .ref a19, .ref a20, .ref a21, .ref a22, .ref a23, .ref a24, .ref a25, .ref a26, .ref a27, .ref a28, .ref a29, .ref a30, .ref a31, .ref a32, .ref a33, .ref a34, .int 0, .ref a36, .ref a37, .ref a38, .ref a39, .ref a40, .ref a41, .int 0, .ref a43, .ref a44, .ref a45, .int 0, .null, .int 0, .null, .null, .null]) e
  clear e
  refine g_aload_n ok (dk m_Mo_init 162 rfl) (pc' := 341) rfl (i := 0) rfl rfl ?_
  refine g_sipush ok (dk m_Mo_init 163 rfl) (pc' := 344) rfl (v := 256) (by decide) ?_
  refine g_newa ok (N := 256) (dk m_Mo_init 164 rfl) (pc' := 346) rfl rfl (Or.inl ⟨rfl, rfl⟩) (show 256 * 4 ≤ 536870912 by decide) (rc' := (mc - 41)) (rs' := (ms - 37928)) (by omega) (by omega) (fun a47 hn47 hb47 => ?_)
  refine g_gen (fun z e => ?_)
  have I := I.new (k := 47) hn47 e
  clear e hn47 hb47
  refine g_put ok (dk m_Mo_init 165 rfl) (pc' := 349) rfl f_Mo_131 (Or.inr rfl) I.1 (Nat.le_of_ble_eq_true rfl) rfl rfl ?_
  refine g_gen (fun z e => ?_)
  have I := I.put (fl' := [.int 0, .int 0, .ref a2, .ref a3, .ref a4, .ref a5, .ref a6, .int 0, .ref a8, .ref a9, .ref a10, .ref a11, .int 0, .ref a13, .ref a14, .ref a15, .ref a16, .ref a17, .ref a18, .ref a19, .ref a20, .ref a21, .ref a22, .ref a23, .ref a24, .ref a25, .ref a26, .ref a27, .ref a28, .ref a29, .ref a30, .ref a31, .ref a32, .ref a33, .ref a34, .int 0, .ref a36, .ref a37, .ref a38, .ref a39, .ref a40, .ref a41, .int 0, .ref a43, .ref a44, .ref a45, .int 0, .ref a47, .int 0, .null, .null, .null]) e
  clear e
  refine g_aload_n ok (dk m_Mo_init 166 rfl) (pc' := 350) rfl (i := 0) rfl rfl ?_
  refine g_bipush ok (dk m_Mo_init 167 rfl) (pc' := 352) rfl (v := 32) (by decide) ?_
  refine g_newa ok (N := 32) (dk m_Mo_init 168 rfl) (pc' := 354) rfl rfl (Or.inl ⟨rfl, rfl⟩) (show 32 * 4 ≤ 536870912 by decide) (rc' := (mc - 42)) (rs' := (ms - 37960)) (by omega) (by omega) (fun a49 hn49 hb49 => ?_)
  refine g_gen (fun z e => ?_)
  have I := I.new (k := 49) hn49 e
  clear e hn49 hb49
  refine g_put ok (dk m_Mo_init 169 rfl) (pc' := 357) rfl f_Mo_134 (Or.inr rfl) I.1 (Nat.le_of_ble_eq_true rfl) rfl rfl ?_
  refine g_gen (fun z e => ?_)
  have I := I.put (fl' := [.int 0, .int 0, .ref a2, .ref a3, .ref a4, .ref a5, .ref a6, .int 0, .ref a8, .ref a9, .ref a10, .ref a11, .int 0, .ref a13, .ref a14, .ref a15, .ref a16, .ref a17, .ref a18, .ref a19, .ref a20, .ref a21, .ref a22, .ref a23, .ref a24, .ref a25, .ref a26, .ref a27, .ref a28, .ref a29, .ref a30, .ref a31, .ref a32, .ref a33, .ref a34, .int 0, .ref a36, .ref a37, .ref a38, .ref a39, .ref a40, .ref a41, .int 0, .ref a43, .ref a44, .ref a45, .int 0, .ref a47, .int 0, .ref a49, .null, .null]) e
  clear e
  refine g_aload_n ok (dk m_Mo_init 170 rfl) (pc' := 358) rfl (i := 0) rfl rfl ?_
  refine g_bipush ok (dk m_Mo_init 171 rfl) (pc' := 360) rfl (v := 32) (by decide) ?_
  refine g_newa ok (N := 32) (dk m_Mo_init 172 rfl) (pc' := 362) rfl rfl (Or.inl ⟨rfl, rfl⟩) (show 32 * 4 ≤ 536870912 by decide) (rc' := (mc - 43)) (rs' := (ms - 37992)) (by omega) (by omega) (fun a50 hn50 hb50 => ?_)
  refine g_gen (fun z e => ?_)
  have I := I.new (k := 50) hn50 e
  clear e hn50 hb50
  refine g_put ok (dk m_Mo_init 173 rfl) (pc' := 365) rfl f_Mo_137 (Or.inr rfl) I.1 (Nat.le_of_ble_eq_true rfl) rfl rfl ?_
  refine g_gen (fun z e => ?_)
  have I := I.put (fl' := [.int 0, .int 0, .ref a2, .ref a3, .ref a4, .ref a5, .ref a6, .int 0, .ref a8, .ref a9, .ref a10, .ref a11, .int 0, .ref a13, .ref a14, .ref a15, .ref a16, .ref a17, .ref a18, .ref a19, .ref a20, .ref a21, .ref a22, .ref a23, .ref a24, .ref a25, .ref a26, .ref a27, .ref a28, .ref a29, .ref a30, .ref a31, .ref a32, .ref a33, .ref a34, .int 0, .ref a36, .ref a37, .ref a38, .ref a39, .ref a40, .ref a41, .int 0, .ref a43, .ref a44, .ref a45, .int 0, .ref a47, .int 0, .ref a49, .ref a50, .null]) e
  clear e
  refine g_aload_n ok (dk m_Mo_init 174 rfl) (pc' := 366) rfl (i := 0) rfl rfl ?_
  refine g_bipush ok (dk m_Mo_init 175 rfl) (pc' := 368) rfl (v := 16) (by decide) ?_
  refine g_newa ok (N := 16) (dk m_Mo_init 176 rfl) (pc' := 370) rfl rfl (Or.inl ⟨rfl, rfl⟩) (show 16 * 4 ≤ 536870912 by decide) (rc' := (mc - 44)) (rs' := (ms - 38008)) (by omega) (by omega) (fun a51 hn51 hb51 => ?_)
  refine g_gen (fun z e => ?_)
  have I := I.new (k := 51) hn51 e
  clear e hn51 hb51
  refine g_put ok (dk m_Mo_init 177 rfl) (pc' := 373) rfl f_Mo_140 (Or.inr rfl) I.1 (Nat.le_of_ble_eq_true rfl) rfl rfl ?_
  refine g_gen (fun z e => ?_)
  have I := I.put (fl' := [.int 0, .int 0, .ref a2, .ref a3, .ref a4, .ref a5, .ref a6, .int 0, .ref a8, .ref a9, .ref a10, .ref a11, .int 0, .ref a13, .ref a14, .ref a15, .ref a16, .ref a17, .ref a18, .ref a19, .ref a20, .ref a21, .ref a22, .ref a23, .ref a24, .ref a25, .ref a26, .ref a27, .ref a28, .ref a29, .ref a30, .ref a31, .ref a32, .ref a33, .ref a34, .int 0, .ref a36, .ref a37, .ref a38, .ref a39, .ref a40, .ref a41, .int 0, .ref a43, .ref a44, .ref a45, .int 0, .ref a47, .int 0, .ref a49, .ref a50, .ref a51]) e
  clear e
  exact tail _ (fun k => match k with
    | 2 => a2
    | 3 => a3
    | 4 => a4
    | 5 => a5
    | 6 => a6
    | 8 => a8
    | 9 => a9
    | 10 => a10
    | 11 => a11
    | 13 => a13
    | 14 => a14
    | 15 => a15
    | 16 => a16
    | 17 => a17
    | 18 => a18
    | 19 => a19
    | 20 => a20
    | 21 => a21
    | 22 => a22
    | 23 => a23
    | 24 => a24
    | 25 => a25
    | 26 => a26
    | 27 => a27
    | 28 => a28
    | 29 => a29
    | 30 => a30
    | 31 => a31
    | 32 => a32
    | 33 => a33
    | 34 => a34
    | 36 => a36
    | 37 => a37
    | 38 => a38
    | 39 => a39
    | 40 => a40
    | 41 => a41
    | 43 => a43
    | 44 => a44
    | 45 => a45
    | 47 => a47
    | 49 => a49
    | 50 => a50
    | 51 => a51
    | _ => 0) (q_MI.fin I (fun k hk => by
    rcases mo_ar_or hk with rfl | rfl | rfl | rfl | rfl | rfl | rfl | rfl | rfl | rfl | rfl | rfl | rfl | rfl | rfl | rfl | rfl | rfl | rfl | rfl | rfl | rfl | rfl | rfl | rfl | rfl | rfl | rfl | rfl | rfl | rfl | rfl | rfl | rfl | rfl | rfl | rfl | rfl | rfl | rfl | rfl | rfl | rfl | rfl <;> rfl)) (by omega) (by omega)
