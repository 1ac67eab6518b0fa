/-! ===== the reference: one view of all of it ===== -/
abbrev x_T : Type := (Nat → Int32) × (Nat → Nat → Int32)
def mo_len : Nat → Nat := fun k => match k with
  | 2 => 2600
  | 3 => 2600
  | 4 => 2600
  | 5 => 2600
  | 6 => 2600
  | 8 => 3600
  | 9 => 3600
  | 10 => 3600
  | 11 => 3600
  | 13 => 60
  | 14 => 60
  | 15 => 60
  | 16 => 60
  | 17 => 60
  | 18 => 60
  | 19 => 60
  | 20 => 60
  | 21 => 60
  | 22 => 1860
  | 23 => 1860
  | 24 => 1860
  | 25 => 1860
  | 26 => 960
  | 27 => 16
  | 28 => 16
  | 29 => 16
  | 30 => 16
  | 31 => 16
  | 32 => 16
  | 33 => 496
  | 34 => 320
  | 36 => 60
  | 37 => 60
  | 38 => 60
  | 39 => 60
  | 40 => 60
  | 41 => 60
  | 43 => 20
  | 44 => 20
  | 45 => 20
  | 47 => 256
  | 49 => 32
  | 50 => 32
  | 51 => 16
  | _ => 0
def mo_kd : Nat → Nat := fun k => match k with
  | 5 => 1
  | 6 => 1
  | 21 => 1
  | 32 => 1
  | 41 => 1
  | _ => 0
def mo_ar : Nat → Bool := fun k => match k with
  | 2 => true
  | 3 => true
  | 4 => true
  | 5 => true
  | 6 => true
  | 8 => true
  | 9 => true
  | 10 => true
  | 11 => true
  | 13 => true
  | 14 => true
  | 15 => true
  | 16 => true
  | 17 => true
  | 18 => true
  | 19 => true
  | 20 => true
  | 21 => true
  | 22 => true
  | 23 => true
  | 24 => true
  | 25 => true
  | 26 => true
  | 27 => true
  | 28 => true
  | 29 => true
  | 30 => true
  | 31 => true
  | 32 => true
  | 33 => true
  | 34 => true
  | 36 => true
  | 37 => true
  | 38 => true
  | 39 => true
  | 40 => true
  | 41 => true
  | 43 => true
  | 44 => true
  | 45 => true
  | 47 => true
  | 49 => true
  | 50 => true
  | 51 => true
  | _ => false
abbrev mo_fs (ba : Nat → Nat) (I : Nat → Int32) : List Value := [.int (I 0), .int (I 1), .ref (ba 2), .ref (ba 3), .ref (ba 4), .ref (ba 5), .ref (ba 6), .int (I 7), .ref (ba 8), .ref (ba 9), .ref (ba 10), .ref (ba 11), .int (I 12), .ref (ba 13), .ref (ba 14), .ref (ba 15), .ref (ba 16), .ref (ba 17), .ref (ba 18), .ref (ba 19), .ref (ba 20), .ref (ba 21), .ref (ba 22), .ref (ba 23), .ref (ba 24), .ref (ba 25), .ref (ba 26), .ref (ba 27), .ref (ba 28), .ref (ba 29), .ref (ba 30), .ref (ba 31), .ref (ba 32), .ref (ba 33), .ref (ba 34), .int (I 35), .ref (ba 36), .ref (ba 37), .ref (ba 38), .ref (ba 39), .ref (ba 40), .ref (ba 41), .int (I 42), .ref (ba 43), .ref (ba 44), .ref (ba 45), .int (I 46), .ref (ba 47), .int (I 48), .ref (ba 49), .ref (ba 50), .ref (ba 51)]
def q_mo (h : q_H) (o : Nat) (ba : Nat → Nat) (X : x_T) : Prop := h o = some (.inl (11, mo_fs ba X.1)) ∧ (∀ k, mo_ar k = true → h (ba k) = some (.inr (mo_kd k, mo_len k, .inl (X.2 k)))) ∧ ∀ i j, mo_ar i = true → mo_ar j = true → ba i = ba j → i = j
abbrev xs (X : x_T) (k j : Nat) (v : Int32) : x_T := (X.1, va_up X.2 k (upd (X.2 k) j v))
abbrev xi (X : x_T) (k : Nat) (v : Int32) : x_T := (upd X.1 k v, X.2)
theorem q_mo.ar {h : q_H} {o : Nat} {ba : Nat → Nat} {X : x_T} (H : q_mo h o ba X) (k : Nat) (hk : mo_ar k = true) : h (ba k) = some (.inr (mo_kd k, mo_len k, .inl (X.2 k))) := H.2.1 k hk
theorem q_mo.ast {h h' : q_H} {o : Nat} {ba : Nat → Nat} {X : x_T} (H : q_mo h o ba X) (k : Nat) (hk : mo_ar k = true) {j : Nat} {v : Int32} (e : h' = q_up h (ba k) (.inr (mo_kd k, mo_len k, .inl (upd (X.2 k) j v)))) : q_mo h' o ba (xs X k j v) := by
  obtain ⟨h1, h2, h3⟩ := H
  refine ⟨?_, fun i hi => ?_, h3⟩
  · rw [e, q_up_n (q_oa h1 (h2 k hk))]
    exact h1
  · by_cases z : i = k
    · subst z
      rw [e, q_up_s, show (xs X i j v).2 i = upd (X.2 i) j v from if_pos rfl]
    · rw [e, q_up_n (fun q => z (h3 i k hi hk q)), show (xs X k j v).2 i = X.2 i from if_neg z]
      exact h2 i hi
theorem q_mo.ipt {h h' : q_H} {o : Nat} {ba : Nat → Nat} {X : x_T} (H : q_mo h o ba X) (k : Nat) (hk : k = 0 ∨ k = 1 ∨ k = 7 ∨ k = 12 ∨ k = 35 ∨ k = 42 ∨ k = 46 ∨ k = 48) {v : Int32} (e : h' = q_up h o (.inl (11, (mo_fs ba X.1).set k (.int v)))) : q_mo h' o ba (xi X k v) := by
  obtain ⟨h1, h2, h3⟩ := H
  refine ⟨?_, fun i hi => ?_, h3⟩
  · rw [e, q_up_s]
    rcases hk with rfl | rfl | rfl | rfl | rfl | rfl | rfl | rfl <;> rfl
  · rw [e, q_up_n (q_oa h1 (h2 i hi)).symm]
    exact h2 i hi
section
variable {g : q_G} {Z : q_Z} {A : Nat → Prop} {post : q_R → q_H → Prop} {rc rs : Nat} {h : q_H} {pc pc' : Nat} {ls : List (Option Value)} {st : List Value} {own name : String} {cc : ByteArray} {nL d : Nat} {ret : Option FieldType}
theorem g_ialdI (ok : q_ok g Z A own name cc nL ret d) {a N j : Nat} {f : Nat → Int32} {i : Int32} (hd : decode cc pc = .ok (.iaload, 1)) (hp : pc + 1 = pc') (ha : h a = some (.inr (0, N, .inl f))) (hi : i = nI j) (hj : j < N) (hN : N < 2 ^ 31) (kk : GW g Z A post rc rs h pc' ls (.int (f j) :: st)) : GW g Z A post rc rs h pc ls (.int i :: .ref a :: st) := by
  subst hi
  exact g_iald ok hd hp ha hj hN kk
theorem g_zaldI (ok : q_ok g Z A own name cc nL ret d) {a N j : Nat} {f : Nat → Int32} {i : Int32} (hd : decode cc pc = .ok (.baload, 1)) (hp : pc + 1 = pc') (ha : h a = some (.inr (1, N, .inl f))) (hi : i = nI j) (hj : j < N) (hN : N < 2 ^ 31) (kk : GW g Z A post rc rs h pc' ls (.int (f j) :: st)) : GW g Z A post rc rs h pc ls (.int i :: .ref a :: st) := by
  subst hi
  exact g_zald ok hd hp ha hj hN kk
theorem g_iastI (ok : q_ok g Z A own name cc nL ret d) {a N j : Nat} {f : Nat → Int32} {x i : Int32} (hd : decode cc pc = .ok (.iastore, 1)) (hp : pc + 1 = pc') (ha : h a = some (.inr (0, N, .inl f))) (hi : i = nI j) (hj : j < N) (hN : N < 2 ^ 31) (kk : ∀ h', h' = q_up h a (.inr (0, N, .inl (upd f j x))) → GW g Z A post rc rs h' pc' ls st) : GW g Z A post rc rs h pc ls (.int x :: .int i :: .ref a :: st) := by
  subst hi
  exact g_iast ok hd hp ha hj hN (kk _ rfl)
theorem g_zastI (ok : q_ok g Z A own name cc nL ret d) {a N j : Nat} {f : Nat → Int32} {x i : Int32} (hd : decode cc pc = .ok (.bastore, 1)) (hp : pc + 1 = pc') (ha : h a = some (.inr (1, N, .inl f))) (hi : i = nI j) (hj : j < N) (hN : N < 2 ^ 31) (hx01 : narrow .boolean (.int x) = .int x) (kk : ∀ h', h' = q_up h a (.inr (1, N, .inl (upd f j x))) → GW g Z A post rc rs h' pc' ls st) : GW g Z A post rc rs h pc ls (.int x :: .int i :: .ref a :: st) := by
  subst hi
  exact g_zast ok hd hp ha hj hN hx01 (kk _ rfl)
end
theorem nI_m (a b : Nat) : nI a * nI b = nI (a * b) := (Int32.ofNat_mul a b).symm
theorem ix31 (e v : Nat) : (31 : Int32) * nI e + nI v = nI (31 * e + v) := by
  rw [show (31 : Int32) = nI 31 from rfl, nI_m, nI_add]
theorem ix16 (e v : Nat) : (16 : Int32) * nI e + nI v = nI (16 * e + v) := by
  rw [show (16 : Int32) = nI 16 from rfl, nI_m, nI_add]
theorem ix20 (e v : Nat) : (20 : Int32) * nI e + nI v = nI (20 * e + v) := by
  rw [show (20 : Int32) = nI 20 from rfl, nI_m, nI_add]
theorem ix2 (l : Nat) : (2 : Int32) * nI l = nI (2 * l) := by
  rw [show (2 : Int32) = nI 2 from rfl, nI_m]
