/-! ===== the reference: renew, what is pure of it ===== -/
theorem xcs {K : List Nat} {Y X : x_T} (a : xfr K Y X) (k j : Nat) (v : Int32) (hk : k ∉ K) : xfr K (xs Y k j v) (xs X k j v) := fun i hi => ⟨(a i hi).1, by
  by_cases e : i = k
  · subst e
    show va_up X.2 i (upd (X.2 i) j v) i = va_up Y.2 i (upd (Y.2 i) j v) i
    rw [show va_up X.2 i (upd (X.2 i) j v) i = upd (X.2 i) j v from if_pos rfl, show va_up Y.2 i (upd (Y.2 i) j v) i = upd (Y.2 i) j v from if_pos rfl, (a i hk).2]
  · rw [xs_k e, xs_k e]
    exact (a i hi).2⟩
theorem xci {K : List Nat} {Y X : x_T} (a : xfr K Y X) (k : Nat) (v : Int32) : xfr K (xi Y k v) (xi X k v) := fun i hi => ⟨by
  by_cases e : i = k
  · subst e
    exact (if_pos rfl).trans (if_pos rfl).symm
  · exact (if_neg e).trans ((a i hi).1.trans (if_neg e).symm), (a i hi).2⟩
theorem xcmk {Y X : x_T} (a : xfr rs_K Y X) (n : Nat) (kd x y : Int32) : xfr rs_K (mk Y n kd x y) (mk X n kd x y) := xci (xcs (xcs (xcs a 2 _ _ (by decide)) 3 _ _ (by decide)) 4 _ _ (by decide)) 1 _
theorem xcbl {Y X : x_T} (a : xfr rs_K Y X) (e v : Nat) : xfr rs_K (mo_bl Y e v) (mo_bl X e v) := xcs (xcs a 22 _ _ (by decide)) 23 _ _ (by decide)
theorem xcset {Y X : x_T} (a : xfr rs_K Y X) (e v : Nat) (x : Int32) : xfr rs_K (mo_set Y e v x) (mo_set X e v x) := xcs (xcs (xcs a 22 _ _ (by decide)) 23 _ _ (by decide)) 24 _ _ (by decide)
theorem xcenc {Y X : x_T} (a : xfr rs_K Y X) (c e : Nat) (x y z : Int32) : xfr rs_K (mo_enc Y c e x y z) (mo_enc X c e x y z) := by
  have q := xcs (xci (xcs (xcs (xcs (xcs a 8 c x (by decide)) 9 c y (by decide)) 10 c (nI e) (by decide)) 11 c z (by decide)) 7 (nI (c + 1))) 20 e (X.2 20 e + 1) (by decide)
  have h20 : X.2 20 e = Y.2 20 e := congrFun (a 20 (by decide)).2 e
  rw [h20] at q
  show xfr rs_K _ (xs (xi (xs (xs (xs (xs X 8 c x) 9 c y) 10 c (nI e)) 11 c z) 7 (nI (c + 1))) 20 e (X.2 20 e + 1))
  rw [h20]
  exact q
/-- the leaves that a node names lie below it -/
def uk (f : Nat → Int32) (e : Nat) : Prop := ∀ v, v < 31 → ∀ l, l < 16 → ¬ bit (f (31 * e + v)) l = 0 → l / 2 ^ hgt v = v / 2 ^ (hgt v + 1)
theorem bit_0 : ∀ l, l < 16 → bit 0 l = 0 := by decide +kernel
theorem uk.put {f : Nat → Int32} {e : Nat} (h : uk f e) (v : Nat) : uk (upd f (31 * e + v) 0) e := fun w hw l hl hb => by
  by_cases z : 31 * e + w = 31 * e + v
  · rw [z, upd_s] at hb
    exact absurd (bit_0 l hl) hb
  · rw [upd_n z] at hb
    exact h w hw l hl hb
def cQ (t a : Nat) : Nat → Nat → Nat
  | 0, _ => 0
  | m + 1, l => (if l / 2 ^ t = a then 1 else 0) + cQ t a m (l + 1)
theorem cQ_le : ∀ t, t < 5 → ∀ a, a < 16 → cQ t a 16 0 ≤ 2 ^ t := by decide +kernel
theorem um_len {b : Int32} {t a : Nat} : ∀ (m l : Nat), l + m ≤ 16 → (∀ i, i < 16 → ¬ bit b i = 0 → i / 2 ^ t = a) → (um_m b m l).length ≤ cQ t a m l := by
  intro m
  induction m with
  | zero => intro l hl h; exact Nat.le_refl _
  | succ m ih =>
    intro l hl h
    rw [um_m, cQ, List.length_append]
    have q := ih (l + 1) (by omega) h
    by_cases z : bit b l = 0
    · rw [if_pos z]
      show 0 + _ ≤ _
      omega
    · rw [if_neg z, if_pos (h l (by omega) z)]
      show 1 + _ ≤ _
      omega
theorem half_lt : ∀ v, v < 31 → v / 2 ^ (hgt v + 1) < 16 := by decide +kernel
def fB (t : Nat) : Nat := if t = 0 then 1 else if t = 1 then 3 else if t = 2 then 6 else if t = 3 then 12 else 24
theorem rs_k_len {X : x_T} {e t v : Nat} (hu : uk (X.2 23) e) (hv : v < 31) (ht : hgt v = t) (ht4 : t ≤ 4) : (rs_k X e t v).length ≤ fB t := by
  rw [rs_k]
  by_cases z : t = 0
  · subst z
    rw [if_pos rfl]
    exact Nat.le_refl _
  · rw [if_neg z]
    have q := um_len (b := X.2 23 (31 * e + v)) (t := t) (a := v / 2 ^ (t + 1)) 16 0 (by omega) (fun i hi hb => by rw [← ht]; exact hu v hv i hi hb)
    have q2 := cQ_le t (by omega) (v / 2 ^ (t + 1)) (by rw [← ht]; exact half_lt v hv)
    rw [List.length_cons]
    have q3 : 2 ^ t + 1 ≤ fB t := by
      rcases (show t = 1 ∨ t = 2 ∨ t = 3 ∨ t = 4 by omega) with rfl | rfl | rfl | rfl <;> decide
    omega
theorem rsl_len {X : x_T} {e : Nat} (hu : uk (X.2 23) e) : ∀ (t v : Nat), t ≤ 4 → v < 31 → hgt v = t → (rsl X e t v).length ≤ fB t := by
  intro t
  induction t with
  | zero =>
    intro v h4 hv ht
    rw [rsl]
    split
    · exact Nat.zero_le _
    · exact rs_k_len hu hv ht h4
  | succ t ih =>
    intro v h4 hv ht
    rw [rsl]
    split
    · obtain ⟨k1, k2, k3, k4⟩ := kid_ok v hv t (by omega) ht
      have q1 := ih (v + 2 ^ t) (by omega) k2 k3
      have q2 := ih (v - 2 ^ t) (by omega) (Nat.lt_of_le_of_lt (Nat.sub_le _ _) hv) k4
      rw [List.length_append]
      have q3 : fB t + fB t ≤ fB (t + 1) := by
        rcases (show t = 0 ∨ t = 1 ∨ t = 2 ∨ t = 3 by omega) with rfl | rfl | rfl | rfl <;> decide
      omega
    · exact rs_k_len hu hv ht h4
theorem um_lt {b : Int32} : ∀ (m l : Nat), l + m ≤ 16 → ∀ r, r ∈ um_m b m l → r < 31 := by
  intro m
  induction m with
  | zero => intro l hl r hr; cases hr
  | succ m ih =>
    intro l hl r hr
    rw [um_m] at hr
    rcases List.mem_append.mp hr with z | z
    · split at z
      · cases z
      · rw [List.mem_singleton] at z
        omega
    · exact ih (l + 1) (by omega) r z
theorem rsl_lt {X : x_T} {e : Nat} : ∀ (t v : Nat), t ≤ 4 → v < 31 → hgt v = t → ∀ r, r ∈ rsl X e t v → r < 31 := by
  have K : ∀ t v, v < 31 → ∀ r, r ∈ rs_k X e t v → r < 31 := fun t v hv r hr => by
    rw [rs_k] at hr
    rcases List.mem_cons.mp hr with z | z
    · omega
    · split at z
      · cases z
      · exact um_lt 16 0 (by omega) r z
  intro t
  induction t with
  | zero =>
    intro v h4 hv ht r hr
    rw [rsl] at hr
    split at hr
    · cases hr
    · exact K _ _ hv r hr
  | succ t ih =>
    intro v h4 hv ht r hr
    rw [rsl] at hr
    split at hr
    · obtain ⟨k1, k2, k3, k4⟩ := kid_ok v hv t (by omega) ht
      rcases List.mem_append.mp hr with z | z
      · exact ih (v + 2 ^ t) (by omega) k2 k3 r z
      · exact ih (v - 2 ^ t) (by omega) (Nat.lt_of_le_of_lt (Nat.sub_le _ _) hv) k4 r z
    · exact K _ _ hv r hr
theorem rsl_cg {X Y : x_T} {e : Nat} (h22 : Y.2 22 = X.2 22) (h23 : Y.2 23 = X.2 23) : ∀ (t v : Nat), rsl Y e t v = rsl X e t v := by
  intro t
  induction t with
  | zero => intro v; rw [rsl, rsl, rs_k, rs_k, h22, h23]
  | succ t ih => intro v; rw [rsl, rsl, rs_k, rs_k, h22, h23, ih, ih]
abbrev sib (l t : Nat) : Nat := abv (l ^^^ 2 ^ (t - 1)) (t - 1)
theorem sib_ok : ∀ l, l < 16 → ∀ t, t < 5 → 1 ≤ t → l ^^^ 2 ^ (t - 1) < 16 ∧ nI l ^^^ nI (2 ^ (t - 1)) = nI (l ^^^ 2 ^ (t - 1)) ∧ hgt (sib l t) = t - 1 ∧ sib l t < 31 := by decide +kernel
/-- no secret comes of a later one -/
def WF (X : x_T) (n : Nat) : Prop := ∀ k, k < n → ∃ f, X.2 3 k = nI f ∧ (f < k ∨ f = 0)
theorem WF_mk {X : x_T} {n f : Nat} (h : WF X n) (kd y : Int32) (hf : f < n ∨ f = 0) : WF (mk X n kd (nI f) y) (n + 1) := fun k hk => by
  have e3 : (mk X n kd (nI f) y).2 3 = upd (X.2 3) n (nI f) := rfl
  rw [e3]
  by_cases z : k = n
  · rw [z, upd_s]
    exact ⟨f, rfl, hf⟩
  · rw [upd_n z]
    exact h k (by omega)
theorem WF_no {X : x_T} {n a : Nat} (h : WF X n) (ha : n ≤ a + 1) (ha0 : 1 ≤ a) (hn : n < 2 ^ 31) (ha2 : a < 2 ^ 31) (kd y : Int32) : ∀ k, k < n → ¬ (X.2 2 k = kd ∧ X.2 3 k = nI a ∧ X.2 4 k = y) := fun k hk z => by
  obtain ⟨f, hf, hlt⟩ := h k hk
  rw [hf] at z
  have q := (nI_eq (by omega) ha2).mp z.2.1
  omega
def rn_sk (Y : x_T) (e r : Nat) : Prop := r % 2 = 0 ∧ bit (Y.2 19 e) (r / 2) = 1
noncomputable def rn_e (e v : Nat) (la : Int32) : List Nat → x_T → x_T
  | [], Y => Y
  | r :: L, Y => by classical exact rn_e e v la L (if rn_sk Y e r then Y else mo_enc Y (ix (Y.1 7)) e (Y.2 22 (31 * e + r)) la (nI v))
noncomputable def mkl (Y : x_T) (la : Int32) : x_T := if la = -1 then mk Y (ix (Y.1 1)) 1 0 0 else mk Y (ix (Y.1 1)) 2 la 0
noncomputable def rn_y2 (e v : Nat) (Y : x_T) (la : Int32) : x_T := xs (xs (mkl Y la) 25 (31 * e + v) (Y.1 1)) 16 e (Y.2 16 e ||| ((1 : Int32) <<< (nI v &&& 31)))
noncomputable def rn_y3 (e v : Nat) (Y : x_T) (la : Int32) (L : List Nat) : x_T := rn_e e v (Y.1 1) L (rn_y2 e v Y la)
noncomputable def rn_1 (e l t : Nat) (p : x_T × Int32) : x_T × Int32 :=
  if rsl p.1 e (t - 1) (sib l t) = [] then (mo_bl p.1 e (abv l t), p.2) else
    (mo_set (mk (rn_y3 e (abv l t) p.1 p.2 (rsl p.1 e (t - 1) (sib l t))) (ix (p.1.1 1) + 1) 3 (p.1.1 1) 0) e (abv l t) (nI (ix (p.1.1 1) + 1)), p.1.1 1)
noncomputable def rn_m (e l : Nat) : Nat → Nat → x_T × Int32 → x_T × Int32
  | 0, _, p => p
  | m + 1, t, p => rn_m e l m (t + 1) (rn_1 e l t p)
noncomputable def rn_0 (X : x_T) (e l : Nat) : x_T := mo_set (mk X (ix (X.1 1)) 1 0 0) e (2 * l) (X.1 1)
noncomputable def rn (X : x_T) (e l D : Nat) : x_T × Int32 := (mkl (rn_m e l D 1 (rn_0 X e l, -1)).1 (rn_m e l D 1 (rn_0 X e l, -1)).2, (rn_m e l D 1 (rn_0 X e l, -1)).1.1 1)
