/-! ===== the pure part: how many bits are set ===== -/
theorem and_sp (k a m M : Nat) (hm : m < 2 ^ k) : a &&& (m + 2 ^ k * M) = ((a % 2 ^ k) &&& m) + 2 ^ k * ((a / 2 ^ k) &&& M) := by
  have h1 : (a &&& (m + 2 ^ k * M)) % 2 ^ k = (a % 2 ^ k) &&& m := by
    rw [Nat.and_mod_two_pow, Nat.add_mul_mod_self_left, Nat.mod_eq_of_lt hm]
  have h2 : (a &&& (m + 2 ^ k * M)) / 2 ^ k = (a / 2 ^ k) &&& M := by
    rw [Nat.and_div_two_pow, Nat.add_mul_div_left _ _ (Nat.two_pow_pos k), Nat.div_eq_of_lt hm, Nat.zero_add]
  have := Nat.mod_add_div (a &&& (m + 2 ^ k * M)) (2 ^ k)
  rw [h1, h2] at this
  exact this.symm
def M5 : Nat → Nat
  | 0 => 0
  | t + 1 => 5 + 16 * M5 t
def M3 : Nat → Nat
  | 0 => 0
  | t + 1 => 3 + 16 * M3 t
def gA (t x : Nat) : Nat := x - ((x / 2) &&& M5 t)
def gB (t x : Nat) : Nat := (gA t x &&& M3 t) + ((gA t x / 4) &&& M3 t)
def pc4 (n : Nat) : Nat := n % 2 + n / 2 % 2 + n / 4 % 2 + n / 8 % 2
theorem d_5 : ∀ n, n < 16 → ∀ b, b < 2 → (n / 2 + 8 * b) &&& 5 = (n / 2) &&& 5 := by decide +kernel
theorem d_3 : ∀ a, a < 16 → ∀ b, b < 4 → (a / 4 + 4 * b) &&& 3 = a / 4 := by decide +kernel
theorem d_p : ∀ n, n < 16 → n - ((n / 2) &&& 5) < 16 ∧ ((n - ((n / 2) &&& 5)) &&& 3) + (n - ((n / 2) &&& 5)) / 4 = pc4 n ∧ pc4 n ≤ 4 := by decide +kernel
theorem gA_s (t n y : Nat) (hn : n < 16) : gA (t + 1) (n + 16 * y) = (n - ((n / 2) &&& 5)) + 16 * gA t y := by
  show n + 16 * y - (((n + 16 * y) / 2) &&& (5 + 16 * M5 t)) = (n - ((n / 2) &&& 5)) + 16 * (y - ((y / 2) &&& M5 t))
  have e := and_sp 4 ((n + 16 * y) / 2) 5 (M5 t) (by decide)
  rw [show (2 : Nat) ^ 4 = 16 from rfl] at e
  rw [e, show (n + 16 * y) / 2 / 16 = y / 2 by omega, show (n + 16 * y) / 2 % 16 = n / 2 + 8 * (y % 2) by omega, d_5 n hn (y % 2) (by omega)]
  have l1 : (n / 2) &&& 5 ≤ n / 2 := Nat.and_le_left
  have l2 : (y / 2) &&& M5 t ≤ y / 2 := Nat.and_le_left
  generalize (n / 2) &&& 5 = A at l1 ⊢
  generalize (y / 2) &&& M5 t = B at l2 ⊢
  omega
theorem gB_s (t n y : Nat) (hn : n < 16) : gB (t + 1) (n + 16 * y) = pc4 n + 16 * gB t y := by
  unfold gB
  rw [gA_s t n y hn]
  obtain ⟨p1, p2, -⟩ := d_p n hn
  generalize hα : n - ((n / 2) &&& 5) = α at p1 p2 ⊢
  generalize gA t y = a
  show ((α + 16 * a) &&& (3 + 16 * M3 t)) + (((α + 16 * a) / 4) &&& (3 + 16 * M3 t)) = pc4 n + 16 * ((a &&& M3 t) + ((a / 4) &&& M3 t))
  have e1 := and_sp 4 (α + 16 * a) 3 (M3 t) (by decide)
  have e2 := and_sp 4 ((α + 16 * a) / 4) 3 (M3 t) (by decide)
  rw [show (2 : Nat) ^ 4 = 16 from rfl] at e1 e2
  rw [e1, e2, show (α + 16 * a) % 16 = α by omega, show (α + 16 * a) / 16 = a by omega, show (α + 16 * a) / 4 / 16 = a / 4 by omega, show (α + 16 * a) / 4 % 16 = α / 4 + 4 * (a % 4) by omega, d_3 α p1 (a % 4) (by omega)]
  generalize α &&& 3 = A at p2 ⊢
  generalize a &&& M3 t = B
  generalize (a / 4) &&& M3 t = C
  omega
theorem gB_0 (x : Nat) : gB 0 x = 0 := by
  unfold gB M3
  rw [Nat.and_zero, Nat.and_zero]
theorem gB_8 (X : Nat) (hX : X < 4294967296) : gB 8 X = pc4 (X / 1 % 16) + 16 * (pc4 (X / 16 % 16) + 16 * (pc4 (X / 256 % 16) + 16 * (pc4 (X / 4096 % 16) + 16 * (pc4 (X / 65536 % 16) + 16 * (pc4 (X / 1048576 % 16) + 16 * (pc4 (X / 16777216 % 16) + 16 * pc4 (X / 268435456 % 16))))))) := by
  have s : ∀ t Y, gB (t + 1) Y = pc4 (Y % 16) + 16 * gB t (Y / 16) := fun t Y => by
    have := gB_s t (Y % 16) (Y / 16) (by omega)
    rw [Nat.mod_add_div] at this
    exact this
  rw [s 7, s 6, s 5, s 4, s 3, s 2, s 1, s 0, gB_0]
  simp only [Nat.div_div_eq_div_mul, Nat.div_one, Nat.mul_zero, Nat.add_zero]
theorem and_63 (x : Nat) : x &&& 63 = x % 64 := Nat.and_two_pow_sub_one_eq_mod x 6
theorem and_15 (x : Nat) : x &&& 15 = x % 16 := Nat.and_two_pow_sub_one_eq_mod x 4
theorem h_8 (p0 p1 p2 p3 p4 p5 p6 p7 : Nat) (h0 : p0 ≤ 4) (h1 : p1 ≤ 4) (h2 : p2 ≤ 4) (h3 : p3 ≤ 4) (h4 : p4 ≤ 4) (h5 : p5 ≤ 4) (h6 : p6 ≤ 4) (h7 : p7 ≤ 4) (z : Nat) (hz : z = p0 + 16 * (p1 + 16 * (p2 + 16 * (p3 + 16 * (p4 + 16 * (p5 + 16 * (p6 + 16 * p7))))))) : (z + z / 16) &&& 252645135 = (p0 + p1) + 256 * ((p2 + p3) + 256 * ((p4 + p5) + 256 * (p6 + p7))) := by
  have e : z + z / 16 = (p0 + p1 + 16 * (p1 + p2)) + 256 * ((p2 + p3 + 16 * (p3 + p4)) + 256 * ((p4 + p5 + 16 * (p5 + p6)) + 256 * (p6 + p7 + 16 * p7))) := by omega
  rw [e]
  have s : ∀ q r M y, q < 16 → r < 16 → (q + 16 * r + 256 * y) &&& (15 + 256 * M) = q + 256 * (y &&& M) := fun q r M y hq hr => by
    have := and_sp 8 (q + 16 * r + 256 * y) 15 M (by decide)
    rw [show (2 : Nat) ^ 8 = 256 from rfl] at this
    rw [this, and_15, show (q + 16 * r + 256 * y) % 256 % 16 = q by omega, show (q + 16 * r + 256 * y) / 256 = y by omega]
  rw [show (252645135 : Nat) = 15 + 256 * (15 + 256 * (15 + 256 * 15)) from rfl, s _ _ _ _ (by omega) (by omega), s _ _ _ _ (by omega) (by omega), s _ _ _ _ (by omega) (by omega), and_15]
  omega
theorem l_8 (q0 q1 q2 q3 : Nat) (h0 : q0 ≤ 8) (h1 : q1 ≤ 8) (h2 : q2 ≤ 8) (h3 : q3 ≤ 8) (w : Nat) (hw : w = q0 + 256 * (q1 + 256 * (q2 + 256 * q3))) : (w + w / 256 + (w + w / 256) / 65536) &&& 63 = q0 + q1 + q2 + q3 := by
  have e1 : w / 256 = q1 + 256 * (q2 + 256 * q3) := by omega
  have e2 : w + w / 256 = (q0 + q1) + 256 * (q1 + q2) + 65536 * (q2 + q3) + 16777216 * q3 := by omega
  have e3 : (w + w / 256) / 65536 = (q2 + q3) + 256 * q3 := by rw [e2]; omega
  rw [and_63, e3, e2]
  omega
abbrev uN (x : Int32) : Nat := x.toUInt32.toNat
theorem uN_lt (x : Int32) : uN x < 4294967296 := x.toUInt32.toNat_lt
theorem uN_sh (x : Int32) (k : Nat) (hk : k < 32) : uN (j_ushr x (nI k)) = uN x / 2 ^ k := by
  unfold uN j_ushr
  rw [UInt32.toUInt32_toInt32, UInt32.toNat_shiftRight, ush_nI k hk, Nat.mod_eq_of_lt hk, Nat.shiftRight_eq_div_pow]
theorem uN_and (x y : Int32) : uN (x &&& y) = uN x &&& uN y := by
  unfold uN
  rw [Int32.toUInt32_and, UInt32.toNat_and]
theorem uN_add {x y : Int32} (h : uN x + uN y < 4294967296) : uN (x + y) = uN x + uN y := by
  unfold uN at h ⊢
  rw [Int32.toUInt32_add, UInt32.toNat_add, Nat.mod_eq_of_lt h]
theorem uN_sub {x y : Int32} (h : uN y ≤ uN x) : uN (x - y) = uN x - uN y := by
  unfold uN at h ⊢
  rw [Int32.toUInt32_sub, UInt32.toNat_sub_of_le _ _ (UInt32.le_iff_toNat_le.mpr h)]
theorem uN_inj {x y : Int32} (h : uN x = uN y) : x = y := by
  have := UInt32.toNat_inj.mp h
  rw [← Int32.toInt32_toUInt32 x, this, Int32.toInt32_toUInt32]
theorem nib_0 (X : Nat) : X / 1 % 2 + X / 2 % 2 + X / 4 % 2 + X / 8 % 2 = pc4 (X / 1 % 16) := by
  unfold pc4
  omega
theorem nib_1 (X : Nat) : X / 16 % 2 + X / 32 % 2 + X / 64 % 2 + X / 128 % 2 = pc4 (X / 16 % 16) := by
  unfold pc4
  omega
theorem nib_2 (X : Nat) : X / 256 % 2 + X / 512 % 2 + X / 1024 % 2 + X / 2048 % 2 = pc4 (X / 256 % 16) := by
  unfold pc4
  omega
theorem nib_3 (X : Nat) : X / 4096 % 2 + X / 8192 % 2 + X / 16384 % 2 + X / 32768 % 2 = pc4 (X / 4096 % 16) := by
  unfold pc4
  omega
theorem nib_4 (X : Nat) : X / 65536 % 2 + X / 131072 % 2 + X / 262144 % 2 + X / 524288 % 2 = pc4 (X / 65536 % 16) := by
  unfold pc4
  omega
theorem nib_5 (X : Nat) : X / 1048576 % 2 + X / 2097152 % 2 + X / 4194304 % 2 + X / 8388608 % 2 = pc4 (X / 1048576 % 16) := by
  unfold pc4
  omega
theorem nib_6 (X : Nat) : X / 16777216 % 2 + X / 33554432 % 2 + X / 67108864 % 2 + X / 134217728 % 2 = pc4 (X / 16777216 % 16) := by
  unfold pc4
  omega
theorem nib_7 (X : Nat) : X / 268435456 % 2 + X / 536870912 % 2 + X / 1073741824 % 2 + X / 2147483648 % 2 = pc4 (X / 268435456 % 16) := by
  unfold pc4
  omega
theorem bl_len (b : Int32) (m k : Nat) : (bl b (m + 1) k).length = uN b / 2 ^ k % 2 + (bl b m (k + 1)).length := by
  have h : bt b k = decide (uN b / 2 ^ k % 2 = 1) := by
    unfold bt
    exact Nat.testBit_eq_decide_div_mod_eq
  show ((if bt b k = true then [k] else []) ++ bl b m (k + 1)).length = _
  rw [List.length_append, h]
  by_cases c : uN b / 2 ^ k % 2 = 1
  · rw [c, if_pos (by decide)]
    rfl
  · rw [if_neg (by simpa using c)]
    have : uN b / 2 ^ k % 2 = 0 := by omega
    rw [this]
    rfl
theorem bl_32 (b : Int32) (X : Nat) (hX : uN b = X) : (bl b 32 0).length = X / 1 % 2 + (X / 2 % 2 + (X / 4 % 2 + (X / 8 % 2 + (X / 16 % 2 + (X / 32 % 2 + (X / 64 % 2 + (X / 128 % 2 + (X / 256 % 2 + (X / 512 % 2 + (X / 1024 % 2 + (X / 2048 % 2 + (X / 4096 % 2 + (X / 8192 % 2 + (X / 16384 % 2 + (X / 32768 % 2 + (X / 65536 % 2 + (X / 131072 % 2 + (X / 262144 % 2 + (X / 524288 % 2 + (X / 1048576 % 2 + (X / 2097152 % 2 + (X / 4194304 % 2 + (X / 8388608 % 2 + (X / 16777216 % 2 + (X / 33554432 % 2 + (X / 67108864 % 2 + (X / 134217728 % 2 + (X / 268435456 % 2 + (X / 536870912 % 2 + (X / 1073741824 % 2 + (X / 2147483648 % 2 + 0))))))))))))))))))))))))))))))) := by
  have h := fun m k => bl_len b m k
  rw [hX] at h
  rw [h, h, h, h, h, h, h, h, h, h, h, h, h, h, h, h, h, h, h, h, h, h, h, h, h, h, h, h, h, h, h, h]
  rfl
theorem j_bc_r (x : Int32) : j_bc x = nI (bl x 32 0).length := by
  have hx := uN_lt x
  have e1 : uN (j_bc1 x) = gA 8 (uN x) := by
    unfold j_bc1 gA
    have s : uN (j_ushr x 1 &&& 1431655765) = (uN x / 2) &&& M5 8 := by
      rw [uN_and, show (1 : Int32) = nI 1 from rfl, uN_sh x 1 (by decide)]
      rfl
    rw [uN_sub (by rw [s]; exact Nat.le_trans Nat.and_le_left (Nat.div_le_self _ _)), s]
  have b8 := gB_8 (uN x) hx
  obtain ⟨-, -, p0⟩ := d_p (uN x / 1 % 16) (by omega)
  obtain ⟨-, -, p1⟩ := d_p (uN x / 16 % 16) (by omega)
  obtain ⟨-, -, p2⟩ := d_p (uN x / 256 % 16) (by omega)
  obtain ⟨-, -, p3⟩ := d_p (uN x / 4096 % 16) (by omega)
  obtain ⟨-, -, p4⟩ := d_p (uN x / 65536 % 16) (by omega)
  obtain ⟨-, -, p5⟩ := d_p (uN x / 1048576 % 16) (by omega)
  obtain ⟨-, -, p6⟩ := d_p (uN x / 16777216 % 16) (by omega)
  obtain ⟨-, -, p7⟩ := d_p (uN x / 268435456 % 16) (by omega)
  have hb := bl_32 x (uN x) rfl
  have n0 := nib_0 (uN x)
  have n1 := nib_1 (uN x)
  have n2 := nib_2 (uN x)
  have n3 := nib_3 (uN x)
  have n4 := nib_4 (uN x)
  have n5 := nib_5 (uN x)
  have n6 := nib_6 (uN x)
  have n7 := nib_7 (uN x)
  have hl : (bl x 32 0).length = pc4 (uN x / 1 % 16) + pc4 (uN x / 16 % 16) + pc4 (uN x / 256 % 16) + pc4 (uN x / 4096 % 16) + pc4 (uN x / 65536 % 16) + pc4 (uN x / 1048576 % 16) + pc4 (uN x / 16777216 % 16) + pc4 (uN x / 268435456 % 16) := by
    rw [hb, ← n0, ← n1, ← n2, ← n3, ← n4, ← n5, ← n6, ← n7]
    simp only [Nat.add_assoc, Nat.add_zero]
  clear hb n0 n1 n2 n3 n4 n5 n6 n7
  generalize pc4 (uN x / 1 % 16) = a0 at *
  generalize pc4 (uN x / 16 % 16) = a1 at *
  generalize pc4 (uN x / 256 % 16) = a2 at *
  generalize pc4 (uN x / 4096 % 16) = a3 at *
  generalize pc4 (uN x / 65536 % 16) = a4 at *
  generalize pc4 (uN x / 1048576 % 16) = a5 at *
  generalize pc4 (uN x / 16777216 % 16) = a6 at *
  generalize pc4 (uN x / 268435456 % 16) = a7 at *
  have e2 : uN (j_bc2 (j_bc1 x)) = gB 8 (uN x) := by
    have s1 : uN (j_bc1 x &&& 858993459) = gA 8 (uN x) &&& M3 8 := by
      rw [uN_and, e1]
      rfl
    have s2 : uN (j_ushr (j_bc1 x) 2 &&& 858993459) = (gA 8 (uN x) / 4) &&& M3 8 := by
      rw [uN_and, show (2 : Int32) = nI 2 from rfl, uN_sh _ 2 (by decide), e1]
      rfl
    have s3 : (gA 8 (uN x) &&& M3 8) + ((gA 8 (uN x) / 4) &&& M3 8) = gB 8 (uN x) := rfl
    unfold j_bc2
    rw [uN_add (by rw [s1, s2, s3, b8]; omega), s1, s2, s3]
  have e3 : uN (j_bc3 (j_bc2 (j_bc1 x))) = (a0 + a1) + 256 * ((a2 + a3) + 256 * ((a4 + a5) + 256 * (a6 + a7))) := by
    have s1 : uN (j_ushr (j_bc2 (j_bc1 x)) 4) = gB 8 (uN x) / 16 := by
      rw [show (4 : Int32) = nI 4 from rfl, uN_sh _ 4 (by decide), e2]
    unfold j_bc3
    rw [uN_and, uN_add (by rw [s1, e2, b8]; omega), s1, e2]
    exact h_8 a0 a1 a2 a3 a4 a5 a6 a7 p0 p1 p2 p3 p4 p5 p6 p7 _ b8
  apply uN_inj
  have eN : uN (nI (bl x 32 0).length) = (bl x 32 0).length := by
    rw [hl]
    have q : ∀ k, k < 40 → uN (nI k) = k := by decide +kernel
    exact q _ (by omega)
  rw [eN, hl]
  unfold j_bc
  generalize j_bc3 (j_bc2 (j_bc1 x)) = w at e3 ⊢
  have s8 : uN (j_ushr w 8) = uN w / 256 := by rw [show (8 : Int32) = nI 8 from rfl, uN_sh _ 8 (by decide)]
  have a8 : uN (w + j_ushr w 8) = uN w + uN w / 256 := by rw [uN_add (by rw [s8, e3]; omega), s8]
  have s16 : uN (j_ushr (w + j_ushr w 8) 16) = (uN w + uN w / 256) / 65536 := by rw [show (16 : Int32) = nI 16 from rfl, uN_sh _ 16 (by decide), a8]
  rw [uN_and, uN_add (by rw [s16, a8, e3]; omega), s16, a8, show uN (63 : Int32) = 63 from rfl]
  rw [l_8 (a0 + a1) (a2 + a3) (a4 + a5) (a6 + a7) (by omega) (by omega) (by omega) (by omega) (uN w) e3]
  omega
