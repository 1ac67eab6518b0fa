/-! ===== the law: its seven methods that catch ===== -/
def q_o (u : Nat) (f : Nat → Int64) : q_H := fun a => if a = u then some (.inr (3, 1, .inr (.inl f))) else none
theorem q_o_s (u : Nat) (f : Nat → Int64) : q_o u f u = some (.inr (3, 1, .inr (.inl f))) := if_pos rfl
theorem q_o_n {u a : Nat} {f : Nat → Int64} (h : a ≠ u) : q_o u f a = none := if_neg h
theorem q_dj_o {h : q_H} {u : Nat} {f : Nat → Int64} : q_dj h (q_o u f) ↔ h u = none := by
  constructor
  · intro hd
    rcases hd u with z | z
    · exact z
    · rw [q_o_s] at z
      cases z
  · intro hu a
    by_cases e : a = u
    · exact Or.inl (by rw [e]; exact hu)
    · exact Or.inr (q_o_n e)
theorem q_jn_o {h : q_H} {u : Nat} {f f' : Nat → Int64} (hu : h u = none) : q_up (q_jn h (q_o u f)) u (.inr (3, 1, .inr (.inl f'))) = q_jn h (q_o u f') := by
  funext a
  by_cases e : a = u
  · rw [e, q_up_s, q_jn_r hu, q_o_s]
  · rw [q_up_n e]
    cases z : h a with
    | some x => rw [q_jn_l z, q_jn_l z]
    | none => rw [q_jn_r z, q_jn_r z, q_o_n e, q_o_n e]
def q_ans (PO : q_R → q_H → Prop) (u : Nat) (q : q_R) (h' : q_H) : Prop := ∃ h1' r1 f', PO r1 h1' ∧ h' = q_jn h1' (q_o u f') ∧ h1' u = none ∧ ((∃ z, r1 = .inl (some (.int z)) ∧ q = .inl (some (.int 0)) ∧ f' 0 = z.toInt64) ∨ (r1 = .inr 0 ∧ q = .inl (some (.int 1))) ∨ (r1 = .inr 1 ∧ q = .inl (some (.int 2))))
set_option maxHeartbeats 1000000 in
theorem c_Law_offer (g : q_G) {h1 : q_H} {r u : Nat} {fs : List Value} {f : Nat → Int64} {PO : q_R → q_H → Prop} (p0 : Int32) {dy mc ms : Nat} (d : Nat) (hd : dy + 1 ≤ d) (hM : MG g y_RG_offer b_RG_offer 4 (some .int) dy mc ms [.ref r, .int p0] h1 PO) (hr : h1 r = some (.inl (0, fs))) (hPO : ∀ q h', PO q h' → (∃ z, q = .inl (some (.int z))) ∨ q = .inr 0 ∨ q = .inr 1) (hu : h1 u = none) : MGW g y_Law_offer b_Law_offer 4 (some .int) [(0, 9, 12, 13), (0, 9, 15, 15)] d mc ms [.ref r, .int p0, .ref u] (q_jn h1 (q_o u f)) (q_ans PO u) := by
  refine MGW.of (by decide +kernel) (by simp [Value.category]) (Nat.le_of_ble_eq_true rfl) ?_
  intro Z A ok
  refine w_aload_n ok (dk m_Law_offer 0 rfl) (pc' := 1) rfl (i := 2) rfl rfl ?_
  refine w_iconst ok (dk m_Law_offer 1 rfl) (pc' := 2) rfl (v := 0) (by decide) ?_
  refine w_aload_n ok (dk m_Law_offer 2 rfl) (pc' := 3) rfl (i := 0) rfl rfl ?_
  refine w_iload_n ok (dk m_Law_offer 3 rfl) (pc' := 4) rfl (i := 1) rfl rfl ?_
  refine w_callV ok (dk m_Law_offer 4 rfl) (pc' := 7) rfl c_Law_7 (hM.frame (h2 := q_o u f) (q_dj_o.mpr hu)) (q_jn_l hr) rfl rfl (by simp [Value.category]) hd rfl (rc' := 0) (rs' := 0) (by omega) (by omega) (fun rv h' hcc => ?_) (fun i h' hcc => ?_)
  · obtain ⟨h1', hp1, rfl, hd2⟩ := hcc
    obtain ⟨z, rfl⟩ : ∃ z, rv = some (.int z) := by
      rcases hPO _ _ hp1 with ⟨z, hz⟩ | hz | hz
      · exact ⟨z, Sum.inl.inj hz⟩
      · cases hz
      · cases hz
    refine w_i2l ok (dk m_Law_offer 5 rfl) (pc' := 8) rfl rfl ?_
    have hu' := q_dj_o.mp hd2
    refine w_last ok (dk m_Law_offer 6 rfl) (pc' := 9) rfl (j := 0) (by rw [q_jn_r hu']; exact q_o_s u f) (by decide) (by decide) ?_
    refine g_heap (q_jn_o hu') ?_
    refine w_goto ok (dk m_Law_offer 7 rfl) (pc' := 18) (by decide) ?_
    refine w_iconst ok (dk m_Law_offer 14 rfl) (pc' := 19) rfl (v := 0) (by decide) ?_
    exact w_iret ok (dk m_Law_offer 15 rfl) rfl rfl ⟨h1', _, _, hp1, rfl, hu', Or.inl ⟨z, rfl, rfl, if_pos rfl⟩⟩
  · obtain ⟨h1', hp1, rfl, hd2⟩ := hcc
    rcases hPO _ _ hp1 with ⟨z, hz⟩ | hz | hz
    · cases hz
    · cases hz
      refine ⟨12, Or.inl ⟨_, _, rfl, by decide, by decide, rfl, rfl, rfl⟩, fun x => ?_⟩
      refine w_astore_n ok (dk m_Law_offer 8 rfl) (pc' := 13) rfl (i := 3) rfl (Nat.le_of_ble_eq_true rfl) rfl ?_
      refine w_iconst ok (dk m_Law_offer 9 rfl) (pc' := 14) rfl (v := 1) (by decide) ?_
      exact w_iret ok (dk m_Law_offer 10 rfl) rfl rfl ⟨h1', _, f, hp1, rfl, q_dj_o.mp hd2, Or.inr (Or.inl ⟨rfl, rfl⟩)⟩
    · cases hz
      refine ⟨15, Or.inr ⟨_, _, _, rfl, rfl, by decide, by decide, rfl, rfl, rfl⟩, fun x => ?_⟩
      refine w_astore_n ok (dk m_Law_offer 11 rfl) (pc' := 16) rfl (i := 3) rfl (Nat.le_of_ble_eq_true rfl) rfl ?_
      refine w_iconst ok (dk m_Law_offer 12 rfl) (pc' := 17) rfl (v := 2) (by decide) ?_
      exact w_iret ok (dk m_Law_offer 13 rfl) rfl rfl ⟨h1', _, f, hp1, rfl, q_dj_o.mp hd2, Or.inr (Or.inr ⟨rfl, rfl⟩)⟩
set_option maxHeartbeats 1000000 in
theorem c_Law_add (g : q_G) {h1 : q_H} {r u : Nat} {fs : List Value} {f : Nat → Int64} {PO : q_R → q_H → Prop} (p0 p1 : Int32) {dy mc ms : Nat} (d : Nat) (hd : dy + 1 ≤ d) (hM : MG g y_RG_add b_RG_add 4 (some .int) dy mc ms [.ref r, .int p0, .int p1] h1 PO) (hr : h1 r = some (.inl (0, fs))) (hPO : ∀ q h', PO q h' → (∃ z, q = .inl (some (.int z))) ∨ q = .inr 0 ∨ q = .inr 1) (hu : h1 u = none) : MGW g y_Law_add b_Law_add 5 (some .int) [(0, 10, 13, 13), (0, 10, 17, 15)] d mc ms [.ref r, .int p0, .int p1, .ref u] (q_jn h1 (q_o u f)) (q_ans PO u) := by
  refine MGW.of (by decide +kernel) (by simp [Value.category]) (Nat.le_of_ble_eq_true rfl) ?_
  intro Z A ok
  refine w_aload_n ok (dk m_Law_add 0 rfl) (pc' := 1) rfl (i := 3) rfl rfl ?_
  refine w_iconst ok (dk m_Law_add 1 rfl) (pc' := 2) rfl (v := 0) (by decide) ?_
  refine w_aload_n ok (dk m_Law_add 2 rfl) (pc' := 3) rfl (i := 0) rfl rfl ?_
  refine w_iload_n ok (dk m_Law_add 3 rfl) (pc' := 4) rfl (i := 1) rfl rfl ?_
  refine w_iload_n ok (dk m_Law_add 4 rfl) (pc' := 5) rfl (i := 2) rfl rfl ?_
  refine w_callV ok (dk m_Law_add 5 rfl) (pc' := 8) rfl c_Law_17 (hM.frame (h2 := q_o u f) (q_dj_o.mpr hu)) (q_jn_l hr) rfl rfl (by simp [Value.category]) hd rfl (rc' := 0) (rs' := 0) (by omega) (by omega) (fun rv h' hcc => ?_) (fun i h' hcc => ?_)
  · obtain ⟨h1', hp1, rfl, hd2⟩ := hcc
    obtain ⟨z, rfl⟩ : ∃ z, rv = some (.int z) := by
      rcases hPO _ _ hp1 with ⟨z, hz⟩ | hz | hz
      · exact ⟨z, Sum.inl.inj hz⟩
      · cases hz
      · cases hz
    refine w_i2l ok (dk m_Law_add 6 rfl) (pc' := 9) rfl rfl ?_
    have hu' := q_dj_o.mp hd2
    refine w_last ok (dk m_Law_add 7 rfl) (pc' := 10) rfl (j := 0) (by rw [q_jn_r hu']; exact q_o_s u f) (by decide) (by decide) ?_
    refine g_heap (q_jn_o hu') ?_
    refine w_goto ok (dk m_Law_add 8 rfl) (pc' := 21) (by decide) ?_
    refine w_iconst ok (dk m_Law_add 15 rfl) (pc' := 22) rfl (v := 0) (by decide) ?_
    exact w_iret ok (dk m_Law_add 16 rfl) rfl rfl ⟨h1', _, _, hp1, rfl, hu', Or.inl ⟨z, rfl, rfl, if_pos rfl⟩⟩
  · obtain ⟨h1', hp1, rfl, hd2⟩ := hcc
    rcases hPO _ _ hp1 with ⟨z, hz⟩ | hz | hz
    · cases hz
    · cases hz
      refine ⟨13, Or.inl ⟨_, _, rfl, by decide, by decide, rfl, rfl, rfl⟩, fun x => ?_⟩
      refine w_astore ok (dk m_Law_add 9 rfl) (pc' := 15) rfl (Nat.le_of_ble_eq_true rfl) rfl ?_
      refine w_iconst ok (dk m_Law_add 10 rfl) (pc' := 16) rfl (v := 1) (by decide) ?_
      exact w_iret ok (dk m_Law_add 11 rfl) rfl rfl ⟨h1', _, f, hp1, rfl, q_dj_o.mp hd2, Or.inr (Or.inl ⟨rfl, rfl⟩)⟩
    · cases hz
      refine ⟨17, Or.inr ⟨_, _, _, rfl, rfl, by decide, by decide, rfl, rfl, rfl⟩, fun x => ?_⟩
      refine w_astore ok (dk m_Law_add 12 rfl) (pc' := 19) rfl (Nat.le_of_ble_eq_true rfl) rfl ?_
      refine w_iconst ok (dk m_Law_add 13 rfl) (pc' := 20) rfl (v := 2) (by decide) ?_
      exact w_iret ok (dk m_Law_add 14 rfl) rfl rfl ⟨h1', _, f, hp1, rfl, q_dj_o.mp hd2, Or.inr (Or.inr ⟨rfl, rfl⟩)⟩
set_option maxHeartbeats 1000000 in
theorem c_Law_remove (g : q_G) {h1 : q_H} {r u : Nat} {fs : List Value} {f : Nat → Int64} {PO : q_R → q_H → Prop} (p0 p1 : Int32) {dy mc ms : Nat} (d : Nat) (hd : dy + 1 ≤ d) (hM : MG g y_RG_remove b_RG_remove 4 (some .int) dy mc ms [.ref r, .int p0, .int p1] h1 PO) (hr : h1 r = some (.inl (0, fs))) (hPO : ∀ q h', PO q h' → (∃ z, q = .inl (some (.int z))) ∨ q = .inr 0 ∨ q = .inr 1) (hu : h1 u = none) : MGW g y_Law_remove b_Law_remove 5 (some .int) [(0, 10, 13, 13), (0, 10, 17, 15)] d mc ms [.ref r, .int p0, .int p1, .ref u] (q_jn h1 (q_o u f)) (q_ans PO u) := by
  refine MGW.of (by decide +kernel) (by simp [Value.category]) (Nat.le_of_ble_eq_true rfl) ?_
  intro Z A ok
  refine w_aload_n ok (dk m_Law_remove 0 rfl) (pc' := 1) rfl (i := 3) rfl rfl ?_
  refine w_iconst ok (dk m_Law_remove 1 rfl) (pc' := 2) rfl (v := 0) (by decide) ?_
  refine w_aload_n ok (dk m_Law_remove 2 rfl) (pc' := 3) rfl (i := 0) rfl rfl ?_
  refine w_iload_n ok (dk m_Law_remove 3 rfl) (pc' := 4) rfl (i := 1) rfl rfl ?_
  refine w_iload_n ok (dk m_Law_remove 4 rfl) (pc' := 5) rfl (i := 2) rfl rfl ?_
  refine w_callV ok (dk m_Law_remove 5 rfl) (pc' := 8) rfl c_Law_21 (hM.frame (h2 := q_o u f) (q_dj_o.mpr hu)) (q_jn_l hr) rfl rfl (by simp [Value.category]) hd rfl (rc' := 0) (rs' := 0) (by omega) (by omega) (fun rv h' hcc => ?_) (fun i h' hcc => ?_)
  · obtain ⟨h1', hp1, rfl, hd2⟩ := hcc
    obtain ⟨z, rfl⟩ : ∃ z, rv = some (.int z) := by
      rcases hPO _ _ hp1 with ⟨z, hz⟩ | hz | hz
      · exact ⟨z, Sum.inl.inj hz⟩
      · cases hz
      · cases hz
    refine w_i2l ok (dk m_Law_remove 6 rfl) (pc' := 9) rfl rfl ?_
    have hu' := q_dj_o.mp hd2
    refine w_last ok (dk m_Law_remove 7 rfl) (pc' := 10) rfl (j := 0) (by rw [q_jn_r hu']; exact q_o_s u f) (by decide) (by decide) ?_
    refine g_heap (q_jn_o hu') ?_
    refine w_goto ok (dk m_Law_remove 8 rfl) (pc' := 21) (by decide) ?_
    refine w_iconst ok (dk m_Law_remove 15 rfl) (pc' := 22) rfl (v := 0) (by decide) ?_
    exact w_iret ok (dk m_Law_remove 16 rfl) rfl rfl ⟨h1', _, _, hp1, rfl, hu', Or.inl ⟨z, rfl, rfl, if_pos rfl⟩⟩
  · obtain ⟨h1', hp1, rfl, hd2⟩ := hcc
    rcases hPO _ _ hp1 with ⟨z, hz⟩ | hz | hz
    · cases hz
    · cases hz
      refine ⟨13, Or.inl ⟨_, _, rfl, by decide, by decide, rfl, rfl, rfl⟩, fun x => ?_⟩
      refine w_astore ok (dk m_Law_remove 9 rfl) (pc' := 15) rfl (Nat.le_of_ble_eq_true rfl) rfl ?_
      refine w_iconst ok (dk m_Law_remove 10 rfl) (pc' := 16) rfl (v := 1) (by decide) ?_
      exact w_iret ok (dk m_Law_remove 11 rfl) rfl rfl ⟨h1', _, f, hp1, rfl, q_dj_o.mp hd2, Or.inr (Or.inl ⟨rfl, rfl⟩)⟩
    · cases hz
      refine ⟨17, Or.inr ⟨_, _, _, rfl, rfl, by decide, by decide, rfl, rfl, rfl⟩, fun x => ?_⟩
      refine w_astore ok (dk m_Law_remove 12 rfl) (pc' := 19) rfl (Nat.le_of_ble_eq_true rfl) rfl ?_
      refine w_iconst ok (dk m_Law_remove 13 rfl) (pc' := 20) rfl (v := 2) (by decide) ?_
      exact w_iret ok (dk m_Law_remove 14 rfl) rfl rfl ⟨h1', _, f, hp1, rfl, q_dj_o.mp hd2, Or.inr (Or.inr ⟨rfl, rfl⟩)⟩
set_option maxHeartbeats 1000000 in
theorem c_Law_update (g : q_G) {h1 : q_H} {r u : Nat} {fs : List Value} {f : Nat → Int64} {PO : q_R → q_H → Prop} (p0 : Int32) {dy mc ms : Nat} (d : Nat) (hd : dy + 1 ≤ d) (hM : MG g y_RG_update b_RG_update 4 (some .int) dy mc ms [.ref r, .int p0] h1 PO) (hr : h1 r = some (.inl (0, fs))) (hPO : ∀ q h', PO q h' → (∃ z, q = .inl (some (.int z))) ∨ q = .inr 0 ∨ q = .inr 1) (hu : h1 u = none) : MGW g y_Law_update b_Law_update 4 (some .int) [(0, 9, 12, 13), (0, 9, 15, 15)] d mc ms [.ref r, .int p0, .ref u] (q_jn h1 (q_o u f)) (q_ans PO u) := by
  refine MGW.of (by decide +kernel) (by simp [Value.category]) (Nat.le_of_ble_eq_true rfl) ?_
  intro Z A ok
  refine w_aload_n ok (dk m_Law_update 0 rfl) (pc' := 1) rfl (i := 2) rfl rfl ?_
  refine w_iconst ok (dk m_Law_update 1 rfl) (pc' := 2) rfl (v := 0) (by decide) ?_
  refine w_aload_n ok (dk m_Law_update 2 rfl) (pc' := 3) rfl (i := 0) rfl rfl ?_
  refine w_iload_n ok (dk m_Law_update 3 rfl) (pc' := 4) rfl (i := 1) rfl rfl ?_
  refine w_callV ok (dk m_Law_update 4 rfl) (pc' := 7) rfl c_Law_24 (hM.frame (h2 := q_o u f) (q_dj_o.mpr hu)) (q_jn_l hr) rfl rfl (by simp [Value.category]) hd rfl (rc' := 0) (rs' := 0) (by omega) (by omega) (fun rv h' hcc => ?_) (fun i h' hcc => ?_)
  · obtain ⟨h1', hp1, rfl, hd2⟩ := hcc
    obtain ⟨z, rfl⟩ : ∃ z, rv = some (.int z) := by
      rcases hPO _ _ hp1 with ⟨z, hz⟩ | hz | hz
      · exact ⟨z, Sum.inl.inj hz⟩
      · cases hz
      · cases hz
    refine w_i2l ok (dk m_Law_update 5 rfl) (pc' := 8) rfl rfl ?_
    have hu' := q_dj_o.mp hd2
    refine w_last ok (dk m_Law_update 6 rfl) (pc' := 9) rfl (j := 0) (by rw [q_jn_r hu']; exact q_o_s u f) (by decide) (by decide) ?_
    refine g_heap (q_jn_o hu') ?_
    refine w_goto ok (dk m_Law_update 7 rfl) (pc' := 18) (by decide) ?_
    refine w_iconst ok (dk m_Law_update 14 rfl) (pc' := 19) rfl (v := 0) (by decide) ?_
    exact w_iret ok (dk m_Law_update 15 rfl) rfl rfl ⟨h1', _, _, hp1, rfl, hu', Or.inl ⟨z, rfl, rfl, if_pos rfl⟩⟩
  · obtain ⟨h1', hp1, rfl, hd2⟩ := hcc
    rcases hPO _ _ hp1 with ⟨z, hz⟩ | hz | hz
    · cases hz
    · cases hz
      refine ⟨12, Or.inl ⟨_, _, rfl, by decide, by decide, rfl, rfl, rfl⟩, fun x => ?_⟩
      refine w_astore_n ok (dk m_Law_update 8 rfl) (pc' := 13) rfl (i := 3) rfl (Nat.le_of_ble_eq_true rfl) rfl ?_
      refine w_iconst ok (dk m_Law_update 9 rfl) (pc' := 14) rfl (v := 1) (by decide) ?_
      exact w_iret ok (dk m_Law_update 10 rfl) rfl rfl ⟨h1', _, f, hp1, rfl, q_dj_o.mp hd2, Or.inr (Or.inl ⟨rfl, rfl⟩)⟩
    · cases hz
      refine ⟨15, Or.inr ⟨_, _, _, rfl, rfl, by decide, by decide, rfl, rfl, rfl⟩, fun x => ?_⟩
      refine w_astore_n ok (dk m_Law_update 11 rfl) (pc' := 16) rfl (i := 3) rfl (Nat.le_of_ble_eq_true rfl) rfl ?_
      refine w_iconst ok (dk m_Law_update 12 rfl) (pc' := 17) rfl (v := 2) (by decide) ?_
      exact w_iret ok (dk m_Law_update 13 rfl) rfl rfl ⟨h1', _, f, hp1, rfl, q_dj_o.mp hd2, Or.inr (Or.inr ⟨rfl, rfl⟩)⟩
set_option maxHeartbeats 1000000 in
theorem c_Law_commit (g : q_G) {h1 : q_H} {r u : Nat} {fs : List Value} {f : Nat → Int64} {PO : q_R → q_H → Prop} (p0 p1 : Int32) {dy mc ms : Nat} (d : Nat) (hd : dy + 1 ≤ d) (hM : MG g y_RG_commit b_RG_commit 7 (some .int) dy mc ms [.ref r, .int p0, .int p1] h1 PO) (hr : h1 r = some (.inl (0, fs))) (hPO : ∀ q h', PO q h' → (∃ z, q = .inl (some (.int z))) ∨ q = .inr 0 ∨ q = .inr 1) (hu : h1 u = none) : MGW g y_Law_commit b_Law_commit 5 (some .int) [(0, 10, 13, 13), (0, 10, 17, 15)] d mc ms [.ref r, .int p0, .int p1, .ref u] (q_jn h1 (q_o u f)) (q_ans PO u) := by
  refine MGW.of (by decide +kernel) (by simp [Value.category]) (Nat.le_of_ble_eq_true rfl) ?_
  intro Z A ok
  refine w_aload_n ok (dk m_Law_commit 0 rfl) (pc' := 1) rfl (i := 3) rfl rfl ?_
  refine w_iconst ok (dk m_Law_commit 1 rfl) (pc' := 2) rfl (v := 0) (by decide) ?_
  refine w_aload_n ok (dk m_Law_commit 2 rfl) (pc' := 3) rfl (i := 0) rfl rfl ?_
  refine w_iload_n ok (dk m_Law_commit 3 rfl) (pc' := 4) rfl (i := 1) rfl rfl ?_
  refine w_iload_n ok (dk m_Law_commit 4 rfl) (pc' := 5) rfl (i := 2) rfl rfl ?_
  refine w_callV ok (dk m_Law_commit 5 rfl) (pc' := 8) rfl c_Law_27 (hM.frame (h2 := q_o u f) (q_dj_o.mpr hu)) (q_jn_l hr) rfl rfl (by simp [Value.category]) hd rfl (rc' := 0) (rs' := 0) (by omega) (by omega) (fun rv h' hcc => ?_) (fun i h' hcc => ?_)
  · obtain ⟨h1', hp1, rfl, hd2⟩ := hcc
    obtain ⟨z, rfl⟩ : ∃ z, rv = some (.int z) := by
      rcases hPO _ _ hp1 with ⟨z, hz⟩ | hz | hz
      · exact ⟨z, Sum.inl.inj hz⟩
      · cases hz
      · cases hz
    refine w_i2l ok (dk m_Law_commit 6 rfl) (pc' := 9) rfl rfl ?_
    have hu' := q_dj_o.mp hd2
    refine w_last ok (dk m_Law_commit 7 rfl) (pc' := 10) rfl (j := 0) (by rw [q_jn_r hu']; exact q_o_s u f) (by decide) (by decide) ?_
    refine g_heap (q_jn_o hu') ?_
    refine w_goto ok (dk m_Law_commit 8 rfl) (pc' := 21) (by decide) ?_
    refine w_iconst ok (dk m_Law_commit 15 rfl) (pc' := 22) rfl (v := 0) (by decide) ?_
    exact w_iret ok (dk m_Law_commit 16 rfl) rfl rfl ⟨h1', _, _, hp1, rfl, hu', Or.inl ⟨z, rfl, rfl, if_pos rfl⟩⟩
  · obtain ⟨h1', hp1, rfl, hd2⟩ := hcc
    rcases hPO _ _ hp1 with ⟨z, hz⟩ | hz | hz
    · cases hz
    · cases hz
      refine ⟨13, Or.inl ⟨_, _, rfl, by decide, by decide, rfl, rfl, rfl⟩, fun x => ?_⟩
      refine w_astore ok (dk m_Law_commit 9 rfl) (pc' := 15) rfl (Nat.le_of_ble_eq_true rfl) rfl ?_
      refine w_iconst ok (dk m_Law_commit 10 rfl) (pc' := 16) rfl (v := 1) (by decide) ?_
      exact w_iret ok (dk m_Law_commit 11 rfl) rfl rfl ⟨h1', _, f, hp1, rfl, q_dj_o.mp hd2, Or.inr (Or.inl ⟨rfl, rfl⟩)⟩
    · cases hz
      refine ⟨17, Or.inr ⟨_, _, _, rfl, rfl, by decide, by decide, rfl, rfl, rfl⟩, fun x => ?_⟩
      refine w_astore ok (dk m_Law_commit 12 rfl) (pc' := 19) rfl (Nat.le_of_ble_eq_true rfl) rfl ?_
      refine w_iconst ok (dk m_Law_commit 13 rfl) (pc' := 20) rfl (v := 2) (by decide) ?_
      exact w_iret ok (dk m_Law_commit 14 rfl) rfl rfl ⟨h1', _, f, hp1, rfl, q_dj_o.mp hd2, Or.inr (Or.inr ⟨rfl, rfl⟩)⟩
set_option maxHeartbeats 1000000 in
theorem c_Law_come (g : q_G) {h1 : q_H} {r u : Nat} {fs : List Value} {f : Nat → Int64} {PO : q_R → q_H → Prop} (p0 : Int32) {dy mc ms : Nat} (d : Nat) (hd : dy + 1 ≤ d) (hM : MG g y_RG_come b_RG_come 3 (some .int) dy mc ms [.ref r, .int p0] h1 PO) (hr : h1 r = some (.inl (0, fs))) (hPO : ∀ q h', PO q h' → (∃ z, q = .inl (some (.int z))) ∨ q = .inr 0 ∨ q = .inr 1) (hu : h1 u = none) : MGW g y_Law_come b_Law_come 4 (some .int) [(0, 9, 12, 13), (0, 9, 15, 15)] d mc ms [.ref r, .int p0, .ref u] (q_jn h1 (q_o u f)) (q_ans PO u) := by
  refine MGW.of (by decide +kernel) (by simp [Value.category]) (Nat.le_of_ble_eq_true rfl) ?_
  intro Z A ok
  refine w_aload_n ok (dk m_Law_come 0 rfl) (pc' := 1) rfl (i := 2) rfl rfl ?_
  refine w_iconst ok (dk m_Law_come 1 rfl) (pc' := 2) rfl (v := 0) (by decide) ?_
  refine w_aload_n ok (dk m_Law_come 2 rfl) (pc' := 3) rfl (i := 0) rfl rfl ?_
  refine w_iload_n ok (dk m_Law_come 3 rfl) (pc' := 4) rfl (i := 1) rfl rfl ?_
  refine w_callV ok (dk m_Law_come 4 rfl) (pc' := 7) rfl c_Law_31 (hM.frame (h2 := q_o u f) (q_dj_o.mpr hu)) (q_jn_l hr) rfl rfl (by simp [Value.category]) hd rfl (rc' := 0) (rs' := 0) (by omega) (by omega) (fun rv h' hcc => ?_) (fun i h' hcc => ?_)
  · obtain ⟨h1', hp1, rfl, hd2⟩ := hcc
    obtain ⟨z, rfl⟩ : ∃ z, rv = some (.int z) := by
      rcases hPO _ _ hp1 with ⟨z, hz⟩ | hz | hz
      · exact ⟨z, Sum.inl.inj hz⟩
      · cases hz
      · cases hz
    refine w_i2l ok (dk m_Law_come 5 rfl) (pc' := 8) rfl rfl ?_
    have hu' := q_dj_o.mp hd2
    refine w_last ok (dk m_Law_come 6 rfl) (pc' := 9) rfl (j := 0) (by rw [q_jn_r hu']; exact q_o_s u f) (by decide) (by decide) ?_
    refine g_heap (q_jn_o hu') ?_
    refine w_goto ok (dk m_Law_come 7 rfl) (pc' := 18) (by decide) ?_
    refine w_iconst ok (dk m_Law_come 14 rfl) (pc' := 19) rfl (v := 0) (by decide) ?_
    exact w_iret ok (dk m_Law_come 15 rfl) rfl rfl ⟨h1', _, _, hp1, rfl, hu', Or.inl ⟨z, rfl, rfl, if_pos rfl⟩⟩
  · obtain ⟨h1', hp1, rfl, hd2⟩ := hcc
    rcases hPO _ _ hp1 with ⟨z, hz⟩ | hz | hz
    · cases hz
    · cases hz
      refine ⟨12, Or.inl ⟨_, _, rfl, by decide, by decide, rfl, rfl, rfl⟩, fun x => ?_⟩
      refine w_astore_n ok (dk m_Law_come 8 rfl) (pc' := 13) rfl (i := 3) rfl (Nat.le_of_ble_eq_true rfl) rfl ?_
      refine w_iconst ok (dk m_Law_come 9 rfl) (pc' := 14) rfl (v := 1) (by decide) ?_
      exact w_iret ok (dk m_Law_come 10 rfl) rfl rfl ⟨h1', _, f, hp1, rfl, q_dj_o.mp hd2, Or.inr (Or.inl ⟨rfl, rfl⟩)⟩
    · cases hz
      refine ⟨15, Or.inr ⟨_, _, _, rfl, rfl, by decide, by decide, rfl, rfl, rfl⟩, fun x => ?_⟩
      refine w_astore_n ok (dk m_Law_come 11 rfl) (pc' := 16) rfl (i := 3) rfl (Nat.le_of_ble_eq_true rfl) rfl ?_
      refine w_iconst ok (dk m_Law_come 12 rfl) (pc' := 17) rfl (v := 2) (by decide) ?_
      exact w_iret ok (dk m_Law_come 13 rfl) rfl rfl ⟨h1', _, f, hp1, rfl, q_dj_o.mp hd2, Or.inr (Or.inr ⟨rfl, rfl⟩)⟩
set_option maxHeartbeats 1000000 in
theorem c_Law_compromise (g : q_G) {h1 : q_H} {r u : Nat} {fs : List Value} {f : Nat → Int64} {PO : q_R → q_H → Prop} (p0 : Int32) {dy mc ms : Nat} (d : Nat) (hd : dy + 1 ≤ d) (hM : MG g y_RG_compromise b_RG_compromise 4 (some .int) dy mc ms [.ref r, .int p0] h1 PO) (hr : h1 r = some (.inl (0, fs))) (hPO : ∀ q h', PO q h' → (∃ z, q = .inl (some (.int z))) ∨ q = .inr 0) (hu : h1 u = none) : MGW g y_Law_compromise b_Law_compromise 4 (some .int) [(0, 9, 12, 13)] d mc ms [.ref r, .int p0, .ref u] (q_jn h1 (q_o u f)) (q_ans PO u) := by
  refine MGW.of (by decide +kernel) (by simp [Value.category]) (Nat.le_of_ble_eq_true rfl) ?_
  intro Z A ok
  refine w_aload_n ok (dk m_Law_compromise 0 rfl) (pc' := 1) rfl (i := 2) rfl rfl ?_
  refine w_iconst ok (dk m_Law_compromise 1 rfl) (pc' := 2) rfl (v := 0) (by decide) ?_
  refine w_aload_n ok (dk m_Law_compromise 2 rfl) (pc' := 3) rfl (i := 0) rfl rfl ?_
  refine w_iload_n ok (dk m_Law_compromise 3 rfl) (pc' := 4) rfl (i := 1) rfl rfl ?_
  refine w_callV ok (dk m_Law_compromise 4 rfl) (pc' := 7) rfl c_Law_34 (hM.frame (h2 := q_o u f) (q_dj_o.mpr hu)) (q_jn_l hr) rfl rfl (by simp [Value.category]) hd rfl (rc' := 0) (rs' := 0) (by omega) (by omega) (fun rv h' hcc => ?_) (fun i h' hcc => ?_)
  · obtain ⟨h1', hp1, rfl, hd2⟩ := hcc
    obtain ⟨z, rfl⟩ : ∃ z, rv = some (.int z) := by
      rcases hPO _ _ hp1 with ⟨z, hz⟩ | hz
      · exact ⟨z, Sum.inl.inj hz⟩
      · cases hz
    refine w_i2l ok (dk m_Law_compromise 5 rfl) (pc' := 8) rfl rfl ?_
    have hu' := q_dj_o.mp hd2
    refine w_last ok (dk m_Law_compromise 6 rfl) (pc' := 9) rfl (j := 0) (by rw [q_jn_r hu']; exact q_o_s u f) (by decide) (by decide) ?_
    refine g_heap (q_jn_o hu') ?_
    refine w_goto ok (dk m_Law_compromise 7 rfl) (pc' := 15) (by decide) ?_
    refine w_iconst ok (dk m_Law_compromise 11 rfl) (pc' := 16) rfl (v := 0) (by decide) ?_
    exact w_iret ok (dk m_Law_compromise 12 rfl) rfl rfl ⟨h1', _, _, hp1, rfl, hu', Or.inl ⟨z, rfl, rfl, if_pos rfl⟩⟩
  · obtain ⟨h1', hp1, rfl, hd2⟩ := hcc
    rcases hPO _ _ hp1 with ⟨z, hz⟩ | hz
    · cases hz
    · cases hz
      refine ⟨12, Or.inl ⟨_, _, rfl, by decide, by decide, rfl, rfl, rfl⟩, fun x => ?_⟩
      refine w_astore_n ok (dk m_Law_compromise 8 rfl) (pc' := 13) rfl (i := 3) rfl (Nat.le_of_ble_eq_true rfl) rfl ?_
      refine w_iconst ok (dk m_Law_compromise 9 rfl) (pc' := 14) rfl (v := 1) (by decide) ?_
      exact w_iret ok (dk m_Law_compromise 10 rfl) rfl rfl ⟨h1', _, f, hp1, rfl, q_dj_o.mp hd2, Or.inr (Or.inl ⟨rfl, rfl⟩)⟩
