section ZI
theorem z2_w : ze_w zE2 = true := by decide +kernel
theorem z2_ks : ze_ks zE2 = (p_SH 0).drop 32 := by decide +kernel
theorem z2_R : ∀ a, a < 142 → ∀ k, k < 50 → 32 ≤ a → (match p_sr a k with
  | none => true
  | some b => decide (ze_r zE2 a k = some (some b))) = true := by decide +kernel
theorem z2_R0 : ∀ a, a < 32 → ∀ k, k < 50 → (match p_sr a k with
  | none => true
  | some b => decide (p_R0 none a k = some b)) = true := by decide +kernel
theorem R0_sio {sio : Option Nat} {a k b : Nat} (h : p_R0 none a k = some b) : p_R0 sio a k = some b := by
  unfold p_R0 at h
  split at h <;> first | exact h | cases h
theorem z2_K : ∀ j, j < 57 → ze_i zE2 125 j = some (if j = 4 ∨ j = 56 then -1 else 0) := by decide +kernel
theorem z2_hut : ∀ j, j < 57 → ze_i zE2 (71 + da j) (ix j) = some (if j = 4 ∨ j = 56 then -1 else 0) := by decide +kernel
theorem z2_wd : ∀ k, k < 115 → ze_i zE2 129 k = some (p_wds.getD k 0) := by decide +kernel
theorem z2_c : ∀ k, k < 7 → ze_i zE2 122 k = some 0 ∧ ze_i zE2 124 k = some 0 := by decide +kernel
theorem z2_lo : zE2.all (fun e => decide (32 ≤ e.2.1)) = true := by decide +kernel
theorem z2_v : ze_i zE2 32 14 = some 0 ∧ ze_i zE2 123 0 = some 0 ∧ ze_i zE2 32 15 = some (-1) ∧ ze_i zE2 123 14 = some (-1) ∧ ze_i zE2 32 16 = some (-1) ∧ ze_i zE2 123 37 = some (-1) ∧ ze_i zE2 32 17 = some 0 ∧ ze_i zE2 123 6 = some 0 := by decide +kernel
theorem z2_v2 : ze_i zE2 33 1 = some 0 ∧ ze_i zE2 123 13 = some 0 ∧ ze_i zE2 80 1 = some 0 ∧ ze_i zE2 80 2 = some 0 ∧ ze_i zE2 123 31 = some 0 ∧ ze_i zE2 32 10 = some 0 ∧ ze_i zE2 123 46 = some (-1) := by decide +kernel
theorem z2_v3 : ∀ j, j < 2 → ze_i zE2 121 j = some 0 ∧ ze_i zE2 127 j = some 0 := by decide +kernel
theorem z2_79 : ∀ i, i < 6 → ze_r zE2 79 i = some none := by decide +kernel
end ZI
