section RFS
variable {d Ls : Nat} {I : Nat → Nat → Int32} {L : Nat → Nat → Int64} {R : Nat → Nat → Option Nat} {X : List pKd}
theorem rc_1 : P_m d 116 [.ref 32, .int (-1)] (p_mk Ls I L R X) (fun v h' => v = some (.int (-1)) ∧ h' = p_mk Ls (p_u (p_u I 32 14 (-1)) 122 1 (I 122 1 + 1)) L R X) := sp_116 (-1) (vin_k (k := 1) (by decide) (by decide))
theorem rm_1 : P_m d 128 [.ref 123, .int (-1)] (p_mk Ls I L R X) (fun v h' => v = some (.int (-1)) ∧ h' = p_mk Ls (p_u (p_u I 123 0 (-1)) 124 1 (I 124 1 + 1)) L R X) := sp_128 (-1) (vin_k (k := 1) (by decide) (by decide))
theorem rc_2 : P_m d 116 [.ref 32, .int (-2)] (p_mk Ls I L R X) (fun v h' => v = some (.int (-2)) ∧ h' = p_mk Ls (p_u (p_u I 32 14 (-2)) 122 2 (I 122 2 + 1)) L R X) := sp_116 (-2) (vin_k (k := 2) (by decide) (by decide))
theorem rm_2 : P_m d 128 [.ref 123, .int (-2)] (p_mk Ls I L R X) (fun v h' => v = some (.int (-2)) ∧ h' = p_mk Ls (p_u (p_u I 123 0 (-2)) 124 2 (I 124 2 + 1)) L R X) := sp_128 (-2) (vin_k (k := 2) (by decide) (by decide))
theorem rc_3 : P_m d 116 [.ref 32, .int (-3)] (p_mk Ls I L R X) (fun v h' => v = some (.int (-3)) ∧ h' = p_mk Ls (p_u (p_u I 32 14 (-3)) 122 3 (I 122 3 + 1)) L R X) := sp_116 (-3) (vin_k (k := 3) (by decide) (by decide))
theorem rm_3 : P_m d 128 [.ref 123, .int (-3)] (p_mk Ls I L R X) (fun v h' => v = some (.int (-3)) ∧ h' = p_mk Ls (p_u (p_u I 123 0 (-3)) 124 3 (I 124 3 + 1)) L R X) := sp_128 (-3) (vin_k (k := 3) (by decide) (by decide))
theorem rc_5 : P_m d 116 [.ref 32, .int (-5)] (p_mk Ls I L R X) (fun v h' => v = some (.int (-5)) ∧ h' = p_mk Ls (p_u (p_u I 32 14 (-5)) 122 5 (I 122 5 + 1)) L R X) := sp_116 (-5) (vin_k (k := 5) (by decide) (by decide))
theorem rm_5 : P_m d 128 [.ref 123, .int (-5)] (p_mk Ls I L R X) (fun v h' => v = some (.int (-5)) ∧ h' = p_mk Ls (p_u (p_u I 123 0 (-5)) 124 5 (I 124 5 + 1)) L R X) := sp_128 (-5) (vin_k (k := 5) (by decide) (by decide))
theorem rc_6 : P_m d 116 [.ref 32, .int (-6)] (p_mk Ls I L R X) (fun v h' => v = some (.int (-6)) ∧ h' = p_mk Ls (p_u (p_u I 32 14 (-6)) 122 6 (I 122 6 + 1)) L R X) := sp_116 (-6) (vin_k (k := 6) (by decide) (by decide))
theorem rm_6 : P_m d 128 [.ref 123, .int (-6)] (p_mk Ls I L R X) (fun v h' => v = some (.int (-6)) ∧ h' = p_mk Ls (p_u (p_u I 123 0 (-6)) 124 6 (I 124 6 + 1)) L R X) := sp_128 (-6) (vin_k (k := 6) (by decide) (by decide))
end RFS
