section CW
variable {Ls : Nat} {I : Nat → Nat → Int32} {L : Nat → Nat → Int64} {R : Nat → Nat → Option Nat} {X : List pKd}
theorem clw_lx {t a1 a2 a3 a4 a5 a7 a8 m1 m2 : Nat} {CL : List tCl} (h3 : 142 ≤ t) (h4 : txF Ls R X t a1 a2 a3 a4 a5 a7 a8 m1 m2) (ha : 142 ≤ a1 ∧ 142 ≤ a2 ∧ 142 ≤ a3 ∧ 142 ≤ a4 ∧ 142 ≤ a5 ∧ 142 ≤ a7 ∧ 142 ≤ a8) (h5 : CL.length ≤ m1) (h6 : m1 ≤ 12) (h7 : (clCode CL).length ≤ m2) (h8 : m2 ≤ 400) (h9 : txA I a1 a2 a3 a4 a5 a7 a8 CL) (h10 : ∀ j cl, CL[j]? = some cl → clOk false (clB CL j) cl) (h11 : I t 0 = nI CL.length) (hW : bW (nw false) (I 46)) : lx Ls t a1 a2 a3 a4 a5 a7 a8 m1 m2 I R X CL false :=
  ⟨h4, ⟨by omega, by omega, by omega, by omega, by omega, by omega, by omega⟩, h5, h6, h7, h8, by omega, hW, h9, h10, fun j cl hj => Nat.le_trans (cl_hold h9 hj).1 h7, h11⟩
theorem years_c {D : Nat} {r : Option Nat} {c : Option (List tCl)} (h : clw Ls I R X r c) (hW : bW (nw false) (I 46)) (hy : 0 ≤ (I 46 1).toInt ∧ (I 46 1).toInt ≤ 99) (hD : 2 ≤ D) : ∃ S', P_m D 27 [.ref 45, va_rf r] (p_mk Ls I L R X) (fun v h' => v = some (.int (zI (agF c (I 46)))) ∧ h' = p_mk Ls (p_fn I 47 S') L R X) := by
  obtain ⟨D', rfl⟩ : ∃ D', D = D' + 2 := ⟨D - 2, by omega⟩
  rcases h with ⟨rfl, rfl⟩ | ⟨t, CL, a1, a2, a3, a4, a5, a7, a8, m1, m2, rfl, rfl, h3, h4, ha, h5, h6, h7, h8, h9, h10, h11⟩
  · refine ⟨I 47, ?_⟩
    rw [pf_self]
    show P_m _ _ _ _ (fun v h' => v = some (.int (zI (I 46 1).toInt)) ∧ _)
    rw [zI_of]
    exact sp_27n
  · have s := sp_27 (d := D') (L := L) (S := I 47) (clw_lx h3 h4 ha h5 h6 h7 h8 h9 h10 h11 hW) hy
    rw [pf_self] at s
    obtain ⟨v, g, ⟨rfl, S', rfl⟩, hx⟩ := P_mex s
    exact ⟨S', hx⟩
theorem holds_c {D kd : Nat} {r : Option Nat} {c : Option (List tCl)} (h : clw Ls I R X r c) (hW : bW (nw false) (I 46)) (hk : kd ≤ 3) (hD : 2 ≤ D) : ∃ S', P_m D 28 [.ref 45, va_rf r, .int (nI kd)] (p_mk Ls I L R X) (fun v h' => v = some (.int (bI (hdF c (I 46) kd))) ∧ h' = p_mk Ls (p_fn I 47 S') L R X) := by
  obtain ⟨D', rfl⟩ : ∃ D', D = D' + 2 := ⟨D - 2, by omega⟩
  rcases h with ⟨rfl, rfl⟩ | ⟨t, CL, a1, a2, a3, a4, a5, a7, a8, m1, m2, rfl, rfl, h3, h4, ha, h5, h6, h7, h8, h9, h10, h11⟩
  · refine ⟨I 47, ?_⟩
    rw [pf_self]
    exact sp_28n
  · have s := sp_28 (d := D') (L := L) (S := I 47) (clw_lx h3 h4 ha h5 h6 h7 h8 h9 h10 h11 hW) hk
    rw [pf_self] at s
    obtain ⟨v, g, ⟨rfl, S', rfl⟩, hx⟩ := P_mex s
    exact ⟨S', hx⟩
end CW
section CWp
variable {Ls : Nat} {I : Nat → Nat → Int32} {L : Nat → Nat → Int64} {R : Nat → Nat → Option Nat} {X : List pKd}
theorem clw_lxp {t a1 a2 a3 a4 a5 a7 a8 m1 m2 : Nat} {CL : List tCl} (h3 : 142 ≤ t) (h4 : txF Ls R X t a1 a2 a3 a4 a5 a7 a8 m1 m2) (ha : 142 ≤ a1 ∧ 142 ≤ a2 ∧ 142 ≤ a3 ∧ 142 ≤ a4 ∧ 142 ≤ a5 ∧ 142 ≤ a7 ∧ 142 ≤ a8) (h5 : CL.length ≤ m1) (h6 : m1 ≤ 12) (h7 : (clCode CL).length ≤ m2) (h8 : m2 ≤ 400) (h9 : txA I a1 a2 a3 a4 a5 a7 a8 CL) (h10 : ∀ j cl, CL[j]? = some cl → clOk false (clB CL j) cl) (h11 : I t 0 = nI CL.length) (hW : bW (nw false) (I 50)) : lxp Ls t a1 a2 a3 a4 a5 a7 a8 m1 m2 I R X CL false :=
  ⟨h4, ⟨by omega, by omega, by omega, by omega, by omega, by omega, by omega⟩, h5, h6, h7, h8, by omega, hW, h9, h10, fun j cl hj => Nat.le_trans (cl_hold h9 hj).1 h7, h11⟩
theorem years_cp {D : Nat} {r : Option Nat} {c : Option (List tCl)} (h : clw Ls I R X r c) (hW : bW (nw false) (I 50)) (hy : 0 ≤ (I 50 1).toInt ∧ (I 50 1).toInt ≤ 99) (hD : 2 ≤ D) : ∃ S', P_m D 27 [.ref 49, va_rf r] (p_mk Ls I L R X) (fun v h' => v = some (.int (zI (agF c (I 50)))) ∧ h' = p_mk Ls (p_fn I 51 S') L R X) := by
  obtain ⟨D', rfl⟩ : ∃ D', D = D' + 2 := ⟨D - 2, by omega⟩
  rcases h with ⟨rfl, rfl⟩ | ⟨t, CL, a1, a2, a3, a4, a5, a7, a8, m1, m2, rfl, rfl, h3, h4, ha, h5, h6, h7, h8, h9, h10, h11⟩
  · refine ⟨I 51, ?_⟩
    rw [pf_self]
    show P_m _ _ _ _ (fun v h' => v = some (.int (zI (I 50 1).toInt)) ∧ _)
    rw [zI_of]
    exact sp_27np
  · have s := sp_27p (d := D') (L := L) (S := I 51) (clw_lxp h3 h4 ha h5 h6 h7 h8 h9 h10 h11 hW) hy
    rw [pf_self] at s
    obtain ⟨v, g, ⟨rfl, S', rfl⟩, hx⟩ := P_mex s
    exact ⟨S', hx⟩
theorem holds_cp {D kd : Nat} {r : Option Nat} {c : Option (List tCl)} (h : clw Ls I R X r c) (hW : bW (nw false) (I 50)) (hk : kd ≤ 3) (hD : 2 ≤ D) : ∃ S', P_m D 28 [.ref 49, va_rf r, .int (nI kd)] (p_mk Ls I L R X) (fun v h' => v = some (.int (bI (hdF c (I 50) kd))) ∧ h' = p_mk Ls (p_fn I 51 S') L R X) := by
  obtain ⟨D', rfl⟩ : ∃ D', D = D' + 2 := ⟨D - 2, by omega⟩
  rcases h with ⟨rfl, rfl⟩ | ⟨t, CL, a1, a2, a3, a4, a5, a7, a8, m1, m2, rfl, rfl, h3, h4, ha, h5, h6, h7, h8, h9, h10, h11⟩
  · refine ⟨I 51, ?_⟩
    rw [pf_self]
    exact sp_28np
  · have s := sp_28p (d := D') (L := L) (S := I 51) (clw_lxp h3 h4 ha h5 h6 h7 h8 h9 h10 h11 hW) hk
    rw [pf_self] at s
    obtain ⟨v, g, ⟨rfl, S', rfl⟩, hx⟩ := P_mex s
    exact ⟨S', hx⟩
end CWp
